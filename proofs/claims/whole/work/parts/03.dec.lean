theorem dX0_init_0 : decode cX0_init 0 = .ok (.aload_n 0, 1) := by decide +kernel
theorem dX0_init_1 : decode cX0_init 1 = .ok (.invokespecial 1, 3) := by decide +kernel
theorem dX0_init_4 : decode cX0_init 4 = .ok (.aload_n 0, 1) := by decide +kernel
theorem dX0_init_5 : decode cX0_init 5 = .ok (.iconst 2, 1) := by decide +kernel
theorem dX0_init_6 : decode cX0_init 6 = .ok (.putfield 7, 3) := by decide +kernel
theorem dX0_init_9 : decode cX0_init 9 = .ok (.aload_n 0, 1) := by decide +kernel
theorem dX0_init_10 : decode cX0_init 10 = .ok (.bipush 104, 2) := by decide +kernel
theorem dX0_init_12 : decode cX0_init 12 = .ok (.putfield 13, 3) := by decide +kernel
theorem dX0_init_15 : decode cX0_init 15 = .ok (.aload_n 0, 1) := by decide +kernel
theorem dX0_init_16 : decode cX0_init 16 = .ok (.iconst 1, 1) := by decide +kernel
theorem dX0_init_17 : decode cX0_init 17 = .ok (.putfield 17, 3) := by decide +kernel
theorem dX0_init_20 : decode cX0_init 20 = .ok (.return_, 1) := by decide +kernel
theorem dX1_init_0 : decode cX1_init 0 = .ok (.aload_n 0, 1) := by decide +kernel
theorem dX1_init_1 : decode cX1_init 1 = .ok (.invokespecial 3, 3) := by decide +kernel
theorem dX1_init_4 : decode cX1_init 4 = .ok (.aload_n 0, 1) := by decide +kernel
theorem dX1_init_5 : decode cX1_init 5 = .ok (.lload_n 3, 1) := by decide +kernel
theorem dX1_init_6 : decode cX1_init 6 = .ok (.lconst 1, 1) := by decide +kernel
theorem dX1_init_7 : decode cX1_init 7 = .ok (.invokestatic 9, 3) := by decide +kernel
theorem dX1_init_10 : decode cX1_init 10 = .ok (.putfield 15, 3) := by decide +kernel
theorem dX1_init_13 : decode cX1_init 13 = .ok (.aload_n 0, 1) := by decide +kernel
theorem dX1_init_14 : decode cX1_init 14 = .ok (.lload_n 1, 1) := by decide +kernel
theorem dX1_init_15 : decode cX1_init 15 = .ok (.aload_n 0, 1) := by decide +kernel
theorem dX1_init_16 : decode cX1_init 16 = .ok (.getfield 15, 3) := by decide +kernel
theorem dX1_init_19 : decode cX1_init 19 = .ok (.ldiv, 1) := by decide +kernel
theorem dX1_init_20 : decode cX1_init 20 = .ok (.putfield 21, 3) := by decide +kernel
theorem dX1_init_23 : decode cX1_init 23 = .ok (.aload_n 0, 1) := by decide +kernel
theorem dX1_init_24 : decode cX1_init 24 = .ok (.lload_n 1, 1) := by decide +kernel
theorem dX1_init_25 : decode cX1_init 25 = .ok (.aload_n 0, 1) := by decide +kernel
theorem dX1_init_26 : decode cX1_init 26 = .ok (.getfield 15, 3) := by decide +kernel
theorem dX1_init_29 : decode cX1_init 29 = .ok (.lrem, 1) := by decide +kernel
theorem dX1_init_30 : decode cX1_init 30 = .ok (.putfield 24, 3) := by decide +kernel
theorem dX1_init_33 : decode cX1_init 33 = .ok (.return_, 1) := by decide +kernel
theorem dX1_byRaised_0 : decode cX1_byRaised 0 = .ok (.iload 4, 2) := by decide +kernel
theorem dX1_byRaised_2 : decode cX1_byRaised 2 = .ok (.ifCond .lt 25, 3) := by decide +kernel
theorem dX1_byRaised_5 : decode cX1_byRaised 5 = .ok (.iload 4, 2) := by decide +kernel
theorem dX1_byRaised_7 : decode cX1_byRaised 7 = .ok (.bipush 18, 2) := by decide +kernel
theorem dX1_byRaised_9 : decode cX1_byRaised 9 = .ok (.if_icmp .gt 18, 3) := by decide +kernel
theorem dX1_byRaised_12 : decode cX1_byRaised 12 = .ok (.lload_n 2, 1) := by decide +kernel
theorem dX1_byRaised_13 : decode cX1_byRaised 13 = .ok (.ldc2_w 29, 3) := by decide +kernel
theorem dX1_byRaised_16 : decode cX1_byRaised 16 = .ok (.getstatic 31, 3) := by decide +kernel
theorem dX1_byRaised_19 : decode cX1_byRaised 19 = .ok (.iload 4, 2) := by decide +kernel
theorem dX1_byRaised_21 : decode cX1_byRaised 21 = .ok (.laload, 1) := by decide +kernel
theorem dX1_byRaised_22 : decode cX1_byRaised 22 = .ok (.ldiv, 1) := by decide +kernel
theorem dX1_byRaised_23 : decode cX1_byRaised 23 = .ok (.lcmp, 1) := by decide +kernel
theorem dX1_byRaised_24 : decode cX1_byRaised 24 = .ok (.ifCond .le 15, 3) := by decide +kernel
theorem dX1_byRaised_27 : decode cX1_byRaised 27 = .ok (.new 16, 3) := by decide +kernel
theorem dX1_byRaised_30 : decode cX1_byRaised 30 = .ok (.dup, 1) := by decide +kernel
theorem dX1_byRaised_31 : decode cX1_byRaised 31 = .ok (.lload_n 0, 1) := by decide +kernel
theorem dX1_byRaised_32 : decode cX1_byRaised 32 = .ok (.ldc2_w 37, 3) := by decide +kernel
theorem dX1_byRaised_35 : decode cX1_byRaised 35 = .ok (.invokespecial 39, 3) := by decide +kernel
theorem dX1_byRaised_38 : decode cX1_byRaised 38 = .ok (.areturn, 1) := by decide +kernel
theorem dX1_byRaised_39 : decode cX1_byRaised 39 = .ok (.new 16, 3) := by decide +kernel
theorem dX1_byRaised_42 : decode cX1_byRaised 42 = .ok (.dup, 1) := by decide +kernel
theorem dX1_byRaised_43 : decode cX1_byRaised 43 = .ok (.lload_n 0, 1) := by decide +kernel
theorem dX1_byRaised_44 : decode cX1_byRaised 44 = .ok (.lload_n 2, 1) := by decide +kernel
theorem dX1_byRaised_45 : decode cX1_byRaised 45 = .ok (.getstatic 31, 3) := by decide +kernel
theorem dX1_byRaised_48 : decode cX1_byRaised 48 = .ok (.iload 4, 2) := by decide +kernel
theorem dX1_byRaised_50 : decode cX1_byRaised 50 = .ok (.laload, 1) := by decide +kernel
theorem dX1_byRaised_51 : decode cX1_byRaised 51 = .ok (.lmul, 1) := by decide +kernel
theorem dX1_byRaised_52 : decode cX1_byRaised 52 = .ok (.invokespecial 39, 3) := by decide +kernel
theorem dX1_byRaised_55 : decode cX1_byRaised 55 = .ok (.areturn, 1) := by decide +kernel
theorem dX1_bringDown_0 : decode cX1_bringDown 0 = .ok (.aload_n 0, 1) := by decide +kernel
theorem dX1_bringDown_1 : decode cX1_bringDown 1 = .ok (.getfield 21, 3) := by decide +kernel
theorem dX1_bringDown_4 : decode cX1_bringDown 4 = .ok (.ldc2_w 42, 3) := by decide +kernel
theorem dX1_bringDown_7 : decode cX1_bringDown 7 = .ok (.lcmp, 1) := by decide +kernel
theorem dX1_bringDown_8 : decode cX1_bringDown 8 = .ok (.ifCond .le 13, 3) := by decide +kernel
theorem dX1_bringDown_11 : decode cX1_bringDown 11 = .ok (.new 44, 3) := by decide +kernel
theorem dX1_bringDown_14 : decode cX1_bringDown 14 = .ok (.dup, 1) := by decide +kernel
theorem dX1_bringDown_15 : decode cX1_bringDown 15 = .ok (.ldc 46, 2) := by decide +kernel
theorem dX1_bringDown_17 : decode cX1_bringDown 17 = .ok (.invokespecial 48, 3) := by decide +kernel
theorem dX1_bringDown_20 : decode cX1_bringDown 20 = .ok (.athrow, 1) := by decide +kernel
theorem dX1_bringDown_21 : decode cX1_bringDown 21 = .ok (.aload_n 0, 1) := by decide +kernel
theorem dX1_bringDown_22 : decode cX1_bringDown 22 = .ok (.getfield 24, 3) := by decide +kernel
theorem dX1_bringDown_25 : decode cX1_bringDown 25 = .ok (.ldc2_w 51, 3) := by decide +kernel
theorem dX1_bringDown_28 : decode cX1_bringDown 28 = .ok (.lmul, 1) := by decide +kernel
theorem dX1_bringDown_29 : decode cX1_bringDown 29 = .ok (.lstore_n 1, 1) := by decide +kernel
theorem dX1_bringDown_30 : decode cX1_bringDown 30 = .ok (.lload_n 1, 1) := by decide +kernel
theorem dX1_bringDown_31 : decode cX1_bringDown 31 = .ok (.aload_n 0, 1) := by decide +kernel
theorem dX1_bringDown_32 : decode cX1_bringDown 32 = .ok (.getfield 15, 3) := by decide +kernel
theorem dX1_bringDown_35 : decode cX1_bringDown 35 = .ok (.ldiv, 1) := by decide +kernel
theorem dX1_bringDown_36 : decode cX1_bringDown 36 = .ok (.ldc2_w 53, 3) := by decide +kernel
theorem dX1_bringDown_39 : decode cX1_bringDown 39 = .ok (.lmul, 1) := by decide +kernel
theorem dX1_bringDown_40 : decode cX1_bringDown 40 = .ok (.lstore_n 3, 1) := by decide +kernel
theorem dX1_bringDown_41 : decode cX1_bringDown 41 = .ok (.lload_n 1, 1) := by decide +kernel
theorem dX1_bringDown_42 : decode cX1_bringDown 42 = .ok (.aload_n 0, 1) := by decide +kernel
theorem dX1_bringDown_43 : decode cX1_bringDown 43 = .ok (.getfield 15, 3) := by decide +kernel
theorem dX1_bringDown_46 : decode cX1_bringDown 46 = .ok (.lrem, 1) := by decide +kernel
theorem dX1_bringDown_47 : decode cX1_bringDown 47 = .ok (.ldc2_w 53, 3) := by decide +kernel
theorem dX1_bringDown_50 : decode cX1_bringDown 50 = .ok (.lmul, 1) := by decide +kernel
theorem dX1_bringDown_51 : decode cX1_bringDown 51 = .ok (.lstore 5, 2) := by decide +kernel
theorem dX1_bringDown_53 : decode cX1_bringDown 53 = .ok (.lload 5, 2) := by decide +kernel
theorem dX1_bringDown_55 : decode cX1_bringDown 55 = .ok (.aload_n 0, 1) := by decide +kernel
theorem dX1_bringDown_56 : decode cX1_bringDown 56 = .ok (.getfield 15, 3) := by decide +kernel
theorem dX1_bringDown_59 : decode cX1_bringDown 59 = .ok (.lcmp, 1) := by decide +kernel
theorem dX1_bringDown_60 : decode cX1_bringDown 60 = .ok (.ifCond .lt 16, 3) := by decide +kernel
theorem dX1_bringDown_63 : decode cX1_bringDown 63 = .ok (.lload 5, 2) := by decide +kernel
theorem dX1_bringDown_65 : decode cX1_bringDown 65 = .ok (.aload_n 0, 1) := by decide +kernel
theorem dX1_bringDown_66 : decode cX1_bringDown 66 = .ok (.getfield 15, 3) := by decide +kernel
theorem dX1_bringDown_69 : decode cX1_bringDown 69 = .ok (.lsub, 1) := by decide +kernel
theorem dX1_bringDown_70 : decode cX1_bringDown 70 = .ok (.lstore 5, 2) := by decide +kernel
theorem dX1_bringDown_72 : decode cX1_bringDown 72 = .ok (.lload_n 3, 1) := by decide +kernel
theorem dX1_bringDown_73 : decode cX1_bringDown 73 = .ok (.lconst 1, 1) := by decide +kernel
theorem dX1_bringDown_74 : decode cX1_bringDown 74 = .ok (.ladd, 1) := by decide +kernel
theorem dX1_bringDown_75 : decode cX1_bringDown 75 = .ok (.lstore_n 3, 1) := by decide +kernel
theorem dX1_bringDown_76 : decode cX1_bringDown 76 = .ok (.aload_n 0, 1) := by decide +kernel
theorem dX1_bringDown_77 : decode cX1_bringDown 77 = .ok (.aload_n 0, 1) := by decide +kernel
theorem dX1_bringDown_78 : decode cX1_bringDown 78 = .ok (.getfield 21, 3) := by decide +kernel
theorem dX1_bringDown_81 : decode cX1_bringDown 81 = .ok (.ldc2_w 55, 3) := by decide +kernel
theorem dX1_bringDown_84 : decode cX1_bringDown 84 = .ok (.lmul, 1) := by decide +kernel
theorem dX1_bringDown_85 : decode cX1_bringDown 85 = .ok (.lload_n 3, 1) := by decide +kernel
theorem dX1_bringDown_86 : decode cX1_bringDown 86 = .ok (.ladd, 1) := by decide +kernel
theorem dX1_bringDown_87 : decode cX1_bringDown 87 = .ok (.putfield 21, 3) := by decide +kernel
theorem dX1_bringDown_90 : decode cX1_bringDown 90 = .ok (.aload_n 0, 1) := by decide +kernel
theorem dX1_bringDown_91 : decode cX1_bringDown 91 = .ok (.lload 5, 2) := by decide +kernel
theorem dX1_bringDown_93 : decode cX1_bringDown 93 = .ok (.putfield 24, 3) := by decide +kernel
theorem dX1_bringDown_96 : decode cX1_bringDown 96 = .ok (.return_, 1) := by decide +kernel
theorem dX1_rest_0 : decode cX1_rest 0 = .ok (.aload_n 0, 1) := by decide +kernel
theorem dX1_rest_1 : decode cX1_rest 1 = .ok (.getfield 24, 3) := by decide +kernel
theorem dX1_rest_4 : decode cX1_rest 4 = .ok (.aload_n 0, 1) := by decide +kernel
theorem dX1_rest_5 : decode cX1_rest 5 = .ok (.getfield 15, 3) := by decide +kernel
theorem dX1_rest_8 : decode cX1_rest 8 = .ok (.invokestatic 57, 3) := by decide +kernel
theorem dX1_rest_11 : decode cX1_rest 11 = .ok (.ireturn, 1) := by decide +kernel
theorem dX2_init_0 : decode cX2_init 0 = .ok (.aload_n 0, 1) := by decide +kernel
theorem dX2_init_1 : decode cX2_init 1 = .ok (.invokespecial 1, 3) := by decide +kernel
theorem dX2_init_4 : decode cX2_init 4 = .ok (.aload_n 0, 1) := by decide +kernel
theorem dX2_init_5 : decode cX2_init 5 = .ok (.iconst 0, 1) := by decide +kernel
theorem dX2_init_6 : decode cX2_init 6 = .ok (.putfield 7, 3) := by decide +kernel
theorem dX2_init_9 : decode cX2_init 9 = .ok (.aload_n 0, 1) := by decide +kernel
theorem dX2_init_10 : decode cX2_init 10 = .ok (.bipush 12, 2) := by decide +kernel
theorem dX2_init_12 : decode cX2_init 12 = .ok (.newarray .long, 2) := by decide +kernel
theorem dX2_init_14 : decode cX2_init 14 = .ok (.putfield 13, 3) := by decide +kernel
theorem dX2_init_17 : decode cX2_init 17 = .ok (.aload_n 0, 1) := by decide +kernel
theorem dX2_init_18 : decode cX2_init 18 = .ok (.bipush 12, 2) := by decide +kernel
theorem dX2_init_20 : decode cX2_init 20 = .ok (.newarray .int, 2) := by decide +kernel
theorem dX2_init_22 : decode cX2_init 22 = .ok (.putfield 17, 3) := by decide +kernel
theorem dX2_init_25 : decode cX2_init 25 = .ok (.aload_n 0, 1) := by decide +kernel
theorem dX2_init_26 : decode cX2_init 26 = .ok (.iload_n 1, 1) := by decide +kernel
theorem dX2_init_27 : decode cX2_init 27 = .ok (.putfield 21, 3) := by decide +kernel
theorem dX2_init_30 : decode cX2_init 30 = .ok (.aload_n 0, 1) := by decide +kernel
theorem dX2_init_31 : decode cX2_init 31 = .ok (.iload_n 2, 1) := by decide +kernel
theorem dX2_init_32 : decode cX2_init 32 = .ok (.putfield 24, 3) := by decide +kernel
theorem dX2_init_35 : decode cX2_init 35 = .ok (.aload_n 0, 1) := by decide +kernel
theorem dX2_init_36 : decode cX2_init 36 = .ok (.iload_n 3, 1) := by decide +kernel
theorem dX2_init_37 : decode cX2_init 37 = .ok (.putfield 27, 3) := by decide +kernel
theorem dX2_init_40 : decode cX2_init 40 = .ok (.return_, 1) := by decide +kernel
theorem dX2_isFull_0 : decode cX2_isFull 0 = .ok (.aload_n 0, 1) := by decide +kernel
theorem dX2_isFull_1 : decode cX2_isFull 1 = .ok (.getfield 7, 3) := by decide +kernel
theorem dX2_isFull_4 : decode cX2_isFull 4 = .ok (.bipush 12, 2) := by decide +kernel
theorem dX2_isFull_6 : decode cX2_isFull 6 = .ok (.if_icmp .lt 7, 3) := by decide +kernel
theorem dX2_isFull_9 : decode cX2_isFull 9 = .ok (.iconst 1, 1) := by decide +kernel
theorem dX2_isFull_10 : decode cX2_isFull 10 = .ok (.goto 4, 3) := by decide +kernel
theorem dX2_isFull_13 : decode cX2_isFull 13 = .ok (.iconst 0, 1) := by decide +kernel
theorem dX2_isFull_14 : decode cX2_isFull 14 = .ok (.ireturn, 1) := by decide +kernel
theorem dX2_add_0 : decode cX2_add 0 = .ok (.aload_n 0, 1) := by decide +kernel
theorem dX2_add_1 : decode cX2_add 1 = .ok (.getfield 7, 3) := by decide +kernel
theorem dX2_add_4 : decode cX2_add 4 = .ok (.bipush 12, 2) := by decide +kernel
theorem dX2_add_6 : decode cX2_add 6 = .ok (.if_icmp .ge 33, 3) := by decide +kernel
theorem dX2_add_9 : decode cX2_add 9 = .ok (.aload_n 0, 1) := by decide +kernel
theorem dX2_add_10 : decode cX2_add 10 = .ok (.getfield 13, 3) := by decide +kernel
theorem dX2_add_13 : decode cX2_add 13 = .ok (.aload_n 0, 1) := by decide +kernel
theorem dX2_add_14 : decode cX2_add 14 = .ok (.getfield 7, 3) := by decide +kernel
theorem dX2_add_17 : decode cX2_add 17 = .ok (.lload_n 1, 1) := by decide +kernel
theorem dX2_add_18 : decode cX2_add 18 = .ok (.lastore, 1) := by decide +kernel
theorem dX2_add_19 : decode cX2_add 19 = .ok (.aload_n 0, 1) := by decide +kernel
theorem dX2_add_20 : decode cX2_add 20 = .ok (.getfield 17, 3) := by decide +kernel
theorem dX2_add_23 : decode cX2_add 23 = .ok (.aload_n 0, 1) := by decide +kernel
theorem dX2_add_24 : decode cX2_add 24 = .ok (.getfield 7, 3) := by decide +kernel
theorem dX2_add_27 : decode cX2_add 27 = .ok (.iload_n 3, 1) := by decide +kernel
theorem dX2_add_28 : decode cX2_add 28 = .ok (.iastore, 1) := by decide +kernel
theorem dX2_add_29 : decode cX2_add 29 = .ok (.aload_n 0, 1) := by decide +kernel
theorem dX2_add_30 : decode cX2_add 30 = .ok (.dup, 1) := by decide +kernel
theorem dX2_add_31 : decode cX2_add 31 = .ok (.getfield 7, 3) := by decide +kernel
theorem dX2_add_34 : decode cX2_add 34 = .ok (.iconst 1, 1) := by decide +kernel
theorem dX2_add_35 : decode cX2_add 35 = .ok (.iadd, 1) := by decide +kernel
theorem dX2_add_36 : decode cX2_add 36 = .ok (.putfield 7, 3) := by decide +kernel
theorem dX2_add_39 : decode cX2_add 39 = .ok (.aload_n 0, 1) := by decide +kernel
theorem dX2_add_40 : decode cX2_add 40 = .ok (.getfield 7, 3) := by decide +kernel
theorem dX2_add_43 : decode cX2_add 43 = .ok (.iconst 1, 1) := by decide +kernel
theorem dX2_add_44 : decode cX2_add 44 = .ok (.isub, 1) := by decide +kernel
theorem dX2_add_45 : decode cX2_add 45 = .ok (.ireturn, 1) := by decide +kernel
theorem dX2_lineNet_0 : decode cX2_lineNet 0 = .ok (.aload_n 0, 1) := by decide +kernel
theorem dX2_lineNet_1 : decode cX2_lineNet 1 = .ok (.getfield 13, 3) := by decide +kernel
theorem dX2_lineNet_4 : decode cX2_lineNet 4 = .ok (.iload_n 1, 1) := by decide +kernel
theorem dX2_lineNet_5 : decode cX2_lineNet 5 = .ok (.laload, 1) := by decide +kernel
theorem dX2_lineNet_6 : decode cX2_lineNet 6 = .ok (.ldc2_w 31, 3) := by decide +kernel
theorem dX2_lineNet_9 : decode cX2_lineNet 9 = .ok (.iload_n 2, 1) := by decide +kernel
theorem dX2_lineNet_10 : decode cX2_lineNet 10 = .ok (.invokestatic 33, 3) := by decide +kernel
theorem dX2_lineNet_13 : decode cX2_lineNet 13 = .ok (.lreturn, 1) := by decide +kernel
theorem dX2_netSum_0 : decode cX2_netSum 0 = .ok (.lconst 0, 1) := by decide +kernel
theorem dX2_netSum_1 : decode cX2_netSum 1 = .ok (.lstore_n 2, 1) := by decide +kernel
theorem dX2_netSum_2 : decode cX2_netSum 2 = .ok (.iconst 0, 1) := by decide +kernel
theorem dX2_netSum_3 : decode cX2_netSum 3 = .ok (.istore 4, 2) := by decide +kernel
theorem dX2_netSum_5 : decode cX2_netSum 5 = .ok (.iload 4, 2) := by decide +kernel
theorem dX2_netSum_7 : decode cX2_netSum 7 = .ok (.aload_n 0, 1) := by decide +kernel
theorem dX2_netSum_8 : decode cX2_netSum 8 = .ok (.getfield 7, 3) := by decide +kernel
theorem dX2_netSum_11 : decode cX2_netSum 11 = .ok (.if_icmp .ge 36, 3) := by decide +kernel
theorem dX2_netSum_14 : decode cX2_netSum 14 = .ok (.lload_n 2, 1) := by decide +kernel
theorem dX2_netSum_15 : decode cX2_netSum 15 = .ok (.aload_n 0, 1) := by decide +kernel
theorem dX2_netSum_16 : decode cX2_netSum 16 = .ok (.getfield 27, 3) := by decide +kernel
theorem dX2_netSum_19 : decode cX2_netSum 19 = .ok (.ifCond .eq 13, 3) := by decide +kernel
theorem dX2_netSum_22 : decode cX2_netSum 22 = .ok (.aload_n 0, 1) := by decide +kernel
theorem dX2_netSum_23 : decode cX2_netSum 23 = .ok (.iload 4, 2) := by decide +kernel
theorem dX2_netSum_25 : decode cX2_netSum 25 = .ok (.iload_n 1, 1) := by decide +kernel
theorem dX2_netSum_26 : decode cX2_netSum 26 = .ok (.invokevirtual 39, 3) := by decide +kernel
theorem dX2_netSum_29 : decode cX2_netSum 29 = .ok (.goto 10, 3) := by decide +kernel
theorem dX2_netSum_32 : decode cX2_netSum 32 = .ok (.aload_n 0, 1) := by decide +kernel
theorem dX2_netSum_33 : decode cX2_netSum 33 = .ok (.getfield 13, 3) := by decide +kernel
theorem dX2_netSum_36 : decode cX2_netSum 36 = .ok (.iload 4, 2) := by decide +kernel
theorem dX2_netSum_38 : decode cX2_netSum 38 = .ok (.laload, 1) := by decide +kernel
theorem dX2_netSum_39 : decode cX2_netSum 39 = .ok (.ladd, 1) := by decide +kernel
theorem dX2_netSum_40 : decode cX2_netSum 40 = .ok (.lstore_n 2, 1) := by decide +kernel
theorem dX2_netSum_41 : decode cX2_netSum 41 = .ok (.iinc 4 1, 3) := by decide +kernel
theorem dX2_netSum_44 : decode cX2_netSum 44 = .ok (.goto (-39), 3) := by decide +kernel
theorem dX2_netSum_47 : decode cX2_netSum 47 = .ok (.aload_n 0, 1) := by decide +kernel
theorem dX2_netSum_48 : decode cX2_netSum 48 = .ok (.getfield 27, 3) := by decide +kernel
theorem dX2_netSum_51 : decode cX2_netSum 51 = .ok (.ifCond .eq 7, 3) := by decide +kernel
theorem dX2_netSum_54 : decode cX2_netSum 54 = .ok (.lload_n 2, 1) := by decide +kernel
theorem dX2_netSum_55 : decode cX2_netSum 55 = .ok (.goto 11, 3) := by decide +kernel
theorem dX2_netSum_58 : decode cX2_netSum 58 = .ok (.lload_n 2, 1) := by decide +kernel
theorem dX2_netSum_59 : decode cX2_netSum 59 = .ok (.ldc2_w 31, 3) := by decide +kernel
theorem dX2_netSum_62 : decode cX2_netSum 62 = .ok (.iload_n 1, 1) := by decide +kernel
theorem dX2_netSum_63 : decode cX2_netSum 63 = .ok (.invokestatic 33, 3) := by decide +kernel
theorem dX2_netSum_66 : decode cX2_netSum 66 = .ok (.lreturn, 1) := by decide +kernel
theorem dX2_taxSum_0 : decode cX2_taxSum 0 = .ok (.lconst 0, 1) := by decide +kernel
theorem dX2_taxSum_1 : decode cX2_taxSum 1 = .ok (.lstore_n 2, 1) := by decide +kernel
theorem dX2_taxSum_2 : decode cX2_taxSum 2 = .ok (.iconst 0, 1) := by decide +kernel
theorem dX2_taxSum_3 : decode cX2_taxSum 3 = .ok (.istore 4, 2) := by decide +kernel
theorem dX2_taxSum_5 : decode cX2_taxSum 5 = .ok (.iload 4, 2) := by decide +kernel
theorem dX2_taxSum_7 : decode cX2_taxSum 7 = .ok (.aload_n 0, 1) := by decide +kernel
theorem dX2_taxSum_8 : decode cX2_taxSum 8 = .ok (.getfield 7, 3) := by decide +kernel
theorem dX2_taxSum_11 : decode cX2_taxSum 11 = .ok (.if_icmp .ge 36, 3) := by decide +kernel
theorem dX2_taxSum_14 : decode cX2_taxSum 14 = .ok (.lload_n 2, 1) := by decide +kernel
theorem dX2_taxSum_15 : decode cX2_taxSum 15 = .ok (.aload_n 0, 1) := by decide +kernel
theorem dX2_taxSum_16 : decode cX2_taxSum 16 = .ok (.getfield 27, 3) := by decide +kernel
theorem dX2_taxSum_19 : decode cX2_taxSum 19 = .ok (.ifCond .eq 13, 3) := by decide +kernel
theorem dX2_taxSum_22 : decode cX2_taxSum 22 = .ok (.aload_n 0, 1) := by decide +kernel
theorem dX2_taxSum_23 : decode cX2_taxSum 23 = .ok (.iload 4, 2) := by decide +kernel
theorem dX2_taxSum_25 : decode cX2_taxSum 25 = .ok (.iload_n 1, 1) := by decide +kernel
theorem dX2_taxSum_26 : decode cX2_taxSum 26 = .ok (.invokevirtual 43, 3) := by decide +kernel
theorem dX2_taxSum_29 : decode cX2_taxSum 29 = .ok (.goto 10, 3) := by decide +kernel
theorem dX2_taxSum_32 : decode cX2_taxSum 32 = .ok (.aload_n 0, 1) := by decide +kernel
theorem dX2_taxSum_33 : decode cX2_taxSum 33 = .ok (.iload 4, 2) := by decide +kernel
theorem dX2_taxSum_35 : decode cX2_taxSum 35 = .ok (.iload_n 1, 1) := by decide +kernel
theorem dX2_taxSum_36 : decode cX2_taxSum 36 = .ok (.invokevirtual 46, 3) := by decide +kernel
theorem dX2_taxSum_39 : decode cX2_taxSum 39 = .ok (.ladd, 1) := by decide +kernel
theorem dX2_taxSum_40 : decode cX2_taxSum 40 = .ok (.lstore_n 2, 1) := by decide +kernel
theorem dX2_taxSum_41 : decode cX2_taxSum 41 = .ok (.iinc 4 1, 3) := by decide +kernel
theorem dX2_taxSum_44 : decode cX2_taxSum 44 = .ok (.goto (-39), 3) := by decide +kernel
theorem dX2_taxSum_47 : decode cX2_taxSum 47 = .ok (.lload_n 2, 1) := by decide +kernel
theorem dX2_taxSum_48 : decode cX2_taxSum 48 = .ok (.lreturn, 1) := by decide +kernel
theorem dX2_lineTax_0 : decode cX2_lineTax 0 = .ok (.aload_n 0, 1) := by decide +kernel
theorem dX2_lineTax_1 : decode cX2_lineTax 1 = .ok (.iload_n 1, 1) := by decide +kernel
theorem dX2_lineTax_2 : decode cX2_lineTax 2 = .ok (.iload_n 2, 1) := by decide +kernel
theorem dX2_lineTax_3 : decode cX2_lineTax 3 = .ok (.invokevirtual 39, 3) := by decide +kernel
theorem dX2_lineTax_6 : decode cX2_lineTax 6 = .ok (.aload_n 0, 1) := by decide +kernel
theorem dX2_lineTax_7 : decode cX2_lineTax 7 = .ok (.getfield 17, 3) := by decide +kernel
theorem dX2_lineTax_10 : decode cX2_lineTax 10 = .ok (.iload_n 1, 1) := by decide +kernel
theorem dX2_lineTax_11 : decode cX2_lineTax 11 = .ok (.iaload, 1) := by decide +kernel
theorem dX2_lineTax_12 : decode cX2_lineTax 12 = .ok (.ldc2_w 49, 3) := by decide +kernel
theorem dX2_lineTax_15 : decode cX2_lineTax 15 = .ok (.iload_n 2, 1) := by decide +kernel
theorem dX2_lineTax_16 : decode cX2_lineTax 16 = .ok (.invokestatic 51, 3) := by decide +kernel
theorem dX2_lineTax_19 : decode cX2_lineTax 19 = .ok (.lreturn, 1) := by decide +kernel
theorem dX2_taxOfLikeLines_0 : decode cX2_taxOfLikeLines 0 = .ok (.lconst 0, 1) := by decide +kernel
theorem dX2_taxOfLikeLines_1 : decode cX2_taxOfLikeLines 1 = .ok (.lstore_n 3, 1) := by decide +kernel
theorem dX2_taxOfLikeLines_2 : decode cX2_taxOfLikeLines 2 = .ok (.iconst 0, 1) := by decide +kernel
theorem dX2_taxOfLikeLines_3 : decode cX2_taxOfLikeLines 3 = .ok (.istore 5, 2) := by decide +kernel
theorem dX2_taxOfLikeLines_5 : decode cX2_taxOfLikeLines 5 = .ok (.iload 5, 2) := by decide +kernel
theorem dX2_taxOfLikeLines_7 : decode cX2_taxOfLikeLines 7 = .ok (.aload_n 0, 1) := by decide +kernel
theorem dX2_taxOfLikeLines_8 : decode cX2_taxOfLikeLines 8 = .ok (.getfield 7, 3) := by decide +kernel
theorem dX2_taxOfLikeLines_11 : decode cX2_taxOfLikeLines 11 = .ok (.if_icmp .ge 43, 3) := by decide +kernel
theorem dX2_taxOfLikeLines_14 : decode cX2_taxOfLikeLines 14 = .ok (.aload_n 0, 1) := by decide +kernel
theorem dX2_taxOfLikeLines_15 : decode cX2_taxOfLikeLines 15 = .ok (.getfield 17, 3) := by decide +kernel
theorem dX2_taxOfLikeLines_18 : decode cX2_taxOfLikeLines 18 = .ok (.iload 5, 2) := by decide +kernel
theorem dX2_taxOfLikeLines_20 : decode cX2_taxOfLikeLines 20 = .ok (.iaload, 1) := by decide +kernel
theorem dX2_taxOfLikeLines_21 : decode cX2_taxOfLikeLines 21 = .ok (.aload_n 0, 1) := by decide +kernel
theorem dX2_taxOfLikeLines_22 : decode cX2_taxOfLikeLines 22 = .ok (.getfield 17, 3) := by decide +kernel
theorem dX2_taxOfLikeLines_25 : decode cX2_taxOfLikeLines 25 = .ok (.iload_n 1, 1) := by decide +kernel
theorem dX2_taxOfLikeLines_26 : decode cX2_taxOfLikeLines 26 = .ok (.iaload, 1) := by decide +kernel
theorem dX2_taxOfLikeLines_27 : decode cX2_taxOfLikeLines 27 = .ok (.if_icmp .ne 21, 3) := by decide +kernel
theorem dX2_taxOfLikeLines_30 : decode cX2_taxOfLikeLines 30 = .ok (.iload 5, 2) := by decide +kernel
theorem dX2_taxOfLikeLines_32 : decode cX2_taxOfLikeLines 32 = .ok (.iload_n 1, 1) := by decide +kernel
theorem dX2_taxOfLikeLines_33 : decode cX2_taxOfLikeLines 33 = .ok (.if_icmp .ge 5, 3) := by decide +kernel
theorem dX2_taxOfLikeLines_36 : decode cX2_taxOfLikeLines 36 = .ok (.lconst 0, 1) := by decide +kernel
theorem dX2_taxOfLikeLines_37 : decode cX2_taxOfLikeLines 37 = .ok (.lreturn, 1) := by decide +kernel
theorem dX2_taxOfLikeLines_38 : decode cX2_taxOfLikeLines 38 = .ok (.lload_n 3, 1) := by decide +kernel
theorem dX2_taxOfLikeLines_39 : decode cX2_taxOfLikeLines 39 = .ok (.aload_n 0, 1) := by decide +kernel
theorem dX2_taxOfLikeLines_40 : decode cX2_taxOfLikeLines 40 = .ok (.getfield 13, 3) := by decide +kernel
theorem dX2_taxOfLikeLines_43 : decode cX2_taxOfLikeLines 43 = .ok (.iload 5, 2) := by decide +kernel
theorem dX2_taxOfLikeLines_45 : decode cX2_taxOfLikeLines 45 = .ok (.laload, 1) := by decide +kernel
theorem dX2_taxOfLikeLines_46 : decode cX2_taxOfLikeLines 46 = .ok (.ladd, 1) := by decide +kernel
theorem dX2_taxOfLikeLines_47 : decode cX2_taxOfLikeLines 47 = .ok (.lstore_n 3, 1) := by decide +kernel
theorem dX2_taxOfLikeLines_48 : decode cX2_taxOfLikeLines 48 = .ok (.iinc 5 1, 3) := by decide +kernel
theorem dX2_taxOfLikeLines_51 : decode cX2_taxOfLikeLines 51 = .ok (.goto (-46), 3) := by decide +kernel
theorem dX2_taxOfLikeLines_54 : decode cX2_taxOfLikeLines 54 = .ok (.lload_n 3, 1) := by decide +kernel
theorem dX2_taxOfLikeLines_55 : decode cX2_taxOfLikeLines 55 = .ok (.aload_n 0, 1) := by decide +kernel
theorem dX2_taxOfLikeLines_56 : decode cX2_taxOfLikeLines 56 = .ok (.getfield 17, 3) := by decide +kernel
theorem dX2_taxOfLikeLines_59 : decode cX2_taxOfLikeLines 59 = .ok (.iload_n 1, 1) := by decide +kernel
theorem dX2_taxOfLikeLines_60 : decode cX2_taxOfLikeLines 60 = .ok (.iaload, 1) := by decide +kernel
theorem dX2_taxOfLikeLines_61 : decode cX2_taxOfLikeLines 61 = .ok (.ldc2_w 55, 3) := by decide +kernel
theorem dX2_taxOfLikeLines_64 : decode cX2_taxOfLikeLines 64 = .ok (.iload_n 2, 1) := by decide +kernel
theorem dX2_taxOfLikeLines_65 : decode cX2_taxOfLikeLines 65 = .ok (.invokestatic 51, 3) := by decide +kernel
theorem dX2_taxOfLikeLines_68 : decode cX2_taxOfLikeLines 68 = .ok (.lreturn, 1) := by decide +kernel
theorem dX3_init_0 : decode cX3_init 0 = .ok (.aload_n 0, 1) := by decide +kernel
theorem dX3_init_1 : decode cX3_init 1 = .ok (.invokespecial 5, 3) := by decide +kernel
theorem dX3_init_4 : decode cX3_init 4 = .ok (.aload_n 0, 1) := by decide +kernel
theorem dX3_init_5 : decode cX3_init 5 = .ok (.sipush 200, 3) := by decide +kernel
theorem dX3_init_8 : decode cX3_init 8 = .ok (.newarray .int, 2) := by decide +kernel
theorem dX3_init_10 : decode cX3_init 10 = .ok (.putfield 11, 3) := by decide +kernel
theorem dX3_init_13 : decode cX3_init 13 = .ok (.aload_n 0, 1) := by decide +kernel
theorem dX3_init_14 : decode cX3_init 14 = .ok (.sipush 200, 3) := by decide +kernel
theorem dX3_init_17 : decode cX3_init 17 = .ok (.newarray .int, 2) := by decide +kernel
theorem dX3_init_19 : decode cX3_init 19 = .ok (.putfield 15, 3) := by decide +kernel
theorem dX3_init_22 : decode cX3_init 22 = .ok (.aload_n 0, 1) := by decide +kernel
theorem dX3_init_23 : decode cX3_init 23 = .ok (.sipush 200, 3) := by decide +kernel
theorem dX3_init_26 : decode cX3_init 26 = .ok (.newarray .long, 2) := by decide +kernel
theorem dX3_init_28 : decode cX3_init 28 = .ok (.putfield 18, 3) := by decide +kernel
theorem dX3_init_31 : decode cX3_init 31 = .ok (.aload_n 0, 1) := by decide +kernel
theorem dX3_init_32 : decode cX3_init 32 = .ok (.sipush 200, 3) := by decide +kernel
theorem dX3_init_35 : decode cX3_init 35 = .ok (.newarray .int, 2) := by decide +kernel
theorem dX3_init_37 : decode cX3_init 37 = .ok (.putfield 22, 3) := by decide +kernel
theorem dX3_init_40 : decode cX3_init 40 = .ok (.aload_n 0, 1) := by decide +kernel
theorem dX3_init_41 : decode cX3_init 41 = .ok (.iconst 0, 1) := by decide +kernel
theorem dX3_init_42 : decode cX3_init 42 = .ok (.putfield 25, 3) := by decide +kernel
theorem dX3_init_45 : decode cX3_init 45 = .ok (.aload_n 0, 1) := by decide +kernel
theorem dX3_init_46 : decode cX3_init 46 = .ok (.sipush 220, 3) := by decide +kernel
theorem dX3_init_49 : decode cX3_init 49 = .ok (.newarray .int, 2) := by decide +kernel
theorem dX3_init_51 : decode cX3_init 51 = .ok (.putfield 29, 3) := by decide +kernel
theorem dX3_init_54 : decode cX3_init 54 = .ok (.aload_n 0, 1) := by decide +kernel
theorem dX3_init_55 : decode cX3_init 55 = .ok (.sipush 220, 3) := by decide +kernel
theorem dX3_init_58 : decode cX3_init 58 = .ok (.newarray .int, 2) := by decide +kernel
theorem dX3_init_60 : decode cX3_init 60 = .ok (.putfield 32, 3) := by decide +kernel
theorem dX3_init_63 : decode cX3_init 63 = .ok (.aload_n 0, 1) := by decide +kernel
theorem dX3_init_64 : decode cX3_init 64 = .ok (.sipush 220, 3) := by decide +kernel
theorem dX3_init_67 : decode cX3_init 67 = .ok (.newarray .int, 2) := by decide +kernel
theorem dX3_init_69 : decode cX3_init 69 = .ok (.putfield 35, 3) := by decide +kernel
theorem dX3_init_72 : decode cX3_init 72 = .ok (.aload_n 0, 1) := by decide +kernel
theorem dX3_init_73 : decode cX3_init 73 = .ok (.iconst 0, 1) := by decide +kernel
theorem dX3_init_74 : decode cX3_init 74 = .ok (.putfield 38, 3) := by decide +kernel
theorem dX3_init_77 : decode cX3_init 77 = .ok (.aload_n 0, 1) := by decide +kernel
theorem dX3_init_78 : decode cX3_init 78 = .ok (.iconst (-1), 1) := by decide +kernel
theorem dX3_init_79 : decode cX3_init 79 = .ok (.putfield 41, 3) := by decide +kernel
theorem dX3_init_82 : decode cX3_init 82 = .ok (.return_, 1) := by decide +kernel
theorem dX3_hasRoom_0 : decode cX3_hasRoom 0 = .ok (.aload_n 0, 1) := by decide +kernel
theorem dX3_hasRoom_1 : decode cX3_hasRoom 1 = .ok (.getfield 25, 3) := by decide +kernel
theorem dX3_hasRoom_4 : decode cX3_hasRoom 4 = .ok (.iload_n 1, 1) := by decide +kernel
theorem dX3_hasRoom_5 : decode cX3_hasRoom 5 = .ok (.iadd, 1) := by decide +kernel
theorem dX3_hasRoom_6 : decode cX3_hasRoom 6 = .ok (.sipush 200, 3) := by decide +kernel
theorem dX3_hasRoom_9 : decode cX3_hasRoom 9 = .ok (.if_icmp .gt 17, 3) := by decide +kernel
theorem dX3_hasRoom_12 : decode cX3_hasRoom 12 = .ok (.aload_n 0, 1) := by decide +kernel
theorem dX3_hasRoom_13 : decode cX3_hasRoom 13 = .ok (.getfield 38, 3) := by decide +kernel
theorem dX3_hasRoom_16 : decode cX3_hasRoom 16 = .ok (.sipush 220, 3) := by decide +kernel
theorem dX3_hasRoom_19 : decode cX3_hasRoom 19 = .ok (.if_icmp .ge 7, 3) := by decide +kernel
theorem dX3_hasRoom_22 : decode cX3_hasRoom 22 = .ok (.iconst 1, 1) := by decide +kernel
theorem dX3_hasRoom_23 : decode cX3_hasRoom 23 = .ok (.goto 4, 3) := by decide +kernel
theorem dX3_hasRoom_26 : decode cX3_hasRoom 26 = .ok (.iconst 0, 1) := by decide +kernel
theorem dX3_hasRoom_27 : decode cX3_hasRoom 27 = .ok (.ireturn, 1) := by decide +kernel
theorem dX3_begin_0 : decode cX3_begin 0 = .ok (.aload_n 0, 1) := by decide +kernel
theorem dX3_begin_1 : decode cX3_begin 1 = .ok (.getfield 38, 3) := by decide +kernel
theorem dX3_begin_4 : decode cX3_begin 4 = .ok (.sipush 220, 3) := by decide +kernel
theorem dX3_begin_7 : decode cX3_begin 7 = .ok (.if_icmp .ge 46, 3) := by decide +kernel
theorem dX3_begin_10 : decode cX3_begin 10 = .ok (.aload_n 0, 1) := by decide +kernel
theorem dX3_begin_11 : decode cX3_begin 11 = .ok (.getfield 29, 3) := by decide +kernel
theorem dX3_begin_14 : decode cX3_begin 14 = .ok (.aload_n 0, 1) := by decide +kernel
theorem dX3_begin_15 : decode cX3_begin 15 = .ok (.getfield 38, 3) := by decide +kernel
theorem dX3_begin_18 : decode cX3_begin 18 = .ok (.iload_n 1, 1) := by decide +kernel
theorem dX3_begin_19 : decode cX3_begin 19 = .ok (.iastore, 1) := by decide +kernel
theorem dX3_begin_20 : decode cX3_begin 20 = .ok (.aload_n 0, 1) := by decide +kernel
theorem dX3_begin_21 : decode cX3_begin 21 = .ok (.getfield 32, 3) := by decide +kernel
theorem dX3_begin_24 : decode cX3_begin 24 = .ok (.aload_n 0, 1) := by decide +kernel
theorem dX3_begin_25 : decode cX3_begin 25 = .ok (.getfield 38, 3) := by decide +kernel
theorem dX3_begin_28 : decode cX3_begin 28 = .ok (.iload_n 2, 1) := by decide +kernel
theorem dX3_begin_29 : decode cX3_begin 29 = .ok (.iastore, 1) := by decide +kernel
theorem dX3_begin_30 : decode cX3_begin 30 = .ok (.aload_n 0, 1) := by decide +kernel
theorem dX3_begin_31 : decode cX3_begin 31 = .ok (.getfield 35, 3) := by decide +kernel
theorem dX3_begin_34 : decode cX3_begin 34 = .ok (.aload_n 0, 1) := by decide +kernel
theorem dX3_begin_35 : decode cX3_begin 35 = .ok (.getfield 38, 3) := by decide +kernel
theorem dX3_begin_38 : decode cX3_begin 38 = .ok (.aload_n 0, 1) := by decide +kernel
theorem dX3_begin_39 : decode cX3_begin 39 = .ok (.getfield 25, 3) := by decide +kernel
theorem dX3_begin_42 : decode cX3_begin 42 = .ok (.iastore, 1) := by decide +kernel
theorem dX3_begin_43 : decode cX3_begin 43 = .ok (.aload_n 0, 1) := by decide +kernel
theorem dX3_begin_44 : decode cX3_begin 44 = .ok (.dup, 1) := by decide +kernel
theorem dX3_begin_45 : decode cX3_begin 45 = .ok (.getfield 38, 3) := by decide +kernel
theorem dX3_begin_48 : decode cX3_begin 48 = .ok (.iconst 1, 1) := by decide +kernel
theorem dX3_begin_49 : decode cX3_begin 49 = .ok (.iadd, 1) := by decide +kernel
theorem dX3_begin_50 : decode cX3_begin 50 = .ok (.putfield 38, 3) := by decide +kernel
theorem dX3_begin_53 : decode cX3_begin 53 = .ok (.return_, 1) := by decide +kernel
theorem dX3_enter_0 : decode cX3_enter 0 = .ok (.aload_n 0, 1) := by decide +kernel
theorem dX3_enter_1 : decode cX3_enter 1 = .ok (.getfield 25, 3) := by decide +kernel
theorem dX3_enter_4 : decode cX3_enter 4 = .ok (.sipush 200, 3) := by decide +kernel
theorem dX3_enter_7 : decode cX3_enter 7 = .ok (.if_icmp .ge 70, 3) := by decide +kernel
theorem dX3_enter_10 : decode cX3_enter 10 = .ok (.aload_n 0, 1) := by decide +kernel
theorem dX3_enter_11 : decode cX3_enter 11 = .ok (.getfield 38, 3) := by decide +kernel
theorem dX3_enter_14 : decode cX3_enter 14 = .ok (.ifCond .le 63, 3) := by decide +kernel
theorem dX3_enter_17 : decode cX3_enter 17 = .ok (.aload_n 0, 1) := by decide +kernel
theorem dX3_enter_18 : decode cX3_enter 18 = .ok (.getfield 11, 3) := by decide +kernel
theorem dX3_enter_21 : decode cX3_enter 21 = .ok (.aload_n 0, 1) := by decide +kernel
theorem dX3_enter_22 : decode cX3_enter 22 = .ok (.getfield 25, 3) := by decide +kernel
theorem dX3_enter_25 : decode cX3_enter 25 = .ok (.iload_n 1, 1) := by decide +kernel
theorem dX3_enter_26 : decode cX3_enter 26 = .ok (.iastore, 1) := by decide +kernel
theorem dX3_enter_27 : decode cX3_enter 27 = .ok (.aload_n 0, 1) := by decide +kernel
theorem dX3_enter_28 : decode cX3_enter 28 = .ok (.getfield 15, 3) := by decide +kernel
theorem dX3_enter_31 : decode cX3_enter 31 = .ok (.aload_n 0, 1) := by decide +kernel
theorem dX3_enter_32 : decode cX3_enter 32 = .ok (.getfield 25, 3) := by decide +kernel
theorem dX3_enter_35 : decode cX3_enter 35 = .ok (.iload_n 2, 1) := by decide +kernel
theorem dX3_enter_36 : decode cX3_enter 36 = .ok (.iastore, 1) := by decide +kernel
theorem dX3_enter_37 : decode cX3_enter 37 = .ok (.aload_n 0, 1) := by decide +kernel
theorem dX3_enter_38 : decode cX3_enter 38 = .ok (.getfield 18, 3) := by decide +kernel
theorem dX3_enter_41 : decode cX3_enter 41 = .ok (.aload_n 0, 1) := by decide +kernel
theorem dX3_enter_42 : decode cX3_enter 42 = .ok (.getfield 25, 3) := by decide +kernel
theorem dX3_enter_45 : decode cX3_enter 45 = .ok (.lload_n 3, 1) := by decide +kernel
theorem dX3_enter_46 : decode cX3_enter 46 = .ok (.lastore, 1) := by decide +kernel
theorem dX3_enter_47 : decode cX3_enter 47 = .ok (.aload_n 0, 1) := by decide +kernel
theorem dX3_enter_48 : decode cX3_enter 48 = .ok (.getfield 22, 3) := by decide +kernel
theorem dX3_enter_51 : decode cX3_enter 51 = .ok (.aload_n 0, 1) := by decide +kernel
theorem dX3_enter_52 : decode cX3_enter 52 = .ok (.getfield 25, 3) := by decide +kernel
theorem dX3_enter_55 : decode cX3_enter 55 = .ok (.aload_n 0, 1) := by decide +kernel
theorem dX3_enter_56 : decode cX3_enter 56 = .ok (.getfield 29, 3) := by decide +kernel
theorem dX3_enter_59 : decode cX3_enter 59 = .ok (.aload_n 0, 1) := by decide +kernel
theorem dX3_enter_60 : decode cX3_enter 60 = .ok (.getfield 38, 3) := by decide +kernel
theorem dX3_enter_63 : decode cX3_enter 63 = .ok (.iconst 1, 1) := by decide +kernel
theorem dX3_enter_64 : decode cX3_enter 64 = .ok (.isub, 1) := by decide +kernel
theorem dX3_enter_65 : decode cX3_enter 65 = .ok (.iaload, 1) := by decide +kernel
theorem dX3_enter_66 : decode cX3_enter 66 = .ok (.iastore, 1) := by decide +kernel
theorem dX3_enter_67 : decode cX3_enter 67 = .ok (.aload_n 0, 1) := by decide +kernel
theorem dX3_enter_68 : decode cX3_enter 68 = .ok (.dup, 1) := by decide +kernel
theorem dX3_enter_69 : decode cX3_enter 69 = .ok (.getfield 25, 3) := by decide +kernel
theorem dX3_enter_72 : decode cX3_enter 72 = .ok (.iconst 1, 1) := by decide +kernel
theorem dX3_enter_73 : decode cX3_enter 73 = .ok (.iadd, 1) := by decide +kernel
theorem dX3_enter_74 : decode cX3_enter 74 = .ok (.putfield 25, 3) := by decide +kernel
theorem dX3_enter_77 : decode cX3_enter 77 = .ok (.aload_n 0, 1) := by decide +kernel
theorem dX3_enter_78 : decode cX3_enter 78 = .ok (.getfield 25, 3) := by decide +kernel
theorem dX3_enter_81 : decode cX3_enter 81 = .ok (.ireturn, 1) := by decide +kernel
theorem dX3_hasBooking_0 : decode cX3_hasBooking 0 = .ok (.iconst 0, 1) := by decide +kernel
theorem dX3_hasBooking_1 : decode cX3_hasBooking 1 = .ok (.istore_n 2, 1) := by decide +kernel
theorem dX3_hasBooking_2 : decode cX3_hasBooking 2 = .ok (.iload_n 2, 1) := by decide +kernel
theorem dX3_hasBooking_3 : decode cX3_hasBooking 3 = .ok (.aload_n 0, 1) := by decide +kernel
theorem dX3_hasBooking_4 : decode cX3_hasBooking 4 = .ok (.getfield 38, 3) := by decide +kernel
theorem dX3_hasBooking_7 : decode cX3_hasBooking 7 = .ok (.if_icmp .ge 21, 3) := by decide +kernel
theorem dX3_hasBooking_10 : decode cX3_hasBooking 10 = .ok (.aload_n 0, 1) := by decide +kernel
theorem dX3_hasBooking_11 : decode cX3_hasBooking 11 = .ok (.getfield 32, 3) := by decide +kernel
theorem dX3_hasBooking_14 : decode cX3_hasBooking 14 = .ok (.iload_n 2, 1) := by decide +kernel
theorem dX3_hasBooking_15 : decode cX3_hasBooking 15 = .ok (.iaload, 1) := by decide +kernel
theorem dX3_hasBooking_16 : decode cX3_hasBooking 16 = .ok (.iload_n 1, 1) := by decide +kernel
theorem dX3_hasBooking_17 : decode cX3_hasBooking 17 = .ok (.if_icmp .ne 5, 3) := by decide +kernel
theorem dX3_hasBooking_20 : decode cX3_hasBooking 20 = .ok (.iconst 1, 1) := by decide +kernel
theorem dX3_hasBooking_21 : decode cX3_hasBooking 21 = .ok (.ireturn, 1) := by decide +kernel
theorem dX3_hasBooking_22 : decode cX3_hasBooking 22 = .ok (.iinc 2 1, 3) := by decide +kernel
theorem dX3_hasBooking_25 : decode cX3_hasBooking 25 = .ok (.goto (-23), 3) := by decide +kernel
theorem dX3_hasBooking_28 : decode cX3_hasBooking 28 = .ok (.iconst 0, 1) := by decide +kernel
theorem dX3_hasBooking_29 : decode cX3_hasBooking 29 = .ok (.ireturn, 1) := by decide +kernel
theorem dX3_dayOfLatest_0 : decode cX3_dayOfLatest 0 = .ok (.aload_n 0, 1) := by decide +kernel
theorem dX3_dayOfLatest_1 : decode cX3_dayOfLatest 1 = .ok (.getfield 38, 3) := by decide +kernel
theorem dX3_dayOfLatest_4 : decode cX3_dayOfLatest 4 = .ok (.ifCond .le 17, 3) := by decide +kernel
theorem dX3_dayOfLatest_7 : decode cX3_dayOfLatest 7 = .ok (.aload_n 0, 1) := by decide +kernel
theorem dX3_dayOfLatest_8 : decode cX3_dayOfLatest 8 = .ok (.getfield 29, 3) := by decide +kernel
theorem dX3_dayOfLatest_11 : decode cX3_dayOfLatest 11 = .ok (.aload_n 0, 1) := by decide +kernel
theorem dX3_dayOfLatest_12 : decode cX3_dayOfLatest 12 = .ok (.getfield 38, 3) := by decide +kernel
theorem dX3_dayOfLatest_15 : decode cX3_dayOfLatest 15 = .ok (.iconst 1, 1) := by decide +kernel
theorem dX3_dayOfLatest_16 : decode cX3_dayOfLatest 16 = .ok (.isub, 1) := by decide +kernel
theorem dX3_dayOfLatest_17 : decode cX3_dayOfLatest 17 = .ok (.iaload, 1) := by decide +kernel
theorem dX3_dayOfLatest_18 : decode cX3_dayOfLatest 18 = .ok (.goto 4, 3) := by decide +kernel
theorem dX3_dayOfLatest_21 : decode cX3_dayOfLatest 21 = .ok (.iconst (-1), 1) := by decide +kernel
theorem dX3_dayOfLatest_22 : decode cX3_dayOfLatest 22 = .ok (.ireturn, 1) := by decide +kernel
theorem dX3_dropLatest_0 : decode cX3_dropLatest 0 = .ok (.aload_n 0, 1) := by decide +kernel
theorem dX3_dropLatest_1 : decode cX3_dropLatest 1 = .ok (.getfield 38, 3) := by decide +kernel
theorem dX3_dropLatest_4 : decode cX3_dropLatest 4 = .ok (.ifCond .le 26, 3) := by decide +kernel
theorem dX3_dropLatest_7 : decode cX3_dropLatest 7 = .ok (.aload_n 0, 1) := by decide +kernel
theorem dX3_dropLatest_8 : decode cX3_dropLatest 8 = .ok (.dup, 1) := by decide +kernel
theorem dX3_dropLatest_9 : decode cX3_dropLatest 9 = .ok (.getfield 38, 3) := by decide +kernel
theorem dX3_dropLatest_12 : decode cX3_dropLatest 12 = .ok (.iconst 1, 1) := by decide +kernel
theorem dX3_dropLatest_13 : decode cX3_dropLatest 13 = .ok (.isub, 1) := by decide +kernel
theorem dX3_dropLatest_14 : decode cX3_dropLatest 14 = .ok (.putfield 38, 3) := by decide +kernel
theorem dX3_dropLatest_17 : decode cX3_dropLatest 17 = .ok (.aload_n 0, 1) := by decide +kernel
theorem dX3_dropLatest_18 : decode cX3_dropLatest 18 = .ok (.aload_n 0, 1) := by decide +kernel
theorem dX3_dropLatest_19 : decode cX3_dropLatest 19 = .ok (.getfield 35, 3) := by decide +kernel
theorem dX3_dropLatest_22 : decode cX3_dropLatest 22 = .ok (.aload_n 0, 1) := by decide +kernel
theorem dX3_dropLatest_23 : decode cX3_dropLatest 23 = .ok (.getfield 38, 3) := by decide +kernel
theorem dX3_dropLatest_26 : decode cX3_dropLatest 26 = .ok (.iaload, 1) := by decide +kernel
theorem dX3_dropLatest_27 : decode cX3_dropLatest 27 = .ok (.putfield 25, 3) := by decide +kernel
theorem dX3_dropLatest_30 : decode cX3_dropLatest 30 = .ok (.aload_n 0, 1) := by decide +kernel
theorem dX3_dropLatest_31 : decode cX3_dropLatest 31 = .ok (.getfield 25, 3) := by decide +kernel
theorem dX3_dropLatest_34 : decode cX3_dropLatest 34 = .ok (.ireturn, 1) := by decide +kernel
theorem dX3_isShut_0 : decode cX3_isShut 0 = .ok (.iload_n 1, 1) := by decide +kernel
theorem dX3_isShut_1 : decode cX3_isShut 1 = .ok (.aload_n 0, 1) := by decide +kernel
theorem dX3_isShut_2 : decode cX3_isShut 2 = .ok (.getfield 41, 3) := by decide +kernel
theorem dX3_isShut_5 : decode cX3_isShut 5 = .ok (.if_icmp .gt 7, 3) := by decide +kernel
theorem dX3_isShut_8 : decode cX3_isShut 8 = .ok (.iconst 1, 1) := by decide +kernel
theorem dX3_isShut_9 : decode cX3_isShut 9 = .ok (.goto 4, 3) := by decide +kernel
theorem dX3_isShut_12 : decode cX3_isShut 12 = .ok (.iconst 0, 1) := by decide +kernel
theorem dX3_isShut_13 : decode cX3_isShut 13 = .ok (.ireturn, 1) := by decide +kernel
theorem dX3_shutUpTo_0 : decode cX3_shutUpTo 0 = .ok (.aload_n 0, 1) := by decide +kernel
theorem dX3_shutUpTo_1 : decode cX3_shutUpTo 1 = .ok (.iload_n 1, 1) := by decide +kernel
theorem dX3_shutUpTo_2 : decode cX3_shutUpTo 2 = .ok (.putfield 41, 3) := by decide +kernel
theorem dX3_shutUpTo_5 : decode cX3_shutUpTo 5 = .ok (.iconst 0, 1) := by decide +kernel
theorem dX3_shutUpTo_6 : decode cX3_shutUpTo 6 = .ok (.istore_n 2, 1) := by decide +kernel
theorem dX3_shutUpTo_7 : decode cX3_shutUpTo 7 = .ok (.iconst 0, 1) := by decide +kernel
theorem dX3_shutUpTo_8 : decode cX3_shutUpTo 8 = .ok (.istore_n 3, 1) := by decide +kernel
theorem dX3_shutUpTo_9 : decode cX3_shutUpTo 9 = .ok (.iload_n 3, 1) := by decide +kernel
theorem dX3_shutUpTo_10 : decode cX3_shutUpTo 10 = .ok (.aload_n 0, 1) := by decide +kernel
theorem dX3_shutUpTo_11 : decode cX3_shutUpTo 11 = .ok (.getfield 25, 3) := by decide +kernel
theorem dX3_shutUpTo_14 : decode cX3_shutUpTo 14 = .ok (.if_icmp .ge 30, 3) := by decide +kernel
theorem dX3_shutUpTo_17 : decode cX3_shutUpTo 17 = .ok (.iload_n 2, 1) := by decide +kernel
theorem dX3_shutUpTo_18 : decode cX3_shutUpTo 18 = .ok (.aload_n 0, 1) := by decide +kernel
theorem dX3_shutUpTo_19 : decode cX3_shutUpTo 19 = .ok (.aload_n 0, 1) := by decide +kernel
theorem dX3_shutUpTo_20 : decode cX3_shutUpTo 20 = .ok (.getfield 22, 3) := by decide +kernel
theorem dX3_shutUpTo_23 : decode cX3_shutUpTo 23 = .ok (.iload_n 3, 1) := by decide +kernel
theorem dX3_shutUpTo_24 : decode cX3_shutUpTo 24 = .ok (.iaload, 1) := by decide +kernel
theorem dX3_shutUpTo_25 : decode cX3_shutUpTo 25 = .ok (.invokevirtual 44, 3) := by decide +kernel
theorem dX3_shutUpTo_28 : decode cX3_shutUpTo 28 = .ok (.ifCond .eq 7, 3) := by decide +kernel
theorem dX3_shutUpTo_31 : decode cX3_shutUpTo 31 = .ok (.iconst 1, 1) := by decide +kernel
theorem dX3_shutUpTo_32 : decode cX3_shutUpTo 32 = .ok (.goto 4, 3) := by decide +kernel
theorem dX3_shutUpTo_35 : decode cX3_shutUpTo 35 = .ok (.iconst 0, 1) := by decide +kernel
theorem dX3_shutUpTo_36 : decode cX3_shutUpTo 36 = .ok (.iadd, 1) := by decide +kernel
theorem dX3_shutUpTo_37 : decode cX3_shutUpTo 37 = .ok (.istore_n 2, 1) := by decide +kernel
theorem dX3_shutUpTo_38 : decode cX3_shutUpTo 38 = .ok (.iinc 3 1, 3) := by decide +kernel
theorem dX3_shutUpTo_41 : decode cX3_shutUpTo 41 = .ok (.goto (-32), 3) := by decide +kernel
theorem dX3_shutUpTo_44 : decode cX3_shutUpTo 44 = .ok (.iload_n 2, 1) := by decide +kernel
theorem dX3_shutUpTo_45 : decode cX3_shutUpTo 45 = .ok (.ireturn, 1) := by decide +kernel
theorem dX3_sum_0 : decode cX3_sum 0 = .ok (.lconst 0, 1) := by decide +kernel
theorem dX3_sum_1 : decode cX3_sum 1 = .ok (.lstore 4, 2) := by decide +kernel
theorem dX3_sum_3 : decode cX3_sum 3 = .ok (.iconst 0, 1) := by decide +kernel
theorem dX3_sum_4 : decode cX3_sum 4 = .ok (.istore 6, 2) := by decide +kernel
theorem dX3_sum_6 : decode cX3_sum 6 = .ok (.iload 6, 2) := by decide +kernel
theorem dX3_sum_8 : decode cX3_sum 8 = .ok (.aload_n 0, 1) := by decide +kernel
theorem dX3_sum_9 : decode cX3_sum 9 = .ok (.getfield 25, 3) := by decide +kernel
theorem dX3_sum_12 : decode cX3_sum 12 = .ok (.if_icmp .ge 60, 3) := by decide +kernel
theorem dX3_sum_15 : decode cX3_sum 15 = .ok (.iload_n 3, 1) := by decide +kernel
theorem dX3_sum_16 : decode cX3_sum 16 = .ok (.ifCond .eq 13, 3) := by decide +kernel
theorem dX3_sum_19 : decode cX3_sum 19 = .ok (.aload_n 0, 1) := by decide +kernel
theorem dX3_sum_20 : decode cX3_sum 20 = .ok (.getfield 11, 3) := by decide +kernel
theorem dX3_sum_23 : decode cX3_sum 23 = .ok (.iload 6, 2) := by decide +kernel
theorem dX3_sum_25 : decode cX3_sum 25 = .ok (.iaload, 1) := by decide +kernel
theorem dX3_sum_26 : decode cX3_sum 26 = .ok (.goto 10, 3) := by decide +kernel
theorem dX3_sum_29 : decode cX3_sum 29 = .ok (.aload_n 0, 1) := by decide +kernel
theorem dX3_sum_30 : decode cX3_sum 30 = .ok (.getfield 15, 3) := by decide +kernel
theorem dX3_sum_33 : decode cX3_sum 33 = .ok (.iload 6, 2) := by decide +kernel
theorem dX3_sum_35 : decode cX3_sum 35 = .ok (.iaload, 1) := by decide +kernel
theorem dX3_sum_36 : decode cX3_sum 36 = .ok (.istore 7, 2) := by decide +kernel
theorem dX3_sum_38 : decode cX3_sum 38 = .ok (.lload 4, 2) := by decide +kernel
theorem dX3_sum_40 : decode cX3_sum 40 = .ok (.iload 7, 2) := by decide +kernel
theorem dX3_sum_42 : decode cX3_sum 42 = .ok (.iload_n 1, 1) := by decide +kernel
theorem dX3_sum_43 : decode cX3_sum 43 = .ok (.if_icmp .lt 19, 3) := by decide +kernel
theorem dX3_sum_46 : decode cX3_sum 46 = .ok (.iload 7, 2) := by decide +kernel
theorem dX3_sum_48 : decode cX3_sum 48 = .ok (.iload_n 2, 1) := by decide +kernel
theorem dX3_sum_49 : decode cX3_sum 49 = .ok (.if_icmp .gt 13, 3) := by decide +kernel
theorem dX3_sum_52 : decode cX3_sum 52 = .ok (.aload_n 0, 1) := by decide +kernel
theorem dX3_sum_53 : decode cX3_sum 53 = .ok (.getfield 18, 3) := by decide +kernel
theorem dX3_sum_56 : decode cX3_sum 56 = .ok (.iload 6, 2) := by decide +kernel
theorem dX3_sum_58 : decode cX3_sum 58 = .ok (.laload, 1) := by decide +kernel
theorem dX3_sum_59 : decode cX3_sum 59 = .ok (.goto 4, 3) := by decide +kernel
theorem dX3_sum_62 : decode cX3_sum 62 = .ok (.lconst 0, 1) := by decide +kernel
theorem dX3_sum_63 : decode cX3_sum 63 = .ok (.ladd, 1) := by decide +kernel
theorem dX3_sum_64 : decode cX3_sum 64 = .ok (.lstore 4, 2) := by decide +kernel
theorem dX3_sum_66 : decode cX3_sum 66 = .ok (.iinc 6 1, 3) := by decide +kernel
theorem dX3_sum_69 : decode cX3_sum 69 = .ok (.goto (-63), 3) := by decide +kernel
theorem dX3_sum_72 : decode cX3_sum 72 = .ok (.lload 4, 2) := by decide +kernel
theorem dX3_sum_74 : decode cX3_sum 74 = .ok (.lreturn, 1) := by decide +kernel
theorem dX3_leastAbove_0 : decode cX3_leastAbove 0 = .ok (.bipush 100, 2) := by decide +kernel
theorem dX3_leastAbove_2 : decode cX3_leastAbove 2 = .ok (.istore_n 2, 1) := by decide +kernel
theorem dX3_leastAbove_3 : decode cX3_leastAbove 3 = .ok (.iconst 0, 1) := by decide +kernel
theorem dX3_leastAbove_4 : decode cX3_leastAbove 4 = .ok (.istore_n 3, 1) := by decide +kernel
theorem dX3_leastAbove_5 : decode cX3_leastAbove 5 = .ok (.iload_n 3, 1) := by decide +kernel
theorem dX3_leastAbove_6 : decode cX3_leastAbove 6 = .ok (.aload_n 0, 1) := by decide +kernel
theorem dX3_leastAbove_7 : decode cX3_leastAbove 7 = .ok (.getfield 25, 3) := by decide +kernel
theorem dX3_leastAbove_10 : decode cX3_leastAbove 10 = .ok (.if_icmp .ge 51, 3) := by decide +kernel
theorem dX3_leastAbove_13 : decode cX3_leastAbove 13 = .ok (.aload_n 0, 1) := by decide +kernel
theorem dX3_leastAbove_14 : decode cX3_leastAbove 14 = .ok (.getfield 11, 3) := by decide +kernel
theorem dX3_leastAbove_17 : decode cX3_leastAbove 17 = .ok (.iload_n 3, 1) := by decide +kernel
theorem dX3_leastAbove_18 : decode cX3_leastAbove 18 = .ok (.iaload, 1) := by decide +kernel
theorem dX3_leastAbove_19 : decode cX3_leastAbove 19 = .ok (.iload_n 1, 1) := by decide +kernel
theorem dX3_leastAbove_20 : decode cX3_leastAbove 20 = .ok (.if_icmp .le 14, 3) := by decide +kernel
theorem dX3_leastAbove_23 : decode cX3_leastAbove 23 = .ok (.iload_n 2, 1) := by decide +kernel
theorem dX3_leastAbove_24 : decode cX3_leastAbove 24 = .ok (.aload_n 0, 1) := by decide +kernel
theorem dX3_leastAbove_25 : decode cX3_leastAbove 25 = .ok (.getfield 11, 3) := by decide +kernel
theorem dX3_leastAbove_28 : decode cX3_leastAbove 28 = .ok (.iload_n 3, 1) := by decide +kernel
theorem dX3_leastAbove_29 : decode cX3_leastAbove 29 = .ok (.iaload, 1) := by decide +kernel
theorem dX3_leastAbove_30 : decode cX3_leastAbove 30 = .ok (.invokestatic 48, 3) := by decide +kernel
theorem dX3_leastAbove_33 : decode cX3_leastAbove 33 = .ok (.istore_n 2, 1) := by decide +kernel
theorem dX3_leastAbove_34 : decode cX3_leastAbove 34 = .ok (.aload_n 0, 1) := by decide +kernel
theorem dX3_leastAbove_35 : decode cX3_leastAbove 35 = .ok (.getfield 15, 3) := by decide +kernel
theorem dX3_leastAbove_38 : decode cX3_leastAbove 38 = .ok (.iload_n 3, 1) := by decide +kernel
theorem dX3_leastAbove_39 : decode cX3_leastAbove 39 = .ok (.iaload, 1) := by decide +kernel
theorem dX3_leastAbove_40 : decode cX3_leastAbove 40 = .ok (.iload_n 1, 1) := by decide +kernel
theorem dX3_leastAbove_41 : decode cX3_leastAbove 41 = .ok (.if_icmp .le 14, 3) := by decide +kernel
theorem dX3_leastAbove_44 : decode cX3_leastAbove 44 = .ok (.iload_n 2, 1) := by decide +kernel
theorem dX3_leastAbove_45 : decode cX3_leastAbove 45 = .ok (.aload_n 0, 1) := by decide +kernel
theorem dX3_leastAbove_46 : decode cX3_leastAbove 46 = .ok (.getfield 15, 3) := by decide +kernel
theorem dX3_leastAbove_49 : decode cX3_leastAbove 49 = .ok (.iload_n 3, 1) := by decide +kernel
theorem dX3_leastAbove_50 : decode cX3_leastAbove 50 = .ok (.iaload, 1) := by decide +kernel
theorem dX3_leastAbove_51 : decode cX3_leastAbove 51 = .ok (.invokestatic 48, 3) := by decide +kernel
theorem dX3_leastAbove_54 : decode cX3_leastAbove 54 = .ok (.istore_n 2, 1) := by decide +kernel
theorem dX3_leastAbove_55 : decode cX3_leastAbove 55 = .ok (.iinc 3 1, 3) := by decide +kernel
theorem dX3_leastAbove_58 : decode cX3_leastAbove 58 = .ok (.goto (-53), 3) := by decide +kernel
theorem dX3_leastAbove_61 : decode cX3_leastAbove 61 = .ok (.iload_n 2, 1) := by decide +kernel
theorem dX3_leastAbove_62 : decode cX3_leastAbove 62 = .ok (.ireturn, 1) := by decide +kernel
theorem dX3_isEven_0 : decode cX3_isEven 0 = .ok (.aload_n 0, 1) := by decide +kernel
theorem dX3_isEven_1 : decode cX3_isEven 1 = .ok (.iconst 0, 1) := by decide +kernel
theorem dX3_isEven_2 : decode cX3_isEven 2 = .ok (.bipush 99, 2) := by decide +kernel
theorem dX3_isEven_4 : decode cX3_isEven 4 = .ok (.iconst 1, 1) := by decide +kernel
theorem dX3_isEven_5 : decode cX3_isEven 5 = .ok (.invokevirtual 54, 3) := by decide +kernel
theorem dX3_isEven_8 : decode cX3_isEven 8 = .ok (.aload_n 0, 1) := by decide +kernel
theorem dX3_isEven_9 : decode cX3_isEven 9 = .ok (.iconst 0, 1) := by decide +kernel
theorem dX3_isEven_10 : decode cX3_isEven 10 = .ok (.bipush 99, 2) := by decide +kernel
theorem dX3_isEven_12 : decode cX3_isEven 12 = .ok (.iconst 0, 1) := by decide +kernel
theorem dX3_isEven_13 : decode cX3_isEven 13 = .ok (.invokevirtual 54, 3) := by decide +kernel
theorem dX3_isEven_16 : decode cX3_isEven 16 = .ok (.lcmp, 1) := by decide +kernel
theorem dX3_isEven_17 : decode cX3_isEven 17 = .ok (.ifCond .ne 7, 3) := by decide +kernel
theorem dX3_isEven_20 : decode cX3_isEven 20 = .ok (.iconst 1, 1) := by decide +kernel
theorem dX3_isEven_21 : decode cX3_isEven 21 = .ok (.goto 4, 3) := by decide +kernel
theorem dX3_isEven_24 : decode cX3_isEven 24 = .ok (.iconst 0, 1) := by decide +kernel
theorem dX3_isEven_25 : decode cX3_isEven 25 = .ok (.ireturn, 1) := by decide +kernel
theorem dX4_init_0 : decode cX4_init 0 = .ok (.aload_n 0, 1) := by decide +kernel
theorem dX4_init_1 : decode cX4_init 1 = .ok (.invokespecial 1, 3) := by decide +kernel
theorem dX4_init_4 : decode cX4_init 4 = .ok (.aload_n 0, 1) := by decide +kernel
theorem dX4_init_5 : decode cX4_init 5 = .ok (.bipush 120, 2) := by decide +kernel
theorem dX4_init_7 : decode cX4_init 7 = .ok (.newarray .long, 2) := by decide +kernel
theorem dX4_init_9 : decode cX4_init 9 = .ok (.putfield 9, 3) := by decide +kernel
theorem dX4_init_12 : decode cX4_init 12 = .ok (.aload_n 0, 1) := by decide +kernel
theorem dX4_init_13 : decode cX4_init 13 = .ok (.bipush 120, 2) := by decide +kernel
theorem dX4_init_15 : decode cX4_init 15 = .ok (.newarray .long, 2) := by decide +kernel
theorem dX4_init_17 : decode cX4_init 17 = .ok (.putfield 13, 3) := by decide +kernel
theorem dX4_init_20 : decode cX4_init 20 = .ok (.aload_n 0, 1) := by decide +kernel
theorem dX4_init_21 : decode cX4_init 21 = .ok (.bipush 120, 2) := by decide +kernel
theorem dX4_init_23 : decode cX4_init 23 = .ok (.newarray .long, 2) := by decide +kernel
theorem dX4_init_25 : decode cX4_init 25 = .ok (.putfield 16, 3) := by decide +kernel
theorem dX4_init_28 : decode cX4_init 28 = .ok (.aload_n 0, 1) := by decide +kernel
theorem dX4_init_29 : decode cX4_init 29 = .ok (.iconst 0, 1) := by decide +kernel
theorem dX4_init_30 : decode cX4_init 30 = .ok (.putfield 19, 3) := by decide +kernel
theorem dX4_init_33 : decode cX4_init 33 = .ok (.aload_n 0, 1) := by decide +kernel
theorem dX4_init_34 : decode cX4_init 34 = .ok (.lconst 0, 1) := by decide +kernel
theorem dX4_init_35 : decode cX4_init 35 = .ok (.putfield 23, 3) := by decide +kernel
theorem dX4_init_38 : decode cX4_init 38 = .ok (.return_, 1) := by decide +kernel
theorem dX4_monthOf_0 : decode cX4_monthOf 0 = .ok (.lload_n 0, 1) := by decide +kernel
theorem dX4_monthOf_1 : decode cX4_monthOf 1 = .ok (.iload_n 2, 1) := by decide +kernel
theorem dX4_monthOf_2 : decode cX4_monthOf 2 = .ok (.i2l, 1) := by decide +kernel
theorem dX4_monthOf_3 : decode cX4_monthOf 3 = .ok (.lmul, 1) := by decide +kernel
theorem dX4_monthOf_4 : decode cX4_monthOf 4 = .ok (.ldc2_w 27, 3) := by decide +kernel
theorem dX4_monthOf_7 : decode cX4_monthOf 7 = .ok (.bipush 101, 2) := by decide +kernel
theorem dX4_monthOf_9 : decode cX4_monthOf 9 = .ok (.invokestatic 29, 3) := by decide +kernel
theorem dX4_monthOf_12 : decode cX4_monthOf 12 = .ok (.lreturn, 1) := by decide +kernel
theorem dX4_paidOf_0 : decode cX4_paidOf 0 = .ok (.lload_n 0, 1) := by decide +kernel
theorem dX4_paidOf_1 : decode cX4_paidOf 1 = .ok (.lload_n 3, 1) := by decide +kernel
theorem dX4_paidOf_2 : decode cX4_paidOf 2 = .ok (.lload_n 0, 1) := by decide +kernel
theorem dX4_paidOf_3 : decode cX4_paidOf 3 = .ok (.iload_n 2, 1) := by decide +kernel
theorem dX4_paidOf_4 : decode cX4_paidOf 4 = .ok (.invokestatic 35, 3) := by decide +kernel
theorem dX4_paidOf_7 : decode cX4_paidOf 7 = .ok (.lsub, 1) := by decide +kernel
theorem dX4_paidOf_8 : decode cX4_paidOf 8 = .ok (.invokestatic 39, 3) := by decide +kernel
theorem dX4_paidOf_11 : decode cX4_paidOf 11 = .ok (.lreturn, 1) := by decide +kernel
theorem dX4_countFor_0 : decode cX4_countFor 0 = .ok (.lload_n 0, 1) := by decide +kernel
theorem dX4_countFor_1 : decode cX4_countFor 1 = .ok (.lstore 5, 2) := by decide +kernel
theorem dX4_countFor_3 : decode cX4_countFor 3 = .ok (.iconst 0, 1) := by decide +kernel
theorem dX4_countFor_4 : decode cX4_countFor 4 = .ok (.istore 7, 2) := by decide +kernel
theorem dX4_countFor_6 : decode cX4_countFor 6 = .ok (.lload 5, 2) := by decide +kernel
theorem dX4_countFor_8 : decode cX4_countFor 8 = .ok (.lconst 0, 1) := by decide +kernel
theorem dX4_countFor_9 : decode cX4_countFor 9 = .ok (.lcmp, 1) := by decide +kernel
theorem dX4_countFor_10 : decode cX4_countFor 10 = .ok (.ifCond .le 28, 3) := by decide +kernel
theorem dX4_countFor_13 : decode cX4_countFor 13 = .ok (.iload 7, 2) := by decide +kernel
theorem dX4_countFor_15 : decode cX4_countFor 15 = .ok (.bipush 120, 2) := by decide +kernel
theorem dX4_countFor_17 : decode cX4_countFor 17 = .ok (.if_icmp .gt 21, 3) := by decide +kernel
theorem dX4_countFor_20 : decode cX4_countFor 20 = .ok (.lload 5, 2) := by decide +kernel
theorem dX4_countFor_22 : decode cX4_countFor 22 = .ok (.lload 5, 2) := by decide +kernel
theorem dX4_countFor_24 : decode cX4_countFor 24 = .ok (.iload_n 2, 1) := by decide +kernel
theorem dX4_countFor_25 : decode cX4_countFor 25 = .ok (.lload_n 3, 1) := by decide +kernel
theorem dX4_countFor_26 : decode cX4_countFor 26 = .ok (.invokestatic 45, 3) := by decide +kernel
theorem dX4_countFor_29 : decode cX4_countFor 29 = .ok (.lsub, 1) := by decide +kernel
theorem dX4_countFor_30 : decode cX4_countFor 30 = .ok (.lstore 5, 2) := by decide +kernel
theorem dX4_countFor_32 : decode cX4_countFor 32 = .ok (.iinc 7 1, 3) := by decide +kernel
theorem dX4_countFor_35 : decode cX4_countFor 35 = .ok (.goto (-29), 3) := by decide +kernel
theorem dX4_countFor_38 : decode cX4_countFor 38 = .ok (.iload 7, 2) := by decide +kernel
theorem dX4_countFor_40 : decode cX4_countFor 40 = .ok (.ireturn, 1) := by decide +kernel
theorem dX4_fill_0 : decode cX4_fill 0 = .ok (.lload_n 1, 1) := by decide +kernel
theorem dX4_fill_1 : decode cX4_fill 1 = .ok (.lstore 6, 2) := by decide +kernel
theorem dX4_fill_3 : decode cX4_fill 3 = .ok (.iconst 0, 1) := by decide +kernel
theorem dX4_fill_4 : decode cX4_fill 4 = .ok (.istore 8, 2) := by decide +kernel
theorem dX4_fill_6 : decode cX4_fill 6 = .ok (.lload 6, 2) := by decide +kernel
theorem dX4_fill_8 : decode cX4_fill 8 = .ok (.lconst 0, 1) := by decide +kernel
theorem dX4_fill_9 : decode cX4_fill 9 = .ok (.lcmp, 1) := by decide +kernel
theorem dX4_fill_10 : decode cX4_fill 10 = .ok (.ifCond .le 65, 3) := by decide +kernel
theorem dX4_fill_13 : decode cX4_fill 13 = .ok (.iload 8, 2) := by decide +kernel
theorem dX4_fill_15 : decode cX4_fill 15 = .ok (.bipush 120, 2) := by decide +kernel
theorem dX4_fill_17 : decode cX4_fill 17 = .ok (.if_icmp .ge 58, 3) := by decide +kernel
theorem dX4_fill_20 : decode cX4_fill 20 = .ok (.aload_n 0, 1) := by decide +kernel
theorem dX4_fill_21 : decode cX4_fill 21 = .ok (.getfield 9, 3) := by decide +kernel
theorem dX4_fill_24 : decode cX4_fill 24 = .ok (.iload 8, 2) := by decide +kernel
theorem dX4_fill_26 : decode cX4_fill 26 = .ok (.lload 6, 2) := by decide +kernel
theorem dX4_fill_28 : decode cX4_fill 28 = .ok (.iload_n 3, 1) := by decide +kernel
theorem dX4_fill_29 : decode cX4_fill 29 = .ok (.invokestatic 35, 3) := by decide +kernel
theorem dX4_fill_32 : decode cX4_fill 32 = .ok (.lastore, 1) := by decide +kernel
theorem dX4_fill_33 : decode cX4_fill 33 = .ok (.aload_n 0, 1) := by decide +kernel
theorem dX4_fill_34 : decode cX4_fill 34 = .ok (.getfield 13, 3) := by decide +kernel
theorem dX4_fill_37 : decode cX4_fill 37 = .ok (.iload 8, 2) := by decide +kernel
theorem dX4_fill_39 : decode cX4_fill 39 = .ok (.lload 6, 2) := by decide +kernel
theorem dX4_fill_41 : decode cX4_fill 41 = .ok (.iload_n 3, 1) := by decide +kernel
theorem dX4_fill_42 : decode cX4_fill 42 = .ok (.lload 4, 2) := by decide +kernel
theorem dX4_fill_44 : decode cX4_fill 44 = .ok (.invokestatic 45, 3) := by decide +kernel
theorem dX4_fill_47 : decode cX4_fill 47 = .ok (.lastore, 1) := by decide +kernel
theorem dX4_fill_48 : decode cX4_fill 48 = .ok (.lload 6, 2) := by decide +kernel
theorem dX4_fill_50 : decode cX4_fill 50 = .ok (.aload_n 0, 1) := by decide +kernel
theorem dX4_fill_51 : decode cX4_fill 51 = .ok (.getfield 13, 3) := by decide +kernel
theorem dX4_fill_54 : decode cX4_fill 54 = .ok (.iload 8, 2) := by decide +kernel
theorem dX4_fill_56 : decode cX4_fill 56 = .ok (.laload, 1) := by decide +kernel
theorem dX4_fill_57 : decode cX4_fill 57 = .ok (.lsub, 1) := by decide +kernel
theorem dX4_fill_58 : decode cX4_fill 58 = .ok (.lstore 6, 2) := by decide +kernel
theorem dX4_fill_60 : decode cX4_fill 60 = .ok (.aload_n 0, 1) := by decide +kernel
theorem dX4_fill_61 : decode cX4_fill 61 = .ok (.getfield 16, 3) := by decide +kernel
theorem dX4_fill_64 : decode cX4_fill 64 = .ok (.iload 8, 2) := by decide +kernel
theorem dX4_fill_66 : decode cX4_fill 66 = .ok (.lload 6, 2) := by decide +kernel
theorem dX4_fill_68 : decode cX4_fill 68 = .ok (.lastore, 1) := by decide +kernel
theorem dX4_fill_69 : decode cX4_fill 69 = .ok (.iinc 8 1, 3) := by decide +kernel
theorem dX4_fill_72 : decode cX4_fill 72 = .ok (.goto (-66), 3) := by decide +kernel
theorem dX4_fill_75 : decode cX4_fill 75 = .ok (.aload_n 0, 1) := by decide +kernel
theorem dX4_fill_76 : decode cX4_fill 76 = .ok (.lload_n 1, 1) := by decide +kernel
theorem dX4_fill_77 : decode cX4_fill 77 = .ok (.putfield 23, 3) := by decide +kernel
theorem dX4_fill_80 : decode cX4_fill 80 = .ok (.aload_n 0, 1) := by decide +kernel
theorem dX4_fill_81 : decode cX4_fill 81 = .ok (.iload 8, 2) := by decide +kernel
theorem dX4_fill_83 : decode cX4_fill 83 = .ok (.putfield 19, 3) := by decide +kernel
theorem dX4_fill_86 : decode cX4_fill 86 = .ok (.aload_n 0, 1) := by decide +kernel
theorem dX4_fill_87 : decode cX4_fill 87 = .ok (.getfield 19, 3) := by decide +kernel
theorem dX4_fill_90 : decode cX4_fill 90 = .ok (.ireturn, 1) := by decide +kernel
theorem dX4_comesToNothing_0 : decode cX4_comesToNothing 0 = .ok (.aload_n 0, 1) := by decide +kernel
theorem dX4_comesToNothing_1 : decode cX4_comesToNothing 1 = .ok (.getfield 23, 3) := by decide +kernel
theorem dX4_comesToNothing_4 : decode cX4_comesToNothing 4 = .ok (.lstore_n 1, 1) := by decide +kernel
theorem dX4_comesToNothing_5 : decode cX4_comesToNothing 5 = .ok (.iconst 0, 1) := by decide +kernel
theorem dX4_comesToNothing_6 : decode cX4_comesToNothing 6 = .ok (.istore_n 3, 1) := by decide +kernel
theorem dX4_comesToNothing_7 : decode cX4_comesToNothing 7 = .ok (.iload_n 3, 1) := by decide +kernel
theorem dX4_comesToNothing_8 : decode cX4_comesToNothing 8 = .ok (.aload_n 0, 1) := by decide +kernel
theorem dX4_comesToNothing_9 : decode cX4_comesToNothing 9 = .ok (.getfield 19, 3) := by decide +kernel
theorem dX4_comesToNothing_12 : decode cX4_comesToNothing 12 = .ok (.if_icmp .ge 36, 3) := by decide +kernel
theorem dX4_comesToNothing_15 : decode cX4_comesToNothing 15 = .ok (.aload_n 0, 1) := by decide +kernel
theorem dX4_comesToNothing_16 : decode cX4_comesToNothing 16 = .ok (.getfield 16, 3) := by decide +kernel
theorem dX4_comesToNothing_19 : decode cX4_comesToNothing 19 = .ok (.iload_n 3, 1) := by decide +kernel
theorem dX4_comesToNothing_20 : decode cX4_comesToNothing 20 = .ok (.laload, 1) := by decide +kernel
theorem dX4_comesToNothing_21 : decode cX4_comesToNothing 21 = .ok (.lload_n 1, 1) := by decide +kernel
theorem dX4_comesToNothing_22 : decode cX4_comesToNothing 22 = .ok (.aload_n 0, 1) := by decide +kernel
theorem dX4_comesToNothing_23 : decode cX4_comesToNothing 23 = .ok (.getfield 13, 3) := by decide +kernel
theorem dX4_comesToNothing_26 : decode cX4_comesToNothing 26 = .ok (.iload_n 3, 1) := by decide +kernel
theorem dX4_comesToNothing_27 : decode cX4_comesToNothing 27 = .ok (.laload, 1) := by decide +kernel
theorem dX4_comesToNothing_28 : decode cX4_comesToNothing 28 = .ok (.lsub, 1) := by decide +kernel
theorem dX4_comesToNothing_29 : decode cX4_comesToNothing 29 = .ok (.lcmp, 1) := by decide +kernel
theorem dX4_comesToNothing_30 : decode cX4_comesToNothing 30 = .ok (.ifCond .eq 5, 3) := by decide +kernel
theorem dX4_comesToNothing_33 : decode cX4_comesToNothing 33 = .ok (.iconst 0, 1) := by decide +kernel
theorem dX4_comesToNothing_34 : decode cX4_comesToNothing 34 = .ok (.ireturn, 1) := by decide +kernel
theorem dX4_comesToNothing_35 : decode cX4_comesToNothing 35 = .ok (.aload_n 0, 1) := by decide +kernel
theorem dX4_comesToNothing_36 : decode cX4_comesToNothing 36 = .ok (.getfield 16, 3) := by decide +kernel
theorem dX4_comesToNothing_39 : decode cX4_comesToNothing 39 = .ok (.iload_n 3, 1) := by decide +kernel
theorem dX4_comesToNothing_40 : decode cX4_comesToNothing 40 = .ok (.laload, 1) := by decide +kernel
theorem dX4_comesToNothing_41 : decode cX4_comesToNothing 41 = .ok (.lstore_n 1, 1) := by decide +kernel
theorem dX4_comesToNothing_42 : decode cX4_comesToNothing 42 = .ok (.iinc 3 1, 3) := by decide +kernel
theorem dX4_comesToNothing_45 : decode cX4_comesToNothing 45 = .ok (.goto (-38), 3) := by decide +kernel
theorem dX4_comesToNothing_48 : decode cX4_comesToNothing 48 = .ok (.lload_n 1, 1) := by decide +kernel
theorem dX4_comesToNothing_49 : decode cX4_comesToNothing 49 = .ok (.lconst 0, 1) := by decide +kernel
theorem dX4_comesToNothing_50 : decode cX4_comesToNothing 50 = .ok (.lcmp, 1) := by decide +kernel
theorem dX4_comesToNothing_51 : decode cX4_comesToNothing 51 = .ok (.ifCond .ne 7, 3) := by decide +kernel
theorem dX4_comesToNothing_54 : decode cX4_comesToNothing 54 = .ok (.iconst 1, 1) := by decide +kernel
theorem dX4_comesToNothing_55 : decode cX4_comesToNothing 55 = .ok (.goto 4, 3) := by decide +kernel
theorem dX4_comesToNothing_58 : decode cX4_comesToNothing 58 = .ok (.iconst 0, 1) := by decide +kernel
theorem dX4_comesToNothing_59 : decode cX4_comesToNothing 59 = .ok (.ireturn, 1) := by decide +kernel
theorem dX5_init_0 : decode cX5_init 0 = .ok (.aload_n 0, 1) := by decide +kernel
theorem dX5_init_1 : decode cX5_init 1 = .ok (.invokespecial 3, 3) := by decide +kernel
theorem dX5_init_4 : decode cX5_init 4 = .ok (.lload_n 1, 1) := by decide +kernel
theorem dX5_init_5 : decode cX5_init 5 = .ok (.ldc2_w 11, 3) := by decide +kernel
theorem dX5_init_8 : decode cX5_init 8 = .ok (.ldiv, 1) := by decide +kernel
theorem dX5_init_9 : decode cX5_init 9 = .ok (.lstore 5, 2) := by decide +kernel
theorem dX5_init_11 : decode cX5_init 11 = .ok (.lload_n 1, 1) := by decide +kernel
theorem dX5_init_12 : decode cX5_init 12 = .ok (.ldc2_w 11, 3) := by decide +kernel
theorem dX5_init_15 : decode cX5_init 15 = .ok (.lrem, 1) := by decide +kernel
theorem dX5_init_16 : decode cX5_init 16 = .ok (.lstore 7, 2) := by decide +kernel
theorem dX5_init_18 : decode cX5_init 18 = .ok (.lload_n 3, 1) := by decide +kernel
theorem dX5_init_19 : decode cX5_init 19 = .ok (.ldc2_w 11, 3) := by decide +kernel
theorem dX5_init_22 : decode cX5_init 22 = .ok (.ldiv, 1) := by decide +kernel
theorem dX5_init_23 : decode cX5_init 23 = .ok (.lstore 9, 2) := by decide +kernel
theorem dX5_init_25 : decode cX5_init 25 = .ok (.lload_n 3, 1) := by decide +kernel
theorem dX5_init_26 : decode cX5_init 26 = .ok (.ldc2_w 11, 3) := by decide +kernel
theorem dX5_init_29 : decode cX5_init 29 = .ok (.lrem, 1) := by decide +kernel
theorem dX5_init_30 : decode cX5_init 30 = .ok (.lstore 11, 2) := by decide +kernel
theorem dX5_init_32 : decode cX5_init 32 = .ok (.lload 5, 2) := by decide +kernel
theorem dX5_init_34 : decode cX5_init 34 = .ok (.lload 11, 2) := by decide +kernel
theorem dX5_init_36 : decode cX5_init 36 = .ok (.lmul, 1) := by decide +kernel
theorem dX5_init_37 : decode cX5_init 37 = .ok (.lload 7, 2) := by decide +kernel
theorem dX5_init_39 : decode cX5_init 39 = .ok (.lload 9, 2) := by decide +kernel
theorem dX5_init_41 : decode cX5_init 41 = .ok (.lmul, 1) := by decide +kernel
theorem dX5_init_42 : decode cX5_init 42 = .ok (.ladd, 1) := by decide +kernel
theorem dX5_init_43 : decode cX5_init 43 = .ok (.lstore 13, 2) := by decide +kernel
theorem dX5_init_45 : decode cX5_init 45 = .ok (.lload 13, 2) := by decide +kernel
theorem dX5_init_47 : decode cX5_init 47 = .ok (.ldc2_w 11, 3) := by decide +kernel
theorem dX5_init_50 : decode cX5_init 50 = .ok (.lrem, 1) := by decide +kernel
theorem dX5_init_51 : decode cX5_init 51 = .ok (.ldc2_w 11, 3) := by decide +kernel
theorem dX5_init_54 : decode cX5_init 54 = .ok (.lmul, 1) := by decide +kernel
theorem dX5_init_55 : decode cX5_init 55 = .ok (.lload 7, 2) := by decide +kernel
theorem dX5_init_57 : decode cX5_init 57 = .ok (.lload 11, 2) := by decide +kernel
theorem dX5_init_59 : decode cX5_init 59 = .ok (.lmul, 1) := by decide +kernel
theorem dX5_init_60 : decode cX5_init 60 = .ok (.ladd, 1) := by decide +kernel
theorem dX5_init_61 : decode cX5_init 61 = .ok (.lstore 15, 2) := by decide +kernel
theorem dX5_init_63 : decode cX5_init 63 = .ok (.aload_n 0, 1) := by decide +kernel
theorem dX5_init_64 : decode cX5_init 64 = .ok (.lload 5, 2) := by decide +kernel
theorem dX5_init_66 : decode cX5_init 66 = .ok (.lload 9, 2) := by decide +kernel
theorem dX5_init_68 : decode cX5_init 68 = .ok (.lmul, 1) := by decide +kernel
theorem dX5_init_69 : decode cX5_init 69 = .ok (.lload 13, 2) := by decide +kernel
theorem dX5_init_71 : decode cX5_init 71 = .ok (.ldc2_w 11, 3) := by decide +kernel
theorem dX5_init_74 : decode cX5_init 74 = .ok (.ldiv, 1) := by decide +kernel
theorem dX5_init_75 : decode cX5_init 75 = .ok (.ladd, 1) := by decide +kernel
theorem dX5_init_76 : decode cX5_init 76 = .ok (.lload 15, 2) := by decide +kernel
theorem dX5_init_78 : decode cX5_init 78 = .ok (.ldc2_w 13, 3) := by decide +kernel
theorem dX5_init_81 : decode cX5_init 81 = .ok (.ldiv, 1) := by decide +kernel
theorem dX5_init_82 : decode cX5_init 82 = .ok (.ladd, 1) := by decide +kernel
theorem dX5_init_83 : decode cX5_init 83 = .ok (.putfield 15, 3) := by decide +kernel
theorem dX5_init_86 : decode cX5_init 86 = .ok (.aload_n 0, 1) := by decide +kernel
theorem dX5_init_87 : decode cX5_init 87 = .ok (.lload 15, 2) := by decide +kernel
theorem dX5_init_89 : decode cX5_init 89 = .ok (.ldc2_w 13, 3) := by decide +kernel
theorem dX5_init_92 : decode cX5_init 92 = .ok (.lrem, 1) := by decide +kernel
theorem dX5_init_93 : decode cX5_init 93 = .ok (.putfield 19, 3) := by decide +kernel
theorem dX5_init_96 : decode cX5_init 96 = .ok (.return_, 1) := by decide +kernel
theorem dX5_shifted_0 : decode cX5_shifted 0 = .ok (.iload_n 1, 1) := by decide +kernel
theorem dX5_shifted_1 : decode cX5_shifted 1 = .ok (.ifCond .ge 11, 3) := by decide +kernel
theorem dX5_shifted_4 : decode cX5_shifted 4 = .ok (.aload_n 0, 1) := by decide +kernel
theorem dX5_shifted_5 : decode cX5_shifted 5 = .ok (.iload_n 1, 1) := by decide +kernel
theorem dX5_shifted_6 : decode cX5_shifted 6 = .ok (.ineg, 1) := by decide +kernel
theorem dX5_shifted_7 : decode cX5_shifted 7 = .ok (.iload_n 2, 1) := by decide +kernel
theorem dX5_shifted_8 : decode cX5_shifted 8 = .ok (.invokevirtual 22, 3) := by decide +kernel
theorem dX5_shifted_11 : decode cX5_shifted 11 = .ok (.lreturn, 1) := by decide +kernel
theorem dX5_shifted_12 : decode cX5_shifted 12 = .ok (.aload_n 0, 1) := by decide +kernel
theorem dX5_shifted_13 : decode cX5_shifted 13 = .ok (.getfield 15, 3) := by decide +kernel
theorem dX5_shifted_16 : decode cX5_shifted 16 = .ok (.lconst 0, 1) := by decide +kernel
theorem dX5_shifted_17 : decode cX5_shifted 17 = .ok (.lcmp, 1) := by decide +kernel
theorem dX5_shifted_18 : decode cX5_shifted 18 = .ok (.ifCond .eq 13, 3) := by decide +kernel
theorem dX5_shifted_21 : decode cX5_shifted 21 = .ok (.new 26, 3) := by decide +kernel
theorem dX5_shifted_24 : decode cX5_shifted 24 = .ok (.dup, 1) := by decide +kernel
theorem dX5_shifted_25 : decode cX5_shifted 25 = .ok (.ldc 28, 2) := by decide +kernel
theorem dX5_shifted_27 : decode cX5_shifted 27 = .ok (.invokespecial 30, 3) := by decide +kernel
theorem dX5_shifted_30 : decode cX5_shifted 30 = .ok (.athrow, 1) := by decide +kernel
theorem dX5_shifted_31 : decode cX5_shifted 31 = .ok (.aload_n 0, 1) := by decide +kernel
theorem dX5_shifted_32 : decode cX5_shifted 32 = .ok (.getfield 19, 3) := by decide +kernel
theorem dX5_shifted_35 : decode cX5_shifted 35 = .ok (.iload_n 1, 1) := by decide +kernel
theorem dX5_shifted_36 : decode cX5_shifted 36 = .ok (.ldc2_w 33, 3) := by decide +kernel
theorem dX5_shifted_39 : decode cX5_shifted 39 = .ok (.invokestatic 35, 3) := by decide +kernel
theorem dX5_shifted_42 : decode cX5_shifted 42 = .ok (.lreturn, 1) := by decide +kernel
theorem dX5_shortened_0 : decode cX5_shortened 0 = .ok (.aload_n 0, 1) := by decide +kernel
theorem dX5_shortened_1 : decode cX5_shortened 1 = .ok (.iload_n 1, 1) := by decide +kernel
theorem dX5_shortened_2 : decode cX5_shortened 2 = .ok (.invokevirtual 41, 3) := by decide +kernel
theorem dX5_shortened_5 : decode cX5_shortened 5 = .ok (.aload_n 0, 1) := by decide +kernel
theorem dX5_shortened_6 : decode cX5_shortened 6 = .ok (.iload_n 1, 1) := by decide +kernel
theorem dX5_shortened_7 : decode cX5_shortened 7 = .ok (.invokevirtual 45, 3) := by decide +kernel
theorem dX5_shortened_10 : decode cX5_shortened 10 = .ok (.iconst 0, 1) := by decide +kernel
theorem dX5_shortened_11 : decode cX5_shortened 11 = .ok (.iload_n 2, 1) := by decide +kernel
theorem dX5_shortened_12 : decode cX5_shortened 12 = .ok (.invokestatic 49, 3) := by decide +kernel
theorem dX5_shortened_15 : decode cX5_shortened 15 = .ok (.lstore_n 3, 1) := by decide +kernel
theorem dX5_shortened_16 : decode cX5_shortened 16 = .ok (.lload_n 3, 1) := by decide +kernel
theorem dX5_shortened_17 : decode cX5_shortened 17 = .ok (.ldc2_w 33, 3) := by decide +kernel
theorem dX5_shortened_20 : decode cX5_shortened 20 = .ok (.lcmp, 1) := by decide +kernel
theorem dX5_shortened_21 : decode cX5_shortened 21 = .ok (.ifCond .le 13, 3) := by decide +kernel
theorem dX5_shortened_24 : decode cX5_shortened 24 = .ok (.new 26, 3) := by decide +kernel
theorem dX5_shortened_27 : decode cX5_shortened 27 = .ok (.dup, 1) := by decide +kernel
theorem dX5_shortened_28 : decode cX5_shortened 28 = .ok (.ldc 28, 2) := by decide +kernel
theorem dX5_shortened_30 : decode cX5_shortened 30 = .ok (.invokespecial 30, 3) := by decide +kernel
theorem dX5_shortened_33 : decode cX5_shortened 33 = .ok (.athrow, 1) := by decide +kernel
theorem dX5_shortened_34 : decode cX5_shortened 34 = .ok (.lload_n 3, 1) := by decide +kernel
theorem dX5_shortened_35 : decode cX5_shortened 35 = .ok (.lreturn, 1) := by decide +kernel
theorem dX5_cutBy_0 : decode cX5_cutBy 0 = .ok (.iload_n 1, 1) := by decide +kernel
theorem dX5_cutBy_1 : decode cX5_cutBy 1 = .ok (.ifCond .lt 9, 3) := by decide +kernel
theorem dX5_cutBy_4 : decode cX5_cutBy 4 = .ok (.iload_n 1, 1) := by decide +kernel
theorem dX5_cutBy_5 : decode cX5_cutBy 5 = .ok (.bipush 36, 2) := by decide +kernel
theorem dX5_cutBy_7 : decode cX5_cutBy 7 = .ok (.if_icmp .le 5, 3) := by decide +kernel
theorem dX5_cutBy_10 : decode cX5_cutBy 10 = .ok (.lconst 0, 1) := by decide +kernel
theorem dX5_cutBy_11 : decode cX5_cutBy 11 = .ok (.lreturn, 1) := by decide +kernel
theorem dX5_cutBy_12 : decode cX5_cutBy 12 = .ok (.iload_n 1, 1) := by decide +kernel
theorem dX5_cutBy_13 : decode cX5_cutBy 13 = .ok (.bipush 18, 2) := by decide +kernel
theorem dX5_cutBy_15 : decode cX5_cutBy 15 = .ok (.if_icmp .le 17, 3) := by decide +kernel
theorem dX5_cutBy_18 : decode cX5_cutBy 18 = .ok (.aload_n 0, 1) := by decide +kernel
theorem dX5_cutBy_19 : decode cX5_cutBy 19 = .ok (.getfield 15, 3) := by decide +kernel
theorem dX5_cutBy_22 : decode cX5_cutBy 22 = .ok (.getstatic 53, 3) := by decide +kernel
theorem dX5_cutBy_25 : decode cX5_cutBy 25 = .ok (.iload_n 1, 1) := by decide +kernel
theorem dX5_cutBy_26 : decode cX5_cutBy 26 = .ok (.bipush 18, 2) := by decide +kernel
theorem dX5_cutBy_28 : decode cX5_cutBy 28 = .ok (.isub, 1) := by decide +kernel
theorem dX5_cutBy_29 : decode cX5_cutBy 29 = .ok (.laload, 1) := by decide +kernel
theorem dX5_cutBy_30 : decode cX5_cutBy 30 = .ok (.ldiv, 1) := by decide +kernel
theorem dX5_cutBy_31 : decode cX5_cutBy 31 = .ok (.lreturn, 1) := by decide +kernel
theorem dX5_cutBy_32 : decode cX5_cutBy 32 = .ok (.getstatic 53, 3) := by decide +kernel
theorem dX5_cutBy_35 : decode cX5_cutBy 35 = .ok (.iload_n 1, 1) := by decide +kernel
theorem dX5_cutBy_36 : decode cX5_cutBy 36 = .ok (.laload, 1) := by decide +kernel
theorem dX5_cutBy_37 : decode cX5_cutBy 37 = .ok (.lstore_n 2, 1) := by decide +kernel
theorem dX5_cutBy_38 : decode cX5_cutBy 38 = .ok (.aload_n 0, 1) := by decide +kernel
theorem dX5_cutBy_39 : decode cX5_cutBy 39 = .ok (.getfield 15, 3) := by decide +kernel
theorem dX5_cutBy_42 : decode cX5_cutBy 42 = .ok (.lload_n 2, 1) := by decide +kernel
theorem dX5_cutBy_43 : decode cX5_cutBy 43 = .ok (.lcmp, 1) := by decide +kernel
theorem dX5_cutBy_44 : decode cX5_cutBy 44 = .ok (.ifCond .lt 13, 3) := by decide +kernel
theorem dX5_cutBy_47 : decode cX5_cutBy 47 = .ok (.new 26, 3) := by decide +kernel
theorem dX5_cutBy_50 : decode cX5_cutBy 50 = .ok (.dup, 1) := by decide +kernel
theorem dX5_cutBy_51 : decode cX5_cutBy 51 = .ok (.ldc 28, 2) := by decide +kernel
theorem dX5_cutBy_53 : decode cX5_cutBy 53 = .ok (.invokespecial 30, 3) := by decide +kernel
theorem dX5_cutBy_56 : decode cX5_cutBy 56 = .ok (.athrow, 1) := by decide +kernel
theorem dX5_cutBy_57 : decode cX5_cutBy 57 = .ok (.aload_n 0, 1) := by decide +kernel
theorem dX5_cutBy_58 : decode cX5_cutBy 58 = .ok (.getfield 15, 3) := by decide +kernel
theorem dX5_cutBy_61 : decode cX5_cutBy 61 = .ok (.getstatic 53, 3) := by decide +kernel
theorem dX5_cutBy_64 : decode cX5_cutBy 64 = .ok (.bipush 18, 2) := by decide +kernel
theorem dX5_cutBy_66 : decode cX5_cutBy 66 = .ok (.iload_n 1, 1) := by decide +kernel
theorem dX5_cutBy_67 : decode cX5_cutBy 67 = .ok (.isub, 1) := by decide +kernel
theorem dX5_cutBy_68 : decode cX5_cutBy 68 = .ok (.laload, 1) := by decide +kernel
theorem dX5_cutBy_69 : decode cX5_cutBy 69 = .ok (.lmul, 1) := by decide +kernel
theorem dX5_cutBy_70 : decode cX5_cutBy 70 = .ok (.aload_n 0, 1) := by decide +kernel
theorem dX5_cutBy_71 : decode cX5_cutBy 71 = .ok (.getfield 19, 3) := by decide +kernel
theorem dX5_cutBy_74 : decode cX5_cutBy 74 = .ok (.lload_n 2, 1) := by decide +kernel
theorem dX5_cutBy_75 : decode cX5_cutBy 75 = .ok (.ldiv, 1) := by decide +kernel
theorem dX5_cutBy_76 : decode cX5_cutBy 76 = .ok (.ladd, 1) := by decide +kernel
theorem dX5_cutBy_77 : decode cX5_cutBy 77 = .ok (.lreturn, 1) := by decide +kernel
theorem dX5_restBy_0 : decode cX5_restBy 0 = .ok (.iload_n 1, 1) := by decide +kernel
theorem dX5_restBy_1 : decode cX5_restBy 1 = .ok (.ifCond .lt 9, 3) := by decide +kernel
theorem dX5_restBy_4 : decode cX5_restBy 4 = .ok (.iload_n 1, 1) := by decide +kernel
theorem dX5_restBy_5 : decode cX5_restBy 5 = .ok (.bipush 36, 2) := by decide +kernel
theorem dX5_restBy_7 : decode cX5_restBy 7 = .ok (.if_icmp .le 27, 3) := by decide +kernel
theorem dX5_restBy_10 : decode cX5_restBy 10 = .ok (.aload_n 0, 1) := by decide +kernel
theorem dX5_restBy_11 : decode cX5_restBy 11 = .ok (.getfield 15, 3) := by decide +kernel
theorem dX5_restBy_14 : decode cX5_restBy 14 = .ok (.lconst 0, 1) := by decide +kernel
theorem dX5_restBy_15 : decode cX5_restBy 15 = .ok (.lcmp, 1) := by decide +kernel
theorem dX5_restBy_16 : decode cX5_restBy 16 = .ok (.ifCond .ne 16, 3) := by decide +kernel
theorem dX5_restBy_19 : decode cX5_restBy 19 = .ok (.aload_n 0, 1) := by decide +kernel
theorem dX5_restBy_20 : decode cX5_restBy 20 = .ok (.getfield 19, 3) := by decide +kernel
theorem dX5_restBy_23 : decode cX5_restBy 23 = .ok (.lconst 0, 1) := by decide +kernel
theorem dX5_restBy_24 : decode cX5_restBy 24 = .ok (.lcmp, 1) := by decide +kernel
theorem dX5_restBy_25 : decode cX5_restBy 25 = .ok (.ifCond .ne 7, 3) := by decide +kernel
theorem dX5_restBy_28 : decode cX5_restBy 28 = .ok (.iconst 0, 1) := by decide +kernel
theorem dX5_restBy_29 : decode cX5_restBy 29 = .ok (.goto 4, 3) := by decide +kernel
theorem dX5_restBy_32 : decode cX5_restBy 32 = .ok (.iconst 1, 1) := by decide +kernel
theorem dX5_restBy_33 : decode cX5_restBy 33 = .ok (.ireturn, 1) := by decide +kernel
theorem dX5_restBy_34 : decode cX5_restBy 34 = .ok (.iload_n 1, 1) := by decide +kernel
theorem dX5_restBy_35 : decode cX5_restBy 35 = .ok (.bipush 18, 2) := by decide +kernel
theorem dX5_restBy_37 : decode cX5_restBy 37 = .ok (.if_icmp .gt 20, 3) := by decide +kernel
theorem dX5_restBy_40 : decode cX5_restBy 40 = .ok (.getstatic 53, 3) := by decide +kernel
theorem dX5_restBy_43 : decode cX5_restBy 43 = .ok (.iload_n 1, 1) := by decide +kernel
theorem dX5_restBy_44 : decode cX5_restBy 44 = .ok (.laload, 1) := by decide +kernel
theorem dX5_restBy_45 : decode cX5_restBy 45 = .ok (.lstore_n 2, 1) := by decide +kernel
theorem dX5_restBy_46 : decode cX5_restBy 46 = .ok (.aload_n 0, 1) := by decide +kernel
theorem dX5_restBy_47 : decode cX5_restBy 47 = .ok (.getfield 19, 3) := by decide +kernel
theorem dX5_restBy_50 : decode cX5_restBy 50 = .ok (.lload_n 2, 1) := by decide +kernel
theorem dX5_restBy_51 : decode cX5_restBy 51 = .ok (.lrem, 1) := by decide +kernel
theorem dX5_restBy_52 : decode cX5_restBy 52 = .ok (.lload_n 2, 1) := by decide +kernel
theorem dX5_restBy_53 : decode cX5_restBy 53 = .ok (.invokestatic 57, 3) := by decide +kernel
theorem dX5_restBy_56 : decode cX5_restBy 56 = .ok (.ireturn, 1) := by decide +kernel
theorem dX5_restBy_57 : decode cX5_restBy 57 = .ok (.getstatic 53, 3) := by decide +kernel
theorem dX5_restBy_60 : decode cX5_restBy 60 = .ok (.iload_n 1, 1) := by decide +kernel
theorem dX5_restBy_61 : decode cX5_restBy 61 = .ok (.bipush 18, 2) := by decide +kernel
theorem dX5_restBy_63 : decode cX5_restBy 63 = .ok (.isub, 1) := by decide +kernel
theorem dX5_restBy_64 : decode cX5_restBy 64 = .ok (.laload, 1) := by decide +kernel
theorem dX5_restBy_65 : decode cX5_restBy 65 = .ok (.lstore_n 2, 1) := by decide +kernel
theorem dX5_restBy_66 : decode cX5_restBy 66 = .ok (.aload_n 0, 1) := by decide +kernel
theorem dX5_restBy_67 : decode cX5_restBy 67 = .ok (.getfield 15, 3) := by decide +kernel
theorem dX5_restBy_70 : decode cX5_restBy 70 = .ok (.lload_n 2, 1) := by decide +kernel
theorem dX5_restBy_71 : decode cX5_restBy 71 = .ok (.lrem, 1) := by decide +kernel
theorem dX5_restBy_72 : decode cX5_restBy 72 = .ok (.lload_n 2, 1) := by decide +kernel
theorem dX5_restBy_73 : decode cX5_restBy 73 = .ok (.invokestatic 57, 3) := by decide +kernel
theorem dX5_restBy_76 : decode cX5_restBy 76 = .ok (.istore 4, 2) := by decide +kernel
theorem dX5_restBy_78 : decode cX5_restBy 78 = .ok (.iload 4, 2) := by decide +kernel
theorem dX5_restBy_80 : decode cX5_restBy 80 = .ok (.ifCond .eq 9, 3) := by decide +kernel
theorem dX5_restBy_83 : decode cX5_restBy 83 = .ok (.iload 4, 2) := by decide +kernel
theorem dX5_restBy_85 : decode cX5_restBy 85 = .ok (.iconst 2, 1) := by decide +kernel
theorem dX5_restBy_86 : decode cX5_restBy 86 = .ok (.if_icmp .ne 7, 3) := by decide +kernel
theorem dX5_restBy_89 : decode cX5_restBy 89 = .ok (.iconst 1, 1) := by decide +kernel
theorem dX5_restBy_90 : decode cX5_restBy 90 = .ok (.goto 4, 3) := by decide +kernel
theorem dX5_restBy_93 : decode cX5_restBy 93 = .ok (.iconst 0, 1) := by decide +kernel
theorem dX5_restBy_94 : decode cX5_restBy 94 = .ok (.istore 5, 2) := by decide +kernel
theorem dX5_restBy_96 : decode cX5_restBy 96 = .ok (.iload 5, 2) := by decide +kernel
theorem dX5_restBy_98 : decode cX5_restBy 98 = .ok (.ifCond .eq 19, 3) := by decide +kernel
theorem dX5_restBy_101 : decode cX5_restBy 101 = .ok (.aload_n 0, 1) := by decide +kernel
theorem dX5_restBy_102 : decode cX5_restBy 102 = .ok (.getfield 19, 3) := by decide +kernel
theorem dX5_restBy_105 : decode cX5_restBy 105 = .ok (.lconst 0, 1) := by decide +kernel
theorem dX5_restBy_106 : decode cX5_restBy 106 = .ok (.lcmp, 1) := by decide +kernel
theorem dX5_restBy_107 : decode cX5_restBy 107 = .ok (.ifCond .eq 10, 3) := by decide +kernel
theorem dX5_restBy_110 : decode cX5_restBy 110 = .ok (.iload 4, 2) := by decide +kernel
theorem dX5_restBy_112 : decode cX5_restBy 112 = .ok (.iconst 1, 1) := by decide +kernel
theorem dX5_restBy_113 : decode cX5_restBy 113 = .ok (.iadd, 1) := by decide +kernel
theorem dX5_restBy_114 : decode cX5_restBy 114 = .ok (.goto 5, 3) := by decide +kernel
theorem dX5_restBy_117 : decode cX5_restBy 117 = .ok (.iload 4, 2) := by decide +kernel
theorem dX5_restBy_119 : decode cX5_restBy 119 = .ok (.ireturn, 1) := by decide +kernel
theorem dX6_isMode_0 : decode cX6_isMode 0 = .ok (.iload_n 0, 1) := by decide +kernel
theorem dX6_isMode_1 : decode cX6_isMode 1 = .ok (.tableswitch 93 99 117 #[91, 91, 91, 91, 93, 91, 93, 93, 93, 91, 93, 91, 93, 93, 93, 93, 93, 93, 91], 91) := by decide +kernel
theorem dX6_isMode_92 : decode cX6_isMode 92 = .ok (.iconst 1, 1) := by decide +kernel
theorem dX6_isMode_93 : decode cX6_isMode 93 = .ok (.ireturn, 1) := by decide +kernel
theorem dX6_isMode_94 : decode cX6_isMode 94 = .ok (.iconst 0, 1) := by decide +kernel
theorem dX6_isMode_95 : decode cX6_isMode 95 = .ok (.ireturn, 1) := by decide +kernel
theorem dX6_rest_0 : decode cX6_rest 0 = .ok (.lload_n 0, 1) := by decide +kernel
theorem dX6_rest_1 : decode cX6_rest 1 = .ok (.lconst 0, 1) := by decide +kernel
theorem dX6_rest_2 : decode cX6_rest 2 = .ok (.lcmp, 1) := by decide +kernel
theorem dX6_rest_3 : decode cX6_rest 3 = .ok (.ifCond .ne 5, 3) := by decide +kernel
theorem dX6_rest_6 : decode cX6_rest 6 = .ok (.iconst 0, 1) := by decide +kernel
theorem dX6_rest_7 : decode cX6_rest 7 = .ok (.ireturn, 1) := by decide +kernel
theorem dX6_rest_8 : decode cX6_rest 8 = .ok (.lload_n 2, 1) := by decide +kernel
theorem dX6_rest_9 : decode cX6_rest 9 = .ok (.lload_n 0, 1) := by decide +kernel
theorem dX6_rest_10 : decode cX6_rest 10 = .ok (.lsub, 1) := by decide +kernel
theorem dX6_rest_11 : decode cX6_rest 11 = .ok (.lstore 4, 2) := by decide +kernel
theorem dX6_rest_13 : decode cX6_rest 13 = .ok (.lload_n 0, 1) := by decide +kernel
theorem dX6_rest_14 : decode cX6_rest 14 = .ok (.lload 4, 2) := by decide +kernel
theorem dX6_rest_16 : decode cX6_rest 16 = .ok (.lcmp, 1) := by decide +kernel
theorem dX6_rest_17 : decode cX6_rest 17 = .ok (.ifCond .ne 5, 3) := by decide +kernel
theorem dX6_rest_20 : decode cX6_rest 20 = .ok (.iconst 2, 1) := by decide +kernel
theorem dX6_rest_21 : decode cX6_rest 21 = .ok (.ireturn, 1) := by decide +kernel
theorem dX6_rest_22 : decode cX6_rest 22 = .ok (.lload_n 0, 1) := by decide +kernel
theorem dX6_rest_23 : decode cX6_rest 23 = .ok (.lload 4, 2) := by decide +kernel
theorem dX6_rest_25 : decode cX6_rest 25 = .ok (.lcmp, 1) := by decide +kernel
theorem dX6_rest_26 : decode cX6_rest 26 = .ok (.ifCond .ge 7, 3) := by decide +kernel
theorem dX6_rest_29 : decode cX6_rest 29 = .ok (.iconst 1, 1) := by decide +kernel
theorem dX6_rest_30 : decode cX6_rest 30 = .ok (.goto 4, 3) := by decide +kernel
theorem dX6_rest_33 : decode cX6_rest 33 = .ok (.iconst 3, 1) := by decide +kernel
theorem dX6_rest_34 : decode cX6_rest 34 = .ok (.ireturn, 1) := by decide +kernel
theorem dX6_settled_0 : decode cX6_settled 0 = .ok (.iload_n 2, 1) := by decide +kernel
theorem dX6_settled_1 : decode cX6_settled 1 = .ok (.ifCond .ne 5, 3) := by decide +kernel
theorem dX6_settled_4 : decode cX6_settled 4 = .ok (.lload_n 0, 1) := by decide +kernel
theorem dX6_settled_5 : decode cX6_settled 5 = .ok (.lreturn, 1) := by decide +kernel
theorem dX6_settled_6 : decode cX6_settled 6 = .ok (.lload_n 0, 1) := by decide +kernel
theorem dX6_settled_7 : decode cX6_settled 7 = .ok (.iload_n 2, 1) := by decide +kernel
theorem dX6_settled_8 : decode cX6_settled 8 = .ok (.iload_n 3, 1) := by decide +kernel
theorem dX6_settled_9 : decode cX6_settled 9 = .ok (.iload 4, 2) := by decide +kernel
theorem dX6_settled_11 : decode cX6_settled 11 = .ok (.invokestatic 11, 3) := by decide +kernel
theorem dX6_settled_14 : decode cX6_settled 14 = .ok (.ifCond .eq 9, 3) := by decide +kernel
theorem dX6_settled_17 : decode cX6_settled 17 = .ok (.lload_n 0, 1) := by decide +kernel
theorem dX6_settled_18 : decode cX6_settled 18 = .ok (.lconst 1, 1) := by decide +kernel
theorem dX6_settled_19 : decode cX6_settled 19 = .ok (.ladd, 1) := by decide +kernel
theorem dX6_settled_20 : decode cX6_settled 20 = .ok (.goto 4, 3) := by decide +kernel
theorem dX6_settled_23 : decode cX6_settled 23 = .ok (.lload_n 0, 1) := by decide +kernel
theorem dX6_settled_24 : decode cX6_settled 24 = .ok (.lreturn, 1) := by decide +kernel
theorem dX6_goesAway_0 : decode cX6_goesAway 0 = .ok (.iload 4, 2) := by decide +kernel
theorem dX6_goesAway_2 : decode cX6_goesAway 2 = .ok (.tableswitch 154 99 117 #[94, 92, 128, 104, 154, 106, 154, 154, 154, 117, 154, 154, 154, 154, 154, 154, 154, 154, 90], 90) := by decide +kernel
theorem dX6_goesAway_92 : decode cX6_goesAway 92 = .ok (.iconst 1, 1) := by decide +kernel
theorem dX6_goesAway_93 : decode cX6_goesAway 93 = .ok (.ireturn, 1) := by decide +kernel
theorem dX6_goesAway_94 : decode cX6_goesAway 94 = .ok (.iconst 0, 1) := by decide +kernel
theorem dX6_goesAway_95 : decode cX6_goesAway 95 = .ok (.ireturn, 1) := by decide +kernel
theorem dX6_goesAway_96 : decode cX6_goesAway 96 = .ok (.iload_n 3, 1) := by decide +kernel
theorem dX6_goesAway_97 : decode cX6_goesAway 97 = .ok (.ifCond .ne 7, 3) := by decide +kernel
theorem dX6_goesAway_100 : decode cX6_goesAway 100 = .ok (.iconst 1, 1) := by decide +kernel
theorem dX6_goesAway_101 : decode cX6_goesAway 101 = .ok (.goto 4, 3) := by decide +kernel
theorem dX6_goesAway_104 : decode cX6_goesAway 104 = .ok (.iconst 0, 1) := by decide +kernel
theorem dX6_goesAway_105 : decode cX6_goesAway 105 = .ok (.ireturn, 1) := by decide +kernel
theorem dX6_goesAway_106 : decode cX6_goesAway 106 = .ok (.iload_n 3, 1) := by decide +kernel
theorem dX6_goesAway_107 : decode cX6_goesAway 107 = .ok (.ireturn, 1) := by decide +kernel
theorem dX6_goesAway_108 : decode cX6_goesAway 108 = .ok (.iload_n 2, 1) := by decide +kernel
theorem dX6_goesAway_109 : decode cX6_goesAway 109 = .ok (.iconst 2, 1) := by decide +kernel
theorem dX6_goesAway_110 : decode cX6_goesAway 110 = .ok (.if_icmp .lt 7, 3) := by decide +kernel
theorem dX6_goesAway_113 : decode cX6_goesAway 113 = .ok (.iconst 1, 1) := by decide +kernel
theorem dX6_goesAway_114 : decode cX6_goesAway 114 = .ok (.goto 4, 3) := by decide +kernel
theorem dX6_goesAway_117 : decode cX6_goesAway 117 = .ok (.iconst 0, 1) := by decide +kernel
theorem dX6_goesAway_118 : decode cX6_goesAway 118 = .ok (.ireturn, 1) := by decide +kernel
theorem dX6_goesAway_119 : decode cX6_goesAway 119 = .ok (.iload_n 2, 1) := by decide +kernel
theorem dX6_goesAway_120 : decode cX6_goesAway 120 = .ok (.iconst 3, 1) := by decide +kernel
theorem dX6_goesAway_121 : decode cX6_goesAway 121 = .ok (.if_icmp .ne 7, 3) := by decide +kernel
theorem dX6_goesAway_124 : decode cX6_goesAway 124 = .ok (.iconst 1, 1) := by decide +kernel
theorem dX6_goesAway_125 : decode cX6_goesAway 125 = .ok (.goto 4, 3) := by decide +kernel
theorem dX6_goesAway_128 : decode cX6_goesAway 128 = .ok (.iconst 0, 1) := by decide +kernel
theorem dX6_goesAway_129 : decode cX6_goesAway 129 = .ok (.ireturn, 1) := by decide +kernel
theorem dX6_goesAway_130 : decode cX6_goesAway 130 = .ok (.iload_n 2, 1) := by decide +kernel
theorem dX6_goesAway_131 : decode cX6_goesAway 131 = .ok (.iconst 3, 1) := by decide +kernel
theorem dX6_goesAway_132 : decode cX6_goesAway 132 = .ok (.if_icmp .eq 18, 3) := by decide +kernel
theorem dX6_goesAway_135 : decode cX6_goesAway 135 = .ok (.iload_n 2, 1) := by decide +kernel
theorem dX6_goesAway_136 : decode cX6_goesAway 136 = .ok (.iconst 2, 1) := by decide +kernel
theorem dX6_goesAway_137 : decode cX6_goesAway 137 = .ok (.if_icmp .ne 17, 3) := by decide +kernel
theorem dX6_goesAway_140 : decode cX6_goesAway 140 = .ok (.lload_n 0, 1) := by decide +kernel
theorem dX6_goesAway_141 : decode cX6_goesAway 141 = .ok (.ldc2_w 15, 3) := by decide +kernel
theorem dX6_goesAway_144 : decode cX6_goesAway 144 = .ok (.lrem, 1) := by decide +kernel
theorem dX6_goesAway_145 : decode cX6_goesAway 145 = .ok (.lconst 1, 1) := by decide +kernel
theorem dX6_goesAway_146 : decode cX6_goesAway 146 = .ok (.lcmp, 1) := by decide +kernel
theorem dX6_goesAway_147 : decode cX6_goesAway 147 = .ok (.ifCond .ne 7, 3) := by decide +kernel
theorem dX6_goesAway_150 : decode cX6_goesAway 150 = .ok (.iconst 1, 1) := by decide +kernel
theorem dX6_goesAway_151 : decode cX6_goesAway 151 = .ok (.goto 4, 3) := by decide +kernel
theorem dX6_goesAway_154 : decode cX6_goesAway 154 = .ok (.iconst 0, 1) := by decide +kernel
theorem dX6_goesAway_155 : decode cX6_goesAway 155 = .ok (.ireturn, 1) := by decide +kernel
theorem dX6_goesAway_156 : decode cX6_goesAway 156 = .ok (.new 17, 3) := by decide +kernel
theorem dX6_goesAway_159 : decode cX6_goesAway 159 = .ok (.dup, 1) := by decide +kernel
theorem dX6_goesAway_160 : decode cX6_goesAway 160 = .ok (.ldc 19, 2) := by decide +kernel
theorem dX6_goesAway_162 : decode cX6_goesAway 162 = .ok (.invokespecial 21, 3) := by decide +kernel
theorem dX6_goesAway_165 : decode cX6_goesAway 165 = .ok (.athrow, 1) := by decide +kernel
theorem dX6_quotient_0 : decode cX6_quotient 0 = .ok (.lload_n 0, 1) := by decide +kernel
theorem dX6_quotient_1 : decode cX6_quotient 1 = .ok (.iconst 1, 1) := by decide +kernel
theorem dX6_quotient_2 : decode cX6_quotient 2 = .ok (.lload_n 2, 1) := by decide +kernel
theorem dX6_quotient_3 : decode cX6_quotient 3 = .ok (.iload 4, 2) := by decide +kernel
theorem dX6_quotient_5 : decode cX6_quotient 5 = .ok (.invokestatic 24, 3) := by decide +kernel
theorem dX6_quotient_8 : decode cX6_quotient 8 = .ok (.lreturn, 1) := by decide +kernel
theorem dX6_partOf_0 : decode cX6_partOf 0 = .ok (.lload_n 3, 1) := by decide +kernel
theorem dX6_partOf_1 : decode cX6_partOf 1 = .ok (.lconst 1, 1) := by decide +kernel
theorem dX6_partOf_2 : decode cX6_partOf 2 = .ok (.lcmp, 1) := by decide +kernel
theorem dX6_partOf_3 : decode cX6_partOf 3 = .ok (.ifCond .ge 13, 3) := by decide +kernel
theorem dX6_partOf_6 : decode cX6_partOf 6 = .ok (.new 17, 3) := by decide +kernel
theorem dX6_partOf_9 : decode cX6_partOf 9 = .ok (.dup, 1) := by decide +kernel
theorem dX6_partOf_10 : decode cX6_partOf 10 = .ok (.ldc 28, 2) := by decide +kernel
theorem dX6_partOf_12 : decode cX6_partOf 12 = .ok (.invokespecial 21, 3) := by decide +kernel
theorem dX6_partOf_15 : decode cX6_partOf 15 = .ok (.athrow, 1) := by decide +kernel
theorem dX6_partOf_16 : decode cX6_partOf 16 = .ok (.lload_n 0, 1) := by decide +kernel
theorem dX6_partOf_17 : decode cX6_partOf 17 = .ok (.lload_n 3, 1) := by decide +kernel
theorem dX6_partOf_18 : decode cX6_partOf 18 = .ok (.lrem, 1) := by decide +kernel
theorem dX6_partOf_19 : decode cX6_partOf 19 = .ok (.iload_n 2, 1) := by decide +kernel
theorem dX6_partOf_20 : decode cX6_partOf 20 = .ok (.i2l, 1) := by decide +kernel
theorem dX6_partOf_21 : decode cX6_partOf 21 = .ok (.lmul, 1) := by decide +kernel
theorem dX6_partOf_22 : decode cX6_partOf 22 = .ok (.lstore 6, 2) := by decide +kernel
theorem dX6_partOf_24 : decode cX6_partOf 24 = .ok (.lload_n 0, 1) := by decide +kernel
theorem dX6_partOf_25 : decode cX6_partOf 25 = .ok (.lload_n 3, 1) := by decide +kernel
theorem dX6_partOf_26 : decode cX6_partOf 26 = .ok (.ldiv, 1) := by decide +kernel
theorem dX6_partOf_27 : decode cX6_partOf 27 = .ok (.iload_n 2, 1) := by decide +kernel
theorem dX6_partOf_28 : decode cX6_partOf 28 = .ok (.i2l, 1) := by decide +kernel
theorem dX6_partOf_29 : decode cX6_partOf 29 = .ok (.lmul, 1) := by decide +kernel
theorem dX6_partOf_30 : decode cX6_partOf 30 = .ok (.lload 6, 2) := by decide +kernel
theorem dX6_partOf_32 : decode cX6_partOf 32 = .ok (.lload_n 3, 1) := by decide +kernel
theorem dX6_partOf_33 : decode cX6_partOf 33 = .ok (.ldiv, 1) := by decide +kernel
theorem dX6_partOf_34 : decode cX6_partOf 34 = .ok (.ladd, 1) := by decide +kernel
theorem dX6_partOf_35 : decode cX6_partOf 35 = .ok (.lstore 8, 2) := by decide +kernel
theorem dX6_partOf_37 : decode cX6_partOf 37 = .ok (.lload 8, 2) := by decide +kernel
theorem dX6_partOf_39 : decode cX6_partOf 39 = .ok (.lload 6, 2) := by decide +kernel
theorem dX6_partOf_41 : decode cX6_partOf 41 = .ok (.lload_n 3, 1) := by decide +kernel
theorem dX6_partOf_42 : decode cX6_partOf 42 = .ok (.lrem, 1) := by decide +kernel
theorem dX6_partOf_43 : decode cX6_partOf 43 = .ok (.lload_n 3, 1) := by decide +kernel
theorem dX6_partOf_44 : decode cX6_partOf 44 = .ok (.invokestatic 30, 3) := by decide +kernel
theorem dX6_partOf_47 : decode cX6_partOf 47 = .ok (.iconst 0, 1) := by decide +kernel
theorem dX6_partOf_48 : decode cX6_partOf 48 = .ok (.iload 5, 2) := by decide +kernel
theorem dX6_partOf_50 : decode cX6_partOf 50 = .ok (.invokestatic 34, 3) := by decide +kernel
theorem dX6_partOf_53 : decode cX6_partOf 53 = .ok (.lreturn, 1) := by decide +kernel
theorem dX6_raised_0 : decode cX6_raised 0 = .ok (.lload_n 0, 1) := by decide +kernel
theorem dX6_raised_1 : decode cX6_raised 1 = .ok (.lconst 0, 1) := by decide +kernel
theorem dX6_raised_2 : decode cX6_raised 2 = .ok (.lcmp, 1) := by decide +kernel
theorem dX6_raised_3 : decode cX6_raised 3 = .ok (.ifCond .ne 5, 3) := by decide +kernel
theorem dX6_raised_6 : decode cX6_raised 6 = .ok (.lconst 0, 1) := by decide +kernel
theorem dX6_raised_7 : decode cX6_raised 7 = .ok (.lreturn, 1) := by decide +kernel
theorem dX6_raised_8 : decode cX6_raised 8 = .ok (.iload_n 2, 1) := by decide +kernel
theorem dX6_raised_9 : decode cX6_raised 9 = .ok (.ifCond .lt 9, 3) := by decide +kernel
theorem dX6_raised_12 : decode cX6_raised 12 = .ok (.iload_n 2, 1) := by decide +kernel
theorem dX6_raised_13 : decode cX6_raised 13 = .ok (.bipush 18, 2) := by decide +kernel
theorem dX6_raised_15 : decode cX6_raised 15 = .ok (.if_icmp .le 13, 3) := by decide +kernel
theorem dX6_raised_18 : decode cX6_raised 18 = .ok (.new 17, 3) := by decide +kernel
theorem dX6_raised_21 : decode cX6_raised 21 = .ok (.dup, 1) := by decide +kernel
theorem dX6_raised_22 : decode cX6_raised 22 = .ok (.ldc 38, 2) := by decide +kernel
theorem dX6_raised_24 : decode cX6_raised 24 = .ok (.invokespecial 21, 3) := by decide +kernel
theorem dX6_raised_27 : decode cX6_raised 27 = .ok (.athrow, 1) := by decide +kernel
theorem dX6_raised_28 : decode cX6_raised 28 = .ok (.getstatic 40, 3) := by decide +kernel
theorem dX6_raised_31 : decode cX6_raised 31 = .ok (.iload_n 2, 1) := by decide +kernel
theorem dX6_raised_32 : decode cX6_raised 32 = .ok (.laload, 1) := by decide +kernel
theorem dX6_raised_33 : decode cX6_raised 33 = .ok (.lstore 5, 2) := by decide +kernel
theorem dX6_raised_35 : decode cX6_raised 35 = .ok (.lload_n 0, 1) := by decide +kernel
theorem dX6_raised_36 : decode cX6_raised 36 = .ok (.invokestatic 44, 3) := by decide +kernel
theorem dX6_raised_39 : decode cX6_raised 39 = .ok (.lload_n 3, 1) := by decide +kernel
theorem dX6_raised_40 : decode cX6_raised 40 = .ok (.lload 5, 2) := by decide +kernel
theorem dX6_raised_42 : decode cX6_raised 42 = .ok (.ldiv, 1) := by decide +kernel
theorem dX6_raised_43 : decode cX6_raised 43 = .ok (.lcmp, 1) := by decide +kernel
theorem dX6_raised_44 : decode cX6_raised 44 = .ok (.ifCond .le 13, 3) := by decide +kernel
theorem dX6_raised_47 : decode cX6_raised 47 = .ok (.new 17, 3) := by decide +kernel
theorem dX6_raised_50 : decode cX6_raised 50 = .ok (.dup, 1) := by decide +kernel
theorem dX6_raised_51 : decode cX6_raised 51 = .ok (.ldc 38, 2) := by decide +kernel
theorem dX6_raised_53 : decode cX6_raised 53 = .ok (.invokespecial 21, 3) := by decide +kernel
theorem dX6_raised_56 : decode cX6_raised 56 = .ok (.athrow, 1) := by decide +kernel
theorem dX6_raised_57 : decode cX6_raised 57 = .ok (.lload_n 0, 1) := by decide +kernel
theorem dX6_raised_58 : decode cX6_raised 58 = .ok (.lload 5, 2) := by decide +kernel
theorem dX6_raised_60 : decode cX6_raised 60 = .ok (.lmul, 1) := by decide +kernel
theorem dX6_raised_61 : decode cX6_raised 61 = .ok (.lreturn, 1) := by decide +kernel
theorem dX6_digitsOf_0 : decode cX6_digitsOf 0 = .ok (.iconst 1, 1) := by decide +kernel
theorem dX6_digitsOf_1 : decode cX6_digitsOf 1 = .ok (.istore_n 2, 1) := by decide +kernel
theorem dX6_digitsOf_2 : decode cX6_digitsOf 2 = .ok (.iload_n 2, 1) := by decide +kernel
theorem dX6_digitsOf_3 : decode cX6_digitsOf 3 = .ok (.bipush 18, 2) := by decide +kernel
theorem dX6_digitsOf_5 : decode cX6_digitsOf 5 = .ok (.if_icmp .gt 21, 3) := by decide +kernel
theorem dX6_digitsOf_8 : decode cX6_digitsOf 8 = .ok (.lload_n 0, 1) := by decide +kernel
theorem dX6_digitsOf_9 : decode cX6_digitsOf 9 = .ok (.getstatic 40, 3) := by decide +kernel
theorem dX6_digitsOf_12 : decode cX6_digitsOf 12 = .ok (.iload_n 2, 1) := by decide +kernel
theorem dX6_digitsOf_13 : decode cX6_digitsOf 13 = .ok (.laload, 1) := by decide +kernel
theorem dX6_digitsOf_14 : decode cX6_digitsOf 14 = .ok (.lcmp, 1) := by decide +kernel
theorem dX6_digitsOf_15 : decode cX6_digitsOf 15 = .ok (.ifCond .ge 5, 3) := by decide +kernel
theorem dX6_digitsOf_18 : decode cX6_digitsOf 18 = .ok (.iload_n 2, 1) := by decide +kernel
theorem dX6_digitsOf_19 : decode cX6_digitsOf 19 = .ok (.ireturn, 1) := by decide +kernel
theorem dX6_digitsOf_20 : decode cX6_digitsOf 20 = .ok (.iinc 2 1, 3) := by decide +kernel
theorem dX6_digitsOf_23 : decode cX6_digitsOf 23 = .ok (.goto (-21), 3) := by decide +kernel
theorem dX6_digitsOf_26 : decode cX6_digitsOf 26 = .ok (.bipush 19, 2) := by decide +kernel
theorem dX6_digitsOf_28 : decode cX6_digitsOf 28 = .ok (.ireturn, 1) := by decide +kernel
theorem dX7_init_0 : decode cX7_init 0 = .ok (.aload_n 0, 1) := by decide +kernel
theorem dX7_init_1 : decode cX7_init 1 = .ok (.invokespecial 1, 3) := by decide +kernel
theorem dX7_init_4 : decode cX7_init 4 = .ok (.aload_n 0, 1) := by decide +kernel
theorem dX7_init_5 : decode cX7_init 5 = .ok (.bipush 12, 2) := by decide +kernel
theorem dX7_init_7 : decode cX7_init 7 = .ok (.newarray .int, 2) := by decide +kernel
theorem dX7_init_9 : decode cX7_init 9 = .ok (.putfield 9, 3) := by decide +kernel
theorem dX7_init_12 : decode cX7_init 12 = .ok (.aload_n 0, 1) := by decide +kernel
theorem dX7_init_13 : decode cX7_init 13 = .ok (.iconst 0, 1) := by decide +kernel
theorem dX7_init_14 : decode cX7_init 14 = .ok (.putfield 13, 3) := by decide +kernel
theorem dX7_init_17 : decode cX7_init 17 = .ok (.aload_n 0, 1) := by decide +kernel
theorem dX7_init_18 : decode cX7_init 18 = .ok (.bipush 12, 2) := by decide +kernel
theorem dX7_init_20 : decode cX7_init 20 = .ok (.newarray .long, 2) := by decide +kernel
theorem dX7_init_22 : decode cX7_init 22 = .ok (.putfield 17, 3) := by decide +kernel
theorem dX7_init_25 : decode cX7_init 25 = .ok (.aload_n 0, 1) := by decide +kernel
theorem dX7_init_26 : decode cX7_init 26 = .ok (.iconst 0, 1) := by decide +kernel
theorem dX7_init_27 : decode cX7_init 27 = .ok (.putfield 21, 3) := by decide +kernel
theorem dX7_init_30 : decode cX7_init 30 = .ok (.aload_n 0, 1) := by decide +kernel
theorem dX7_init_31 : decode cX7_init 31 = .ok (.bipush 12, 2) := by decide +kernel
theorem dX7_init_33 : decode cX7_init 33 = .ok (.newarray .long, 2) := by decide +kernel
theorem dX7_init_35 : decode cX7_init 35 = .ok (.putfield 24, 3) := by decide +kernel
theorem dX7_init_38 : decode cX7_init 38 = .ok (.aload_n 0, 1) := by decide +kernel
theorem dX7_init_39 : decode cX7_init 39 = .ok (.lconst 0, 1) := by decide +kernel
theorem dX7_init_40 : decode cX7_init 40 = .ok (.putfield 27, 3) := by decide +kernel
theorem dX7_init_43 : decode cX7_init 43 = .ok (.return_, 1) := by decide +kernel
theorem dX7_isFull_0 : decode cX7_isFull 0 = .ok (.aload_n 0, 1) := by decide +kernel
theorem dX7_isFull_1 : decode cX7_isFull 1 = .ok (.getfield 13, 3) := by decide +kernel
theorem dX7_isFull_4 : decode cX7_isFull 4 = .ok (.bipush 12, 2) := by decide +kernel
theorem dX7_isFull_6 : decode cX7_isFull 6 = .ok (.if_icmp .lt 7, 3) := by decide +kernel
theorem dX7_isFull_9 : decode cX7_isFull 9 = .ok (.iconst 1, 1) := by decide +kernel
theorem dX7_isFull_10 : decode cX7_isFull 10 = .ok (.goto 4, 3) := by decide +kernel
theorem dX7_isFull_13 : decode cX7_isFull 13 = .ok (.iconst 0, 1) := by decide +kernel
theorem dX7_isFull_14 : decode cX7_isFull 14 = .ok (.ireturn, 1) := by decide +kernel
theorem dX7_add_0 : decode cX7_add 0 = .ok (.aload_n 0, 1) := by decide +kernel
theorem dX7_add_1 : decode cX7_add 1 = .ok (.getfield 13, 3) := by decide +kernel
theorem dX7_add_4 : decode cX7_add 4 = .ok (.bipush 12, 2) := by decide +kernel
theorem dX7_add_6 : decode cX7_add 6 = .ok (.if_icmp .ge 23, 3) := by decide +kernel
theorem dX7_add_9 : decode cX7_add 9 = .ok (.aload_n 0, 1) := by decide +kernel
theorem dX7_add_10 : decode cX7_add 10 = .ok (.getfield 9, 3) := by decide +kernel
theorem dX7_add_13 : decode cX7_add 13 = .ok (.aload_n 0, 1) := by decide +kernel
theorem dX7_add_14 : decode cX7_add 14 = .ok (.getfield 13, 3) := by decide +kernel
theorem dX7_add_17 : decode cX7_add 17 = .ok (.iload_n 1, 1) := by decide +kernel
theorem dX7_add_18 : decode cX7_add 18 = .ok (.iastore, 1) := by decide +kernel
theorem dX7_add_19 : decode cX7_add 19 = .ok (.aload_n 0, 1) := by decide +kernel
theorem dX7_add_20 : decode cX7_add 20 = .ok (.dup, 1) := by decide +kernel
theorem dX7_add_21 : decode cX7_add 21 = .ok (.getfield 13, 3) := by decide +kernel
theorem dX7_add_24 : decode cX7_add 24 = .ok (.iconst 1, 1) := by decide +kernel
theorem dX7_add_25 : decode cX7_add 25 = .ok (.iadd, 1) := by decide +kernel
theorem dX7_add_26 : decode cX7_add 26 = .ok (.putfield 13, 3) := by decide +kernel
theorem dX7_add_29 : decode cX7_add 29 = .ok (.aload_n 0, 1) := by decide +kernel
theorem dX7_add_30 : decode cX7_add 30 = .ok (.getfield 13, 3) := by decide +kernel
theorem dX7_add_33 : decode cX7_add 33 = .ok (.ireturn, 1) := by decide +kernel
theorem dX7_allWeights_0 : decode cX7_allWeights 0 = .ok (.lconst 0, 1) := by decide +kernel
theorem dX7_allWeights_1 : decode cX7_allWeights 1 = .ok (.lstore_n 1, 1) := by decide +kernel
theorem dX7_allWeights_2 : decode cX7_allWeights 2 = .ok (.iconst 0, 1) := by decide +kernel
theorem dX7_allWeights_3 : decode cX7_allWeights 3 = .ok (.istore_n 3, 1) := by decide +kernel
theorem dX7_allWeights_4 : decode cX7_allWeights 4 = .ok (.iload_n 3, 1) := by decide +kernel
theorem dX7_allWeights_5 : decode cX7_allWeights 5 = .ok (.aload_n 0, 1) := by decide +kernel
theorem dX7_allWeights_6 : decode cX7_allWeights 6 = .ok (.getfield 13, 3) := by decide +kernel
theorem dX7_allWeights_9 : decode cX7_allWeights 9 = .ok (.if_icmp .ge 19, 3) := by decide +kernel
theorem dX7_allWeights_12 : decode cX7_allWeights 12 = .ok (.lload_n 1, 1) := by decide +kernel
theorem dX7_allWeights_13 : decode cX7_allWeights 13 = .ok (.aload_n 0, 1) := by decide +kernel
theorem dX7_allWeights_14 : decode cX7_allWeights 14 = .ok (.getfield 9, 3) := by decide +kernel
theorem dX7_allWeights_17 : decode cX7_allWeights 17 = .ok (.iload_n 3, 1) := by decide +kernel
theorem dX7_allWeights_18 : decode cX7_allWeights 18 = .ok (.iaload, 1) := by decide +kernel
theorem dX7_allWeights_19 : decode cX7_allWeights 19 = .ok (.i2l, 1) := by decide +kernel
theorem dX7_allWeights_20 : decode cX7_allWeights 20 = .ok (.ladd, 1) := by decide +kernel
theorem dX7_allWeights_21 : decode cX7_allWeights 21 = .ok (.lstore_n 1, 1) := by decide +kernel
theorem dX7_allWeights_22 : decode cX7_allWeights 22 = .ok (.iinc 3 1, 3) := by decide +kernel
theorem dX7_allWeights_25 : decode cX7_allWeights 25 = .ok (.goto (-21), 3) := by decide +kernel
theorem dX7_allWeights_28 : decode cX7_allWeights 28 = .ok (.lload_n 1, 1) := by decide +kernel
theorem dX7_allWeights_29 : decode cX7_allWeights 29 = .ok (.lreturn, 1) := by decide +kernel
theorem dX7_split_0 : decode cX7_split 0 = .ok (.aload_n 0, 1) := by decide +kernel
theorem dX7_split_1 : decode cX7_split 1 = .ok (.lload_n 1, 1) := by decide +kernel
theorem dX7_split_2 : decode cX7_split 2 = .ok (.aload_n 0, 1) := by decide +kernel
theorem dX7_split_3 : decode cX7_split 3 = .ok (.invokevirtual 31, 3) := by decide +kernel
theorem dX7_split_6 : decode cX7_split 6 = .ok (.lconst 1, 1) := by decide +kernel
theorem dX7_split_7 : decode cX7_split 7 = .ok (.invokestatic 35, 3) := by decide +kernel
theorem dX7_split_10 : decode cX7_split 10 = .ok (.invokevirtual 41, 3) := by decide +kernel
theorem dX7_split_13 : decode cX7_split 13 = .ok (.l2i, 1) := by decide +kernel
theorem dX7_split_14 : decode cX7_split 14 = .ok (.istore 4, 2) := by decide +kernel
theorem dX7_split_16 : decode cX7_split 16 = .ok (.aload_n 0, 1) := by decide +kernel
theorem dX7_split_17 : decode cX7_split 17 = .ok (.aload_n 0, 1) := by decide +kernel
theorem dX7_split_18 : decode cX7_split 18 = .ok (.getfield 13, 3) := by decide +kernel
theorem dX7_split_21 : decode cX7_split 21 = .ok (.putfield 21, 3) := by decide +kernel
theorem dX7_split_24 : decode cX7_split 24 = .ok (.aload_n 0, 1) := by decide +kernel
theorem dX7_split_25 : decode cX7_split 25 = .ok (.iconst 0, 1) := by decide +kernel
theorem dX7_split_26 : decode cX7_split 26 = .ok (.putfield 13, 3) := by decide +kernel
theorem dX7_split_29 : decode cX7_split 29 = .ok (.aload_n 0, 1) := by decide +kernel
theorem dX7_split_30 : decode cX7_split 30 = .ok (.lload_n 1, 1) := by decide +kernel
theorem dX7_split_31 : decode cX7_split 31 = .ok (.putfield 27, 3) := by decide +kernel
theorem dX7_split_34 : decode cX7_split 34 = .ok (.iconst 0, 1) := by decide +kernel
theorem dX7_split_35 : decode cX7_split 35 = .ok (.istore 5, 2) := by decide +kernel
theorem dX7_split_37 : decode cX7_split 37 = .ok (.iload 5, 2) := by decide +kernel
theorem dX7_split_39 : decode cX7_split 39 = .ok (.iload 4, 2) := by decide +kernel
theorem dX7_split_41 : decode cX7_split 41 = .ok (.if_icmp .ge 14, 3) := by decide +kernel
theorem dX7_split_44 : decode cX7_split 44 = .ok (.aload_n 0, 1) := by decide +kernel
theorem dX7_split_45 : decode cX7_split 45 = .ok (.iload_n 3, 1) := by decide +kernel
theorem dX7_split_46 : decode cX7_split 46 = .ok (.invokevirtual 44, 3) := by decide +kernel
theorem dX7_split_49 : decode cX7_split 49 = .ok (.iinc 5 1, 3) := by decide +kernel
theorem dX7_split_52 : decode cX7_split 52 = .ok (.goto (-15), 3) := by decide +kernel
theorem dX7_split_55 : decode cX7_split 55 = .ok (.iload 4, 2) := by decide +kernel
theorem dX7_split_57 : decode cX7_split 57 = .ok (.ireturn, 1) := by decide +kernel
theorem dX7_cutParts_0 : decode cX7_cutParts 0 = .ok (.lload_n 1, 1) := by decide +kernel
theorem dX7_cutParts_1 : decode cX7_cutParts 1 = .ok (.lstore 5, 2) := by decide +kernel
theorem dX7_cutParts_3 : decode cX7_cutParts 3 = .ok (.iconst 0, 1) := by decide +kernel
theorem dX7_cutParts_4 : decode cX7_cutParts 4 = .ok (.istore 7, 2) := by decide +kernel
theorem dX7_cutParts_6 : decode cX7_cutParts 6 = .ok (.iload 7, 2) := by decide +kernel
theorem dX7_cutParts_8 : decode cX7_cutParts 8 = .ok (.aload_n 0, 1) := by decide +kernel
theorem dX7_cutParts_9 : decode cX7_cutParts 9 = .ok (.getfield 13, 3) := by decide +kernel
theorem dX7_cutParts_12 : decode cX7_cutParts 12 = .ok (.if_icmp .ge 55, 3) := by decide +kernel
theorem dX7_cutParts_15 : decode cX7_cutParts 15 = .ok (.lload_n 1, 1) := by decide +kernel
theorem dX7_cutParts_16 : decode cX7_cutParts 16 = .ok (.aload_n 0, 1) := by decide +kernel
theorem dX7_cutParts_17 : decode cX7_cutParts 17 = .ok (.getfield 9, 3) := by decide +kernel
theorem dX7_cutParts_20 : decode cX7_cutParts 20 = .ok (.iload 7, 2) := by decide +kernel
theorem dX7_cutParts_22 : decode cX7_cutParts 22 = .ok (.iaload, 1) := by decide +kernel
theorem dX7_cutParts_23 : decode cX7_cutParts 23 = .ok (.i2l, 1) := by decide +kernel
theorem dX7_cutParts_24 : decode cX7_cutParts 24 = .ok (.lmul, 1) := by decide +kernel
theorem dX7_cutParts_25 : decode cX7_cutParts 25 = .ok (.lstore 8, 2) := by decide +kernel
theorem dX7_cutParts_27 : decode cX7_cutParts 27 = .ok (.aload_n 0, 1) := by decide +kernel
theorem dX7_cutParts_28 : decode cX7_cutParts 28 = .ok (.getfield 17, 3) := by decide +kernel
theorem dX7_cutParts_31 : decode cX7_cutParts 31 = .ok (.iload 7, 2) := by decide +kernel
theorem dX7_cutParts_33 : decode cX7_cutParts 33 = .ok (.lload 8, 2) := by decide +kernel
theorem dX7_cutParts_35 : decode cX7_cutParts 35 = .ok (.lload_n 3, 1) := by decide +kernel
theorem dX7_cutParts_36 : decode cX7_cutParts 36 = .ok (.ldiv, 1) := by decide +kernel
theorem dX7_cutParts_37 : decode cX7_cutParts 37 = .ok (.lastore, 1) := by decide +kernel
theorem dX7_cutParts_38 : decode cX7_cutParts 38 = .ok (.aload_n 0, 1) := by decide +kernel
theorem dX7_cutParts_39 : decode cX7_cutParts 39 = .ok (.getfield 24, 3) := by decide +kernel
theorem dX7_cutParts_42 : decode cX7_cutParts 42 = .ok (.iload 7, 2) := by decide +kernel
theorem dX7_cutParts_44 : decode cX7_cutParts 44 = .ok (.lload 8, 2) := by decide +kernel
theorem dX7_cutParts_46 : decode cX7_cutParts 46 = .ok (.lload_n 3, 1) := by decide +kernel
theorem dX7_cutParts_47 : decode cX7_cutParts 47 = .ok (.lrem, 1) := by decide +kernel
theorem dX7_cutParts_48 : decode cX7_cutParts 48 = .ok (.lastore, 1) := by decide +kernel
theorem dX7_cutParts_49 : decode cX7_cutParts 49 = .ok (.lload 5, 2) := by decide +kernel
theorem dX7_cutParts_51 : decode cX7_cutParts 51 = .ok (.aload_n 0, 1) := by decide +kernel
theorem dX7_cutParts_52 : decode cX7_cutParts 52 = .ok (.getfield 17, 3) := by decide +kernel
theorem dX7_cutParts_55 : decode cX7_cutParts 55 = .ok (.iload 7, 2) := by decide +kernel
theorem dX7_cutParts_57 : decode cX7_cutParts 57 = .ok (.laload, 1) := by decide +kernel
theorem dX7_cutParts_58 : decode cX7_cutParts 58 = .ok (.lsub, 1) := by decide +kernel
theorem dX7_cutParts_59 : decode cX7_cutParts 59 = .ok (.lstore 5, 2) := by decide +kernel
theorem dX7_cutParts_61 : decode cX7_cutParts 61 = .ok (.iinc 7 1, 3) := by decide +kernel
theorem dX7_cutParts_64 : decode cX7_cutParts 64 = .ok (.goto (-58), 3) := by decide +kernel
theorem dX7_cutParts_67 : decode cX7_cutParts 67 = .ok (.lload 5, 2) := by decide +kernel
theorem dX7_cutParts_69 : decode cX7_cutParts 69 = .ok (.lreturn, 1) := by decide +kernel
theorem dX7_giveOne_0 : decode cX7_giveOne 0 = .ok (.iconst (-1), 1) := by decide +kernel
theorem dX7_giveOne_1 : decode cX7_giveOne 1 = .ok (.istore_n 2, 1) := by decide +kernel
theorem dX7_giveOne_2 : decode cX7_giveOne 2 = .ok (.iconst 0, 1) := by decide +kernel
theorem dX7_giveOne_3 : decode cX7_giveOne 3 = .ok (.istore_n 3, 1) := by decide +kernel
theorem dX7_giveOne_4 : decode cX7_giveOne 4 = .ok (.iload_n 3, 1) := by decide +kernel
theorem dX7_giveOne_5 : decode cX7_giveOne 5 = .ok (.aload_n 0, 1) := by decide +kernel
theorem dX7_giveOne_6 : decode cX7_giveOne 6 = .ok (.getfield 21, 3) := by decide +kernel
theorem dX7_giveOne_9 : decode cX7_giveOne 9 = .ok (.if_icmp .ge 36, 3) := by decide +kernel
theorem dX7_giveOne_12 : decode cX7_giveOne 12 = .ok (.aload_n 0, 1) := by decide +kernel
theorem dX7_giveOne_13 : decode cX7_giveOne 13 = .ok (.getfield 24, 3) := by decide +kernel
theorem dX7_giveOne_16 : decode cX7_giveOne 16 = .ok (.iload_n 3, 1) := by decide +kernel
theorem dX7_giveOne_17 : decode cX7_giveOne 17 = .ok (.laload, 1) := by decide +kernel
theorem dX7_giveOne_18 : decode cX7_giveOne 18 = .ok (.lconst 0, 1) := by decide +kernel
theorem dX7_giveOne_19 : decode cX7_giveOne 19 = .ok (.lcmp, 1) := by decide +kernel
theorem dX7_giveOne_20 : decode cX7_giveOne 20 = .ok (.ifCond .le 19, 3) := by decide +kernel
theorem dX7_giveOne_23 : decode cX7_giveOne 23 = .ok (.iload_n 2, 1) := by decide +kernel
theorem dX7_giveOne_24 : decode cX7_giveOne 24 = .ok (.ifCond .lt 13, 3) := by decide +kernel
theorem dX7_giveOne_27 : decode cX7_giveOne 27 = .ok (.aload_n 0, 1) := by decide +kernel
theorem dX7_giveOne_28 : decode cX7_giveOne 28 = .ok (.iload_n 3, 1) := by decide +kernel
theorem dX7_giveOne_29 : decode cX7_giveOne 29 = .ok (.iload_n 2, 1) := by decide +kernel
theorem dX7_giveOne_30 : decode cX7_giveOne 30 = .ok (.iload_n 1, 1) := by decide +kernel
theorem dX7_giveOne_31 : decode cX7_giveOne 31 = .ok (.invokevirtual 48, 3) := by decide +kernel
theorem dX7_giveOne_34 : decode cX7_giveOne 34 = .ok (.ifCond .eq 5, 3) := by decide +kernel
theorem dX7_giveOne_37 : decode cX7_giveOne 37 = .ok (.iload_n 3, 1) := by decide +kernel
theorem dX7_giveOne_38 : decode cX7_giveOne 38 = .ok (.istore_n 2, 1) := by decide +kernel
theorem dX7_giveOne_39 : decode cX7_giveOne 39 = .ok (.iinc 3 1, 3) := by decide +kernel
theorem dX7_giveOne_42 : decode cX7_giveOne 42 = .ok (.goto (-38), 3) := by decide +kernel
theorem dX7_giveOne_45 : decode cX7_giveOne 45 = .ok (.iload_n 2, 1) := by decide +kernel
theorem dX7_giveOne_46 : decode cX7_giveOne 46 = .ok (.ifCond .lt 20, 3) := by decide +kernel
theorem dX7_giveOne_49 : decode cX7_giveOne 49 = .ok (.aload_n 0, 1) := by decide +kernel
theorem dX7_giveOne_50 : decode cX7_giveOne 50 = .ok (.getfield 17, 3) := by decide +kernel
theorem dX7_giveOne_53 : decode cX7_giveOne 53 = .ok (.iload_n 2, 1) := by decide +kernel
theorem dX7_giveOne_54 : decode cX7_giveOne 54 = .ok (.dup2, 1) := by decide +kernel
theorem dX7_giveOne_55 : decode cX7_giveOne 55 = .ok (.laload, 1) := by decide +kernel
theorem dX7_giveOne_56 : decode cX7_giveOne 56 = .ok (.lconst 1, 1) := by decide +kernel
theorem dX7_giveOne_57 : decode cX7_giveOne 57 = .ok (.ladd, 1) := by decide +kernel
theorem dX7_giveOne_58 : decode cX7_giveOne 58 = .ok (.lastore, 1) := by decide +kernel
theorem dX7_giveOne_59 : decode cX7_giveOne 59 = .ok (.aload_n 0, 1) := by decide +kernel
theorem dX7_giveOne_60 : decode cX7_giveOne 60 = .ok (.getfield 24, 3) := by decide +kernel
theorem dX7_giveOne_63 : decode cX7_giveOne 63 = .ok (.iload_n 2, 1) := by decide +kernel
theorem dX7_giveOne_64 : decode cX7_giveOne 64 = .ok (.lconst 0, 1) := by decide +kernel
theorem dX7_giveOne_65 : decode cX7_giveOne 65 = .ok (.lastore, 1) := by decide +kernel
theorem dX7_giveOne_66 : decode cX7_giveOne 66 = .ok (.return_, 1) := by decide +kernel
theorem dX7_isAhead_0 : decode cX7_isAhead 0 = .ok (.iload_n 3, 1) := by decide +kernel
theorem dX7_isAhead_1 : decode cX7_isAhead 1 = .ok (.bipush 98, 2) := by decide +kernel
theorem dX7_isAhead_3 : decode cX7_isAhead 3 = .ok (.if_icmp .eq 25, 3) := by decide +kernel
theorem dX7_isAhead_6 : decode cX7_isAhead 6 = .ok (.iload_n 3, 1) := by decide +kernel
theorem dX7_isAhead_7 : decode cX7_isAhead 7 = .ok (.bipush 108, 2) := by decide +kernel
theorem dX7_isAhead_9 : decode cX7_isAhead 9 = .ok (.if_icmp .ne 23, 3) := by decide +kernel
theorem dX7_isAhead_12 : decode cX7_isAhead 12 = .ok (.aload_n 0, 1) := by decide +kernel
theorem dX7_isAhead_13 : decode cX7_isAhead 13 = .ok (.getfield 24, 3) := by decide +kernel
theorem dX7_isAhead_16 : decode cX7_isAhead 16 = .ok (.iload_n 1, 1) := by decide +kernel
theorem dX7_isAhead_17 : decode cX7_isAhead 17 = .ok (.laload, 1) := by decide +kernel
theorem dX7_isAhead_18 : decode cX7_isAhead 18 = .ok (.aload_n 0, 1) := by decide +kernel
theorem dX7_isAhead_19 : decode cX7_isAhead 19 = .ok (.getfield 24, 3) := by decide +kernel
theorem dX7_isAhead_22 : decode cX7_isAhead 22 = .ok (.iload_n 2, 1) := by decide +kernel
theorem dX7_isAhead_23 : decode cX7_isAhead 23 = .ok (.laload, 1) := by decide +kernel
theorem dX7_isAhead_24 : decode cX7_isAhead 24 = .ok (.lcmp, 1) := by decide +kernel
theorem dX7_isAhead_25 : decode cX7_isAhead 25 = .ok (.ifCond .le 7, 3) := by decide +kernel
theorem dX7_isAhead_28 : decode cX7_isAhead 28 = .ok (.iconst 1, 1) := by decide +kernel
theorem dX7_isAhead_29 : decode cX7_isAhead 29 = .ok (.goto 4, 3) := by decide +kernel
theorem dX7_isAhead_32 : decode cX7_isAhead 32 = .ok (.iconst 0, 1) := by decide +kernel
theorem dX7_isAhead_33 : decode cX7_isAhead 33 = .ok (.ireturn, 1) := by decide +kernel
theorem dX7_addsUp_0 : decode cX7_addsUp 0 = .ok (.lconst 0, 1) := by decide +kernel
theorem dX7_addsUp_1 : decode cX7_addsUp 1 = .ok (.lstore_n 1, 1) := by decide +kernel
theorem dX7_addsUp_2 : decode cX7_addsUp 2 = .ok (.iconst 0, 1) := by decide +kernel
theorem dX7_addsUp_3 : decode cX7_addsUp 3 = .ok (.istore_n 3, 1) := by decide +kernel
theorem dX7_addsUp_4 : decode cX7_addsUp 4 = .ok (.iload_n 3, 1) := by decide +kernel
theorem dX7_addsUp_5 : decode cX7_addsUp 5 = .ok (.aload_n 0, 1) := by decide +kernel
theorem dX7_addsUp_6 : decode cX7_addsUp 6 = .ok (.getfield 21, 3) := by decide +kernel
theorem dX7_addsUp_9 : decode cX7_addsUp 9 = .ok (.if_icmp .ge 18, 3) := by decide +kernel
theorem dX7_addsUp_12 : decode cX7_addsUp 12 = .ok (.lload_n 1, 1) := by decide +kernel
theorem dX7_addsUp_13 : decode cX7_addsUp 13 = .ok (.aload_n 0, 1) := by decide +kernel
theorem dX7_addsUp_14 : decode cX7_addsUp 14 = .ok (.getfield 17, 3) := by decide +kernel
theorem dX7_addsUp_17 : decode cX7_addsUp 17 = .ok (.iload_n 3, 1) := by decide +kernel
theorem dX7_addsUp_18 : decode cX7_addsUp 18 = .ok (.laload, 1) := by decide +kernel
theorem dX7_addsUp_19 : decode cX7_addsUp 19 = .ok (.ladd, 1) := by decide +kernel
theorem dX7_addsUp_20 : decode cX7_addsUp 20 = .ok (.lstore_n 1, 1) := by decide +kernel
theorem dX7_addsUp_21 : decode cX7_addsUp 21 = .ok (.iinc 3 1, 3) := by decide +kernel
theorem dX7_addsUp_24 : decode cX7_addsUp 24 = .ok (.goto (-20), 3) := by decide +kernel
theorem dX7_addsUp_27 : decode cX7_addsUp 27 = .ok (.lload_n 1, 1) := by decide +kernel
theorem dX7_addsUp_28 : decode cX7_addsUp 28 = .ok (.aload_n 0, 1) := by decide +kernel
theorem dX7_addsUp_29 : decode cX7_addsUp 29 = .ok (.getfield 27, 3) := by decide +kernel
theorem dX7_addsUp_32 : decode cX7_addsUp 32 = .ok (.lcmp, 1) := by decide +kernel
theorem dX7_addsUp_33 : decode cX7_addsUp 33 = .ok (.ifCond .ne 7, 3) := by decide +kernel
theorem dX7_addsUp_36 : decode cX7_addsUp 36 = .ok (.iconst 1, 1) := by decide +kernel
theorem dX7_addsUp_37 : decode cX7_addsUp 37 = .ok (.goto 4, 3) := by decide +kernel
theorem dX7_addsUp_40 : decode cX7_addsUp 40 = .ok (.iconst 0, 1) := by decide +kernel
theorem dX7_addsUp_41 : decode cX7_addsUp 41 = .ok (.ireturn, 1) := by decide +kernel
theorem dX8_init_0 : decode cX8_init 0 = .ok (.aload_n 0, 1) := by decide +kernel
theorem dX8_init_1 : decode cX8_init 1 = .ok (.invokespecial 1, 3) := by decide +kernel
theorem dX8_init_4 : decode cX8_init 4 = .ok (.aload_n 0, 1) := by decide +kernel
theorem dX8_init_5 : decode cX8_init 5 = .ok (.iconst 4, 1) := by decide +kernel
theorem dX8_init_6 : decode cX8_init 6 = .ok (.newarray .int, 2) := by decide +kernel
theorem dX8_init_8 : decode cX8_init 8 = .ok (.putfield 7, 3) := by decide +kernel
theorem dX8_init_11 : decode cX8_init 11 = .ok (.aload_n 0, 1) := by decide +kernel
theorem dX8_init_12 : decode cX8_init 12 = .ok (.iconst 4, 1) := by decide +kernel
theorem dX8_init_13 : decode cX8_init 13 = .ok (.newarray .int, 2) := by decide +kernel
theorem dX8_init_15 : decode cX8_init 15 = .ok (.putfield 13, 3) := by decide +kernel
theorem dX8_init_18 : decode cX8_init 18 = .ok (.aload_n 0, 1) := by decide +kernel
theorem dX8_init_19 : decode cX8_init 19 = .ok (.iconst 0, 1) := by decide +kernel
theorem dX8_init_20 : decode cX8_init 20 = .ok (.putfield 16, 3) := by decide +kernel
theorem dX8_init_23 : decode cX8_init 23 = .ok (.return_, 1) := by decide +kernel
theorem dX8_tell_0 : decode cX8_tell 0 = .ok (.aload_n 0, 1) := by decide +kernel
theorem dX8_tell_1 : decode cX8_tell 1 = .ok (.iload_n 1, 1) := by decide +kernel
theorem dX8_tell_2 : decode cX8_tell 2 = .ok (.invokevirtual 20, 3) := by decide +kernel
theorem dX8_tell_5 : decode cX8_tell 5 = .ok (.istore_n 3, 1) := by decide +kernel
theorem dX8_tell_6 : decode cX8_tell 6 = .ok (.iload_n 3, 1) := by decide +kernel
theorem dX8_tell_7 : decode cX8_tell 7 = .ok (.aload_n 0, 1) := by decide +kernel
theorem dX8_tell_8 : decode cX8_tell 8 = .ok (.getfield 7, 3) := by decide +kernel
theorem dX8_tell_11 : decode cX8_tell 11 = .ok (.arraylength, 1) := by decide +kernel
theorem dX8_tell_12 : decode cX8_tell 12 = .ok (.if_icmp .lt 7, 3) := by decide +kernel
theorem dX8_tell_15 : decode cX8_tell 15 = .ok (.aload_n 0, 1) := by decide +kernel
theorem dX8_tell_16 : decode cX8_tell 16 = .ok (.invokevirtual 24, 3) := by decide +kernel
theorem dX8_tell_19 : decode cX8_tell 19 = .ok (.aload_n 0, 1) := by decide +kernel
theorem dX8_tell_20 : decode cX8_tell 20 = .ok (.getfield 7, 3) := by decide +kernel
theorem dX8_tell_23 : decode cX8_tell 23 = .ok (.iload_n 3, 1) := by decide +kernel
theorem dX8_tell_24 : decode cX8_tell 24 = .ok (.iload_n 1, 1) := by decide +kernel
theorem dX8_tell_25 : decode cX8_tell 25 = .ok (.iastore, 1) := by decide +kernel
theorem dX8_tell_26 : decode cX8_tell 26 = .ok (.aload_n 0, 1) := by decide +kernel
theorem dX8_tell_27 : decode cX8_tell 27 = .ok (.getfield 13, 3) := by decide +kernel
theorem dX8_tell_30 : decode cX8_tell 30 = .ok (.iload_n 3, 1) := by decide +kernel
theorem dX8_tell_31 : decode cX8_tell 31 = .ok (.iload_n 2, 1) := by decide +kernel
theorem dX8_tell_32 : decode cX8_tell 32 = .ok (.iastore, 1) := by decide +kernel
theorem dX8_tell_33 : decode cX8_tell 33 = .ok (.aload_n 0, 1) := by decide +kernel
theorem dX8_tell_34 : decode cX8_tell 34 = .ok (.aload_n 0, 1) := by decide +kernel
theorem dX8_tell_35 : decode cX8_tell 35 = .ok (.getfield 16, 3) := by decide +kernel
theorem dX8_tell_38 : decode cX8_tell 38 = .ok (.iload_n 3, 1) := by decide +kernel
theorem dX8_tell_39 : decode cX8_tell 39 = .ok (.iconst 1, 1) := by decide +kernel
theorem dX8_tell_40 : decode cX8_tell 40 = .ok (.iadd, 1) := by decide +kernel
theorem dX8_tell_41 : decode cX8_tell 41 = .ok (.invokestatic 27, 3) := by decide +kernel
theorem dX8_tell_44 : decode cX8_tell 44 = .ok (.putfield 16, 3) := by decide +kernel
theorem dX8_tell_47 : decode cX8_tell 47 = .ok (.aload_n 0, 1) := by decide +kernel
theorem dX8_tell_48 : decode cX8_tell 48 = .ok (.getfield 16, 3) := by decide +kernel
theorem dX8_tell_51 : decode cX8_tell 51 = .ok (.ireturn, 1) := by decide +kernel
theorem dX8_placeOf_0 : decode cX8_placeOf 0 = .ok (.iconst 0, 1) := by decide +kernel
theorem dX8_placeOf_1 : decode cX8_placeOf 1 = .ok (.istore_n 2, 1) := by decide +kernel
theorem dX8_placeOf_2 : decode cX8_placeOf 2 = .ok (.iload_n 2, 1) := by decide +kernel
theorem dX8_placeOf_3 : decode cX8_placeOf 3 = .ok (.aload_n 0, 1) := by decide +kernel
theorem dX8_placeOf_4 : decode cX8_placeOf 4 = .ok (.getfield 16, 3) := by decide +kernel
theorem dX8_placeOf_7 : decode cX8_placeOf 7 = .ok (.if_icmp .ge 21, 3) := by decide +kernel
theorem dX8_placeOf_10 : decode cX8_placeOf 10 = .ok (.aload_n 0, 1) := by decide +kernel
theorem dX8_placeOf_11 : decode cX8_placeOf 11 = .ok (.getfield 7, 3) := by decide +kernel
theorem dX8_placeOf_14 : decode cX8_placeOf 14 = .ok (.iload_n 2, 1) := by decide +kernel
theorem dX8_placeOf_15 : decode cX8_placeOf 15 = .ok (.iaload, 1) := by decide +kernel
theorem dX8_placeOf_16 : decode cX8_placeOf 16 = .ok (.iload_n 1, 1) := by decide +kernel
theorem dX8_placeOf_17 : decode cX8_placeOf 17 = .ok (.if_icmp .ne 5, 3) := by decide +kernel
theorem dX8_placeOf_20 : decode cX8_placeOf 20 = .ok (.iload_n 2, 1) := by decide +kernel
theorem dX8_placeOf_21 : decode cX8_placeOf 21 = .ok (.ireturn, 1) := by decide +kernel
theorem dX8_placeOf_22 : decode cX8_placeOf 22 = .ok (.iinc 2 1, 3) := by decide +kernel
theorem dX8_placeOf_25 : decode cX8_placeOf 25 = .ok (.goto (-23), 3) := by decide +kernel
theorem dX8_placeOf_28 : decode cX8_placeOf 28 = .ok (.aload_n 0, 1) := by decide +kernel
theorem dX8_placeOf_29 : decode cX8_placeOf 29 = .ok (.getfield 16, 3) := by decide +kernel
theorem dX8_placeOf_32 : decode cX8_placeOf 32 = .ok (.ireturn, 1) := by decide +kernel
theorem dX8_makeRoom_0 : decode cX8_makeRoom 0 = .ok (.aload_n 0, 1) := by decide +kernel
theorem dX8_makeRoom_1 : decode cX8_makeRoom 1 = .ok (.aload_n 0, 1) := by decide +kernel
theorem dX8_makeRoom_2 : decode cX8_makeRoom 2 = .ok (.getfield 7, 3) := by decide +kernel
theorem dX8_makeRoom_5 : decode cX8_makeRoom 5 = .ok (.aload_n 0, 1) := by decide +kernel
theorem dX8_makeRoom_6 : decode cX8_makeRoom 6 = .ok (.getfield 7, 3) := by decide +kernel
theorem dX8_makeRoom_9 : decode cX8_makeRoom 9 = .ok (.arraylength, 1) := by decide +kernel
theorem dX8_makeRoom_10 : decode cX8_makeRoom 10 = .ok (.iconst 2, 1) := by decide +kernel
theorem dX8_makeRoom_11 : decode cX8_makeRoom 11 = .ok (.imul, 1) := by decide +kernel
theorem dX8_makeRoom_12 : decode cX8_makeRoom 12 = .ok (.invokestatic 33, 3) := by decide +kernel
theorem dX8_makeRoom_15 : decode cX8_makeRoom 15 = .ok (.putfield 7, 3) := by decide +kernel
theorem dX8_makeRoom_18 : decode cX8_makeRoom 18 = .ok (.aload_n 0, 1) := by decide +kernel
theorem dX8_makeRoom_19 : decode cX8_makeRoom 19 = .ok (.aload_n 0, 1) := by decide +kernel
theorem dX8_makeRoom_20 : decode cX8_makeRoom 20 = .ok (.getfield 13, 3) := by decide +kernel
theorem dX8_makeRoom_23 : decode cX8_makeRoom 23 = .ok (.aload_n 0, 1) := by decide +kernel
theorem dX8_makeRoom_24 : decode cX8_makeRoom 24 = .ok (.getfield 7, 3) := by decide +kernel
theorem dX8_makeRoom_27 : decode cX8_makeRoom 27 = .ok (.arraylength, 1) := by decide +kernel
theorem dX8_makeRoom_28 : decode cX8_makeRoom 28 = .ok (.invokestatic 33, 3) := by decide +kernel
theorem dX8_makeRoom_31 : decode cX8_makeRoom 31 = .ok (.putfield 13, 3) := by decide +kernel
theorem dX8_makeRoom_34 : decode cX8_makeRoom 34 = .ok (.return_, 1) := by decide +kernel
theorem dX8_amountAt_0 : decode cX8_amountAt 0 = .ok (.iconst (-1), 1) := by decide +kernel
theorem dX8_amountAt_1 : decode cX8_amountAt 1 = .ok (.istore_n 2, 1) := by decide +kernel
theorem dX8_amountAt_2 : decode cX8_amountAt 2 = .ok (.iconst 0, 1) := by decide +kernel
theorem dX8_amountAt_3 : decode cX8_amountAt 3 = .ok (.istore_n 3, 1) := by decide +kernel
theorem dX8_amountAt_4 : decode cX8_amountAt 4 = .ok (.iconst 0, 1) := by decide +kernel
theorem dX8_amountAt_5 : decode cX8_amountAt 5 = .ok (.istore 4, 2) := by decide +kernel
theorem dX8_amountAt_7 : decode cX8_amountAt 7 = .ok (.iload 4, 2) := by decide +kernel
theorem dX8_amountAt_9 : decode cX8_amountAt 9 = .ok (.aload_n 0, 1) := by decide +kernel
theorem dX8_amountAt_10 : decode cX8_amountAt 10 = .ok (.getfield 16, 3) := by decide +kernel
theorem dX8_amountAt_13 : decode cX8_amountAt 13 = .ok (.if_icmp .ge 47, 3) := by decide +kernel
theorem dX8_amountAt_16 : decode cX8_amountAt 16 = .ok (.aload_n 0, 1) := by decide +kernel
theorem dX8_amountAt_17 : decode cX8_amountAt 17 = .ok (.getfield 7, 3) := by decide +kernel
theorem dX8_amountAt_20 : decode cX8_amountAt 20 = .ok (.iload 4, 2) := by decide +kernel
theorem dX8_amountAt_22 : decode cX8_amountAt 22 = .ok (.iaload, 1) := by decide +kernel
theorem dX8_amountAt_23 : decode cX8_amountAt 23 = .ok (.iload_n 1, 1) := by decide +kernel
theorem dX8_amountAt_24 : decode cX8_amountAt 24 = .ok (.if_icmp .gt 30, 3) := by decide +kernel
theorem dX8_amountAt_27 : decode cX8_amountAt 27 = .ok (.aload_n 0, 1) := by decide +kernel
theorem dX8_amountAt_28 : decode cX8_amountAt 28 = .ok (.getfield 7, 3) := by decide +kernel
theorem dX8_amountAt_31 : decode cX8_amountAt 31 = .ok (.iload 4, 2) := by decide +kernel
theorem dX8_amountAt_33 : decode cX8_amountAt 33 = .ok (.iaload, 1) := by decide +kernel
theorem dX8_amountAt_34 : decode cX8_amountAt 34 = .ok (.iload_n 2, 1) := by decide +kernel
theorem dX8_amountAt_35 : decode cX8_amountAt 35 = .ok (.if_icmp .le 19, 3) := by decide +kernel
theorem dX8_amountAt_38 : decode cX8_amountAt 38 = .ok (.aload_n 0, 1) := by decide +kernel
theorem dX8_amountAt_39 : decode cX8_amountAt 39 = .ok (.getfield 7, 3) := by decide +kernel
theorem dX8_amountAt_42 : decode cX8_amountAt 42 = .ok (.iload 4, 2) := by decide +kernel
theorem dX8_amountAt_44 : decode cX8_amountAt 44 = .ok (.iaload, 1) := by decide +kernel
theorem dX8_amountAt_45 : decode cX8_amountAt 45 = .ok (.istore_n 2, 1) := by decide +kernel
theorem dX8_amountAt_46 : decode cX8_amountAt 46 = .ok (.aload_n 0, 1) := by decide +kernel
theorem dX8_amountAt_47 : decode cX8_amountAt 47 = .ok (.getfield 13, 3) := by decide +kernel
theorem dX8_amountAt_50 : decode cX8_amountAt 50 = .ok (.iload 4, 2) := by decide +kernel
theorem dX8_amountAt_52 : decode cX8_amountAt 52 = .ok (.iaload, 1) := by decide +kernel
theorem dX8_amountAt_53 : decode cX8_amountAt 53 = .ok (.istore_n 3, 1) := by decide +kernel
theorem dX8_amountAt_54 : decode cX8_amountAt 54 = .ok (.iinc 4 1, 3) := by decide +kernel
theorem dX8_amountAt_57 : decode cX8_amountAt 57 = .ok (.goto (-50), 3) := by decide +kernel
theorem dX8_amountAt_60 : decode cX8_amountAt 60 = .ok (.iload_n 3, 1) := by decide +kernel
theorem dX8_amountAt_61 : decode cX8_amountAt 61 = .ok (.ireturn, 1) := by decide +kernel
theorem dX9_init_0 : decode cX9_init 0 = .ok (.aload_n 0, 1) := by decide +kernel
theorem dX9_init_1 : decode cX9_init 1 = .ok (.invokespecial 3, 3) := by decide +kernel
theorem dX9_init_4 : decode cX9_init 4 = .ok (.aload_n 0, 1) := by decide +kernel
theorem dX9_init_5 : decode cX9_init 5 = .ok (.bipush 24, 2) := by decide +kernel
theorem dX9_init_7 : decode cX9_init 7 = .ok (.newarray .char, 2) := by decide +kernel
theorem dX9_init_9 : decode cX9_init 9 = .ok (.putfield 11, 3) := by decide +kernel
theorem dX9_init_12 : decode cX9_init 12 = .ok (.aload_n 0, 1) := by decide +kernel
theorem dX9_init_13 : decode cX9_init 13 = .ok (.iconst 0, 1) := by decide +kernel
theorem dX9_init_14 : decode cX9_init 14 = .ok (.putfield 15, 3) := by decide +kernel
theorem dX9_init_17 : decode cX9_init 17 = .ok (.return_, 1) := by decide +kernel
theorem dX9_isFull_0 : decode cX9_isFull 0 = .ok (.aload_n 0, 1) := by decide +kernel
theorem dX9_isFull_1 : decode cX9_isFull 1 = .ok (.getfield 15, 3) := by decide +kernel
theorem dX9_isFull_4 : decode cX9_isFull 4 = .ok (.bipush 24, 2) := by decide +kernel
theorem dX9_isFull_6 : decode cX9_isFull 6 = .ok (.if_icmp .lt 7, 3) := by decide +kernel
theorem dX9_isFull_9 : decode cX9_isFull 9 = .ok (.iconst 1, 1) := by decide +kernel
theorem dX9_isFull_10 : decode cX9_isFull 10 = .ok (.goto 4, 3) := by decide +kernel
theorem dX9_isFull_13 : decode cX9_isFull 13 = .ok (.iconst 0, 1) := by decide +kernel
theorem dX9_isFull_14 : decode cX9_isFull 14 = .ok (.ireturn, 1) := by decide +kernel
theorem dX9_add_0 : decode cX9_add 0 = .ok (.aload_n 0, 1) := by decide +kernel
theorem dX9_add_1 : decode cX9_add 1 = .ok (.getfield 15, 3) := by decide +kernel
theorem dX9_add_4 : decode cX9_add 4 = .ok (.bipush 24, 2) := by decide +kernel
theorem dX9_add_6 : decode cX9_add 6 = .ok (.if_icmp .ge 23, 3) := by decide +kernel
theorem dX9_add_9 : decode cX9_add 9 = .ok (.aload_n 0, 1) := by decide +kernel
theorem dX9_add_10 : decode cX9_add 10 = .ok (.getfield 11, 3) := by decide +kernel
theorem dX9_add_13 : decode cX9_add 13 = .ok (.aload_n 0, 1) := by decide +kernel
theorem dX9_add_14 : decode cX9_add 14 = .ok (.getfield 15, 3) := by decide +kernel
theorem dX9_add_17 : decode cX9_add 17 = .ok (.iload_n 1, 1) := by decide +kernel
theorem dX9_add_18 : decode cX9_add 18 = .ok (.castore, 1) := by decide +kernel
theorem dX9_add_19 : decode cX9_add 19 = .ok (.aload_n 0, 1) := by decide +kernel
theorem dX9_add_20 : decode cX9_add 20 = .ok (.dup, 1) := by decide +kernel
theorem dX9_add_21 : decode cX9_add 21 = .ok (.getfield 15, 3) := by decide +kernel
theorem dX9_add_24 : decode cX9_add 24 = .ok (.iconst 1, 1) := by decide +kernel
theorem dX9_add_25 : decode cX9_add 25 = .ok (.iadd, 1) := by decide +kernel
theorem dX9_add_26 : decode cX9_add 26 = .ok (.putfield 15, 3) := by decide +kernel
theorem dX9_add_29 : decode cX9_add 29 = .ok (.aload_n 0, 1) := by decide +kernel
theorem dX9_add_30 : decode cX9_add 30 = .ok (.getfield 15, 3) := by decide +kernel
theorem dX9_add_33 : decode cX9_add 33 = .ok (.ireturn, 1) := by decide +kernel
theorem dX9_empty_0 : decode cX9_empty 0 = .ok (.aload_n 0, 1) := by decide +kernel
theorem dX9_empty_1 : decode cX9_empty 1 = .ok (.getfield 15, 3) := by decide +kernel
theorem dX9_empty_4 : decode cX9_empty 4 = .ok (.istore_n 1, 1) := by decide +kernel
theorem dX9_empty_5 : decode cX9_empty 5 = .ok (.aload_n 0, 1) := by decide +kernel
theorem dX9_empty_6 : decode cX9_empty 6 = .ok (.iconst 0, 1) := by decide +kernel
theorem dX9_empty_7 : decode cX9_empty 7 = .ok (.putfield 15, 3) := by decide +kernel
theorem dX9_empty_10 : decode cX9_empty 10 = .ok (.iload_n 1, 1) := by decide +kernel
theorem dX9_empty_11 : decode cX9_empty 11 = .ok (.ireturn, 1) := by decide +kernel
theorem dX9_firstFault_0 : decode cX9_firstFault 0 = .ok (.iconst 0, 1) := by decide +kernel
theorem dX9_firstFault_1 : decode cX9_firstFault 1 = .ok (.istore_n 1, 1) := by decide +kernel
theorem dX9_firstFault_2 : decode cX9_firstFault 2 = .ok (.iconst 0, 1) := by decide +kernel
theorem dX9_firstFault_3 : decode cX9_firstFault 3 = .ok (.istore_n 2, 1) := by decide +kernel
theorem dX9_firstFault_4 : decode cX9_firstFault 4 = .ok (.iload_n 2, 1) := by decide +kernel
theorem dX9_firstFault_5 : decode cX9_firstFault 5 = .ok (.aload_n 0, 1) := by decide +kernel
theorem dX9_firstFault_6 : decode cX9_firstFault 6 = .ok (.getfield 15, 3) := by decide +kernel
theorem dX9_firstFault_9 : decode cX9_firstFault 9 = .ok (.if_icmp .ge 27, 3) := by decide +kernel
theorem dX9_firstFault_12 : decode cX9_firstFault 12 = .ok (.iload_n 1, 1) := by decide +kernel
theorem dX9_firstFault_13 : decode cX9_firstFault 13 = .ok (.aload_n 0, 1) := by decide +kernel
theorem dX9_firstFault_14 : decode cX9_firstFault 14 = .ok (.getfield 11, 3) := by decide +kernel
theorem dX9_firstFault_17 : decode cX9_firstFault 17 = .ok (.iload_n 2, 1) := by decide +kernel
theorem dX9_firstFault_18 : decode cX9_firstFault 18 = .ok (.caload, 1) := by decide +kernel
theorem dX9_firstFault_19 : decode cX9_firstFault 19 = .ok (.invokestatic 19, 3) := by decide +kernel
theorem dX9_firstFault_22 : decode cX9_firstFault 22 = .ok (.istore_n 1, 1) := by decide +kernel
theorem dX9_firstFault_23 : decode cX9_firstFault 23 = .ok (.iload_n 1, 1) := by decide +kernel
theorem dX9_firstFault_24 : decode cX9_firstFault 24 = .ok (.iconst (-1), 1) := by decide +kernel
theorem dX9_firstFault_25 : decode cX9_firstFault 25 = .ok (.if_icmp .ne 5, 3) := by decide +kernel
theorem dX9_firstFault_28 : decode cX9_firstFault 28 = .ok (.iload_n 2, 1) := by decide +kernel
theorem dX9_firstFault_29 : decode cX9_firstFault 29 = .ok (.ireturn, 1) := by decide +kernel
theorem dX9_firstFault_30 : decode cX9_firstFault 30 = .ok (.iinc 2 1, 3) := by decide +kernel
theorem dX9_firstFault_33 : decode cX9_firstFault 33 = .ok (.goto (-29), 3) := by decide +kernel
theorem dX9_firstFault_36 : decode cX9_firstFault 36 = .ok (.iload_n 1, 1) := by decide +kernel
theorem dX9_firstFault_37 : decode cX9_firstFault 37 = .ok (.invokestatic 23, 3) := by decide +kernel
theorem dX9_firstFault_40 : decode cX9_firstFault 40 = .ok (.ifCond .eq 7, 3) := by decide +kernel
theorem dX9_firstFault_43 : decode cX9_firstFault 43 = .ok (.iconst (-1), 1) := by decide +kernel
theorem dX9_firstFault_44 : decode cX9_firstFault 44 = .ok (.goto 7, 3) := by decide +kernel
theorem dX9_firstFault_47 : decode cX9_firstFault 47 = .ok (.aload_n 0, 1) := by decide +kernel
theorem dX9_firstFault_48 : decode cX9_firstFault 48 = .ok (.getfield 15, 3) := by decide +kernel
theorem dX9_firstFault_51 : decode cX9_firstFault 51 = .ok (.ireturn, 1) := by decide +kernel
theorem dX9_isEnd_0 : decode cX9_isEnd 0 = .ok (.iload_n 0, 1) := by decide +kernel
theorem dX9_isEnd_1 : decode cX9_isEnd 1 = .ok (.iconst 3, 1) := by decide +kernel
theorem dX9_isEnd_2 : decode cX9_isEnd 2 = .ok (.if_icmp .eq 14, 3) := by decide +kernel
theorem dX9_isEnd_5 : decode cX9_isEnd 5 = .ok (.iload_n 0, 1) := by decide +kernel
theorem dX9_isEnd_6 : decode cX9_isEnd 6 = .ok (.iconst 4, 1) := by decide +kernel
theorem dX9_isEnd_7 : decode cX9_isEnd 7 = .ok (.if_icmp .eq 9, 3) := by decide +kernel
theorem dX9_isEnd_10 : decode cX9_isEnd 10 = .ok (.iload_n 0, 1) := by decide +kernel
theorem dX9_isEnd_11 : decode cX9_isEnd 11 = .ok (.bipush 7, 2) := by decide +kernel
theorem dX9_isEnd_13 : decode cX9_isEnd 13 = .ok (.if_icmp .lt 7, 3) := by decide +kernel
theorem dX9_isEnd_16 : decode cX9_isEnd 16 = .ok (.iconst 1, 1) := by decide +kernel
theorem dX9_isEnd_17 : decode cX9_isEnd 17 = .ok (.goto 4, 3) := by decide +kernel
theorem dX9_isEnd_20 : decode cX9_isEnd 20 = .ok (.iconst 0, 1) := by decide +kernel
theorem dX9_isEnd_21 : decode cX9_isEnd 21 = .ok (.ireturn, 1) := by decide +kernel
theorem dX9_next_0 : decode cX9_next 0 = .ok (.iload_n 0, 1) := by decide +kernel
theorem dX9_next_1 : decode cX9_next 1 = .ok (.tableswitch 147 0 8 #[51, 67, 88, 72, 101, 107, 126, 133, 140], 51) := by decide +kernel
theorem dX9_next_52 : decode cX9_next 52 = .ok (.iload_n 1, 1) := by decide +kernel
theorem dX9_next_53 : decode cX9_next 53 = .ok (.invokestatic 27, 3) := by decide +kernel
theorem dX9_next_56 : decode cX9_next 56 = .ok (.ifCond .eq 7, 3) := by decide +kernel
theorem dX9_next_59 : decode cX9_next 59 = .ok (.iconst 1, 1) := by decide +kernel
theorem dX9_next_60 : decode cX9_next 60 = .ok (.goto 7, 3) := by decide +kernel
theorem dX9_next_63 : decode cX9_next 63 = .ok (.iload_n 1, 1) := by decide +kernel
theorem dX9_next_64 : decode cX9_next 64 = .ok (.invokestatic 31, 3) := by decide +kernel
theorem dX9_next_67 : decode cX9_next 67 = .ok (.ireturn, 1) := by decide +kernel
theorem dX9_next_68 : decode cX9_next 68 = .ok (.iload_n 1, 1) := by decide +kernel
theorem dX9_next_69 : decode cX9_next 69 = .ok (.invokestatic 31, 3) := by decide +kernel
theorem dX9_next_72 : decode cX9_next 72 = .ok (.ireturn, 1) := by decide +kernel
theorem dX9_next_73 : decode cX9_next 73 = .ok (.iload_n 1, 1) := by decide +kernel
theorem dX9_next_74 : decode cX9_next 74 = .ok (.bipush 46, 2) := by decide +kernel
theorem dX9_next_76 : decode cX9_next 76 = .ok (.if_icmp .ne 7, 3) := by decide +kernel
theorem dX9_next_79 : decode cX9_next 79 = .ok (.iconst 4, 1) := by decide +kernel
theorem dX9_next_80 : decode cX9_next 80 = .ok (.goto 8, 3) := by decide +kernel
theorem dX9_next_83 : decode cX9_next 83 = .ok (.iconst 3, 1) := by decide +kernel
theorem dX9_next_84 : decode cX9_next 84 = .ok (.iload_n 1, 1) := by decide +kernel
theorem dX9_next_85 : decode cX9_next 85 = .ok (.invokestatic 35, 3) := by decide +kernel
theorem dX9_next_88 : decode cX9_next 88 = .ok (.ireturn, 1) := by decide +kernel
theorem dX9_next_89 : decode cX9_next 89 = .ok (.iload_n 1, 1) := by decide +kernel
theorem dX9_next_90 : decode cX9_next 90 = .ok (.invokestatic 38, 3) := by decide +kernel
theorem dX9_next_93 : decode cX9_next 93 = .ok (.ifCond .eq 7, 3) := by decide +kernel
theorem dX9_next_96 : decode cX9_next 96 = .ok (.iconst 4, 1) := by decide +kernel
theorem dX9_next_97 : decode cX9_next 97 = .ok (.goto 4, 3) := by decide +kernel
theorem dX9_next_100 : decode cX9_next 100 = .ok (.iconst (-1), 1) := by decide +kernel
theorem dX9_next_101 : decode cX9_next 101 = .ok (.ireturn, 1) := by decide +kernel
theorem dX9_next_102 : decode cX9_next 102 = .ok (.iconst 4, 1) := by decide +kernel
theorem dX9_next_103 : decode cX9_next 103 = .ok (.iload_n 1, 1) := by decide +kernel
theorem dX9_next_104 : decode cX9_next 104 = .ok (.invokestatic 35, 3) := by decide +kernel
theorem dX9_next_107 : decode cX9_next 107 = .ok (.ireturn, 1) := by decide +kernel
theorem dX9_next_108 : decode cX9_next 108 = .ok (.iload_n 1, 1) := by decide +kernel
theorem dX9_next_109 : decode cX9_next 109 = .ok (.invokestatic 27, 3) := by decide +kernel
theorem dX9_next_112 : decode cX9_next 112 = .ok (.ifCond .eq 8, 3) := by decide +kernel
theorem dX9_next_115 : decode cX9_next 115 = .ok (.bipush 6, 2) := by decide +kernel
theorem dX9_next_117 : decode cX9_next 117 = .ok (.goto 9, 3) := by decide +kernel
theorem dX9_next_120 : decode cX9_next 120 = .ok (.bipush 7, 2) := by decide +kernel
theorem dX9_next_122 : decode cX9_next 122 = .ok (.iload_n 1, 1) := by decide +kernel
theorem dX9_next_123 : decode cX9_next 123 = .ok (.invokestatic 41, 3) := by decide +kernel
theorem dX9_next_126 : decode cX9_next 126 = .ok (.ireturn, 1) := by decide +kernel
theorem dX9_next_127 : decode cX9_next 127 = .ok (.bipush 7, 2) := by decide +kernel
theorem dX9_next_129 : decode cX9_next 129 = .ok (.iload_n 1, 1) := by decide +kernel
theorem dX9_next_130 : decode cX9_next 130 = .ok (.invokestatic 41, 3) := by decide +kernel
theorem dX9_next_133 : decode cX9_next 133 = .ok (.ireturn, 1) := by decide +kernel
theorem dX9_next_134 : decode cX9_next 134 = .ok (.bipush 8, 2) := by decide +kernel
theorem dX9_next_136 : decode cX9_next 136 = .ok (.iload_n 1, 1) := by decide +kernel
theorem dX9_next_137 : decode cX9_next 137 = .ok (.invokestatic 41, 3) := by decide +kernel
theorem dX9_next_140 : decode cX9_next 140 = .ok (.ireturn, 1) := by decide +kernel
theorem dX9_next_141 : decode cX9_next 141 = .ok (.bipush 9, 2) := by decide +kernel
theorem dX9_next_143 : decode cX9_next 143 = .ok (.iload_n 1, 1) := by decide +kernel
theorem dX9_next_144 : decode cX9_next 144 = .ok (.invokestatic 41, 3) := by decide +kernel
theorem dX9_next_147 : decode cX9_next 147 = .ok (.ireturn, 1) := by decide +kernel
theorem dX9_next_148 : decode cX9_next 148 = .ok (.iconst (-1), 1) := by decide +kernel
theorem dX9_next_149 : decode cX9_next 149 = .ok (.ireturn, 1) := by decide +kernel
theorem dX9_nextBeforeDigits_0 : decode cX9_nextBeforeDigits 0 = .ok (.iload_n 0, 1) := by decide +kernel
theorem dX9_nextBeforeDigits_1 : decode cX9_nextBeforeDigits 1 = .ok (.bipush 46, 2) := by decide +kernel
theorem dX9_nextBeforeDigits_3 : decode cX9_nextBeforeDigits 3 = .ok (.if_icmp .ne 7, 3) := by decide +kernel
theorem dX9_nextBeforeDigits_6 : decode cX9_nextBeforeDigits 6 = .ok (.iconst 2, 1) := by decide +kernel
theorem dX9_nextBeforeDigits_7 : decode cX9_nextBeforeDigits 7 = .ok (.goto 8, 3) := by decide +kernel
theorem dX9_nextBeforeDigits_10 : decode cX9_nextBeforeDigits 10 = .ok (.iconst 3, 1) := by decide +kernel
theorem dX9_nextBeforeDigits_11 : decode cX9_nextBeforeDigits 11 = .ok (.iload_n 0, 1) := by decide +kernel
theorem dX9_nextBeforeDigits_12 : decode cX9_nextBeforeDigits 12 = .ok (.invokestatic 41, 3) := by decide +kernel
theorem dX9_nextBeforeDigits_15 : decode cX9_nextBeforeDigits 15 = .ok (.ireturn, 1) := by decide +kernel
theorem dX9_nextAmongDigits_0 : decode cX9_nextAmongDigits 0 = .ok (.iload_n 1, 1) := by decide +kernel
theorem dX9_nextAmongDigits_1 : decode cX9_nextAmongDigits 1 = .ok (.bipush 101, 2) := by decide +kernel
theorem dX9_nextAmongDigits_3 : decode cX9_nextAmongDigits 3 = .ok (.if_icmp .eq 9, 3) := by decide +kernel
theorem dX9_nextAmongDigits_6 : decode cX9_nextAmongDigits 6 = .ok (.iload_n 1, 1) := by decide +kernel
theorem dX9_nextAmongDigits_7 : decode cX9_nextAmongDigits 7 = .ok (.bipush 69, 2) := by decide +kernel
theorem dX9_nextAmongDigits_9 : decode cX9_nextAmongDigits 9 = .ok (.if_icmp .ne 7, 3) := by decide +kernel
theorem dX9_nextAmongDigits_12 : decode cX9_nextAmongDigits 12 = .ok (.iconst 5, 1) := by decide +kernel
theorem dX9_nextAmongDigits_13 : decode cX9_nextAmongDigits 13 = .ok (.goto 8, 3) := by decide +kernel
theorem dX9_nextAmongDigits_16 : decode cX9_nextAmongDigits 16 = .ok (.iload_n 0, 1) := by decide +kernel
theorem dX9_nextAmongDigits_17 : decode cX9_nextAmongDigits 17 = .ok (.iload_n 1, 1) := by decide +kernel
theorem dX9_nextAmongDigits_18 : decode cX9_nextAmongDigits 18 = .ok (.invokestatic 41, 3) := by decide +kernel
theorem dX9_nextAmongDigits_21 : decode cX9_nextAmongDigits 21 = .ok (.ireturn, 1) := by decide +kernel
theorem dX9_nextIfDigit_0 : decode cX9_nextIfDigit 0 = .ok (.iload_n 1, 1) := by decide +kernel
theorem dX9_nextIfDigit_1 : decode cX9_nextIfDigit 1 = .ok (.invokestatic 38, 3) := by decide +kernel
theorem dX9_nextIfDigit_4 : decode cX9_nextIfDigit 4 = .ok (.ifCond .eq 7, 3) := by decide +kernel
theorem dX9_nextIfDigit_7 : decode cX9_nextIfDigit 7 = .ok (.iload_n 0, 1) := by decide +kernel
theorem dX9_nextIfDigit_8 : decode cX9_nextIfDigit 8 = .ok (.goto 4, 3) := by decide +kernel
theorem dX9_nextIfDigit_11 : decode cX9_nextIfDigit 11 = .ok (.iconst (-1), 1) := by decide +kernel
theorem dX9_nextIfDigit_12 : decode cX9_nextIfDigit 12 = .ok (.ireturn, 1) := by decide +kernel
theorem dX9_isDigit_0 : decode cX9_isDigit 0 = .ok (.iload_n 0, 1) := by decide +kernel
theorem dX9_isDigit_1 : decode cX9_isDigit 1 = .ok (.bipush 48, 2) := by decide +kernel
theorem dX9_isDigit_3 : decode cX9_isDigit 3 = .ok (.if_icmp .lt 13, 3) := by decide +kernel
theorem dX9_isDigit_6 : decode cX9_isDigit 6 = .ok (.iload_n 0, 1) := by decide +kernel
theorem dX9_isDigit_7 : decode cX9_isDigit 7 = .ok (.bipush 57, 2) := by decide +kernel
theorem dX9_isDigit_9 : decode cX9_isDigit 9 = .ok (.if_icmp .gt 7, 3) := by decide +kernel
theorem dX9_isDigit_12 : decode cX9_isDigit 12 = .ok (.iconst 1, 1) := by decide +kernel
theorem dX9_isDigit_13 : decode cX9_isDigit 13 = .ok (.goto 4, 3) := by decide +kernel
theorem dX9_isDigit_16 : decode cX9_isDigit 16 = .ok (.iconst 0, 1) := by decide +kernel
theorem dX9_isDigit_17 : decode cX9_isDigit 17 = .ok (.ireturn, 1) := by decide +kernel
theorem dX9_isPlusOrMinus_0 : decode cX9_isPlusOrMinus 0 = .ok (.iload_n 0, 1) := by decide +kernel
theorem dX9_isPlusOrMinus_1 : decode cX9_isPlusOrMinus 1 = .ok (.bipush 43, 2) := by decide +kernel
theorem dX9_isPlusOrMinus_3 : decode cX9_isPlusOrMinus 3 = .ok (.if_icmp .eq 9, 3) := by decide +kernel
theorem dX9_isPlusOrMinus_6 : decode cX9_isPlusOrMinus 6 = .ok (.iload_n 0, 1) := by decide +kernel
theorem dX9_isPlusOrMinus_7 : decode cX9_isPlusOrMinus 7 = .ok (.bipush 45, 2) := by decide +kernel
theorem dX9_isPlusOrMinus_9 : decode cX9_isPlusOrMinus 9 = .ok (.if_icmp .ne 7, 3) := by decide +kernel
theorem dX9_isPlusOrMinus_12 : decode cX9_isPlusOrMinus 12 = .ok (.iconst 1, 1) := by decide +kernel
theorem dX9_isPlusOrMinus_13 : decode cX9_isPlusOrMinus 13 = .ok (.goto 4, 3) := by decide +kernel
theorem dX9_isPlusOrMinus_16 : decode cX9_isPlusOrMinus 16 = .ok (.iconst 0, 1) := by decide +kernel
theorem dX9_isPlusOrMinus_17 : decode cX9_isPlusOrMinus 17 = .ok (.ireturn, 1) := by decide +kernel
theorem dX9_value_0 : decode cX9_value 0 = .ok (.lconst 0, 1) := by decide +kernel
theorem dX9_value_1 : decode cX9_value 1 = .ok (.lstore_n 1, 1) := by decide +kernel
theorem dX9_value_2 : decode cX9_value 2 = .ok (.iconst 0, 1) := by decide +kernel
theorem dX9_value_3 : decode cX9_value 3 = .ok (.istore_n 3, 1) := by decide +kernel
theorem dX9_value_4 : decode cX9_value 4 = .ok (.iconst 0, 1) := by decide +kernel
theorem dX9_value_5 : decode cX9_value 5 = .ok (.istore 4, 2) := by decide +kernel
theorem dX9_value_7 : decode cX9_value 7 = .ok (.iconst 0, 1) := by decide +kernel
theorem dX9_value_8 : decode cX9_value 8 = .ok (.istore 5, 2) := by decide +kernel
theorem dX9_value_10 : decode cX9_value 10 = .ok (.iconst 0, 1) := by decide +kernel
theorem dX9_value_11 : decode cX9_value 11 = .ok (.istore 6, 2) := by decide +kernel
theorem dX9_value_13 : decode cX9_value 13 = .ok (.iconst 0, 1) := by decide +kernel
theorem dX9_value_14 : decode cX9_value 14 = .ok (.istore 7, 2) := by decide +kernel
theorem dX9_value_16 : decode cX9_value 16 = .ok (.iconst 0, 1) := by decide +kernel
theorem dX9_value_17 : decode cX9_value 17 = .ok (.istore 8, 2) := by decide +kernel
theorem dX9_value_19 : decode cX9_value 19 = .ok (.iload 8, 2) := by decide +kernel
theorem dX9_value_21 : decode cX9_value 21 = .ok (.aload_n 0, 1) := by decide +kernel
theorem dX9_value_22 : decode cX9_value 22 = .ok (.getfield 15, 3) := by decide +kernel
theorem dX9_value_25 : decode cX9_value 25 = .ok (.if_icmp .ge 137, 3) := by decide +kernel
theorem dX9_value_28 : decode cX9_value 28 = .ok (.aload_n 0, 1) := by decide +kernel
theorem dX9_value_29 : decode cX9_value 29 = .ok (.getfield 11, 3) := by decide +kernel
theorem dX9_value_32 : decode cX9_value 32 = .ok (.iload 8, 2) := by decide +kernel
theorem dX9_value_34 : decode cX9_value 34 = .ok (.caload, 1) := by decide +kernel
theorem dX9_value_35 : decode cX9_value 35 = .ok (.istore 9, 2) := by decide +kernel
theorem dX9_value_37 : decode cX9_value 37 = .ok (.iload 7, 2) := by decide +kernel
theorem dX9_value_39 : decode cX9_value 39 = .ok (.iload 9, 2) := by decide +kernel
theorem dX9_value_41 : decode cX9_value 41 = .ok (.invokestatic 19, 3) := by decide +kernel
theorem dX9_value_44 : decode cX9_value 44 = .ok (.istore 7, 2) := by decide +kernel
theorem dX9_value_46 : decode cX9_value 46 = .ok (.iload 7, 2) := by decide +kernel
theorem dX9_value_48 : decode cX9_value 48 = .ok (.iconst 1, 1) := by decide +kernel
theorem dX9_value_49 : decode cX9_value 49 = .ok (.if_icmp .ne 20, 3) := by decide +kernel
theorem dX9_value_52 : decode cX9_value 52 = .ok (.iload 9, 2) := by decide +kernel
theorem dX9_value_54 : decode cX9_value 54 = .ok (.bipush 45, 2) := by decide +kernel
theorem dX9_value_56 : decode cX9_value 56 = .ok (.if_icmp .ne 7, 3) := by decide +kernel
theorem dX9_value_59 : decode cX9_value 59 = .ok (.iconst 1, 1) := by decide +kernel
theorem dX9_value_60 : decode cX9_value 60 = .ok (.goto 4, 3) := by decide +kernel
theorem dX9_value_63 : decode cX9_value 63 = .ok (.iconst 0, 1) := by decide +kernel
theorem dX9_value_64 : decode cX9_value 64 = .ok (.istore 5, 2) := by decide +kernel
theorem dX9_value_66 : decode cX9_value 66 = .ok (.goto 90, 3) := by decide +kernel
theorem dX9_value_69 : decode cX9_value 69 = .ok (.iload 7, 2) := by decide +kernel
theorem dX9_value_71 : decode cX9_value 71 = .ok (.bipush 6, 2) := by decide +kernel
theorem dX9_value_73 : decode cX9_value 73 = .ok (.if_icmp .ne 20, 3) := by decide +kernel
theorem dX9_value_76 : decode cX9_value 76 = .ok (.iload 9, 2) := by decide +kernel
theorem dX9_value_78 : decode cX9_value 78 = .ok (.bipush 45, 2) := by decide +kernel
theorem dX9_value_80 : decode cX9_value 80 = .ok (.if_icmp .ne 7, 3) := by decide +kernel
theorem dX9_value_83 : decode cX9_value 83 = .ok (.iconst 1, 1) := by decide +kernel
theorem dX9_value_84 : decode cX9_value 84 = .ok (.goto 4, 3) := by decide +kernel
theorem dX9_value_87 : decode cX9_value 87 = .ok (.iconst 0, 1) := by decide +kernel
theorem dX9_value_88 : decode cX9_value 88 = .ok (.istore 6, 2) := by decide +kernel
theorem dX9_value_90 : decode cX9_value 90 = .ok (.goto 66, 3) := by decide +kernel
theorem dX9_value_93 : decode cX9_value 93 = .ok (.iload 9, 2) := by decide +kernel
theorem dX9_value_95 : decode cX9_value 95 = .ok (.invokestatic 38, 3) := by decide +kernel
theorem dX9_value_98 : decode cX9_value 98 = .ok (.ifCond .eq 26, 3) := by decide +kernel
theorem dX9_value_101 : decode cX9_value 101 = .ok (.iload 7, 2) := by decide +kernel
theorem dX9_value_103 : decode cX9_value 103 = .ok (.bipush 7, 2) := by decide +kernel
theorem dX9_value_105 : decode cX9_value 105 = .ok (.if_icmp .lt 19, 3) := by decide +kernel
theorem dX9_value_108 : decode cX9_value 108 = .ok (.iload 4, 2) := by decide +kernel
theorem dX9_value_110 : decode cX9_value 110 = .ok (.bipush 10, 2) := by decide +kernel
theorem dX9_value_112 : decode cX9_value 112 = .ok (.imul, 1) := by decide +kernel
theorem dX9_value_113 : decode cX9_value 113 = .ok (.iload 9, 2) := by decide +kernel
theorem dX9_value_115 : decode cX9_value 115 = .ok (.bipush 48, 2) := by decide +kernel
theorem dX9_value_117 : decode cX9_value 117 = .ok (.isub, 1) := by decide +kernel
theorem dX9_value_118 : decode cX9_value 118 = .ok (.iadd, 1) := by decide +kernel
theorem dX9_value_119 : decode cX9_value 119 = .ok (.istore 4, 2) := by decide +kernel
theorem dX9_value_121 : decode cX9_value 121 = .ok (.goto 35, 3) := by decide +kernel
theorem dX9_value_124 : decode cX9_value 124 = .ok (.iload 9, 2) := by decide +kernel
theorem dX9_value_126 : decode cX9_value 126 = .ok (.invokestatic 38, 3) := by decide +kernel
theorem dX9_value_129 : decode cX9_value 129 = .ok (.ifCond .eq 27, 3) := by decide +kernel
theorem dX9_value_132 : decode cX9_value 132 = .ok (.lload_n 1, 1) := by decide +kernel
theorem dX9_value_133 : decode cX9_value 133 = .ok (.iload 9, 2) := by decide +kernel
theorem dX9_value_135 : decode cX9_value 135 = .ok (.bipush 48, 2) := by decide +kernel
theorem dX9_value_137 : decode cX9_value 137 = .ok (.isub, 1) := by decide +kernel
theorem dX9_value_138 : decode cX9_value 138 = .ok (.invokestatic 44, 3) := by decide +kernel
theorem dX9_value_141 : decode cX9_value 141 = .ok (.lstore_n 1, 1) := by decide +kernel
theorem dX9_value_142 : decode cX9_value 142 = .ok (.iload_n 3, 1) := by decide +kernel
theorem dX9_value_143 : decode cX9_value 143 = .ok (.iload 7, 2) := by decide +kernel
theorem dX9_value_145 : decode cX9_value 145 = .ok (.iconst 4, 1) := by decide +kernel
theorem dX9_value_146 : decode cX9_value 146 = .ok (.if_icmp .ne 7, 3) := by decide +kernel
theorem dX9_value_149 : decode cX9_value 149 = .ok (.iconst 1, 1) := by decide +kernel
theorem dX9_value_150 : decode cX9_value 150 = .ok (.goto 4, 3) := by decide +kernel
theorem dX9_value_153 : decode cX9_value 153 = .ok (.iconst 0, 1) := by decide +kernel
theorem dX9_value_154 : decode cX9_value 154 = .ok (.iadd, 1) := by decide +kernel
theorem dX9_value_155 : decode cX9_value 155 = .ok (.istore_n 3, 1) := by decide +kernel
theorem dX9_value_156 : decode cX9_value 156 = .ok (.iinc 8 1, 3) := by decide +kernel
theorem dX9_value_159 : decode cX9_value 159 = .ok (.goto (-140), 3) := by decide +kernel
theorem dX9_value_162 : decode cX9_value 162 = .ok (.iload 5, 2) := by decide +kernel
theorem dX9_value_164 : decode cX9_value 164 = .ok (.ifCond .eq 8, 3) := by decide +kernel
theorem dX9_value_167 : decode cX9_value 167 = .ok (.lload_n 1, 1) := by decide +kernel
theorem dX9_value_168 : decode cX9_value 168 = .ok (.lneg, 1) := by decide +kernel
theorem dX9_value_169 : decode cX9_value 169 = .ok (.goto 4, 3) := by decide +kernel
theorem dX9_value_172 : decode cX9_value 172 = .ok (.lload_n 1, 1) := by decide +kernel
theorem dX9_value_173 : decode cX9_value 173 = .ok (.iload 6, 2) := by decide +kernel
theorem dX9_value_175 : decode cX9_value 175 = .ok (.ifCond .eq 10, 3) := by decide +kernel
theorem dX9_value_178 : decode cX9_value 178 = .ok (.iload_n 3, 1) := by decide +kernel
theorem dX9_value_179 : decode cX9_value 179 = .ok (.iload 4, 2) := by decide +kernel
theorem dX9_value_181 : decode cX9_value 181 = .ok (.iadd, 1) := by decide +kernel
theorem dX9_value_182 : decode cX9_value 182 = .ok (.goto 7, 3) := by decide +kernel
theorem dX9_value_185 : decode cX9_value 185 = .ok (.iload_n 3, 1) := by decide +kernel
theorem dX9_value_186 : decode cX9_value 186 = .ok (.iload 4, 2) := by decide +kernel
theorem dX9_value_188 : decode cX9_value 188 = .ok (.isub, 1) := by decide +kernel
theorem dX9_value_189 : decode cX9_value 189 = .ok (.invokestatic 48, 3) := by decide +kernel
theorem dX9_value_192 : decode cX9_value 192 = .ok (.areturn, 1) := by decide +kernel
theorem dX9_longer_0 : decode cX9_longer 0 = .ok (.lload_n 0, 1) := by decide +kernel
theorem dX9_longer_1 : decode cX9_longer 1 = .ok (.ldc2_w 54, 3) := by decide +kernel
theorem dX9_longer_4 : decode cX9_longer 4 = .ok (.lcmp, 1) := by decide +kernel
theorem dX9_longer_5 : decode cX9_longer 5 = .ok (.ifCond .le 13, 3) := by decide +kernel
theorem dX9_longer_8 : decode cX9_longer 8 = .ok (.new 56, 3) := by decide +kernel
theorem dX9_longer_11 : decode cX9_longer 11 = .ok (.dup, 1) := by decide +kernel
theorem dX9_longer_12 : decode cX9_longer 12 = .ok (.ldc 58, 2) := by decide +kernel
theorem dX9_longer_14 : decode cX9_longer 14 = .ok (.invokespecial 60, 3) := by decide +kernel
theorem dX9_longer_17 : decode cX9_longer 17 = .ok (.athrow, 1) := by decide +kernel
theorem dX9_longer_18 : decode cX9_longer 18 = .ok (.lload_n 0, 1) := by decide +kernel
theorem dX9_longer_19 : decode cX9_longer 19 = .ok (.ldc2_w 63, 3) := by decide +kernel
theorem dX9_longer_22 : decode cX9_longer 22 = .ok (.lmul, 1) := by decide +kernel
theorem dX9_longer_23 : decode cX9_longer 23 = .ok (.iload_n 2, 1) := by decide +kernel
theorem dX9_longer_24 : decode cX9_longer 24 = .ok (.i2l, 1) := by decide +kernel
theorem dX9_longer_25 : decode cX9_longer 25 = .ok (.ladd, 1) := by decide +kernel
theorem dX9_longer_26 : decode cX9_longer 26 = .ok (.lreturn, 1) := by decide +kernel
theorem dX10_init_0 : decode cX10_init 0 = .ok (.aload_n 0, 1) := by decide +kernel
theorem dX10_init_1 : decode cX10_init 1 = .ok (.invokespecial 3, 3) := by decide +kernel
theorem dX10_init_4 : decode cX10_init 4 = .ok (.aload_n 0, 1) := by decide +kernel
theorem dX10_init_5 : decode cX10_init 5 = .ok (.lload_n 1, 1) := by decide +kernel
theorem dX10_init_6 : decode cX10_init 6 = .ok (.putfield 9, 3) := by decide +kernel
theorem dX10_init_9 : decode cX10_init 9 = .ok (.aload_n 0, 1) := by decide +kernel
theorem dX10_init_10 : decode cX10_init 10 = .ok (.iload_n 3, 1) := by decide +kernel
theorem dX10_init_11 : decode cX10_init 11 = .ok (.putfield 15, 3) := by decide +kernel
theorem dX10_init_14 : decode cX10_init 14 = .ok (.return_, 1) := by decide +kernel
theorem dX10_isInRange_0 : decode cX10_isInRange 0 = .ok (.lload_n 0, 1) := by decide +kernel
theorem dX10_isInRange_1 : decode cX10_isInRange 1 = .ok (.ldc2_w 19, 3) := by decide +kernel
theorem dX10_isInRange_4 : decode cX10_isInRange 4 = .ok (.lcmp, 1) := by decide +kernel
theorem dX10_isInRange_5 : decode cX10_isInRange 5 = .ok (.ifCond .lt 27, 3) := by decide +kernel
theorem dX10_isInRange_8 : decode cX10_isInRange 8 = .ok (.lload_n 0, 1) := by decide +kernel
theorem dX10_isInRange_9 : decode cX10_isInRange 9 = .ok (.ldc2_w 21, 3) := by decide +kernel
theorem dX10_isInRange_12 : decode cX10_isInRange 12 = .ok (.lcmp, 1) := by decide +kernel
theorem dX10_isInRange_13 : decode cX10_isInRange 13 = .ok (.ifCond .gt 19, 3) := by decide +kernel
theorem dX10_isInRange_16 : decode cX10_isInRange 16 = .ok (.iload_n 2, 1) := by decide +kernel
theorem dX10_isInRange_17 : decode cX10_isInRange 17 = .ok (.bipush (-18), 2) := by decide +kernel
theorem dX10_isInRange_19 : decode cX10_isInRange 19 = .ok (.if_icmp .lt 13, 3) := by decide +kernel
theorem dX10_isInRange_22 : decode cX10_isInRange 22 = .ok (.iload_n 2, 1) := by decide +kernel
theorem dX10_isInRange_23 : decode cX10_isInRange 23 = .ok (.bipush 36, 2) := by decide +kernel
theorem dX10_isInRange_25 : decode cX10_isInRange 25 = .ok (.if_icmp .gt 7, 3) := by decide +kernel
theorem dX10_isInRange_28 : decode cX10_isInRange 28 = .ok (.iconst 1, 1) := by decide +kernel
theorem dX10_isInRange_29 : decode cX10_isInRange 29 = .ok (.goto 4, 3) := by decide +kernel
theorem dX10_isInRange_32 : decode cX10_isInRange 32 = .ok (.iconst 0, 1) := by decide +kernel
theorem dX10_isInRange_33 : decode cX10_isInRange 33 = .ok (.ireturn, 1) := by decide +kernel
theorem dX10_checked_0 : decode cX10_checked 0 = .ok (.lload_n 0, 1) := by decide +kernel
theorem dX10_checked_1 : decode cX10_checked 1 = .ok (.iload_n 2, 1) := by decide +kernel
theorem dX10_checked_2 : decode cX10_checked 2 = .ok (.invokestatic 23, 3) := by decide +kernel
theorem dX10_checked_5 : decode cX10_checked 5 = .ok (.ifCond .ne 13, 3) := by decide +kernel
theorem dX10_checked_8 : decode cX10_checked 8 = .ok (.new 27, 3) := by decide +kernel
theorem dX10_checked_11 : decode cX10_checked 11 = .ok (.dup, 1) := by decide +kernel
theorem dX10_checked_12 : decode cX10_checked 12 = .ok (.ldc 29, 2) := by decide +kernel
theorem dX10_checked_14 : decode cX10_checked 14 = .ok (.invokespecial 31, 3) := by decide +kernel
theorem dX10_checked_17 : decode cX10_checked 17 = .ok (.athrow, 1) := by decide +kernel
theorem dX10_checked_18 : decode cX10_checked 18 = .ok (.new 10, 3) := by decide +kernel
theorem dX10_checked_21 : decode cX10_checked 21 = .ok (.dup, 1) := by decide +kernel
theorem dX10_checked_22 : decode cX10_checked 22 = .ok (.lload_n 0, 1) := by decide +kernel
theorem dX10_checked_23 : decode cX10_checked 23 = .ok (.iload_n 2, 1) := by decide +kernel
theorem dX10_checked_24 : decode cX10_checked 24 = .ok (.invokespecial 34, 3) := by decide +kernel
theorem dX10_checked_27 : decode cX10_checked 27 = .ok (.areturn, 1) := by decide +kernel
theorem dX10_signed_0 : decode cX10_signed 0 = .ok (.iload_n 0, 1) := by decide +kernel
theorem dX10_signed_1 : decode cX10_signed 1 = .ok (.ifCond .eq 8, 3) := by decide +kernel
theorem dX10_signed_4 : decode cX10_signed 4 = .ok (.lload_n 1, 1) := by decide +kernel
theorem dX10_signed_5 : decode cX10_signed 5 = .ok (.lneg, 1) := by decide +kernel
theorem dX10_signed_6 : decode cX10_signed 6 = .ok (.goto 4, 3) := by decide +kernel
theorem dX10_signed_9 : decode cX10_signed 9 = .ok (.lload_n 1, 1) := by decide +kernel
theorem dX10_signed_10 : decode cX10_signed 10 = .ok (.iload_n 3, 1) := by decide +kernel
theorem dX10_signed_11 : decode cX10_signed 11 = .ok (.invokestatic 37, 3) := by decide +kernel
theorem dX10_signed_14 : decode cX10_signed 14 = .ok (.areturn, 1) := by decide +kernel
theorem dX10_size_0 : decode cX10_size 0 = .ok (.aload_n 0, 1) := by decide +kernel
theorem dX10_size_1 : decode cX10_size 1 = .ok (.getfield 9, 3) := by decide +kernel
theorem dX10_size_4 : decode cX10_size 4 = .ok (.invokestatic 41, 3) := by decide +kernel
theorem dX10_size_7 : decode cX10_size 7 = .ok (.lreturn, 1) := by decide +kernel
theorem dX10_sign_0 : decode cX10_sign 0 = .ok (.aload_n 0, 1) := by decide +kernel
theorem dX10_sign_1 : decode cX10_sign 1 = .ok (.getfield 9, 3) := by decide +kernel
theorem dX10_sign_4 : decode cX10_sign 4 = .ok (.lconst 0, 1) := by decide +kernel
theorem dX10_sign_5 : decode cX10_sign 5 = .ok (.lcmp, 1) := by decide +kernel
theorem dX10_sign_6 : decode cX10_sign 6 = .ok (.ifCond .ne 5, 3) := by decide +kernel
theorem dX10_sign_9 : decode cX10_sign 9 = .ok (.iconst 0, 1) := by decide +kernel
theorem dX10_sign_10 : decode cX10_sign 10 = .ok (.ireturn, 1) := by decide +kernel
theorem dX10_sign_11 : decode cX10_sign 11 = .ok (.aload_n 0, 1) := by decide +kernel
theorem dX10_sign_12 : decode cX10_sign 12 = .ok (.getfield 9, 3) := by decide +kernel
theorem dX10_sign_15 : decode cX10_sign 15 = .ok (.lconst 0, 1) := by decide +kernel
theorem dX10_sign_16 : decode cX10_sign 16 = .ok (.lcmp, 1) := by decide +kernel
theorem dX10_sign_17 : decode cX10_sign 17 = .ok (.ifCond .ge 7, 3) := by decide +kernel
theorem dX10_sign_20 : decode cX10_sign 20 = .ok (.iconst (-1), 1) := by decide +kernel
theorem dX10_sign_21 : decode cX10_sign 21 = .ok (.goto 4, 3) := by decide +kernel
theorem dX10_sign_24 : decode cX10_sign 24 = .ok (.iconst 1, 1) := by decide +kernel
theorem dX10_sign_25 : decode cX10_sign 25 = .ok (.ireturn, 1) := by decide +kernel
theorem dX10_digits_0 : decode cX10_digits 0 = .ok (.aload_n 0, 1) := by decide +kernel
theorem dX10_digits_1 : decode cX10_digits 1 = .ok (.invokevirtual 47, 3) := by decide +kernel
theorem dX10_digits_4 : decode cX10_digits 4 = .ok (.invokestatic 51, 3) := by decide +kernel
theorem dX10_digits_7 : decode cX10_digits 7 = .ok (.ireturn, 1) := by decide +kernel
theorem dX10_plus_0 : decode cX10_plus 0 = .ok (.aload_n 0, 1) := by decide +kernel
theorem dX10_plus_1 : decode cX10_plus 1 = .ok (.getfield 15, 3) := by decide +kernel
theorem dX10_plus_4 : decode cX10_plus 4 = .ok (.aload_n 1, 1) := by decide +kernel
theorem dX10_plus_5 : decode cX10_plus 5 = .ok (.getfield 15, 3) := by decide +kernel
theorem dX10_plus_8 : decode cX10_plus 8 = .ok (.invokestatic 57, 3) := by decide +kernel
theorem dX10_plus_11 : decode cX10_plus 11 = .ok (.istore_n 2, 1) := by decide +kernel
theorem dX10_plus_12 : decode cX10_plus 12 = .ok (.aload_n 0, 1) := by decide +kernel
theorem dX10_plus_13 : decode cX10_plus 13 = .ok (.iload_n 2, 1) := by decide +kernel
theorem dX10_plus_14 : decode cX10_plus 14 = .ok (.invokevirtual 61, 3) := by decide +kernel
theorem dX10_plus_17 : decode cX10_plus 17 = .ok (.aload_n 1, 1) := by decide +kernel
theorem dX10_plus_18 : decode cX10_plus 18 = .ok (.iload_n 2, 1) := by decide +kernel
theorem dX10_plus_19 : decode cX10_plus 19 = .ok (.invokevirtual 61, 3) := by decide +kernel
theorem dX10_plus_22 : decode cX10_plus 22 = .ok (.ladd, 1) := by decide +kernel
theorem dX10_plus_23 : decode cX10_plus 23 = .ok (.iload_n 2, 1) := by decide +kernel
theorem dX10_plus_24 : decode cX10_plus 24 = .ok (.invokestatic 37, 3) := by decide +kernel
theorem dX10_plus_27 : decode cX10_plus 27 = .ok (.areturn, 1) := by decide +kernel
theorem dX10_minus_0 : decode cX10_minus 0 = .ok (.aload_n 0, 1) := by decide +kernel
theorem dX10_minus_1 : decode cX10_minus 1 = .ok (.getfield 15, 3) := by decide +kernel
theorem dX10_minus_4 : decode cX10_minus 4 = .ok (.aload_n 1, 1) := by decide +kernel
theorem dX10_minus_5 : decode cX10_minus 5 = .ok (.getfield 15, 3) := by decide +kernel
theorem dX10_minus_8 : decode cX10_minus 8 = .ok (.invokestatic 57, 3) := by decide +kernel
theorem dX10_minus_11 : decode cX10_minus 11 = .ok (.istore_n 2, 1) := by decide +kernel
theorem dX10_minus_12 : decode cX10_minus 12 = .ok (.aload_n 0, 1) := by decide +kernel
theorem dX10_minus_13 : decode cX10_minus 13 = .ok (.iload_n 2, 1) := by decide +kernel
theorem dX10_minus_14 : decode cX10_minus 14 = .ok (.invokevirtual 61, 3) := by decide +kernel
theorem dX10_minus_17 : decode cX10_minus 17 = .ok (.aload_n 1, 1) := by decide +kernel
theorem dX10_minus_18 : decode cX10_minus 18 = .ok (.iload_n 2, 1) := by decide +kernel
theorem dX10_minus_19 : decode cX10_minus 19 = .ok (.invokevirtual 61, 3) := by decide +kernel
theorem dX10_minus_22 : decode cX10_minus 22 = .ok (.lsub, 1) := by decide +kernel
theorem dX10_minus_23 : decode cX10_minus 23 = .ok (.iload_n 2, 1) := by decide +kernel
theorem dX10_minus_24 : decode cX10_minus 24 = .ok (.invokestatic 37, 3) := by decide +kernel
theorem dX10_minus_27 : decode cX10_minus 27 = .ok (.areturn, 1) := by decide +kernel
theorem dX10_aligned_0 : decode cX10_aligned 0 = .ok (.aload_n 0, 1) := by decide +kernel
theorem dX10_aligned_1 : decode cX10_aligned 1 = .ok (.getfield 9, 3) := by decide +kernel
theorem dX10_aligned_4 : decode cX10_aligned 4 = .ok (.iload_n 1, 1) := by decide +kernel
theorem dX10_aligned_5 : decode cX10_aligned 5 = .ok (.aload_n 0, 1) := by decide +kernel
theorem dX10_aligned_6 : decode cX10_aligned 6 = .ok (.getfield 15, 3) := by decide +kernel
theorem dX10_aligned_9 : decode cX10_aligned 9 = .ok (.isub, 1) := by decide +kernel
theorem dX10_aligned_10 : decode cX10_aligned 10 = .ok (.ldc2_w 65, 3) := by decide +kernel
theorem dX10_aligned_13 : decode cX10_aligned 13 = .ok (.invokestatic 67, 3) := by decide +kernel
theorem dX10_aligned_16 : decode cX10_aligned 16 = .ok (.lreturn, 1) := by decide +kernel
theorem dX10_times_0 : decode cX10_times 0 = .ok (.aload_n 1, 1) := by decide +kernel
theorem dX10_times_1 : decode cX10_times 1 = .ok (.invokevirtual 47, 3) := by decide +kernel
theorem dX10_times_4 : decode cX10_times 4 = .ok (.lstore_n 2, 1) := by decide +kernel
theorem dX10_times_5 : decode cX10_times 5 = .ok (.lload_n 2, 1) := by decide +kernel
theorem dX10_times_6 : decode cX10_times 6 = .ok (.lconst 0, 1) := by decide +kernel
theorem dX10_times_7 : decode cX10_times 7 = .ok (.lcmp, 1) := by decide +kernel
theorem dX10_times_8 : decode cX10_times 8 = .ok (.ifCond .eq 26, 3) := by decide +kernel
theorem dX10_times_11 : decode cX10_times 11 = .ok (.aload_n 0, 1) := by decide +kernel
theorem dX10_times_12 : decode cX10_times 12 = .ok (.invokevirtual 47, 3) := by decide +kernel
theorem dX10_times_15 : decode cX10_times 15 = .ok (.ldc2_w 21, 3) := by decide +kernel
theorem dX10_times_18 : decode cX10_times 18 = .ok (.lload_n 2, 1) := by decide +kernel
theorem dX10_times_19 : decode cX10_times 19 = .ok (.ldiv, 1) := by decide +kernel
theorem dX10_times_20 : decode cX10_times 20 = .ok (.lcmp, 1) := by decide +kernel
theorem dX10_times_21 : decode cX10_times 21 = .ok (.ifCond .le 13, 3) := by decide +kernel
theorem dX10_times_24 : decode cX10_times 24 = .ok (.new 27, 3) := by decide +kernel
theorem dX10_times_27 : decode cX10_times 27 = .ok (.dup, 1) := by decide +kernel
theorem dX10_times_28 : decode cX10_times 28 = .ok (.ldc 71, 2) := by decide +kernel
theorem dX10_times_30 : decode cX10_times 30 = .ok (.invokespecial 31, 3) := by decide +kernel
theorem dX10_times_33 : decode cX10_times 33 = .ok (.athrow, 1) := by decide +kernel
theorem dX10_times_34 : decode cX10_times 34 = .ok (.aload_n 0, 1) := by decide +kernel
theorem dX10_times_35 : decode cX10_times 35 = .ok (.getfield 9, 3) := by decide +kernel
theorem dX10_times_38 : decode cX10_times 38 = .ok (.aload_n 1, 1) := by decide +kernel
theorem dX10_times_39 : decode cX10_times 39 = .ok (.getfield 9, 3) := by decide +kernel
theorem dX10_times_42 : decode cX10_times 42 = .ok (.lmul, 1) := by decide +kernel
theorem dX10_times_43 : decode cX10_times 43 = .ok (.aload_n 0, 1) := by decide +kernel
theorem dX10_times_44 : decode cX10_times 44 = .ok (.getfield 15, 3) := by decide +kernel
theorem dX10_times_47 : decode cX10_times 47 = .ok (.aload_n 1, 1) := by decide +kernel
theorem dX10_times_48 : decode cX10_times 48 = .ok (.getfield 15, 3) := by decide +kernel
theorem dX10_times_51 : decode cX10_times 51 = .ok (.iadd, 1) := by decide +kernel
theorem dX10_times_52 : decode cX10_times 52 = .ok (.invokestatic 37, 3) := by decide +kernel
theorem dX10_times_55 : decode cX10_times 55 = .ok (.areturn, 1) := by decide +kernel
theorem dX10_order_0 : decode cX10_order 0 = .ok (.aload_n 0, 1) := by decide +kernel
theorem dX10_order_1 : decode cX10_order 1 = .ok (.invokevirtual 73, 3) := by decide +kernel
theorem dX10_order_4 : decode cX10_order 4 = .ok (.aload_n 1, 1) := by decide +kernel
theorem dX10_order_5 : decode cX10_order 5 = .ok (.invokevirtual 73, 3) := by decide +kernel
theorem dX10_order_8 : decode cX10_order 8 = .ok (.if_icmp .eq 20, 3) := by decide +kernel
theorem dX10_order_11 : decode cX10_order 11 = .ok (.aload_n 0, 1) := by decide +kernel
theorem dX10_order_12 : decode cX10_order 12 = .ok (.invokevirtual 73, 3) := by decide +kernel
theorem dX10_order_15 : decode cX10_order 15 = .ok (.aload_n 1, 1) := by decide +kernel
theorem dX10_order_16 : decode cX10_order 16 = .ok (.invokevirtual 73, 3) := by decide +kernel
theorem dX10_order_19 : decode cX10_order 19 = .ok (.if_icmp .ge 7, 3) := by decide +kernel
theorem dX10_order_22 : decode cX10_order 22 = .ok (.iconst (-1), 1) := by decide +kernel
theorem dX10_order_23 : decode cX10_order 23 = .ok (.goto 4, 3) := by decide +kernel
theorem dX10_order_26 : decode cX10_order 26 = .ok (.iconst 1, 1) := by decide +kernel
theorem dX10_order_27 : decode cX10_order 27 = .ok (.ireturn, 1) := by decide +kernel
theorem dX10_order_28 : decode cX10_order 28 = .ok (.aload_n 0, 1) := by decide +kernel
theorem dX10_order_29 : decode cX10_order 29 = .ok (.invokevirtual 73, 3) := by decide +kernel
theorem dX10_order_32 : decode cX10_order 32 = .ok (.aload_n 0, 1) := by decide +kernel
theorem dX10_order_33 : decode cX10_order 33 = .ok (.aload_n 1, 1) := by decide +kernel
theorem dX10_order_34 : decode cX10_order 34 = .ok (.invokevirtual 77, 3) := by decide +kernel
theorem dX10_order_37 : decode cX10_order 37 = .ok (.imul, 1) := by decide +kernel
theorem dX10_order_38 : decode cX10_order 38 = .ok (.ireturn, 1) := by decide +kernel
theorem dX10_sizeOrder_0 : decode cX10_sizeOrder 0 = .ok (.aload_n 0, 1) := by decide +kernel
theorem dX10_sizeOrder_1 : decode cX10_sizeOrder 1 = .ok (.invokevirtual 81, 3) := by decide +kernel
theorem dX10_sizeOrder_4 : decode cX10_sizeOrder 4 = .ok (.aload_n 0, 1) := by decide +kernel
theorem dX10_sizeOrder_5 : decode cX10_sizeOrder 5 = .ok (.getfield 15, 3) := by decide +kernel
theorem dX10_sizeOrder_8 : decode cX10_sizeOrder 8 = .ok (.isub, 1) := by decide +kernel
theorem dX10_sizeOrder_9 : decode cX10_sizeOrder 9 = .ok (.istore_n 2, 1) := by decide +kernel
theorem dX10_sizeOrder_10 : decode cX10_sizeOrder 10 = .ok (.aload_n 1, 1) := by decide +kernel
theorem dX10_sizeOrder_11 : decode cX10_sizeOrder 11 = .ok (.invokevirtual 81, 3) := by decide +kernel
theorem dX10_sizeOrder_14 : decode cX10_sizeOrder 14 = .ok (.aload_n 1, 1) := by decide +kernel
theorem dX10_sizeOrder_15 : decode cX10_sizeOrder 15 = .ok (.getfield 15, 3) := by decide +kernel
theorem dX10_sizeOrder_18 : decode cX10_sizeOrder 18 = .ok (.isub, 1) := by decide +kernel
theorem dX10_sizeOrder_19 : decode cX10_sizeOrder 19 = .ok (.istore_n 3, 1) := by decide +kernel
theorem dX10_sizeOrder_20 : decode cX10_sizeOrder 20 = .ok (.iload_n 2, 1) := by decide +kernel
theorem dX10_sizeOrder_21 : decode cX10_sizeOrder 21 = .ok (.iload_n 3, 1) := by decide +kernel
theorem dX10_sizeOrder_22 : decode cX10_sizeOrder 22 = .ok (.if_icmp .eq 14, 3) := by decide +kernel
theorem dX10_sizeOrder_25 : decode cX10_sizeOrder 25 = .ok (.iload_n 2, 1) := by decide +kernel
theorem dX10_sizeOrder_26 : decode cX10_sizeOrder 26 = .ok (.iload_n 3, 1) := by decide +kernel
theorem dX10_sizeOrder_27 : decode cX10_sizeOrder 27 = .ok (.if_icmp .ge 7, 3) := by decide +kernel
theorem dX10_sizeOrder_30 : decode cX10_sizeOrder 30 = .ok (.iconst (-1), 1) := by decide +kernel
theorem dX10_sizeOrder_31 : decode cX10_sizeOrder 31 = .ok (.goto 4, 3) := by decide +kernel
theorem dX10_sizeOrder_34 : decode cX10_sizeOrder 34 = .ok (.iconst 1, 1) := by decide +kernel
theorem dX10_sizeOrder_35 : decode cX10_sizeOrder 35 = .ok (.ireturn, 1) := by decide +kernel
theorem dX10_sizeOrder_36 : decode cX10_sizeOrder 36 = .ok (.aload_n 0, 1) := by decide +kernel
theorem dX10_sizeOrder_37 : decode cX10_sizeOrder 37 = .ok (.getfield 15, 3) := by decide +kernel
theorem dX10_sizeOrder_40 : decode cX10_sizeOrder 40 = .ok (.aload_n 1, 1) := by decide +kernel
theorem dX10_sizeOrder_41 : decode cX10_sizeOrder 41 = .ok (.getfield 15, 3) := by decide +kernel
theorem dX10_sizeOrder_44 : decode cX10_sizeOrder 44 = .ok (.invokestatic 57, 3) := by decide +kernel
theorem dX10_sizeOrder_47 : decode cX10_sizeOrder 47 = .ok (.istore 4, 2) := by decide +kernel
theorem dX10_sizeOrder_49 : decode cX10_sizeOrder 49 = .ok (.aload_n 0, 1) := by decide +kernel
theorem dX10_sizeOrder_50 : decode cX10_sizeOrder 50 = .ok (.iload 4, 2) := by decide +kernel
theorem dX10_sizeOrder_52 : decode cX10_sizeOrder 52 = .ok (.invokevirtual 61, 3) := by decide +kernel
theorem dX10_sizeOrder_55 : decode cX10_sizeOrder 55 = .ok (.invokestatic 41, 3) := by decide +kernel
theorem dX10_sizeOrder_58 : decode cX10_sizeOrder 58 = .ok (.lstore 5, 2) := by decide +kernel
theorem dX10_sizeOrder_60 : decode cX10_sizeOrder 60 = .ok (.aload_n 1, 1) := by decide +kernel
theorem dX10_sizeOrder_61 : decode cX10_sizeOrder 61 = .ok (.iload 4, 2) := by decide +kernel
theorem dX10_sizeOrder_63 : decode cX10_sizeOrder 63 = .ok (.invokevirtual 61, 3) := by decide +kernel
theorem dX10_sizeOrder_66 : decode cX10_sizeOrder 66 = .ok (.invokestatic 41, 3) := by decide +kernel
theorem dX10_sizeOrder_69 : decode cX10_sizeOrder 69 = .ok (.lstore 7, 2) := by decide +kernel
theorem dX10_sizeOrder_71 : decode cX10_sizeOrder 71 = .ok (.lload 5, 2) := by decide +kernel
theorem dX10_sizeOrder_73 : decode cX10_sizeOrder 73 = .ok (.lload 7, 2) := by decide +kernel
theorem dX10_sizeOrder_75 : decode cX10_sizeOrder 75 = .ok (.lcmp, 1) := by decide +kernel
theorem dX10_sizeOrder_76 : decode cX10_sizeOrder 76 = .ok (.ifCond .ne 5, 3) := by decide +kernel
theorem dX10_sizeOrder_79 : decode cX10_sizeOrder 79 = .ok (.iconst 0, 1) := by decide +kernel
theorem dX10_sizeOrder_80 : decode cX10_sizeOrder 80 = .ok (.ireturn, 1) := by decide +kernel
theorem dX10_sizeOrder_81 : decode cX10_sizeOrder 81 = .ok (.lload 5, 2) := by decide +kernel
theorem dX10_sizeOrder_83 : decode cX10_sizeOrder 83 = .ok (.lload 7, 2) := by decide +kernel
theorem dX10_sizeOrder_85 : decode cX10_sizeOrder 85 = .ok (.lcmp, 1) := by decide +kernel
theorem dX10_sizeOrder_86 : decode cX10_sizeOrder 86 = .ok (.ifCond .ge 7, 3) := by decide +kernel
theorem dX10_sizeOrder_89 : decode cX10_sizeOrder 89 = .ok (.iconst (-1), 1) := by decide +kernel
theorem dX10_sizeOrder_90 : decode cX10_sizeOrder 90 = .ok (.goto 4, 3) := by decide +kernel
theorem dX10_sizeOrder_93 : decode cX10_sizeOrder 93 = .ok (.iconst 1, 1) := by decide +kernel
theorem dX10_sizeOrder_94 : decode cX10_sizeOrder 94 = .ok (.ireturn, 1) := by decide +kernel
theorem dX10_stripped_0 : decode cX10_stripped 0 = .ok (.aload_n 0, 1) := by decide +kernel
theorem dX10_stripped_1 : decode cX10_stripped 1 = .ok (.getfield 9, 3) := by decide +kernel
theorem dX10_stripped_4 : decode cX10_stripped 4 = .ok (.lconst 0, 1) := by decide +kernel
theorem dX10_stripped_5 : decode cX10_stripped 5 = .ok (.lcmp, 1) := by decide +kernel
theorem dX10_stripped_6 : decode cX10_stripped 6 = .ok (.ifCond .ne 13, 3) := by decide +kernel
theorem dX10_stripped_9 : decode cX10_stripped 9 = .ok (.new 10, 3) := by decide +kernel
theorem dX10_stripped_12 : decode cX10_stripped 12 = .ok (.dup, 1) := by decide +kernel
theorem dX10_stripped_13 : decode cX10_stripped 13 = .ok (.lconst 0, 1) := by decide +kernel
theorem dX10_stripped_14 : decode cX10_stripped 14 = .ok (.iconst 0, 1) := by decide +kernel
theorem dX10_stripped_15 : decode cX10_stripped 15 = .ok (.invokespecial 34, 3) := by decide +kernel
theorem dX10_stripped_18 : decode cX10_stripped 18 = .ok (.areturn, 1) := by decide +kernel
theorem dX10_stripped_19 : decode cX10_stripped 19 = .ok (.aload_n 0, 1) := by decide +kernel
theorem dX10_stripped_20 : decode cX10_stripped 20 = .ok (.getfield 9, 3) := by decide +kernel
theorem dX10_stripped_23 : decode cX10_stripped 23 = .ok (.lstore_n 1, 1) := by decide +kernel
theorem dX10_stripped_24 : decode cX10_stripped 24 = .ok (.iconst 0, 1) := by decide +kernel
theorem dX10_stripped_25 : decode cX10_stripped 25 = .ok (.istore_n 3, 1) := by decide +kernel
theorem dX10_stripped_26 : decode cX10_stripped 26 = .ok (.iload_n 3, 1) := by decide +kernel
theorem dX10_stripped_27 : decode cX10_stripped 27 = .ok (.bipush 18, 2) := by decide +kernel
theorem dX10_stripped_29 : decode cX10_stripped 29 = .ok (.if_icmp .ge 25, 3) := by decide +kernel
theorem dX10_stripped_32 : decode cX10_stripped 32 = .ok (.lload_n 1, 1) := by decide +kernel
theorem dX10_stripped_33 : decode cX10_stripped 33 = .ok (.ldc2_w 84, 3) := by decide +kernel
theorem dX10_stripped_36 : decode cX10_stripped 36 = .ok (.lrem, 1) := by decide +kernel
theorem dX10_stripped_37 : decode cX10_stripped 37 = .ok (.lconst 0, 1) := by decide +kernel
theorem dX10_stripped_38 : decode cX10_stripped 38 = .ok (.lcmp, 1) := by decide +kernel
theorem dX10_stripped_39 : decode cX10_stripped 39 = .ok (.ifCond .ne 15, 3) := by decide +kernel
theorem dX10_stripped_42 : decode cX10_stripped 42 = .ok (.lload_n 1, 1) := by decide +kernel
theorem dX10_stripped_43 : decode cX10_stripped 43 = .ok (.ldc2_w 84, 3) := by decide +kernel
theorem dX10_stripped_46 : decode cX10_stripped 46 = .ok (.ldiv, 1) := by decide +kernel
theorem dX10_stripped_47 : decode cX10_stripped 47 = .ok (.lstore_n 1, 1) := by decide +kernel
theorem dX10_stripped_48 : decode cX10_stripped 48 = .ok (.iinc 3 1, 3) := by decide +kernel
theorem dX10_stripped_51 : decode cX10_stripped 51 = .ok (.goto (-25), 3) := by decide +kernel
theorem dX10_stripped_54 : decode cX10_stripped 54 = .ok (.lload_n 1, 1) := by decide +kernel
theorem dX10_stripped_55 : decode cX10_stripped 55 = .ok (.aload_n 0, 1) := by decide +kernel
theorem dX10_stripped_56 : decode cX10_stripped 56 = .ok (.getfield 15, 3) := by decide +kernel
theorem dX10_stripped_59 : decode cX10_stripped 59 = .ok (.iload_n 3, 1) := by decide +kernel
theorem dX10_stripped_60 : decode cX10_stripped 60 = .ok (.isub, 1) := by decide +kernel
theorem dX10_stripped_61 : decode cX10_stripped 61 = .ok (.invokestatic 37, 3) := by decide +kernel
theorem dX10_stripped_64 : decode cX10_stripped 64 = .ok (.areturn, 1) := by decide +kernel
theorem dX10_moved_0 : decode cX10_moved 0 = .ok (.aload_n 0, 1) := by decide +kernel
theorem dX10_moved_1 : decode cX10_moved 1 = .ok (.getfield 15, 3) := by decide +kernel
theorem dX10_moved_4 : decode cX10_moved 4 = .ok (.iload_n 1, 1) := by decide +kernel
theorem dX10_moved_5 : decode cX10_moved 5 = .ok (.iadd, 1) := by decide +kernel
theorem dX10_moved_6 : decode cX10_moved 6 = .ok (.istore_n 2, 1) := by decide +kernel
theorem dX10_moved_7 : decode cX10_moved 7 = .ok (.iload_n 2, 1) := by decide +kernel
theorem dX10_moved_8 : decode cX10_moved 8 = .ok (.ifCond .lt 12, 3) := by decide +kernel
theorem dX10_moved_11 : decode cX10_moved 11 = .ok (.aload_n 0, 1) := by decide +kernel
theorem dX10_moved_12 : decode cX10_moved 12 = .ok (.getfield 9, 3) := by decide +kernel
theorem dX10_moved_15 : decode cX10_moved 15 = .ok (.iload_n 2, 1) := by decide +kernel
theorem dX10_moved_16 : decode cX10_moved 16 = .ok (.invokestatic 37, 3) := by decide +kernel
theorem dX10_moved_19 : decode cX10_moved 19 = .ok (.areturn, 1) := by decide +kernel
theorem dX10_moved_20 : decode cX10_moved 20 = .ok (.aload_n 0, 1) := by decide +kernel
theorem dX10_moved_21 : decode cX10_moved 21 = .ok (.getfield 9, 3) := by decide +kernel
theorem dX10_moved_24 : decode cX10_moved 24 = .ok (.iload_n 2, 1) := by decide +kernel
theorem dX10_moved_25 : decode cX10_moved 25 = .ok (.ineg, 1) := by decide +kernel
theorem dX10_moved_26 : decode cX10_moved 26 = .ok (.ldc2_w 21, 3) := by decide +kernel
theorem dX10_moved_29 : decode cX10_moved 29 = .ok (.invokestatic 67, 3) := by decide +kernel
theorem dX10_moved_32 : decode cX10_moved 32 = .ok (.iconst 0, 1) := by decide +kernel
theorem dX10_moved_33 : decode cX10_moved 33 = .ok (.invokestatic 37, 3) := by decide +kernel
theorem dX10_moved_36 : decode cX10_moved 36 = .ok (.areturn, 1) := by decide +kernel
theorem dX10_toScale_0 : decode cX10_toScale 0 = .ok (.iload_n 1, 1) := by decide +kernel
theorem dX10_toScale_1 : decode cX10_toScale 1 = .ok (.aload_n 0, 1) := by decide +kernel
theorem dX10_toScale_2 : decode cX10_toScale 2 = .ok (.getfield 15, 3) := by decide +kernel
theorem dX10_toScale_5 : decode cX10_toScale 5 = .ok (.if_icmp .lt 24, 3) := by decide +kernel
theorem dX10_toScale_8 : decode cX10_toScale 8 = .ok (.aload_n 0, 1) := by decide +kernel
theorem dX10_toScale_9 : decode cX10_toScale 9 = .ok (.getfield 9, 3) := by decide +kernel
theorem dX10_toScale_12 : decode cX10_toScale 12 = .ok (.iload_n 1, 1) := by decide +kernel
theorem dX10_toScale_13 : decode cX10_toScale 13 = .ok (.aload_n 0, 1) := by decide +kernel
theorem dX10_toScale_14 : decode cX10_toScale 14 = .ok (.getfield 15, 3) := by decide +kernel
theorem dX10_toScale_17 : decode cX10_toScale 17 = .ok (.isub, 1) := by decide +kernel
theorem dX10_toScale_18 : decode cX10_toScale 18 = .ok (.ldc2_w 21, 3) := by decide +kernel
theorem dX10_toScale_21 : decode cX10_toScale 21 = .ok (.invokestatic 67, 3) := by decide +kernel
theorem dX10_toScale_24 : decode cX10_toScale 24 = .ok (.iload_n 1, 1) := by decide +kernel
theorem dX10_toScale_25 : decode cX10_toScale 25 = .ok (.invokestatic 37, 3) := by decide +kernel
theorem dX10_toScale_28 : decode cX10_toScale 28 = .ok (.areturn, 1) := by decide +kernel
theorem dX10_toScale_29 : decode cX10_toScale 29 = .ok (.aload_n 0, 1) := by decide +kernel
theorem dX10_toScale_30 : decode cX10_toScale 30 = .ok (.getfield 9, 3) := by decide +kernel
theorem dX10_toScale_33 : decode cX10_toScale 33 = .ok (.lconst 0, 1) := by decide +kernel
theorem dX10_toScale_34 : decode cX10_toScale 34 = .ok (.lcmp, 1) := by decide +kernel
theorem dX10_toScale_35 : decode cX10_toScale 35 = .ok (.ifCond .ge 7, 3) := by decide +kernel
theorem dX10_toScale_38 : decode cX10_toScale 38 = .ok (.iconst 1, 1) := by decide +kernel
theorem dX10_toScale_39 : decode cX10_toScale 39 = .ok (.goto 4, 3) := by decide +kernel
theorem dX10_toScale_42 : decode cX10_toScale 42 = .ok (.iconst 0, 1) := by decide +kernel
theorem dX10_toScale_43 : decode cX10_toScale 43 = .ok (.aload_n 0, 1) := by decide +kernel
theorem dX10_toScale_44 : decode cX10_toScale 44 = .ok (.aload_n 0, 1) := by decide +kernel
theorem dX10_toScale_45 : decode cX10_toScale 45 = .ok (.getfield 15, 3) := by decide +kernel
theorem dX10_toScale_48 : decode cX10_toScale 48 = .ok (.iload_n 1, 1) := by decide +kernel
theorem dX10_toScale_49 : decode cX10_toScale 49 = .ok (.isub, 1) := by decide +kernel
theorem dX10_toScale_50 : decode cX10_toScale 50 = .ok (.iload_n 2, 1) := by decide +kernel
theorem dX10_toScale_51 : decode cX10_toScale 51 = .ok (.invokevirtual 86, 3) := by decide +kernel
theorem dX10_toScale_54 : decode cX10_toScale 54 = .ok (.iload_n 1, 1) := by decide +kernel
theorem dX10_toScale_55 : decode cX10_toScale 55 = .ok (.invokestatic 90, 3) := by decide +kernel
theorem dX10_toScale_58 : decode cX10_toScale 58 = .ok (.areturn, 1) := by decide +kernel
theorem dX10_toDigits_0 : decode cX10_toDigits 0 = .ok (.aload_n 0, 1) := by decide +kernel
theorem dX10_toDigits_1 : decode cX10_toDigits 1 = .ok (.invokevirtual 81, 3) := by decide +kernel
theorem dX10_toDigits_4 : decode cX10_toDigits 4 = .ok (.iload_n 1, 1) := by decide +kernel
theorem dX10_toDigits_5 : decode cX10_toDigits 5 = .ok (.isub, 1) := by decide +kernel
theorem dX10_toDigits_6 : decode cX10_toDigits 6 = .ok (.istore_n 3, 1) := by decide +kernel
theorem dX10_toDigits_7 : decode cX10_toDigits 7 = .ok (.iload_n 3, 1) := by decide +kernel
theorem dX10_toDigits_8 : decode cX10_toDigits 8 = .ok (.ifCond .gt 5, 3) := by decide +kernel
theorem dX10_toDigits_11 : decode cX10_toDigits 11 = .ok (.aload_n 0, 1) := by decide +kernel
theorem dX10_toDigits_12 : decode cX10_toDigits 12 = .ok (.areturn, 1) := by decide +kernel
theorem dX10_toDigits_13 : decode cX10_toDigits 13 = .ok (.aload_n 0, 1) := by decide +kernel
theorem dX10_toDigits_14 : decode cX10_toDigits 14 = .ok (.iload_n 3, 1) := by decide +kernel
theorem dX10_toDigits_15 : decode cX10_toDigits 15 = .ok (.iload_n 2, 1) := by decide +kernel
theorem dX10_toDigits_16 : decode cX10_toDigits 16 = .ok (.invokevirtual 86, 3) := by decide +kernel
theorem dX10_toDigits_19 : decode cX10_toDigits 19 = .ok (.lstore 4, 2) := by decide +kernel
theorem dX10_toDigits_21 : decode cX10_toDigits 21 = .ok (.lload 4, 2) := by decide +kernel
theorem dX10_toDigits_23 : decode cX10_toDigits 23 = .ok (.invokestatic 51, 3) := by decide +kernel
theorem dX10_toDigits_26 : decode cX10_toDigits 26 = .ok (.iload_n 1, 1) := by decide +kernel
theorem dX10_toDigits_27 : decode cX10_toDigits 27 = .ok (.if_icmp .le 14, 3) := by decide +kernel
theorem dX10_toDigits_30 : decode cX10_toDigits 30 = .ok (.lload 4, 2) := by decide +kernel
theorem dX10_toDigits_32 : decode cX10_toDigits 32 = .ok (.ldc2_w 84, 3) := by decide +kernel
theorem dX10_toDigits_35 : decode cX10_toDigits 35 = .ok (.ldiv, 1) := by decide +kernel
theorem dX10_toDigits_36 : decode cX10_toDigits 36 = .ok (.lstore 4, 2) := by decide +kernel
theorem dX10_toDigits_38 : decode cX10_toDigits 38 = .ok (.iinc 3 1, 3) := by decide +kernel
theorem dX10_toDigits_41 : decode cX10_toDigits 41 = .ok (.aload_n 0, 1) := by decide +kernel
theorem dX10_toDigits_42 : decode cX10_toDigits 42 = .ok (.getfield 9, 3) := by decide +kernel
theorem dX10_toDigits_45 : decode cX10_toDigits 45 = .ok (.lconst 0, 1) := by decide +kernel
theorem dX10_toDigits_46 : decode cX10_toDigits 46 = .ok (.lcmp, 1) := by decide +kernel
theorem dX10_toDigits_47 : decode cX10_toDigits 47 = .ok (.ifCond .ge 7, 3) := by decide +kernel
theorem dX10_toDigits_50 : decode cX10_toDigits 50 = .ok (.iconst 1, 1) := by decide +kernel
theorem dX10_toDigits_51 : decode cX10_toDigits 51 = .ok (.goto 4, 3) := by decide +kernel
theorem dX10_toDigits_54 : decode cX10_toDigits 54 = .ok (.iconst 0, 1) := by decide +kernel
theorem dX10_toDigits_55 : decode cX10_toDigits 55 = .ok (.lload 4, 2) := by decide +kernel
theorem dX10_toDigits_57 : decode cX10_toDigits 57 = .ok (.aload_n 0, 1) := by decide +kernel
theorem dX10_toDigits_58 : decode cX10_toDigits 58 = .ok (.getfield 15, 3) := by decide +kernel
theorem dX10_toDigits_61 : decode cX10_toDigits 61 = .ok (.iload_n 3, 1) := by decide +kernel
theorem dX10_toDigits_62 : decode cX10_toDigits 62 = .ok (.isub, 1) := by decide +kernel
theorem dX10_toDigits_63 : decode cX10_toDigits 63 = .ok (.invokestatic 90, 3) := by decide +kernel
theorem dX10_toDigits_66 : decode cX10_toDigits 66 = .ok (.areturn, 1) := by decide +kernel
theorem dX10_sizeCut_0 : decode cX10_sizeCut 0 = .ok (.iload_n 1, 1) := by decide +kernel
theorem dX10_sizeCut_1 : decode cX10_sizeCut 1 = .ok (.ifCond .lt 9, 3) := by decide +kernel
theorem dX10_sizeCut_4 : decode cX10_sizeCut 4 = .ok (.iload_n 1, 1) := by decide +kernel
theorem dX10_sizeCut_5 : decode cX10_sizeCut 5 = .ok (.bipush 18, 2) := by decide +kernel
theorem dX10_sizeCut_7 : decode cX10_sizeCut 7 = .ok (.if_icmp .le 39, 3) := by decide +kernel
theorem dX10_sizeCut_10 : decode cX10_sizeCut 10 = .ok (.aload_n 0, 1) := by decide +kernel
theorem dX10_sizeCut_11 : decode cX10_sizeCut 11 = .ok (.getfield 9, 3) := by decide +kernel
theorem dX10_sizeCut_14 : decode cX10_sizeCut 14 = .ok (.lconst 0, 1) := by decide +kernel
theorem dX10_sizeCut_15 : decode cX10_sizeCut 15 = .ok (.lcmp, 1) := by decide +kernel
theorem dX10_sizeCut_16 : decode cX10_sizeCut 16 = .ok (.ifCond .ne 7, 3) := by decide +kernel
theorem dX10_sizeCut_19 : decode cX10_sizeCut 19 = .ok (.iconst 0, 1) := by decide +kernel
theorem dX10_sizeCut_20 : decode cX10_sizeCut 20 = .ok (.goto 4, 3) := by decide +kernel
theorem dX10_sizeCut_23 : decode cX10_sizeCut 23 = .ok (.iconst 1, 1) := by decide +kernel
theorem dX10_sizeCut_24 : decode cX10_sizeCut 24 = .ok (.istore_n 3, 1) := by decide +kernel
theorem dX10_sizeCut_25 : decode cX10_sizeCut 25 = .ok (.lconst 0, 1) := by decide +kernel
theorem dX10_sizeCut_26 : decode cX10_sizeCut 26 = .ok (.iload_n 3, 1) := by decide +kernel
theorem dX10_sizeCut_27 : decode cX10_sizeCut 27 = .ok (.aload_n 0, 1) := by decide +kernel
theorem dX10_sizeCut_28 : decode cX10_sizeCut 28 = .ok (.getfield 9, 3) := by decide +kernel
theorem dX10_sizeCut_31 : decode cX10_sizeCut 31 = .ok (.lconst 0, 1) := by decide +kernel
theorem dX10_sizeCut_32 : decode cX10_sizeCut 32 = .ok (.lcmp, 1) := by decide +kernel
theorem dX10_sizeCut_33 : decode cX10_sizeCut 33 = .ok (.ifCond .ge 7, 3) := by decide +kernel
theorem dX10_sizeCut_36 : decode cX10_sizeCut 36 = .ok (.iconst 1, 1) := by decide +kernel
theorem dX10_sizeCut_37 : decode cX10_sizeCut 37 = .ok (.goto 4, 3) := by decide +kernel
theorem dX10_sizeCut_40 : decode cX10_sizeCut 40 = .ok (.iconst 0, 1) := by decide +kernel
theorem dX10_sizeCut_41 : decode cX10_sizeCut 41 = .ok (.iload_n 2, 1) := by decide +kernel
theorem dX10_sizeCut_42 : decode cX10_sizeCut 42 = .ok (.invokestatic 94, 3) := by decide +kernel
theorem dX10_sizeCut_45 : decode cX10_sizeCut 45 = .ok (.lreturn, 1) := by decide +kernel
theorem dX10_sizeCut_46 : decode cX10_sizeCut 46 = .ok (.getstatic 98, 3) := by decide +kernel
theorem dX10_sizeCut_49 : decode cX10_sizeCut 49 = .ok (.iload_n 1, 1) := by decide +kernel
theorem dX10_sizeCut_50 : decode cX10_sizeCut 50 = .ok (.laload, 1) := by decide +kernel
theorem dX10_sizeCut_51 : decode cX10_sizeCut 51 = .ok (.lstore_n 3, 1) := by decide +kernel
theorem dX10_sizeCut_52 : decode cX10_sizeCut 52 = .ok (.aload_n 0, 1) := by decide +kernel
theorem dX10_sizeCut_53 : decode cX10_sizeCut 53 = .ok (.invokevirtual 47, 3) := by decide +kernel
theorem dX10_sizeCut_56 : decode cX10_sizeCut 56 = .ok (.lload_n 3, 1) := by decide +kernel
theorem dX10_sizeCut_57 : decode cX10_sizeCut 57 = .ok (.lrem, 1) := by decide +kernel
theorem dX10_sizeCut_58 : decode cX10_sizeCut 58 = .ok (.lload_n 3, 1) := by decide +kernel
theorem dX10_sizeCut_59 : decode cX10_sizeCut 59 = .ok (.invokestatic 102, 3) := by decide +kernel
theorem dX10_sizeCut_62 : decode cX10_sizeCut 62 = .ok (.istore 5, 2) := by decide +kernel
theorem dX10_sizeCut_64 : decode cX10_sizeCut 64 = .ok (.aload_n 0, 1) := by decide +kernel
theorem dX10_sizeCut_65 : decode cX10_sizeCut 65 = .ok (.invokevirtual 47, 3) := by decide +kernel
theorem dX10_sizeCut_68 : decode cX10_sizeCut 68 = .ok (.lload_n 3, 1) := by decide +kernel
theorem dX10_sizeCut_69 : decode cX10_sizeCut 69 = .ok (.ldiv, 1) := by decide +kernel
theorem dX10_sizeCut_70 : decode cX10_sizeCut 70 = .ok (.iload 5, 2) := by decide +kernel
theorem dX10_sizeCut_72 : decode cX10_sizeCut 72 = .ok (.aload_n 0, 1) := by decide +kernel
theorem dX10_sizeCut_73 : decode cX10_sizeCut 73 = .ok (.getfield 9, 3) := by decide +kernel
theorem dX10_sizeCut_76 : decode cX10_sizeCut 76 = .ok (.lconst 0, 1) := by decide +kernel
theorem dX10_sizeCut_77 : decode cX10_sizeCut 77 = .ok (.lcmp, 1) := by decide +kernel
theorem dX10_sizeCut_78 : decode cX10_sizeCut 78 = .ok (.ifCond .ge 7, 3) := by decide +kernel
theorem dX10_sizeCut_81 : decode cX10_sizeCut 81 = .ok (.iconst 1, 1) := by decide +kernel
theorem dX10_sizeCut_82 : decode cX10_sizeCut 82 = .ok (.goto 4, 3) := by decide +kernel
theorem dX10_sizeCut_85 : decode cX10_sizeCut 85 = .ok (.iconst 0, 1) := by decide +kernel
theorem dX10_sizeCut_86 : decode cX10_sizeCut 86 = .ok (.iload_n 2, 1) := by decide +kernel
theorem dX10_sizeCut_87 : decode cX10_sizeCut 87 = .ok (.invokestatic 94, 3) := by decide +kernel
theorem dX10_sizeCut_90 : decode cX10_sizeCut 90 = .ok (.lreturn, 1) := by decide +kernel
theorem dX10_over_0 : decode cX10_over 0 = .ok (.aload_n 1, 1) := by decide +kernel
theorem dX10_over_1 : decode cX10_over 1 = .ok (.invokevirtual 106, 3) := by decide +kernel
theorem dX10_over_4 : decode cX10_over 4 = .ok (.aload_n 0, 1) := by decide +kernel
theorem dX10_over_5 : decode cX10_over 5 = .ok (.invokevirtual 73, 3) := by decide +kernel
theorem dX10_over_8 : decode cX10_over 8 = .ok (.aload_n 1, 1) := by decide +kernel
theorem dX10_over_9 : decode cX10_over 9 = .ok (.invokevirtual 73, 3) := by decide +kernel
theorem dX10_over_12 : decode cX10_over 12 = .ok (.imul, 1) := by decide +kernel
theorem dX10_over_13 : decode cX10_over 13 = .ok (.ifCond .ge 7, 3) := by decide +kernel
theorem dX10_over_16 : decode cX10_over 16 = .ok (.iconst 1, 1) := by decide +kernel
theorem dX10_over_17 : decode cX10_over 17 = .ok (.goto 4, 3) := by decide +kernel
theorem dX10_over_20 : decode cX10_over 20 = .ok (.iconst 0, 1) := by decide +kernel
theorem dX10_over_21 : decode cX10_over 21 = .ok (.istore 4, 2) := by decide +kernel
theorem dX10_over_23 : decode cX10_over 23 = .ok (.iload_n 2, 1) := by decide +kernel
theorem dX10_over_24 : decode cX10_over 24 = .ok (.aload_n 0, 1) := by decide +kernel
theorem dX10_over_25 : decode cX10_over 25 = .ok (.getfield 15, 3) := by decide +kernel
theorem dX10_over_28 : decode cX10_over 28 = .ok (.isub, 1) := by decide +kernel
theorem dX10_over_29 : decode cX10_over 29 = .ok (.aload_n 1, 1) := by decide +kernel
theorem dX10_over_30 : decode cX10_over 30 = .ok (.getfield 15, 3) := by decide +kernel
theorem dX10_over_33 : decode cX10_over 33 = .ok (.iadd, 1) := by decide +kernel
theorem dX10_over_34 : decode cX10_over 34 = .ok (.istore 5, 2) := by decide +kernel
theorem dX10_over_36 : decode cX10_over 36 = .ok (.iload 5, 2) := by decide +kernel
theorem dX10_over_38 : decode cX10_over 38 = .ok (.ifCond .ge 20, 3) := by decide +kernel
theorem dX10_over_41 : decode cX10_over 41 = .ok (.aload_n 0, 1) := by decide +kernel
theorem dX10_over_42 : decode cX10_over 42 = .ok (.invokevirtual 47, 3) := by decide +kernel
theorem dX10_over_45 : decode cX10_over 45 = .ok (.aload_n 1, 1) := by decide +kernel
theorem dX10_over_46 : decode cX10_over 46 = .ok (.invokevirtual 47, 3) := by decide +kernel
theorem dX10_over_49 : decode cX10_over 49 = .ok (.iload 5, 2) := by decide +kernel
theorem dX10_over_51 : decode cX10_over 51 = .ok (.ineg, 1) := by decide +kernel
theorem dX10_over_52 : decode cX10_over 52 = .ok (.invokestatic 109, 3) := by decide +kernel
theorem dX10_over_55 : decode cX10_over 55 = .ok (.goto 18, 3) := by decide +kernel
theorem dX10_over_58 : decode cX10_over 58 = .ok (.new 110, 3) := by decide +kernel
theorem dX10_over_61 : decode cX10_over 61 = .ok (.dup, 1) := by decide +kernel
theorem dX10_over_62 : decode cX10_over 62 = .ok (.aload_n 0, 1) := by decide +kernel
theorem dX10_over_63 : decode cX10_over 63 = .ok (.invokevirtual 47, 3) := by decide +kernel
theorem dX10_over_66 : decode cX10_over 66 = .ok (.aload_n 1, 1) := by decide +kernel
theorem dX10_over_67 : decode cX10_over 67 = .ok (.invokevirtual 47, 3) := by decide +kernel
theorem dX10_over_70 : decode cX10_over 70 = .ok (.invokespecial 115, 3) := by decide +kernel
theorem dX10_over_73 : decode cX10_over 73 = .ok (.astore 6, 2) := by decide +kernel
theorem dX10_over_75 : decode cX10_over 75 = .ok (.iconst 0, 1) := by decide +kernel
theorem dX10_over_76 : decode cX10_over 76 = .ok (.istore 7, 2) := by decide +kernel
theorem dX10_over_78 : decode cX10_over 78 = .ok (.iload 7, 2) := by decide +kernel
theorem dX10_over_80 : decode cX10_over 80 = .ok (.iload 5, 2) := by decide +kernel
theorem dX10_over_82 : decode cX10_over 82 = .ok (.if_icmp .ge 14, 3) := by decide +kernel
theorem dX10_over_85 : decode cX10_over 85 = .ok (.aload 6, 2) := by decide +kernel
theorem dX10_over_87 : decode cX10_over 87 = .ok (.invokevirtual 118, 3) := by decide +kernel
theorem dX10_over_90 : decode cX10_over 90 = .ok (.iinc 7 1, 3) := by decide +kernel
theorem dX10_over_93 : decode cX10_over 93 = .ok (.goto (-15), 3) := by decide +kernel
theorem dX10_over_96 : decode cX10_over 96 = .ok (.iload 4, 2) := by decide +kernel
theorem dX10_over_98 : decode cX10_over 98 = .ok (.aload 6, 2) := by decide +kernel
theorem dX10_over_100 : decode cX10_over 100 = .ok (.getfield 121, 3) := by decide +kernel
theorem dX10_over_103 : decode cX10_over 103 = .ok (.aload 6, 2) := by decide +kernel
theorem dX10_over_105 : decode cX10_over 105 = .ok (.invokevirtual 124, 3) := by decide +kernel
theorem dX10_over_108 : decode cX10_over 108 = .ok (.iload 4, 2) := by decide +kernel
theorem dX10_over_110 : decode cX10_over 110 = .ok (.iload_n 3, 1) := by decide +kernel
theorem dX10_over_111 : decode cX10_over 111 = .ok (.invokestatic 94, 3) := by decide +kernel
theorem dX10_over_114 : decode cX10_over 114 = .ok (.iload_n 2, 1) := by decide +kernel
theorem dX10_over_115 : decode cX10_over 115 = .ok (.invokestatic 90, 3) := by decide +kernel
theorem dX10_over_118 : decode cX10_over 118 = .ok (.areturn, 1) := by decide +kernel
theorem dX10_exactlyOver_0 : decode cX10_exactlyOver 0 = .ok (.aload_n 1, 1) := by decide +kernel
theorem dX10_exactlyOver_1 : decode cX10_exactlyOver 1 = .ok (.invokevirtual 106, 3) := by decide +kernel
theorem dX10_exactlyOver_4 : decode cX10_exactlyOver 4 = .ok (.new 110, 3) := by decide +kernel
theorem dX10_exactlyOver_7 : decode cX10_exactlyOver 7 = .ok (.dup, 1) := by decide +kernel
theorem dX10_exactlyOver_8 : decode cX10_exactlyOver 8 = .ok (.aload_n 0, 1) := by decide +kernel
theorem dX10_exactlyOver_9 : decode cX10_exactlyOver 9 = .ok (.invokevirtual 47, 3) := by decide +kernel
theorem dX10_exactlyOver_12 : decode cX10_exactlyOver 12 = .ok (.aload_n 1, 1) := by decide +kernel
theorem dX10_exactlyOver_13 : decode cX10_exactlyOver 13 = .ok (.invokevirtual 47, 3) := by decide +kernel
theorem dX10_exactlyOver_16 : decode cX10_exactlyOver 16 = .ok (.invokespecial 115, 3) := by decide +kernel
theorem dX10_exactlyOver_19 : decode cX10_exactlyOver 19 = .ok (.astore_n 2, 1) := by decide +kernel
theorem dX10_exactlyOver_20 : decode cX10_exactlyOver 20 = .ok (.iconst 0, 1) := by decide +kernel
theorem dX10_exactlyOver_21 : decode cX10_exactlyOver 21 = .ok (.istore_n 3, 1) := by decide +kernel
theorem dX10_exactlyOver_22 : decode cX10_exactlyOver 22 = .ok (.iload_n 3, 1) := by decide +kernel
theorem dX10_exactlyOver_23 : decode cX10_exactlyOver 23 = .ok (.bipush 60, 2) := by decide +kernel
theorem dX10_exactlyOver_25 : decode cX10_exactlyOver 25 = .ok (.if_icmp .ge 22, 3) := by decide +kernel
theorem dX10_exactlyOver_28 : decode cX10_exactlyOver 28 = .ok (.aload_n 2, 1) := by decide +kernel
theorem dX10_exactlyOver_29 : decode cX10_exactlyOver 29 = .ok (.getfield 126, 3) := by decide +kernel
theorem dX10_exactlyOver_32 : decode cX10_exactlyOver 32 = .ok (.lconst 0, 1) := by decide +kernel
theorem dX10_exactlyOver_33 : decode cX10_exactlyOver 33 = .ok (.lcmp, 1) := by decide +kernel
theorem dX10_exactlyOver_34 : decode cX10_exactlyOver 34 = .ok (.ifCond .eq 13, 3) := by decide +kernel
theorem dX10_exactlyOver_37 : decode cX10_exactlyOver 37 = .ok (.aload_n 2, 1) := by decide +kernel
theorem dX10_exactlyOver_38 : decode cX10_exactlyOver 38 = .ok (.invokevirtual 118, 3) := by decide +kernel
theorem dX10_exactlyOver_41 : decode cX10_exactlyOver 41 = .ok (.iinc 3 1, 3) := by decide +kernel
theorem dX10_exactlyOver_44 : decode cX10_exactlyOver 44 = .ok (.goto (-22), 3) := by decide +kernel
theorem dX10_exactlyOver_47 : decode cX10_exactlyOver 47 = .ok (.aload_n 2, 1) := by decide +kernel
theorem dX10_exactlyOver_48 : decode cX10_exactlyOver 48 = .ok (.getfield 126, 3) := by decide +kernel
theorem dX10_exactlyOver_51 : decode cX10_exactlyOver 51 = .ok (.lconst 0, 1) := by decide +kernel
theorem dX10_exactlyOver_52 : decode cX10_exactlyOver 52 = .ok (.lcmp, 1) := by decide +kernel
theorem dX10_exactlyOver_53 : decode cX10_exactlyOver 53 = .ok (.ifCond .eq 13, 3) := by decide +kernel
theorem dX10_exactlyOver_56 : decode cX10_exactlyOver 56 = .ok (.new 27, 3) := by decide +kernel
theorem dX10_exactlyOver_59 : decode cX10_exactlyOver 59 = .ok (.dup, 1) := by decide +kernel
theorem dX10_exactlyOver_60 : decode cX10_exactlyOver 60 = .ok (.ldc 129, 2) := by decide +kernel
theorem dX10_exactlyOver_62 : decode cX10_exactlyOver 62 = .ok (.invokespecial 31, 3) := by decide +kernel
theorem dX10_exactlyOver_65 : decode cX10_exactlyOver 65 = .ok (.athrow, 1) := by decide +kernel
theorem dX10_exactlyOver_66 : decode cX10_exactlyOver 66 = .ok (.aload_n 0, 1) := by decide +kernel
theorem dX10_exactlyOver_67 : decode cX10_exactlyOver 67 = .ok (.invokevirtual 73, 3) := by decide +kernel
theorem dX10_exactlyOver_70 : decode cX10_exactlyOver 70 = .ok (.aload_n 1, 1) := by decide +kernel
theorem dX10_exactlyOver_71 : decode cX10_exactlyOver 71 = .ok (.invokevirtual 73, 3) := by decide +kernel
theorem dX10_exactlyOver_74 : decode cX10_exactlyOver 74 = .ok (.imul, 1) := by decide +kernel
theorem dX10_exactlyOver_75 : decode cX10_exactlyOver 75 = .ok (.ifCond .ge 7, 3) := by decide +kernel
theorem dX10_exactlyOver_78 : decode cX10_exactlyOver 78 = .ok (.iconst 1, 1) := by decide +kernel
theorem dX10_exactlyOver_79 : decode cX10_exactlyOver 79 = .ok (.goto 4, 3) := by decide +kernel
theorem dX10_exactlyOver_82 : decode cX10_exactlyOver 82 = .ok (.iconst 0, 1) := by decide +kernel
theorem dX10_exactlyOver_83 : decode cX10_exactlyOver 83 = .ok (.aload_n 2, 1) := by decide +kernel
theorem dX10_exactlyOver_84 : decode cX10_exactlyOver 84 = .ok (.getfield 121, 3) := by decide +kernel
theorem dX10_exactlyOver_87 : decode cX10_exactlyOver 87 = .ok (.aload_n 0, 1) := by decide +kernel
theorem dX10_exactlyOver_88 : decode cX10_exactlyOver 88 = .ok (.getfield 15, 3) := by decide +kernel
theorem dX10_exactlyOver_91 : decode cX10_exactlyOver 91 = .ok (.aload_n 1, 1) := by decide +kernel
theorem dX10_exactlyOver_92 : decode cX10_exactlyOver 92 = .ok (.getfield 15, 3) := by decide +kernel
theorem dX10_exactlyOver_95 : decode cX10_exactlyOver 95 = .ok (.isub, 1) := by decide +kernel
theorem dX10_exactlyOver_96 : decode cX10_exactlyOver 96 = .ok (.iload_n 3, 1) := by decide +kernel
theorem dX10_exactlyOver_97 : decode cX10_exactlyOver 97 = .ok (.iadd, 1) := by decide +kernel
theorem dX10_exactlyOver_98 : decode cX10_exactlyOver 98 = .ok (.invokestatic 90, 3) := by decide +kernel
theorem dX10_exactlyOver_101 : decode cX10_exactlyOver 101 = .ok (.areturn, 1) := by decide +kernel
theorem dX10_checkDivisor_0 : decode cX10_checkDivisor 0 = .ok (.aload_n 0, 1) := by decide +kernel
theorem dX10_checkDivisor_1 : decode cX10_checkDivisor 1 = .ok (.getfield 9, 3) := by decide +kernel
theorem dX10_checkDivisor_4 : decode cX10_checkDivisor 4 = .ok (.lconst 0, 1) := by decide +kernel
theorem dX10_checkDivisor_5 : decode cX10_checkDivisor 5 = .ok (.lcmp, 1) := by decide +kernel
theorem dX10_checkDivisor_6 : decode cX10_checkDivisor 6 = .ok (.ifCond .ne 13, 3) := by decide +kernel
theorem dX10_checkDivisor_9 : decode cX10_checkDivisor 9 = .ok (.new 27, 3) := by decide +kernel
theorem dX10_checkDivisor_12 : decode cX10_checkDivisor 12 = .ok (.dup, 1) := by decide +kernel
theorem dX10_checkDivisor_13 : decode cX10_checkDivisor 13 = .ok (.ldc 131, 2) := by decide +kernel
theorem dX10_checkDivisor_15 : decode cX10_checkDivisor 15 = .ok (.invokespecial 31, 3) := by decide +kernel
theorem dX10_checkDivisor_18 : decode cX10_checkDivisor 18 = .ok (.athrow, 1) := by decide +kernel
theorem dX10_checkDivisor_19 : decode cX10_checkDivisor 19 = .ok (.return_, 1) := by decide +kernel
theorem dX11_init_0 : decode cX11_init 0 = .ok (.aload_n 0, 1) := by decide +kernel
theorem dX11_init_1 : decode cX11_init 1 = .ok (.invokespecial 1, 3) := by decide +kernel
theorem dX11_init_4 : decode cX11_init 4 = .ok (.aload_n 0, 1) := by decide +kernel
theorem dX11_init_5 : decode cX11_init 5 = .ok (.bipush 12, 2) := by decide +kernel
theorem dX11_init_7 : decode cX11_init 7 = .ok (.anewarray 9, 3) := by decide +kernel
theorem dX11_init_10 : decode cX11_init 10 = .ok (.putfield 11, 3) := by decide +kernel
theorem dX11_init_13 : decode cX11_init 13 = .ok (.aload_n 0, 1) := by decide +kernel
theorem dX11_init_14 : decode cX11_init 14 = .ok (.new 15, 3) := by decide +kernel
theorem dX11_init_17 : decode cX11_init 17 = .ok (.dup, 1) := by decide +kernel
theorem dX11_init_18 : decode cX11_init 18 = .ok (.invokespecial 17, 3) := by decide +kernel
theorem dX11_init_21 : decode cX11_init 21 = .ok (.putfield 18, 3) := by decide +kernel
theorem dX11_init_24 : decode cX11_init 24 = .ok (.aload_n 0, 1) := by decide +kernel
theorem dX11_init_25 : decode cX11_init 25 = .ok (.iconst 4, 1) := by decide +kernel
theorem dX11_init_26 : decode cX11_init 26 = .ok (.anewarray 22, 3) := by decide +kernel
theorem dX11_init_29 : decode cX11_init 29 = .ok (.putfield 24, 3) := by decide +kernel
theorem dX11_init_32 : decode cX11_init 32 = .ok (.aload_n 0, 1) := by decide +kernel
theorem dX11_init_33 : decode cX11_init 33 = .ok (.bipush 16, 2) := by decide +kernel
theorem dX11_init_35 : decode cX11_init 35 = .ok (.anewarray 9, 3) := by decide +kernel
theorem dX11_init_38 : decode cX11_init 38 = .ok (.putfield 28, 3) := by decide +kernel
theorem dX11_init_41 : decode cX11_init 41 = .ok (.aload_n 0, 1) := by decide +kernel
theorem dX11_init_42 : decode cX11_init 42 = .ok (.bipush 6, 2) := by decide +kernel
theorem dX11_init_44 : decode cX11_init 44 = .ok (.anewarray 31, 3) := by decide +kernel
theorem dX11_init_47 : decode cX11_init 47 = .ok (.putfield 33, 3) := by decide +kernel
theorem dX11_init_50 : decode cX11_init 50 = .ok (.aload_n 0, 1) := by decide +kernel
theorem dX11_init_51 : decode cX11_init 51 = .ok (.bipush 6, 2) := by decide +kernel
theorem dX11_init_53 : decode cX11_init 53 = .ok (.anewarray 31, 3) := by decide +kernel
theorem dX11_init_56 : decode cX11_init 56 = .ok (.putfield 37, 3) := by decide +kernel
theorem dX11_init_59 : decode cX11_init 59 = .ok (.aload_n 0, 1) := by decide +kernel
theorem dX11_init_60 : decode cX11_init 60 = .ok (.bipush 20, 2) := by decide +kernel
theorem dX11_init_62 : decode cX11_init 62 = .ok (.anewarray 40, 3) := by decide +kernel
theorem dX11_init_65 : decode cX11_init 65 = .ok (.putfield 42, 3) := by decide +kernel
theorem dX11_init_68 : decode cX11_init 68 = .ok (.aload_n 0, 1) := by decide +kernel
theorem dX11_init_69 : decode cX11_init 69 = .ok (.iconst 0, 1) := by decide +kernel
theorem dX11_init_70 : decode cX11_init 70 = .ok (.putfield 46, 3) := by decide +kernel
theorem dX11_init_73 : decode cX11_init 73 = .ok (.aload_n 0, 1) := by decide +kernel
theorem dX11_init_74 : decode cX11_init 74 = .ok (.new 50, 3) := by decide +kernel
theorem dX11_init_77 : decode cX11_init 77 = .ok (.dup, 1) := by decide +kernel
theorem dX11_init_78 : decode cX11_init 78 = .ok (.invokespecial 52, 3) := by decide +kernel
theorem dX11_init_81 : decode cX11_init 81 = .ok (.putfield 53, 3) := by decide +kernel
theorem dX11_init_84 : decode cX11_init 84 = .ok (.aload_n 0, 1) := by decide +kernel
theorem dX11_init_85 : decode cX11_init 85 = .ok (.new 57, 3) := by decide +kernel
theorem dX11_init_88 : decode cX11_init 88 = .ok (.dup, 1) := by decide +kernel
theorem dX11_init_89 : decode cX11_init 89 = .ok (.invokespecial 59, 3) := by decide +kernel
theorem dX11_init_92 : decode cX11_init 92 = .ok (.putfield 60, 3) := by decide +kernel
theorem dX11_init_95 : decode cX11_init 95 = .ok (.aload_n 0, 1) := by decide +kernel
theorem dX11_init_96 : decode cX11_init 96 = .ok (.new 64, 3) := by decide +kernel
theorem dX11_init_99 : decode cX11_init 99 = .ok (.dup, 1) := by decide +kernel
theorem dX11_init_100 : decode cX11_init 100 = .ok (.invokespecial 66, 3) := by decide +kernel
theorem dX11_init_103 : decode cX11_init 103 = .ok (.putfield 67, 3) := by decide +kernel
theorem dX11_init_106 : decode cX11_init 106 = .ok (.iconst 0, 1) := by decide +kernel
theorem dX11_init_107 : decode cX11_init 107 = .ok (.istore_n 1, 1) := by decide +kernel
theorem dX11_init_108 : decode cX11_init 108 = .ok (.iload_n 1, 1) := by decide +kernel
theorem dX11_init_109 : decode cX11_init 109 = .ok (.iconst 4, 1) := by decide +kernel
theorem dX11_init_110 : decode cX11_init 110 = .ok (.if_icmp .ge 22, 3) := by decide +kernel
theorem dX11_init_113 : decode cX11_init 113 = .ok (.aload_n 0, 1) := by decide +kernel
theorem dX11_init_114 : decode cX11_init 114 = .ok (.getfield 24, 3) := by decide +kernel
theorem dX11_init_117 : decode cX11_init 117 = .ok (.iload_n 1, 1) := by decide +kernel
theorem dX11_init_118 : decode cX11_init 118 = .ok (.new 22, 3) := by decide +kernel
theorem dX11_init_121 : decode cX11_init 121 = .ok (.dup, 1) := by decide +kernel
theorem dX11_init_122 : decode cX11_init 122 = .ok (.invokespecial 71, 3) := by decide +kernel
theorem dX11_init_125 : decode cX11_init 125 = .ok (.aastore, 1) := by decide +kernel
theorem dX11_init_126 : decode cX11_init 126 = .ok (.iinc 1 1, 3) := by decide +kernel
theorem dX11_init_129 : decode cX11_init 129 = .ok (.goto (-21), 3) := by decide +kernel
theorem dX11_init_132 : decode cX11_init 132 = .ok (.iconst 0, 1) := by decide +kernel
theorem dX11_init_133 : decode cX11_init 133 = .ok (.istore_n 1, 1) := by decide +kernel
theorem dX11_init_134 : decode cX11_init 134 = .ok (.iload_n 1, 1) := by decide +kernel
theorem dX11_init_135 : decode cX11_init 135 = .ok (.bipush 6, 2) := by decide +kernel
theorem dX11_init_137 : decode cX11_init 137 = .ok (.if_icmp .ge 35, 3) := by decide +kernel
theorem dX11_init_140 : decode cX11_init 140 = .ok (.aload_n 0, 1) := by decide +kernel
theorem dX11_init_141 : decode cX11_init 141 = .ok (.getfield 33, 3) := by decide +kernel
theorem dX11_init_144 : decode cX11_init 144 = .ok (.iload_n 1, 1) := by decide +kernel
theorem dX11_init_145 : decode cX11_init 145 = .ok (.new 31, 3) := by decide +kernel
theorem dX11_init_148 : decode cX11_init 148 = .ok (.dup, 1) := by decide +kernel
theorem dX11_init_149 : decode cX11_init 149 = .ok (.invokespecial 72, 3) := by decide +kernel
theorem dX11_init_152 : decode cX11_init 152 = .ok (.aastore, 1) := by decide +kernel
theorem dX11_init_153 : decode cX11_init 153 = .ok (.aload_n 0, 1) := by decide +kernel
theorem dX11_init_154 : decode cX11_init 154 = .ok (.getfield 37, 3) := by decide +kernel
theorem dX11_init_157 : decode cX11_init 157 = .ok (.iload_n 1, 1) := by decide +kernel
theorem dX11_init_158 : decode cX11_init 158 = .ok (.new 31, 3) := by decide +kernel
theorem dX11_init_161 : decode cX11_init 161 = .ok (.dup, 1) := by decide +kernel
theorem dX11_init_162 : decode cX11_init 162 = .ok (.invokespecial 72, 3) := by decide +kernel
theorem dX11_init_165 : decode cX11_init 165 = .ok (.aastore, 1) := by decide +kernel
theorem dX11_init_166 : decode cX11_init 166 = .ok (.iinc 1 1, 3) := by decide +kernel
theorem dX11_init_169 : decode cX11_init 169 = .ok (.goto (-35), 3) := by decide +kernel
theorem dX11_init_172 : decode cX11_init 172 = .ok (.return_, 1) := by decide +kernel
theorem dX11_put_0 : decode cX11_put 0 = .ok (.iload_n 1, 1) := by decide +kernel
theorem dX11_put_1 : decode cX11_put 1 = .ok (.invokestatic 73, 3) := by decide +kernel
theorem dX11_put_4 : decode cX11_put 4 = .ok (.lload_n 2, 1) := by decide +kernel
theorem dX11_put_5 : decode cX11_put 5 = .ok (.iload 4, 2) := by decide +kernel
theorem dX11_put_7 : decode cX11_put 7 = .ok (.invokestatic 77, 3) := by decide +kernel
theorem dX11_put_10 : decode cX11_put 10 = .ok (.ifCond .ne 13, 3) := by decide +kernel
theorem dX11_put_13 : decode cX11_put 13 = .ok (.new 81, 3) := by decide +kernel
theorem dX11_put_16 : decode cX11_put 16 = .ok (.dup, 1) := by decide +kernel
theorem dX11_put_17 : decode cX11_put 17 = .ok (.ldc 83, 2) := by decide +kernel
theorem dX11_put_19 : decode cX11_put 19 = .ok (.invokespecial 85, 3) := by decide +kernel
theorem dX11_put_22 : decode cX11_put 22 = .ok (.athrow, 1) := by decide +kernel
theorem dX11_put_23 : decode cX11_put 23 = .ok (.new 9, 3) := by decide +kernel
theorem dX11_put_26 : decode cX11_put 26 = .ok (.dup, 1) := by decide +kernel
theorem dX11_put_27 : decode cX11_put 27 = .ok (.lload_n 2, 1) := by decide +kernel
theorem dX11_put_28 : decode cX11_put 28 = .ok (.iload 4, 2) := by decide +kernel
theorem dX11_put_30 : decode cX11_put 30 = .ok (.invokespecial 88, 3) := by decide +kernel
theorem dX11_put_33 : decode cX11_put 33 = .ok (.astore 5, 2) := by decide +kernel
theorem dX11_put_35 : decode cX11_put 35 = .ok (.aload_n 0, 1) := by decide +kernel
theorem dX11_put_36 : decode cX11_put 36 = .ok (.getfield 11, 3) := by decide +kernel
theorem dX11_put_39 : decode cX11_put 39 = .ok (.iload_n 1, 1) := by decide +kernel
theorem dX11_put_40 : decode cX11_put 40 = .ok (.aload 5, 2) := by decide +kernel
theorem dX11_put_42 : decode cX11_put 42 = .ok (.aastore, 1) := by decide +kernel
theorem dX11_put_43 : decode cX11_put 43 = .ok (.aload 5, 2) := by decide +kernel
theorem dX11_put_45 : decode cX11_put 45 = .ok (.invokevirtual 91, 3) := by decide +kernel
theorem dX11_put_48 : decode cX11_put 48 = .ok (.ireturn, 1) := by decide +kernel
theorem dX11_type_0 : decode cX11_type 0 = .ok (.aload_n 0, 1) := by decide +kernel
theorem dX11_type_1 : decode cX11_type 1 = .ok (.getfield 18, 3) := by decide +kernel
theorem dX11_type_4 : decode cX11_type 4 = .ok (.invokevirtual 95, 3) := by decide +kernel
theorem dX11_type_7 : decode cX11_type 7 = .ok (.ifCond .eq 13, 3) := by decide +kernel
theorem dX11_type_10 : decode cX11_type 10 = .ok (.new 99, 3) := by decide +kernel
theorem dX11_type_13 : decode cX11_type 13 = .ok (.dup, 1) := by decide +kernel
theorem dX11_type_14 : decode cX11_type 14 = .ok (.ldc 101, 2) := by decide +kernel
theorem dX11_type_16 : decode cX11_type 16 = .ok (.invokespecial 103, 3) := by decide +kernel
theorem dX11_type_19 : decode cX11_type 19 = .ok (.athrow, 1) := by decide +kernel
theorem dX11_type_20 : decode cX11_type 20 = .ok (.aload_n 0, 1) := by decide +kernel
theorem dX11_type_21 : decode cX11_type 21 = .ok (.getfield 18, 3) := by decide +kernel
theorem dX11_type_24 : decode cX11_type 24 = .ok (.iload_n 1, 1) := by decide +kernel
theorem dX11_type_25 : decode cX11_type 25 = .ok (.invokevirtual 104, 3) := by decide +kernel
theorem dX11_type_28 : decode cX11_type 28 = .ok (.ireturn, 1) := by decide +kernel
theorem dX11_fault_0 : decode cX11_fault 0 = .ok (.aload_n 0, 1) := by decide +kernel
theorem dX11_fault_1 : decode cX11_fault 1 = .ok (.getfield 18, 3) := by decide +kernel
theorem dX11_fault_4 : decode cX11_fault 4 = .ok (.invokevirtual 108, 3) := by decide +kernel
theorem dX11_fault_7 : decode cX11_fault 7 = .ok (.ireturn, 1) := by decide +kernel
theorem dX11_read_0 : decode cX11_read 0 = .ok (.iload_n 1, 1) := by decide +kernel
theorem dX11_read_1 : decode cX11_read 1 = .ok (.invokestatic 73, 3) := by decide +kernel
theorem dX11_read_4 : decode cX11_read 4 = .ok (.aload_n 0, 1) := by decide +kernel
theorem dX11_read_5 : decode cX11_read 5 = .ok (.getfield 18, 3) := by decide +kernel
theorem dX11_read_8 : decode cX11_read 8 = .ok (.invokevirtual 108, 3) := by decide +kernel
theorem dX11_read_11 : decode cX11_read 11 = .ok (.iconst (-1), 1) := by decide +kernel
theorem dX11_read_12 : decode cX11_read 12 = .ok (.if_icmp .eq 13, 3) := by decide +kernel
theorem dX11_read_15 : decode cX11_read 15 = .ok (.new 81, 3) := by decide +kernel
theorem dX11_read_18 : decode cX11_read 18 = .ok (.dup, 1) := by decide +kernel
theorem dX11_read_19 : decode cX11_read 19 = .ok (.ldc 111, 2) := by decide +kernel
theorem dX11_read_21 : decode cX11_read 21 = .ok (.invokespecial 85, 3) := by decide +kernel
theorem dX11_read_24 : decode cX11_read 24 = .ok (.athrow, 1) := by decide +kernel
theorem dX11_read_25 : decode cX11_read 25 = .ok (.aload_n 0, 1) := by decide +kernel
theorem dX11_read_26 : decode cX11_read 26 = .ok (.getfield 18, 3) := by decide +kernel
theorem dX11_read_29 : decode cX11_read 29 = .ok (.invokevirtual 113, 3) := by decide +kernel
theorem dX11_read_32 : decode cX11_read 32 = .ok (.astore_n 2, 1) := by decide +kernel
theorem dX11_read_33 : decode cX11_read 33 = .ok (.aload_n 0, 1) := by decide +kernel
theorem dX11_read_34 : decode cX11_read 34 = .ok (.getfield 11, 3) := by decide +kernel
theorem dX11_read_37 : decode cX11_read 37 = .ok (.iload_n 1, 1) := by decide +kernel
theorem dX11_read_38 : decode cX11_read 38 = .ok (.aload_n 2, 1) := by decide +kernel
theorem dX11_read_39 : decode cX11_read 39 = .ok (.aastore, 1) := by decide +kernel
theorem dX11_read_40 : decode cX11_read 40 = .ok (.aload_n 0, 1) := by decide +kernel
theorem dX11_read_41 : decode cX11_read 41 = .ok (.getfield 18, 3) := by decide +kernel
theorem dX11_read_44 : decode cX11_read 44 = .ok (.invokevirtual 117, 3) := by decide +kernel
theorem dX11_read_47 : decode cX11_read 47 = .ok (.pop, 1) := by decide +kernel
theorem dX11_read_48 : decode cX11_read 48 = .ok (.aload_n 2, 1) := by decide +kernel
theorem dX11_read_49 : decode cX11_read 49 = .ok (.getfield 120, 3) := by decide +kernel
theorem dX11_read_52 : decode cX11_read 52 = .ok (.ireturn, 1) := by decide +kernel
theorem dX11_wipe_0 : decode cX11_wipe 0 = .ok (.aload_n 0, 1) := by decide +kernel
theorem dX11_wipe_1 : decode cX11_wipe 1 = .ok (.getfield 18, 3) := by decide +kernel
theorem dX11_wipe_4 : decode cX11_wipe 4 = .ok (.invokevirtual 117, 3) := by decide +kernel
theorem dX11_wipe_7 : decode cX11_wipe 7 = .ok (.ireturn, 1) := by decide +kernel
theorem dX11_unscaled_0 : decode cX11_unscaled 0 = .ok (.iload_n 1, 1) := by decide +kernel
theorem dX11_unscaled_1 : decode cX11_unscaled 1 = .ok (.invokestatic 73, 3) := by decide +kernel
theorem dX11_unscaled_4 : decode cX11_unscaled 4 = .ok (.aload_n 0, 1) := by decide +kernel
theorem dX11_unscaled_5 : decode cX11_unscaled 5 = .ok (.iload_n 1, 1) := by decide +kernel
theorem dX11_unscaled_6 : decode cX11_unscaled 6 = .ok (.invokevirtual 123, 3) := by decide +kernel
theorem dX11_unscaled_9 : decode cX11_unscaled 9 = .ok (.getfield 127, 3) := by decide +kernel
theorem dX11_unscaled_12 : decode cX11_unscaled 12 = .ok (.lreturn, 1) := by decide +kernel
theorem dX11_scale_0 : decode cX11_scale 0 = .ok (.iload_n 1, 1) := by decide +kernel
theorem dX11_scale_1 : decode cX11_scale 1 = .ok (.invokestatic 73, 3) := by decide +kernel
theorem dX11_scale_4 : decode cX11_scale 4 = .ok (.aload_n 0, 1) := by decide +kernel
theorem dX11_scale_5 : decode cX11_scale 5 = .ok (.iload_n 1, 1) := by decide +kernel
theorem dX11_scale_6 : decode cX11_scale 6 = .ok (.invokevirtual 123, 3) := by decide +kernel
theorem dX11_scale_9 : decode cX11_scale 9 = .ok (.getfield 120, 3) := by decide +kernel
theorem dX11_scale_12 : decode cX11_scale 12 = .ok (.ireturn, 1) := by decide +kernel
theorem dX11_precision_0 : decode cX11_precision 0 = .ok (.iload_n 1, 1) := by decide +kernel
theorem dX11_precision_1 : decode cX11_precision 1 = .ok (.invokestatic 73, 3) := by decide +kernel
theorem dX11_precision_4 : decode cX11_precision 4 = .ok (.aload_n 0, 1) := by decide +kernel
theorem dX11_precision_5 : decode cX11_precision 5 = .ok (.iload_n 1, 1) := by decide +kernel
theorem dX11_precision_6 : decode cX11_precision 6 = .ok (.invokevirtual 123, 3) := by decide +kernel
theorem dX11_precision_9 : decode cX11_precision 9 = .ok (.astore_n 2, 1) := by decide +kernel
theorem dX11_precision_10 : decode cX11_precision 10 = .ok (.aload_n 2, 1) := by decide +kernel
theorem dX11_precision_11 : decode cX11_precision 11 = .ok (.invokevirtual 131, 3) := by decide +kernel
theorem dX11_precision_14 : decode cX11_precision 14 = .ok (.aload_n 2, 1) := by decide +kernel
theorem dX11_precision_15 : decode cX11_precision 15 = .ok (.invokevirtual 91, 3) := by decide +kernel
theorem dX11_precision_18 : decode cX11_precision 18 = .ok (.imul, 1) := by decide +kernel
theorem dX11_precision_19 : decode cX11_precision 19 = .ok (.ireturn, 1) := by decide +kernel
theorem dX11_join_0 : decode cX11_join 0 = .ok (.iload_n 1, 1) := by decide +kernel
theorem dX11_join_1 : decode cX11_join 1 = .ok (.invokestatic 73, 3) := by decide +kernel
theorem dX11_join_4 : decode cX11_join 4 = .ok (.iload_n 2, 1) := by decide +kernel
theorem dX11_join_5 : decode cX11_join 5 = .ok (.invokestatic 73, 3) := by decide +kernel
theorem dX11_join_8 : decode cX11_join 8 = .ok (.iload 4, 2) := by decide +kernel
theorem dX11_join_10 : decode cX11_join 10 = .ok (.invokestatic 73, 3) := by decide +kernel
theorem dX11_join_13 : decode cX11_join 13 = .ok (.iload_n 3, 1) := by decide +kernel
theorem dX11_join_14 : decode cX11_join 14 = .ok (.bipush 43, 2) := by decide +kernel
theorem dX11_join_16 : decode cX11_join 16 = .ok (.if_icmp .eq 37, 3) := by decide +kernel
theorem dX11_join_19 : decode cX11_join 19 = .ok (.iload_n 3, 1) := by decide +kernel
theorem dX11_join_20 : decode cX11_join 20 = .ok (.bipush 45, 2) := by decide +kernel
theorem dX11_join_22 : decode cX11_join 22 = .ok (.if_icmp .eq 31, 3) := by decide +kernel
theorem dX11_join_25 : decode cX11_join 25 = .ok (.iload_n 3, 1) := by decide +kernel
theorem dX11_join_26 : decode cX11_join 26 = .ok (.bipush 42, 2) := by decide +kernel
theorem dX11_join_28 : decode cX11_join 28 = .ok (.if_icmp .eq 25, 3) := by decide +kernel
theorem dX11_join_31 : decode cX11_join 31 = .ok (.iload_n 3, 1) := by decide +kernel
theorem dX11_join_32 : decode cX11_join 32 = .ok (.bipush 103, 2) := by decide +kernel
theorem dX11_join_34 : decode cX11_join 34 = .ok (.if_icmp .eq 19, 3) := by decide +kernel
theorem dX11_join_37 : decode cX11_join 37 = .ok (.iload_n 3, 1) := by decide +kernel
theorem dX11_join_38 : decode cX11_join 38 = .ok (.bipush 108, 2) := by decide +kernel
theorem dX11_join_40 : decode cX11_join 40 = .ok (.if_icmp .eq 13, 3) := by decide +kernel
theorem dX11_join_43 : decode cX11_join 43 = .ok (.new 81, 3) := by decide +kernel
theorem dX11_join_46 : decode cX11_join 46 = .ok (.dup, 1) := by decide +kernel
theorem dX11_join_47 : decode cX11_join 47 = .ok (.ldc 134, 2) := by decide +kernel
theorem dX11_join_49 : decode cX11_join 49 = .ok (.invokespecial 85, 3) := by decide +kernel
theorem dX11_join_52 : decode cX11_join 52 = .ok (.athrow, 1) := by decide +kernel
theorem dX11_join_53 : decode cX11_join 53 = .ok (.aload_n 0, 1) := by decide +kernel
theorem dX11_join_54 : decode cX11_join 54 = .ok (.iload_n 1, 1) := by decide +kernel
theorem dX11_join_55 : decode cX11_join 55 = .ok (.invokevirtual 123, 3) := by decide +kernel
theorem dX11_join_58 : decode cX11_join 58 = .ok (.aload_n 0, 1) := by decide +kernel
theorem dX11_join_59 : decode cX11_join 59 = .ok (.iload_n 2, 1) := by decide +kernel
theorem dX11_join_60 : decode cX11_join 60 = .ok (.invokevirtual 123, 3) := by decide +kernel
theorem dX11_join_63 : decode cX11_join 63 = .ok (.iload_n 3, 1) := by decide +kernel
theorem dX11_join_64 : decode cX11_join 64 = .ok (.invokestatic 136, 3) := by decide +kernel
theorem dX11_join_67 : decode cX11_join 67 = .ok (.astore 5, 2) := by decide +kernel
theorem dX11_join_69 : decode cX11_join 69 = .ok (.aload_n 0, 1) := by decide +kernel
theorem dX11_join_70 : decode cX11_join 70 = .ok (.getfield 11, 3) := by decide +kernel
theorem dX11_join_73 : decode cX11_join 73 = .ok (.iload 4, 2) := by decide +kernel
theorem dX11_join_75 : decode cX11_join 75 = .ok (.aload 5, 2) := by decide +kernel
theorem dX11_join_77 : decode cX11_join 77 = .ok (.aastore, 1) := by decide +kernel
theorem dX11_join_78 : decode cX11_join 78 = .ok (.aload 5, 2) := by decide +kernel
theorem dX11_join_80 : decode cX11_join 80 = .ok (.getfield 120, 3) := by decide +kernel
theorem dX11_join_83 : decode cX11_join 83 = .ok (.ireturn, 1) := by decide +kernel
theorem dX11_turn_0 : decode cX11_turn 0 = .ok (.iload_n 1, 1) := by decide +kernel
theorem dX11_turn_1 : decode cX11_turn 1 = .ok (.invokestatic 73, 3) := by decide +kernel
theorem dX11_turn_4 : decode cX11_turn 4 = .ok (.iload_n 3, 1) := by decide +kernel
theorem dX11_turn_5 : decode cX11_turn 5 = .ok (.invokestatic 73, 3) := by decide +kernel
theorem dX11_turn_8 : decode cX11_turn 8 = .ok (.iload_n 2, 1) := by decide +kernel
theorem dX11_turn_9 : decode cX11_turn 9 = .ok (.bipush 45, 2) := by decide +kernel
theorem dX11_turn_11 : decode cX11_turn 11 = .ok (.if_icmp .eq 25, 3) := by decide +kernel
theorem dX11_turn_14 : decode cX11_turn 14 = .ok (.iload_n 2, 1) := by decide +kernel
theorem dX11_turn_15 : decode cX11_turn 15 = .ok (.bipush 97, 2) := by decide +kernel
theorem dX11_turn_17 : decode cX11_turn 17 = .ok (.if_icmp .eq 19, 3) := by decide +kernel
theorem dX11_turn_20 : decode cX11_turn 20 = .ok (.iload_n 2, 1) := by decide +kernel
theorem dX11_turn_21 : decode cX11_turn 21 = .ok (.bipush 115, 2) := by decide +kernel
theorem dX11_turn_23 : decode cX11_turn 23 = .ok (.if_icmp .eq 13, 3) := by decide +kernel
theorem dX11_turn_26 : decode cX11_turn 26 = .ok (.new 81, 3) := by decide +kernel
theorem dX11_turn_29 : decode cX11_turn 29 = .ok (.dup, 1) := by decide +kernel
theorem dX11_turn_30 : decode cX11_turn 30 = .ok (.ldc 134, 2) := by decide +kernel
theorem dX11_turn_32 : decode cX11_turn 32 = .ok (.invokespecial 85, 3) := by decide +kernel
theorem dX11_turn_35 : decode cX11_turn 35 = .ok (.athrow, 1) := by decide +kernel
theorem dX11_turn_36 : decode cX11_turn 36 = .ok (.aload_n 0, 1) := by decide +kernel
theorem dX11_turn_37 : decode cX11_turn 37 = .ok (.iload_n 1, 1) := by decide +kernel
theorem dX11_turn_38 : decode cX11_turn 38 = .ok (.invokevirtual 123, 3) := by decide +kernel
theorem dX11_turn_41 : decode cX11_turn 41 = .ok (.iload_n 2, 1) := by decide +kernel
theorem dX11_turn_42 : decode cX11_turn 42 = .ok (.invokestatic 140, 3) := by decide +kernel
theorem dX11_turn_45 : decode cX11_turn 45 = .ok (.astore 4, 2) := by decide +kernel
theorem dX11_turn_47 : decode cX11_turn 47 = .ok (.aload_n 0, 1) := by decide +kernel
theorem dX11_turn_48 : decode cX11_turn 48 = .ok (.getfield 11, 3) := by decide +kernel
theorem dX11_turn_51 : decode cX11_turn 51 = .ok (.iload_n 3, 1) := by decide +kernel
theorem dX11_turn_52 : decode cX11_turn 52 = .ok (.aload 4, 2) := by decide +kernel
theorem dX11_turn_54 : decode cX11_turn 54 = .ok (.aastore, 1) := by decide +kernel
theorem dX11_turn_55 : decode cX11_turn 55 = .ok (.aload 4, 2) := by decide +kernel
theorem dX11_turn_57 : decode cX11_turn 57 = .ok (.getfield 120, 3) := by decide +kernel
theorem dX11_turn_60 : decode cX11_turn 60 = .ok (.ireturn, 1) := by decide +kernel
theorem dX11_move_0 : decode cX11_move 0 = .ok (.iload_n 1, 1) := by decide +kernel
theorem dX11_move_1 : decode cX11_move 1 = .ok (.invokestatic 73, 3) := by decide +kernel
theorem dX11_move_4 : decode cX11_move 4 = .ok (.iload_n 3, 1) := by decide +kernel
theorem dX11_move_5 : decode cX11_move 5 = .ok (.invokestatic 73, 3) := by decide +kernel
theorem dX11_move_8 : decode cX11_move 8 = .ok (.iload_n 2, 1) := by decide +kernel
theorem dX11_move_9 : decode cX11_move 9 = .ok (.ifCond .eq 15, 3) := by decide +kernel
theorem dX11_move_12 : decode cX11_move 12 = .ok (.iload_n 2, 1) := by decide +kernel
theorem dX11_move_13 : decode cX11_move 13 = .ok (.bipush (-20), 2) := by decide +kernel
theorem dX11_move_15 : decode cX11_move 15 = .ok (.if_icmp .lt 9, 3) := by decide +kernel
theorem dX11_move_18 : decode cX11_move 18 = .ok (.iload_n 2, 1) := by decide +kernel
theorem dX11_move_19 : decode cX11_move 19 = .ok (.bipush 20, 2) := by decide +kernel
theorem dX11_move_21 : decode cX11_move 21 = .ok (.if_icmp .le 13, 3) := by decide +kernel
theorem dX11_move_24 : decode cX11_move 24 = .ok (.new 81, 3) := by decide +kernel
theorem dX11_move_27 : decode cX11_move 27 = .ok (.dup, 1) := by decide +kernel
theorem dX11_move_28 : decode cX11_move 28 = .ok (.ldc 144, 2) := by decide +kernel
theorem dX11_move_30 : decode cX11_move 30 = .ok (.invokespecial 85, 3) := by decide +kernel
theorem dX11_move_33 : decode cX11_move 33 = .ok (.athrow, 1) := by decide +kernel
theorem dX11_move_34 : decode cX11_move 34 = .ok (.aload_n 0, 1) := by decide +kernel
theorem dX11_move_35 : decode cX11_move 35 = .ok (.iload_n 1, 1) := by decide +kernel
theorem dX11_move_36 : decode cX11_move 36 = .ok (.invokevirtual 123, 3) := by decide +kernel
theorem dX11_move_39 : decode cX11_move 39 = .ok (.iload_n 2, 1) := by decide +kernel
theorem dX11_move_40 : decode cX11_move 40 = .ok (.invokevirtual 146, 3) := by decide +kernel
theorem dX11_move_43 : decode cX11_move 43 = .ok (.astore 4, 2) := by decide +kernel
theorem dX11_move_45 : decode cX11_move 45 = .ok (.aload_n 0, 1) := by decide +kernel
theorem dX11_move_46 : decode cX11_move 46 = .ok (.getfield 11, 3) := by decide +kernel
theorem dX11_move_49 : decode cX11_move 49 = .ok (.iload_n 3, 1) := by decide +kernel
theorem dX11_move_50 : decode cX11_move 50 = .ok (.aload 4, 2) := by decide +kernel
theorem dX11_move_52 : decode cX11_move 52 = .ok (.aastore, 1) := by decide +kernel
theorem dX11_move_53 : decode cX11_move 53 = .ok (.aload 4, 2) := by decide +kernel
theorem dX11_move_55 : decode cX11_move 55 = .ok (.getfield 120, 3) := by decide +kernel
theorem dX11_move_58 : decode cX11_move 58 = .ok (.ireturn, 1) := by decide +kernel
theorem dX11_setScale_0 : decode cX11_setScale 0 = .ok (.iload_n 1, 1) := by decide +kernel
theorem dX11_setScale_1 : decode cX11_setScale 1 = .ok (.invokestatic 73, 3) := by decide +kernel
theorem dX11_setScale_4 : decode cX11_setScale 4 = .ok (.iload 4, 2) := by decide +kernel
theorem dX11_setScale_6 : decode cX11_setScale 6 = .ok (.invokestatic 73, 3) := by decide +kernel
theorem dX11_setScale_9 : decode cX11_setScale 9 = .ok (.iload_n 2, 1) := by decide +kernel
theorem dX11_setScale_10 : decode cX11_setScale 10 = .ok (.invokestatic 149, 3) := by decide +kernel
theorem dX11_setScale_13 : decode cX11_setScale 13 = .ok (.iload_n 3, 1) := by decide +kernel
theorem dX11_setScale_14 : decode cX11_setScale 14 = .ok (.invokestatic 152, 3) := by decide +kernel
theorem dX11_setScale_17 : decode cX11_setScale 17 = .ok (.aload_n 0, 1) := by decide +kernel
theorem dX11_setScale_18 : decode cX11_setScale 18 = .ok (.iload_n 1, 1) := by decide +kernel
theorem dX11_setScale_19 : decode cX11_setScale 19 = .ok (.invokevirtual 123, 3) := by decide +kernel
theorem dX11_setScale_22 : decode cX11_setScale 22 = .ok (.iload_n 2, 1) := by decide +kernel
theorem dX11_setScale_23 : decode cX11_setScale 23 = .ok (.iload_n 3, 1) := by decide +kernel
theorem dX11_setScale_24 : decode cX11_setScale 24 = .ok (.invokevirtual 156, 3) := by decide +kernel
theorem dX11_setScale_27 : decode cX11_setScale 27 = .ok (.astore 5, 2) := by decide +kernel
theorem dX11_setScale_29 : decode cX11_setScale 29 = .ok (.aload_n 0, 1) := by decide +kernel
theorem dX11_setScale_30 : decode cX11_setScale 30 = .ok (.getfield 11, 3) := by decide +kernel
theorem dX11_setScale_33 : decode cX11_setScale 33 = .ok (.iload 4, 2) := by decide +kernel
theorem dX11_setScale_35 : decode cX11_setScale 35 = .ok (.aload 5, 2) := by decide +kernel
theorem dX11_setScale_37 : decode cX11_setScale 37 = .ok (.aastore, 1) := by decide +kernel
theorem dX11_setScale_38 : decode cX11_setScale 38 = .ok (.aload 5, 2) := by decide +kernel
theorem dX11_setScale_40 : decode cX11_setScale 40 = .ok (.invokevirtual 91, 3) := by decide +kernel
theorem dX11_setScale_43 : decode cX11_setScale 43 = .ok (.ireturn, 1) := by decide +kernel
theorem dX11_round_0 : decode cX11_round 0 = .ok (.iload_n 1, 1) := by decide +kernel
theorem dX11_round_1 : decode cX11_round 1 = .ok (.invokestatic 73, 3) := by decide +kernel
theorem dX11_round_4 : decode cX11_round 4 = .ok (.iload 4, 2) := by decide +kernel
theorem dX11_round_6 : decode cX11_round 6 = .ok (.invokestatic 73, 3) := by decide +kernel
theorem dX11_round_9 : decode cX11_round 9 = .ok (.iload_n 2, 1) := by decide +kernel
theorem dX11_round_10 : decode cX11_round 10 = .ok (.iconst 1, 1) := by decide +kernel
theorem dX11_round_11 : decode cX11_round 11 = .ok (.if_icmp .lt 9, 3) := by decide +kernel
theorem dX11_round_14 : decode cX11_round 14 = .ok (.iload_n 2, 1) := by decide +kernel
theorem dX11_round_15 : decode cX11_round 15 = .ok (.bipush 18, 2) := by decide +kernel
theorem dX11_round_17 : decode cX11_round 17 = .ok (.if_icmp .le 13, 3) := by decide +kernel
theorem dX11_round_20 : decode cX11_round 20 = .ok (.new 81, 3) := by decide +kernel
theorem dX11_round_23 : decode cX11_round 23 = .ok (.dup, 1) := by decide +kernel
theorem dX11_round_24 : decode cX11_round 24 = .ok (.ldc 160, 2) := by decide +kernel
theorem dX11_round_26 : decode cX11_round 26 = .ok (.invokespecial 85, 3) := by decide +kernel
theorem dX11_round_29 : decode cX11_round 29 = .ok (.athrow, 1) := by decide +kernel
theorem dX11_round_30 : decode cX11_round 30 = .ok (.iload_n 3, 1) := by decide +kernel
theorem dX11_round_31 : decode cX11_round 31 = .ok (.invokestatic 152, 3) := by decide +kernel
theorem dX11_round_34 : decode cX11_round 34 = .ok (.aload_n 0, 1) := by decide +kernel
theorem dX11_round_35 : decode cX11_round 35 = .ok (.iload_n 1, 1) := by decide +kernel
theorem dX11_round_36 : decode cX11_round 36 = .ok (.invokevirtual 123, 3) := by decide +kernel
theorem dX11_round_39 : decode cX11_round 39 = .ok (.iload_n 2, 1) := by decide +kernel
theorem dX11_round_40 : decode cX11_round 40 = .ok (.iload_n 3, 1) := by decide +kernel
theorem dX11_round_41 : decode cX11_round 41 = .ok (.invokevirtual 162, 3) := by decide +kernel
theorem dX11_round_44 : decode cX11_round 44 = .ok (.astore 5, 2) := by decide +kernel
theorem dX11_round_46 : decode cX11_round 46 = .ok (.aload_n 0, 1) := by decide +kernel
theorem dX11_round_47 : decode cX11_round 47 = .ok (.getfield 11, 3) := by decide +kernel
theorem dX11_round_50 : decode cX11_round 50 = .ok (.iload 4, 2) := by decide +kernel
theorem dX11_round_52 : decode cX11_round 52 = .ok (.aload 5, 2) := by decide +kernel
theorem dX11_round_54 : decode cX11_round 54 = .ok (.aastore, 1) := by decide +kernel
theorem dX11_round_55 : decode cX11_round 55 = .ok (.aload 5, 2) := by decide +kernel
theorem dX11_round_57 : decode cX11_round 57 = .ok (.getfield 120, 3) := by decide +kernel
theorem dX11_round_60 : decode cX11_round 60 = .ok (.ireturn, 1) := by decide +kernel
theorem dX11_divide_0 : decode cX11_divide 0 = .ok (.iload_n 1, 1) := by decide +kernel
theorem dX11_divide_1 : decode cX11_divide 1 = .ok (.invokestatic 73, 3) := by decide +kernel
theorem dX11_divide_4 : decode cX11_divide 4 = .ok (.iload_n 2, 1) := by decide +kernel
theorem dX11_divide_5 : decode cX11_divide 5 = .ok (.invokestatic 73, 3) := by decide +kernel
theorem dX11_divide_8 : decode cX11_divide 8 = .ok (.iload 5, 2) := by decide +kernel
theorem dX11_divide_10 : decode cX11_divide 10 = .ok (.invokestatic 73, 3) := by decide +kernel
theorem dX11_divide_13 : decode cX11_divide 13 = .ok (.iload_n 3, 1) := by decide +kernel
theorem dX11_divide_14 : decode cX11_divide 14 = .ok (.invokestatic 149, 3) := by decide +kernel
theorem dX11_divide_17 : decode cX11_divide 17 = .ok (.iload 4, 2) := by decide +kernel
theorem dX11_divide_19 : decode cX11_divide 19 = .ok (.invokestatic 152, 3) := by decide +kernel
theorem dX11_divide_22 : decode cX11_divide 22 = .ok (.aload_n 0, 1) := by decide +kernel
theorem dX11_divide_23 : decode cX11_divide 23 = .ok (.iload_n 1, 1) := by decide +kernel
theorem dX11_divide_24 : decode cX11_divide 24 = .ok (.invokevirtual 123, 3) := by decide +kernel
theorem dX11_divide_27 : decode cX11_divide 27 = .ok (.aload_n 0, 1) := by decide +kernel
theorem dX11_divide_28 : decode cX11_divide 28 = .ok (.iload_n 2, 1) := by decide +kernel
theorem dX11_divide_29 : decode cX11_divide 29 = .ok (.invokevirtual 123, 3) := by decide +kernel
theorem dX11_divide_32 : decode cX11_divide 32 = .ok (.iload_n 3, 1) := by decide +kernel
theorem dX11_divide_33 : decode cX11_divide 33 = .ok (.iload 4, 2) := by decide +kernel
theorem dX11_divide_35 : decode cX11_divide 35 = .ok (.invokevirtual 165, 3) := by decide +kernel
theorem dX11_divide_38 : decode cX11_divide 38 = .ok (.astore 6, 2) := by decide +kernel
theorem dX11_divide_40 : decode cX11_divide 40 = .ok (.aload_n 0, 1) := by decide +kernel
theorem dX11_divide_41 : decode cX11_divide 41 = .ok (.getfield 11, 3) := by decide +kernel
theorem dX11_divide_44 : decode cX11_divide 44 = .ok (.iload 5, 2) := by decide +kernel
theorem dX11_divide_46 : decode cX11_divide 46 = .ok (.aload 6, 2) := by decide +kernel
theorem dX11_divide_48 : decode cX11_divide 48 = .ok (.aastore, 1) := by decide +kernel
theorem dX11_divide_49 : decode cX11_divide 49 = .ok (.aload 6, 2) := by decide +kernel
theorem dX11_divide_51 : decode cX11_divide 51 = .ok (.invokevirtual 91, 3) := by decide +kernel
theorem dX11_divide_54 : decode cX11_divide 54 = .ok (.ireturn, 1) := by decide +kernel
theorem dX11_divideExactly_0 : decode cX11_divideExactly 0 = .ok (.iload_n 1, 1) := by decide +kernel
theorem dX11_divideExactly_1 : decode cX11_divideExactly 1 = .ok (.invokestatic 73, 3) := by decide +kernel
theorem dX11_divideExactly_4 : decode cX11_divideExactly 4 = .ok (.iload_n 2, 1) := by decide +kernel
theorem dX11_divideExactly_5 : decode cX11_divideExactly 5 = .ok (.invokestatic 73, 3) := by decide +kernel
theorem dX11_divideExactly_8 : decode cX11_divideExactly 8 = .ok (.iload_n 3, 1) := by decide +kernel
theorem dX11_divideExactly_9 : decode cX11_divideExactly 9 = .ok (.invokestatic 73, 3) := by decide +kernel
theorem dX11_divideExactly_12 : decode cX11_divideExactly 12 = .ok (.aload_n 0, 1) := by decide +kernel
theorem dX11_divideExactly_13 : decode cX11_divideExactly 13 = .ok (.iload_n 1, 1) := by decide +kernel
theorem dX11_divideExactly_14 : decode cX11_divideExactly 14 = .ok (.invokevirtual 123, 3) := by decide +kernel
theorem dX11_divideExactly_17 : decode cX11_divideExactly 17 = .ok (.aload_n 0, 1) := by decide +kernel
theorem dX11_divideExactly_18 : decode cX11_divideExactly 18 = .ok (.iload_n 2, 1) := by decide +kernel
theorem dX11_divideExactly_19 : decode cX11_divideExactly 19 = .ok (.invokevirtual 123, 3) := by decide +kernel
theorem dX11_divideExactly_22 : decode cX11_divideExactly 22 = .ok (.invokevirtual 169, 3) := by decide +kernel
theorem dX11_divideExactly_25 : decode cX11_divideExactly 25 = .ok (.astore 4, 2) := by decide +kernel
theorem dX11_divideExactly_27 : decode cX11_divideExactly 27 = .ok (.aload_n 0, 1) := by decide +kernel
theorem dX11_divideExactly_28 : decode cX11_divideExactly 28 = .ok (.getfield 11, 3) := by decide +kernel
theorem dX11_divideExactly_31 : decode cX11_divideExactly 31 = .ok (.iload_n 3, 1) := by decide +kernel
theorem dX11_divideExactly_32 : decode cX11_divideExactly 32 = .ok (.aload 4, 2) := by decide +kernel
theorem dX11_divideExactly_34 : decode cX11_divideExactly 34 = .ok (.aastore, 1) := by decide +kernel
theorem dX11_divideExactly_35 : decode cX11_divideExactly 35 = .ok (.aload 4, 2) := by decide +kernel
theorem dX11_divideExactly_37 : decode cX11_divideExactly 37 = .ok (.getfield 120, 3) := by decide +kernel
theorem dX11_divideExactly_40 : decode cX11_divideExactly 40 = .ok (.ireturn, 1) := by decide +kernel
theorem dX11_compare_0 : decode cX11_compare 0 = .ok (.iload_n 1, 1) := by decide +kernel
theorem dX11_compare_1 : decode cX11_compare 1 = .ok (.invokestatic 73, 3) := by decide +kernel
theorem dX11_compare_4 : decode cX11_compare 4 = .ok (.iload_n 2, 1) := by decide +kernel
theorem dX11_compare_5 : decode cX11_compare 5 = .ok (.invokestatic 73, 3) := by decide +kernel
theorem dX11_compare_8 : decode cX11_compare 8 = .ok (.aload_n 0, 1) := by decide +kernel
theorem dX11_compare_9 : decode cX11_compare 9 = .ok (.iload_n 1, 1) := by decide +kernel
theorem dX11_compare_10 : decode cX11_compare 10 = .ok (.invokevirtual 123, 3) := by decide +kernel
theorem dX11_compare_13 : decode cX11_compare 13 = .ok (.aload_n 0, 1) := by decide +kernel
theorem dX11_compare_14 : decode cX11_compare 14 = .ok (.iload_n 2, 1) := by decide +kernel
theorem dX11_compare_15 : decode cX11_compare 15 = .ok (.invokevirtual 123, 3) := by decide +kernel
theorem dX11_compare_18 : decode cX11_compare 18 = .ok (.invokevirtual 173, 3) := by decide +kernel
theorem dX11_compare_21 : decode cX11_compare 21 = .ok (.ireturn, 1) := by decide +kernel
theorem dX11_isEqual_0 : decode cX11_isEqual 0 = .ok (.iload_n 1, 1) := by decide +kernel
theorem dX11_isEqual_1 : decode cX11_isEqual 1 = .ok (.invokestatic 73, 3) := by decide +kernel
theorem dX11_isEqual_4 : decode cX11_isEqual 4 = .ok (.iload_n 2, 1) := by decide +kernel
theorem dX11_isEqual_5 : decode cX11_isEqual 5 = .ok (.invokestatic 73, 3) := by decide +kernel
theorem dX11_isEqual_8 : decode cX11_isEqual 8 = .ok (.aload_n 0, 1) := by decide +kernel
theorem dX11_isEqual_9 : decode cX11_isEqual 9 = .ok (.iload_n 1, 1) := by decide +kernel
theorem dX11_isEqual_10 : decode cX11_isEqual 10 = .ok (.invokevirtual 123, 3) := by decide +kernel
theorem dX11_isEqual_13 : decode cX11_isEqual 13 = .ok (.astore_n 3, 1) := by decide +kernel
theorem dX11_isEqual_14 : decode cX11_isEqual 14 = .ok (.aload_n 0, 1) := by decide +kernel
theorem dX11_isEqual_15 : decode cX11_isEqual 15 = .ok (.iload_n 2, 1) := by decide +kernel
theorem dX11_isEqual_16 : decode cX11_isEqual 16 = .ok (.invokevirtual 123, 3) := by decide +kernel
theorem dX11_isEqual_19 : decode cX11_isEqual 19 = .ok (.astore 4, 2) := by decide +kernel
theorem dX11_isEqual_21 : decode cX11_isEqual 21 = .ok (.aload_n 3, 1) := by decide +kernel
theorem dX11_isEqual_22 : decode cX11_isEqual 22 = .ok (.getfield 127, 3) := by decide +kernel
theorem dX11_isEqual_25 : decode cX11_isEqual 25 = .ok (.aload 4, 2) := by decide +kernel
theorem dX11_isEqual_27 : decode cX11_isEqual 27 = .ok (.getfield 127, 3) := by decide +kernel
theorem dX11_isEqual_30 : decode cX11_isEqual 30 = .ok (.lcmp, 1) := by decide +kernel
theorem dX11_isEqual_31 : decode cX11_isEqual 31 = .ok (.ifCond .ne 19, 3) := by decide +kernel
theorem dX11_isEqual_34 : decode cX11_isEqual 34 = .ok (.aload_n 3, 1) := by decide +kernel
theorem dX11_isEqual_35 : decode cX11_isEqual 35 = .ok (.getfield 120, 3) := by decide +kernel
theorem dX11_isEqual_38 : decode cX11_isEqual 38 = .ok (.aload 4, 2) := by decide +kernel
theorem dX11_isEqual_40 : decode cX11_isEqual 40 = .ok (.getfield 120, 3) := by decide +kernel
theorem dX11_isEqual_43 : decode cX11_isEqual 43 = .ok (.if_icmp .ne 7, 3) := by decide +kernel
theorem dX11_isEqual_46 : decode cX11_isEqual 46 = .ok (.iconst 1, 1) := by decide +kernel
theorem dX11_isEqual_47 : decode cX11_isEqual 47 = .ok (.goto 4, 3) := by decide +kernel
theorem dX11_isEqual_50 : decode cX11_isEqual 50 = .ok (.iconst 0, 1) := by decide +kernel
theorem dX11_isEqual_51 : decode cX11_isEqual 51 = .ok (.ireturn, 1) := by decide +kernel
theorem dX11_joined_0 : decode cX11_joined 0 = .ok (.iload_n 2, 1) := by decide +kernel
theorem dX11_joined_1 : decode cX11_joined 1 = .ok (.lookupswitch 75 #[(42, 55), (43, 43), (45, 49), (103, 61)], 43) := by decide +kernel
theorem dX11_joined_44 : decode cX11_joined 44 = .ok (.aload_n 0, 1) := by decide +kernel
theorem dX11_joined_45 : decode cX11_joined 45 = .ok (.aload_n 1, 1) := by decide +kernel
theorem dX11_joined_46 : decode cX11_joined 46 = .ok (.invokevirtual 177, 3) := by decide +kernel
theorem dX11_joined_49 : decode cX11_joined 49 = .ok (.areturn, 1) := by decide +kernel
theorem dX11_joined_50 : decode cX11_joined 50 = .ok (.aload_n 0, 1) := by decide +kernel
theorem dX11_joined_51 : decode cX11_joined 51 = .ok (.aload_n 1, 1) := by decide +kernel
theorem dX11_joined_52 : decode cX11_joined 52 = .ok (.invokevirtual 180, 3) := by decide +kernel
theorem dX11_joined_55 : decode cX11_joined 55 = .ok (.areturn, 1) := by decide +kernel
theorem dX11_joined_56 : decode cX11_joined 56 = .ok (.aload_n 0, 1) := by decide +kernel
theorem dX11_joined_57 : decode cX11_joined 57 = .ok (.aload_n 1, 1) := by decide +kernel
theorem dX11_joined_58 : decode cX11_joined 58 = .ok (.invokevirtual 183, 3) := by decide +kernel
theorem dX11_joined_61 : decode cX11_joined 61 = .ok (.areturn, 1) := by decide +kernel
theorem dX11_joined_62 : decode cX11_joined 62 = .ok (.aload_n 0, 1) := by decide +kernel
theorem dX11_joined_63 : decode cX11_joined 63 = .ok (.aload_n 1, 1) := by decide +kernel
theorem dX11_joined_64 : decode cX11_joined 64 = .ok (.invokevirtual 173, 3) := by decide +kernel
theorem dX11_joined_67 : decode cX11_joined 67 = .ok (.ifCond .lt 7, 3) := by decide +kernel
theorem dX11_joined_70 : decode cX11_joined 70 = .ok (.aload_n 0, 1) := by decide +kernel
theorem dX11_joined_71 : decode cX11_joined 71 = .ok (.goto 4, 3) := by decide +kernel
theorem dX11_joined_74 : decode cX11_joined 74 = .ok (.aload_n 1, 1) := by decide +kernel
theorem dX11_joined_75 : decode cX11_joined 75 = .ok (.areturn, 1) := by decide +kernel
theorem dX11_joined_76 : decode cX11_joined 76 = .ok (.aload_n 0, 1) := by decide +kernel
theorem dX11_joined_77 : decode cX11_joined 77 = .ok (.aload_n 1, 1) := by decide +kernel
theorem dX11_joined_78 : decode cX11_joined 78 = .ok (.invokevirtual 173, 3) := by decide +kernel
theorem dX11_joined_81 : decode cX11_joined 81 = .ok (.ifCond .gt 7, 3) := by decide +kernel
theorem dX11_joined_84 : decode cX11_joined 84 = .ok (.aload_n 0, 1) := by decide +kernel
theorem dX11_joined_85 : decode cX11_joined 85 = .ok (.goto 4, 3) := by decide +kernel
theorem dX11_joined_88 : decode cX11_joined 88 = .ok (.aload_n 1, 1) := by decide +kernel
theorem dX11_joined_89 : decode cX11_joined 89 = .ok (.areturn, 1) := by decide +kernel
theorem dX11_turned_0 : decode cX11_turned 0 = .ok (.iload_n 1, 1) := by decide +kernel
theorem dX11_turned_1 : decode cX11_turned 1 = .ok (.lookupswitch 63 #[(45, 27), (97, 44)], 27) := by decide +kernel
theorem dX11_turned_28 : decode cX11_turned 28 = .ok (.new 9, 3) := by decide +kernel
theorem dX11_turned_31 : decode cX11_turned 31 = .ok (.dup, 1) := by decide +kernel
theorem dX11_turned_32 : decode cX11_turned 32 = .ok (.aload_n 0, 1) := by decide +kernel
theorem dX11_turned_33 : decode cX11_turned 33 = .ok (.getfield 127, 3) := by decide +kernel
theorem dX11_turned_36 : decode cX11_turned 36 = .ok (.lneg, 1) := by decide +kernel
theorem dX11_turned_37 : decode cX11_turned 37 = .ok (.aload_n 0, 1) := by decide +kernel
theorem dX11_turned_38 : decode cX11_turned 38 = .ok (.getfield 120, 3) := by decide +kernel
theorem dX11_turned_41 : decode cX11_turned 41 = .ok (.invokespecial 88, 3) := by decide +kernel
theorem dX11_turned_44 : decode cX11_turned 44 = .ok (.areturn, 1) := by decide +kernel
theorem dX11_turned_45 : decode cX11_turned 45 = .ok (.new 9, 3) := by decide +kernel
theorem dX11_turned_48 : decode cX11_turned 48 = .ok (.dup, 1) := by decide +kernel
theorem dX11_turned_49 : decode cX11_turned 49 = .ok (.aload_n 0, 1) := by decide +kernel
theorem dX11_turned_50 : decode cX11_turned 50 = .ok (.getfield 127, 3) := by decide +kernel
theorem dX11_turned_53 : decode cX11_turned 53 = .ok (.invokestatic 186, 3) := by decide +kernel
theorem dX11_turned_56 : decode cX11_turned 56 = .ok (.aload_n 0, 1) := by decide +kernel
theorem dX11_turned_57 : decode cX11_turned 57 = .ok (.getfield 120, 3) := by decide +kernel
theorem dX11_turned_60 : decode cX11_turned 60 = .ok (.invokespecial 88, 3) := by decide +kernel
theorem dX11_turned_63 : decode cX11_turned 63 = .ok (.areturn, 1) := by decide +kernel
theorem dX11_turned_64 : decode cX11_turned 64 = .ok (.aload_n 0, 1) := by decide +kernel
theorem dX11_turned_65 : decode cX11_turned 65 = .ok (.invokevirtual 192, 3) := by decide +kernel
theorem dX11_turned_68 : decode cX11_turned 68 = .ok (.areturn, 1) := by decide +kernel
theorem dX11_checkShelf_0 : decode cX11_checkShelf 0 = .ok (.iload_n 0, 1) := by decide +kernel
theorem dX11_checkShelf_1 : decode cX11_checkShelf 1 = .ok (.ifCond .lt 9, 3) := by decide +kernel
theorem dX11_checkShelf_4 : decode cX11_checkShelf 4 = .ok (.iload_n 0, 1) := by decide +kernel
theorem dX11_checkShelf_5 : decode cX11_checkShelf 5 = .ok (.bipush 12, 2) := by decide +kernel
theorem dX11_checkShelf_7 : decode cX11_checkShelf 7 = .ok (.if_icmp .lt 13, 3) := by decide +kernel
theorem dX11_checkShelf_10 : decode cX11_checkShelf 10 = .ok (.new 195, 3) := by decide +kernel
theorem dX11_checkShelf_13 : decode cX11_checkShelf 13 = .ok (.dup, 1) := by decide +kernel
theorem dX11_checkShelf_14 : decode cX11_checkShelf 14 = .ok (.ldc 197, 2) := by decide +kernel
theorem dX11_checkShelf_16 : decode cX11_checkShelf 16 = .ok (.invokespecial 199, 3) := by decide +kernel
theorem dX11_checkShelf_19 : decode cX11_checkShelf 19 = .ok (.athrow, 1) := by decide +kernel
theorem dX11_checkShelf_20 : decode cX11_checkShelf 20 = .ok (.return_, 1) := by decide +kernel
theorem dX11_checkScale_0 : decode cX11_checkScale 0 = .ok (.iload_n 0, 1) := by decide +kernel
theorem dX11_checkScale_1 : decode cX11_checkScale 1 = .ok (.bipush (-18), 2) := by decide +kernel
theorem dX11_checkScale_3 : decode cX11_checkScale 3 = .ok (.if_icmp .lt 9, 3) := by decide +kernel
theorem dX11_checkScale_6 : decode cX11_checkScale 6 = .ok (.iload_n 0, 1) := by decide +kernel
theorem dX11_checkScale_7 : decode cX11_checkScale 7 = .ok (.bipush 36, 2) := by decide +kernel
theorem dX11_checkScale_9 : decode cX11_checkScale 9 = .ok (.if_icmp .le 13, 3) := by decide +kernel
theorem dX11_checkScale_12 : decode cX11_checkScale 12 = .ok (.new 81, 3) := by decide +kernel
theorem dX11_checkScale_15 : decode cX11_checkScale 15 = .ok (.dup, 1) := by decide +kernel
theorem dX11_checkScale_16 : decode cX11_checkScale 16 = .ok (.ldc 200, 2) := by decide +kernel
theorem dX11_checkScale_18 : decode cX11_checkScale 18 = .ok (.invokespecial 85, 3) := by decide +kernel
theorem dX11_checkScale_21 : decode cX11_checkScale 21 = .ok (.athrow, 1) := by decide +kernel
theorem dX11_checkScale_22 : decode cX11_checkScale 22 = .ok (.return_, 1) := by decide +kernel
theorem dX11_checkMode_0 : decode cX11_checkMode 0 = .ok (.iload_n 0, 1) := by decide +kernel
theorem dX11_checkMode_1 : decode cX11_checkMode 1 = .ok (.invokestatic 202, 3) := by decide +kernel
theorem dX11_checkMode_4 : decode cX11_checkMode 4 = .ok (.ifCond .ne 13, 3) := by decide +kernel
theorem dX11_checkMode_7 : decode cX11_checkMode 7 = .ok (.new 81, 3) := by decide +kernel
theorem dX11_checkMode_10 : decode cX11_checkMode 10 = .ok (.dup, 1) := by decide +kernel
theorem dX11_checkMode_11 : decode cX11_checkMode 11 = .ok (.ldc 208, 2) := by decide +kernel
theorem dX11_checkMode_13 : decode cX11_checkMode 13 = .ok (.invokespecial 85, 3) := by decide +kernel
theorem dX11_checkMode_16 : decode cX11_checkMode 16 = .ok (.athrow, 1) := by decide +kernel
theorem dX11_checkMode_17 : decode cX11_checkMode 17 = .ok (.return_, 1) := by decide +kernel
theorem dX11_valueOn_0 : decode cX11_valueOn 0 = .ok (.aload_n 0, 1) := by decide +kernel
theorem dX11_valueOn_1 : decode cX11_valueOn 1 = .ok (.getfield 11, 3) := by decide +kernel
theorem dX11_valueOn_4 : decode cX11_valueOn 4 = .ok (.iload_n 1, 1) := by decide +kernel
theorem dX11_valueOn_5 : decode cX11_valueOn 5 = .ok (.aaload, 1) := by decide +kernel
theorem dX11_valueOn_6 : decode cX11_valueOn 6 = .ok (.astore_n 2, 1) := by decide +kernel
theorem dX11_valueOn_7 : decode cX11_valueOn 7 = .ok (.aload_n 2, 1) := by decide +kernel
theorem dX11_valueOn_8 : decode cX11_valueOn 8 = .ok (.ifnonnull 13, 3) := by decide +kernel
theorem dX11_valueOn_11 : decode cX11_valueOn 11 = .ok (.new 210, 3) := by decide +kernel
theorem dX11_valueOn_14 : decode cX11_valueOn 14 = .ok (.dup, 1) := by decide +kernel
theorem dX11_valueOn_15 : decode cX11_valueOn 15 = .ok (.ldc 212, 2) := by decide +kernel
theorem dX11_valueOn_17 : decode cX11_valueOn 17 = .ok (.invokespecial 214, 3) := by decide +kernel
theorem dX11_valueOn_20 : decode cX11_valueOn 20 = .ok (.athrow, 1) := by decide +kernel
theorem dX11_valueOn_21 : decode cX11_valueOn 21 = .ok (.aload_n 2, 1) := by decide +kernel
theorem dX11_valueOn_22 : decode cX11_valueOn 22 = .ok (.areturn, 1) := by decide +kernel
theorem dX11_setCurrency_0 : decode cX11_setCurrency 0 = .ok (.iload_n 1, 1) := by decide +kernel
theorem dX11_setCurrency_1 : decode cX11_setCurrency 1 = .ok (.invokestatic 215, 3) := by decide +kernel
theorem dX11_setCurrency_4 : decode cX11_setCurrency 4 = .ok (.iload_n 2, 1) := by decide +kernel
theorem dX11_setCurrency_5 : decode cX11_setCurrency 5 = .ok (.i2l, 1) := by decide +kernel
theorem dX11_setCurrency_6 : decode cX11_setCurrency 6 = .ok (.lconst 0, 1) := by decide +kernel
theorem dX11_setCurrency_7 : decode cX11_setCurrency 7 = .ok (.ldc2_w 218, 3) := by decide +kernel
theorem dX11_setCurrency_10 : decode cX11_setCurrency 10 = .ok (.invokestatic 220, 3) := by decide +kernel
theorem dX11_setCurrency_13 : decode cX11_setCurrency 13 = .ok (.iload_n 3, 1) := by decide +kernel
theorem dX11_setCurrency_14 : decode cX11_setCurrency 14 = .ok (.invokestatic 152, 3) := by decide +kernel
theorem dX11_setCurrency_17 : decode cX11_setCurrency 17 = .ok (.iload 4, 2) := by decide +kernel
theorem dX11_setCurrency_19 : decode cX11_setCurrency 19 = .ok (.i2l, 1) := by decide +kernel
theorem dX11_setCurrency_20 : decode cX11_setCurrency 20 = .ok (.lconst 1, 1) := by decide +kernel
theorem dX11_setCurrency_21 : decode cX11_setCurrency 21 = .ok (.ldc2_w 224, 3) := by decide +kernel
theorem dX11_setCurrency_24 : decode cX11_setCurrency 24 = .ok (.invokestatic 220, 3) := by decide +kernel
theorem dX11_setCurrency_27 : decode cX11_setCurrency 27 = .ok (.aload_n 0, 1) := by decide +kernel
theorem dX11_setCurrency_28 : decode cX11_setCurrency 28 = .ok (.getfield 24, 3) := by decide +kernel
theorem dX11_setCurrency_31 : decode cX11_setCurrency 31 = .ok (.iload_n 1, 1) := by decide +kernel
theorem dX11_setCurrency_32 : decode cX11_setCurrency 32 = .ok (.aaload, 1) := by decide +kernel
theorem dX11_setCurrency_33 : decode cX11_setCurrency 33 = .ok (.astore 5, 2) := by decide +kernel
theorem dX11_setCurrency_35 : decode cX11_setCurrency 35 = .ok (.aload 5, 2) := by decide +kernel
theorem dX11_setCurrency_37 : decode cX11_setCurrency 37 = .ok (.getfield 226, 3) := by decide +kernel
theorem dX11_setCurrency_40 : decode cX11_setCurrency 40 = .ok (.istore 6, 2) := by decide +kernel
theorem dX11_setCurrency_42 : decode cX11_setCurrency 42 = .ok (.aload 5, 2) := by decide +kernel
theorem dX11_setCurrency_44 : decode cX11_setCurrency 44 = .ok (.iload_n 2, 1) := by decide +kernel
theorem dX11_setCurrency_45 : decode cX11_setCurrency 45 = .ok (.putfield 226, 3) := by decide +kernel
theorem dX11_setCurrency_48 : decode cX11_setCurrency 48 = .ok (.aload 5, 2) := by decide +kernel
theorem dX11_setCurrency_50 : decode cX11_setCurrency 50 = .ok (.iload_n 3, 1) := by decide +kernel
theorem dX11_setCurrency_51 : decode cX11_setCurrency 51 = .ok (.putfield 228, 3) := by decide +kernel
theorem dX11_setCurrency_54 : decode cX11_setCurrency 54 = .ok (.aload 5, 2) := by decide +kernel
theorem dX11_setCurrency_56 : decode cX11_setCurrency 56 = .ok (.iload 4, 2) := by decide +kernel
theorem dX11_setCurrency_58 : decode cX11_setCurrency 58 = .ok (.putfield 232, 3) := by decide +kernel
theorem dX11_setCurrency_61 : decode cX11_setCurrency 61 = .ok (.iload 6, 2) := by decide +kernel
theorem dX11_setCurrency_63 : decode cX11_setCurrency 63 = .ok (.ireturn, 1) := by decide +kernel
theorem dX11_setRate_0 : decode cX11_setRate 0 = .ok (.iload_n 1, 1) := by decide +kernel
theorem dX11_setRate_1 : decode cX11_setRate 1 = .ok (.invokestatic 215, 3) := by decide +kernel
theorem dX11_setRate_4 : decode cX11_setRate 4 = .ok (.iload_n 2, 1) := by decide +kernel
theorem dX11_setRate_5 : decode cX11_setRate 5 = .ok (.invokestatic 215, 3) := by decide +kernel
theorem dX11_setRate_8 : decode cX11_setRate 8 = .ok (.iload_n 3, 1) := by decide +kernel
theorem dX11_setRate_9 : decode cX11_setRate 9 = .ok (.invokestatic 73, 3) := by decide +kernel
theorem dX11_setRate_12 : decode cX11_setRate 12 = .ok (.iload_n 1, 1) := by decide +kernel
theorem dX11_setRate_13 : decode cX11_setRate 13 = .ok (.iload_n 2, 1) := by decide +kernel
theorem dX11_setRate_14 : decode cX11_setRate 14 = .ok (.invokestatic 235, 3) := by decide +kernel
theorem dX11_setRate_17 : decode cX11_setRate 17 = .ok (.aload_n 0, 1) := by decide +kernel
theorem dX11_setRate_18 : decode cX11_setRate 18 = .ok (.iload_n 3, 1) := by decide +kernel
theorem dX11_setRate_19 : decode cX11_setRate 19 = .ok (.invokevirtual 123, 3) := by decide +kernel
theorem dX11_setRate_22 : decode cX11_setRate 22 = .ok (.astore 4, 2) := by decide +kernel
theorem dX11_setRate_24 : decode cX11_setRate 24 = .ok (.aload 4, 2) := by decide +kernel
theorem dX11_setRate_26 : decode cX11_setRate 26 = .ok (.invokevirtual 131, 3) := by decide +kernel
theorem dX11_setRate_29 : decode cX11_setRate 29 = .ok (.ifCond .gt 13, 3) := by decide +kernel
theorem dX11_setRate_32 : decode cX11_setRate 32 = .ok (.new 239, 3) := by decide +kernel
theorem dX11_setRate_35 : decode cX11_setRate 35 = .ok (.dup, 1) := by decide +kernel
theorem dX11_setRate_36 : decode cX11_setRate 36 = .ok (.ldc 241, 2) := by decide +kernel
theorem dX11_setRate_38 : decode cX11_setRate 38 = .ok (.invokespecial 243, 3) := by decide +kernel
theorem dX11_setRate_41 : decode cX11_setRate 41 = .ok (.athrow, 1) := by decide +kernel
theorem dX11_setRate_42 : decode cX11_setRate 42 = .ok (.aload_n 0, 1) := by decide +kernel
theorem dX11_setRate_43 : decode cX11_setRate 43 = .ok (.iload_n 1, 1) := by decide +kernel
theorem dX11_setRate_44 : decode cX11_setRate 44 = .ok (.iload_n 2, 1) := by decide +kernel
theorem dX11_setRate_45 : decode cX11_setRate 45 = .ok (.invokevirtual 244, 3) := by decide +kernel
theorem dX11_setRate_48 : decode cX11_setRate 48 = .ok (.istore 5, 2) := by decide +kernel
theorem dX11_setRate_50 : decode cX11_setRate 50 = .ok (.aload_n 0, 1) := by decide +kernel
theorem dX11_setRate_51 : decode cX11_setRate 51 = .ok (.getfield 28, 3) := by decide +kernel
theorem dX11_setRate_54 : decode cX11_setRate 54 = .ok (.iload_n 1, 1) := by decide +kernel
theorem dX11_setRate_55 : decode cX11_setRate 55 = .ok (.iconst 4, 1) := by decide +kernel
theorem dX11_setRate_56 : decode cX11_setRate 56 = .ok (.imul, 1) := by decide +kernel
theorem dX11_setRate_57 : decode cX11_setRate 57 = .ok (.iload_n 2, 1) := by decide +kernel
theorem dX11_setRate_58 : decode cX11_setRate 58 = .ok (.iadd, 1) := by decide +kernel
theorem dX11_setRate_59 : decode cX11_setRate 59 = .ok (.aload 4, 2) := by decide +kernel
theorem dX11_setRate_61 : decode cX11_setRate 61 = .ok (.aastore, 1) := by decide +kernel
theorem dX11_setRate_62 : decode cX11_setRate 62 = .ok (.iload 5, 2) := by decide +kernel
theorem dX11_setRate_64 : decode cX11_setRate 64 = .ok (.ireturn, 1) := by decide +kernel
theorem dX11_change_0 : decode cX11_change 0 = .ok (.aload_n 0, 1) := by decide +kernel
theorem dX11_change_1 : decode cX11_change 1 = .ok (.iload_n 1, 1) := by decide +kernel
theorem dX11_change_2 : decode cX11_change 2 = .ok (.iload_n 2, 1) := by decide +kernel
theorem dX11_change_3 : decode cX11_change 3 = .ok (.lload_n 3, 1) := by decide +kernel
theorem dX11_change_4 : decode cX11_change 4 = .ok (.invokevirtual 248, 3) := by decide +kernel
theorem dX11_change_7 : decode cX11_change 7 = .ok (.aload_n 0, 1) := by decide +kernel
theorem dX11_change_8 : decode cX11_change 8 = .ok (.iload_n 1, 1) := by decide +kernel
theorem dX11_change_9 : decode cX11_change 9 = .ok (.iload_n 2, 1) := by decide +kernel
theorem dX11_change_10 : decode cX11_change 10 = .ok (.lload_n 3, 1) := by decide +kernel
theorem dX11_change_11 : decode cX11_change 11 = .ok (.invokevirtual 252, 3) := by decide +kernel
theorem dX11_change_14 : decode cX11_change 14 = .ok (.lreturn, 1) := by decide +kernel
theorem dX11_lost_0 : decode cX11_lost 0 = .ok (.aload_n 0, 1) := by decide +kernel
theorem dX11_lost_1 : decode cX11_lost 1 = .ok (.iload_n 1, 1) := by decide +kernel
theorem dX11_lost_2 : decode cX11_lost 2 = .ok (.iload_n 2, 1) := by decide +kernel
theorem dX11_lost_3 : decode cX11_lost 3 = .ok (.lload_n 3, 1) := by decide +kernel
theorem dX11_lost_4 : decode cX11_lost 4 = .ok (.invokevirtual 248, 3) := by decide +kernel
theorem dX11_lost_7 : decode cX11_lost 7 = .ok (.aload_n 0, 1) := by decide +kernel
theorem dX11_lost_8 : decode cX11_lost 8 = .ok (.iload_n 2, 1) := by decide +kernel
theorem dX11_lost_9 : decode cX11_lost 9 = .ok (.iload_n 1, 1) := by decide +kernel
theorem dX11_lost_10 : decode cX11_lost 10 = .ok (.invokevirtual 256, 3) := by decide +kernel
theorem dX11_lost_13 : decode cX11_lost 13 = .ok (.lload_n 3, 1) := by decide +kernel
theorem dX11_lost_14 : decode cX11_lost 14 = .ok (.aload_n 0, 1) := by decide +kernel
theorem dX11_lost_15 : decode cX11_lost 15 = .ok (.iload_n 2, 1) := by decide +kernel
theorem dX11_lost_16 : decode cX11_lost 16 = .ok (.iload_n 1, 1) := by decide +kernel
theorem dX11_lost_17 : decode cX11_lost 17 = .ok (.aload_n 0, 1) := by decide +kernel
theorem dX11_lost_18 : decode cX11_lost 18 = .ok (.iload_n 1, 1) := by decide +kernel
theorem dX11_lost_19 : decode cX11_lost 19 = .ok (.iload_n 2, 1) := by decide +kernel
theorem dX11_lost_20 : decode cX11_lost 20 = .ok (.lload_n 3, 1) := by decide +kernel
theorem dX11_lost_21 : decode cX11_lost 21 = .ok (.invokevirtual 252, 3) := by decide +kernel
theorem dX11_lost_24 : decode cX11_lost 24 = .ok (.invokevirtual 252, 3) := by decide +kernel
theorem dX11_lost_27 : decode cX11_lost 27 = .ok (.lsub, 1) := by decide +kernel
theorem dX11_lost_28 : decode cX11_lost 28 = .ok (.lreturn, 1) := by decide +kernel
theorem dX11_checkCurrency_0 : decode cX11_checkCurrency 0 = .ok (.iload_n 0, 1) := by decide +kernel
theorem dX11_checkCurrency_1 : decode cX11_checkCurrency 1 = .ok (.ifCond .lt 8, 3) := by decide +kernel
theorem dX11_checkCurrency_4 : decode cX11_checkCurrency 4 = .ok (.iload_n 0, 1) := by decide +kernel
theorem dX11_checkCurrency_5 : decode cX11_checkCurrency 5 = .ok (.iconst 4, 1) := by decide +kernel
theorem dX11_checkCurrency_6 : decode cX11_checkCurrency 6 = .ok (.if_icmp .lt 14, 3) := by decide +kernel
theorem dX11_checkCurrency_9 : decode cX11_checkCurrency 9 = .ok (.new 195, 3) := by decide +kernel
theorem dX11_checkCurrency_12 : decode cX11_checkCurrency 12 = .ok (.dup, 1) := by decide +kernel
theorem dX11_checkCurrency_13 : decode cX11_checkCurrency 13 = .ok (.ldc_w 259, 3) := by decide +kernel
theorem dX11_checkCurrency_16 : decode cX11_checkCurrency 16 = .ok (.invokespecial 199, 3) := by decide +kernel
theorem dX11_checkCurrency_19 : decode cX11_checkCurrency 19 = .ok (.athrow, 1) := by decide +kernel
theorem dX11_checkCurrency_20 : decode cX11_checkCurrency 20 = .ok (.return_, 1) := by decide +kernel
theorem dX11_checkUnlike_0 : decode cX11_checkUnlike 0 = .ok (.iload_n 0, 1) := by decide +kernel
theorem dX11_checkUnlike_1 : decode cX11_checkUnlike 1 = .ok (.iload_n 1, 1) := by decide +kernel
theorem dX11_checkUnlike_2 : decode cX11_checkUnlike 2 = .ok (.if_icmp .ne 14, 3) := by decide +kernel
theorem dX11_checkUnlike_5 : decode cX11_checkUnlike 5 = .ok (.new 81, 3) := by decide +kernel
theorem dX11_checkUnlike_8 : decode cX11_checkUnlike 8 = .ok (.dup, 1) := by decide +kernel
theorem dX11_checkUnlike_9 : decode cX11_checkUnlike 9 = .ok (.ldc_w 261, 3) := by decide +kernel
theorem dX11_checkUnlike_12 : decode cX11_checkUnlike 12 = .ok (.invokespecial 85, 3) := by decide +kernel
theorem dX11_checkUnlike_15 : decode cX11_checkUnlike 15 = .ok (.athrow, 1) := by decide +kernel
theorem dX11_checkUnlike_16 : decode cX11_checkUnlike 16 = .ok (.return_, 1) := by decide +kernel
theorem dX11_checkRange_0 : decode cX11_checkRange 0 = .ok (.lload_n 0, 1) := by decide +kernel
theorem dX11_checkRange_1 : decode cX11_checkRange 1 = .ok (.lload_n 2, 1) := by decide +kernel
theorem dX11_checkRange_2 : decode cX11_checkRange 2 = .ok (.lcmp, 1) := by decide +kernel
theorem dX11_checkRange_3 : decode cX11_checkRange 3 = .ok (.ifCond .lt 10, 3) := by decide +kernel
theorem dX11_checkRange_6 : decode cX11_checkRange 6 = .ok (.lload_n 0, 1) := by decide +kernel
theorem dX11_checkRange_7 : decode cX11_checkRange 7 = .ok (.lload 4, 2) := by decide +kernel
theorem dX11_checkRange_9 : decode cX11_checkRange 9 = .ok (.lcmp, 1) := by decide +kernel
theorem dX11_checkRange_10 : decode cX11_checkRange 10 = .ok (.ifCond .le 14, 3) := by decide +kernel
theorem dX11_checkRange_13 : decode cX11_checkRange 13 = .ok (.new 81, 3) := by decide +kernel
theorem dX11_checkRange_16 : decode cX11_checkRange 16 = .ok (.dup, 1) := by decide +kernel
theorem dX11_checkRange_17 : decode cX11_checkRange 17 = .ok (.ldc_w 263, 3) := by decide +kernel
theorem dX11_checkRange_20 : decode cX11_checkRange 20 = .ok (.invokespecial 85, 3) := by decide +kernel
theorem dX11_checkRange_23 : decode cX11_checkRange 23 = .ok (.athrow, 1) := by decide +kernel
theorem dX11_checkRange_24 : decode cX11_checkRange 24 = .ok (.return_, 1) := by decide +kernel
theorem dX11_hasRate_0 : decode cX11_hasRate 0 = .ok (.aload_n 0, 1) := by decide +kernel
theorem dX11_hasRate_1 : decode cX11_hasRate 1 = .ok (.getfield 28, 3) := by decide +kernel
theorem dX11_hasRate_4 : decode cX11_hasRate 4 = .ok (.iload_n 1, 1) := by decide +kernel
theorem dX11_hasRate_5 : decode cX11_hasRate 5 = .ok (.iconst 4, 1) := by decide +kernel
theorem dX11_hasRate_6 : decode cX11_hasRate 6 = .ok (.imul, 1) := by decide +kernel
theorem dX11_hasRate_7 : decode cX11_hasRate 7 = .ok (.iload_n 2, 1) := by decide +kernel
theorem dX11_hasRate_8 : decode cX11_hasRate 8 = .ok (.iadd, 1) := by decide +kernel
theorem dX11_hasRate_9 : decode cX11_hasRate 9 = .ok (.aaload, 1) := by decide +kernel
theorem dX11_hasRate_10 : decode cX11_hasRate 10 = .ok (.ifnull 7, 3) := by decide +kernel
theorem dX11_hasRate_13 : decode cX11_hasRate 13 = .ok (.iconst 1, 1) := by decide +kernel
theorem dX11_hasRate_14 : decode cX11_hasRate 14 = .ok (.goto 4, 3) := by decide +kernel
theorem dX11_hasRate_17 : decode cX11_hasRate 17 = .ok (.iconst 0, 1) := by decide +kernel
theorem dX11_hasRate_18 : decode cX11_hasRate 18 = .ok (.ireturn, 1) := by decide +kernel
theorem dX11_checkRate_0 : decode cX11_checkRate 0 = .ok (.aload_n 0, 1) := by decide +kernel
theorem dX11_checkRate_1 : decode cX11_checkRate 1 = .ok (.iload_n 1, 1) := by decide +kernel
theorem dX11_checkRate_2 : decode cX11_checkRate 2 = .ok (.iload_n 2, 1) := by decide +kernel
theorem dX11_checkRate_3 : decode cX11_checkRate 3 = .ok (.invokevirtual 244, 3) := by decide +kernel
theorem dX11_checkRate_6 : decode cX11_checkRate 6 = .ok (.ifCond .ne 14, 3) := by decide +kernel
theorem dX11_checkRate_9 : decode cX11_checkRate 9 = .ok (.new 210, 3) := by decide +kernel
theorem dX11_checkRate_12 : decode cX11_checkRate 12 = .ok (.dup, 1) := by decide +kernel
theorem dX11_checkRate_13 : decode cX11_checkRate 13 = .ok (.ldc_w 265, 3) := by decide +kernel
theorem dX11_checkRate_16 : decode cX11_checkRate 16 = .ok (.invokespecial 214, 3) := by decide +kernel
theorem dX11_checkRate_19 : decode cX11_checkRate 19 = .ok (.athrow, 1) := by decide +kernel
theorem dX11_checkRate_20 : decode cX11_checkRate 20 = .ok (.return_, 1) := by decide +kernel
theorem dX11_checkChange_0 : decode cX11_checkChange 0 = .ok (.iload_n 1, 1) := by decide +kernel
theorem dX11_checkChange_1 : decode cX11_checkChange 1 = .ok (.invokestatic 215, 3) := by decide +kernel
theorem dX11_checkChange_4 : decode cX11_checkChange 4 = .ok (.iload_n 2, 1) := by decide +kernel
theorem dX11_checkChange_5 : decode cX11_checkChange 5 = .ok (.invokestatic 215, 3) := by decide +kernel
theorem dX11_checkChange_8 : decode cX11_checkChange 8 = .ok (.iload_n 1, 1) := by decide +kernel
theorem dX11_checkChange_9 : decode cX11_checkChange 9 = .ok (.iload_n 2, 1) := by decide +kernel
theorem dX11_checkChange_10 : decode cX11_checkChange 10 = .ok (.invokestatic 235, 3) := by decide +kernel
theorem dX11_checkChange_13 : decode cX11_checkChange 13 = .ok (.lload_n 3, 1) := by decide +kernel
theorem dX11_checkChange_14 : decode cX11_checkChange 14 = .ok (.lconst 0, 1) := by decide +kernel
theorem dX11_checkChange_15 : decode cX11_checkChange 15 = .ok (.ldc2_w 267, 3) := by decide +kernel
theorem dX11_checkChange_18 : decode cX11_checkChange 18 = .ok (.invokestatic 220, 3) := by decide +kernel
theorem dX11_checkChange_21 : decode cX11_checkChange 21 = .ok (.return_, 1) := by decide +kernel
theorem dX11_changed_0 : decode cX11_changed 0 = .ok (.aload_n 0, 1) := by decide +kernel
theorem dX11_changed_1 : decode cX11_changed 1 = .ok (.getfield 28, 3) := by decide +kernel
theorem dX11_changed_4 : decode cX11_changed 4 = .ok (.iload_n 1, 1) := by decide +kernel
theorem dX11_changed_5 : decode cX11_changed 5 = .ok (.iconst 4, 1) := by decide +kernel
theorem dX11_changed_6 : decode cX11_changed 6 = .ok (.imul, 1) := by decide +kernel
theorem dX11_changed_7 : decode cX11_changed 7 = .ok (.iload_n 2, 1) := by decide +kernel
theorem dX11_changed_8 : decode cX11_changed 8 = .ok (.iadd, 1) := by decide +kernel
theorem dX11_changed_9 : decode cX11_changed 9 = .ok (.aaload, 1) := by decide +kernel
theorem dX11_changed_10 : decode cX11_changed 10 = .ok (.astore 5, 2) := by decide +kernel
theorem dX11_changed_12 : decode cX11_changed 12 = .ok (.aload 5, 2) := by decide +kernel
theorem dX11_changed_14 : decode cX11_changed 14 = .ok (.ifnonnull 14, 3) := by decide +kernel
theorem dX11_changed_17 : decode cX11_changed 17 = .ok (.new 210, 3) := by decide +kernel
theorem dX11_changed_20 : decode cX11_changed 20 = .ok (.dup, 1) := by decide +kernel
theorem dX11_changed_21 : decode cX11_changed 21 = .ok (.ldc_w 265, 3) := by decide +kernel
theorem dX11_changed_24 : decode cX11_changed 24 = .ok (.invokespecial 214, 3) := by decide +kernel
theorem dX11_changed_27 : decode cX11_changed 27 = .ok (.athrow, 1) := by decide +kernel
theorem dX11_changed_28 : decode cX11_changed 28 = .ok (.aload_n 0, 1) := by decide +kernel
theorem dX11_changed_29 : decode cX11_changed 29 = .ok (.getfield 24, 3) := by decide +kernel
theorem dX11_changed_32 : decode cX11_changed 32 = .ok (.iload_n 2, 1) := by decide +kernel
theorem dX11_changed_33 : decode cX11_changed 33 = .ok (.aaload, 1) := by decide +kernel
theorem dX11_changed_34 : decode cX11_changed 34 = .ok (.getfield 226, 3) := by decide +kernel
theorem dX11_changed_37 : decode cX11_changed 37 = .ok (.aload_n 0, 1) := by decide +kernel
theorem dX11_changed_38 : decode cX11_changed 38 = .ok (.getfield 24, 3) := by decide +kernel
theorem dX11_changed_41 : decode cX11_changed 41 = .ok (.iload_n 1, 1) := by decide +kernel
theorem dX11_changed_42 : decode cX11_changed 42 = .ok (.aaload, 1) := by decide +kernel
theorem dX11_changed_43 : decode cX11_changed 43 = .ok (.getfield 226, 3) := by decide +kernel
theorem dX11_changed_46 : decode cX11_changed 46 = .ok (.isub, 1) := by decide +kernel
theorem dX11_changed_47 : decode cX11_changed 47 = .ok (.aload 5, 2) := by decide +kernel
theorem dX11_changed_49 : decode cX11_changed 49 = .ok (.getfield 120, 3) := by decide +kernel
theorem dX11_changed_52 : decode cX11_changed 52 = .ok (.isub, 1) := by decide +kernel
theorem dX11_changed_53 : decode cX11_changed 53 = .ok (.istore 6, 2) := by decide +kernel
theorem dX11_changed_55 : decode cX11_changed 55 = .ok (.new 269, 3) := by decide +kernel
theorem dX11_changed_58 : decode cX11_changed 58 = .ok (.dup, 1) := by decide +kernel
theorem dX11_changed_59 : decode cX11_changed 59 = .ok (.lload_n 3, 1) := by decide +kernel
theorem dX11_changed_60 : decode cX11_changed 60 = .ok (.aload 5, 2) := by decide +kernel
theorem dX11_changed_62 : decode cX11_changed 62 = .ok (.getfield 127, 3) := by decide +kernel
theorem dX11_changed_65 : decode cX11_changed 65 = .ok (.invokespecial 271, 3) := by decide +kernel
theorem dX11_changed_68 : decode cX11_changed 68 = .ok (.iload 6, 2) := by decide +kernel
theorem dX11_changed_70 : decode cX11_changed 70 = .ok (.aload_n 0, 1) := by decide +kernel
theorem dX11_changed_71 : decode cX11_changed 71 = .ok (.getfield 24, 3) := by decide +kernel
theorem dX11_changed_74 : decode cX11_changed 74 = .ok (.iload_n 2, 1) := by decide +kernel
theorem dX11_changed_75 : decode cX11_changed 75 = .ok (.aaload, 1) := by decide +kernel
theorem dX11_changed_76 : decode cX11_changed 76 = .ok (.getfield 228, 3) := by decide +kernel
theorem dX11_changed_79 : decode cX11_changed 79 = .ok (.invokevirtual 274, 3) := by decide +kernel
theorem dX11_changed_82 : decode cX11_changed 82 = .ok (.lreturn, 1) := by decide +kernel
theorem dX11_setTax_0 : decode cX11_setTax 0 = .ok (.iload_n 1, 1) := by decide +kernel
theorem dX11_setTax_1 : decode cX11_setTax 1 = .ok (.invokestatic 278, 3) := by decide +kernel
theorem dX11_setTax_4 : decode cX11_setTax 4 = .ok (.iload_n 2, 1) := by decide +kernel
theorem dX11_setTax_5 : decode cX11_setTax 5 = .ok (.i2l, 1) := by decide +kernel
theorem dX11_setTax_6 : decode cX11_setTax 6 = .ok (.lconst 0, 1) := by decide +kernel
theorem dX11_setTax_7 : decode cX11_setTax 7 = .ok (.ldc2_w 281, 3) := by decide +kernel
theorem dX11_setTax_10 : decode cX11_setTax 10 = .ok (.invokestatic 220, 3) := by decide +kernel
theorem dX11_setTax_13 : decode cX11_setTax 13 = .ok (.iload_n 3, 1) := by decide +kernel
theorem dX11_setTax_14 : decode cX11_setTax 14 = .ok (.i2l, 1) := by decide +kernel
theorem dX11_setTax_15 : decode cX11_setTax 15 = .ok (.lconst 0, 1) := by decide +kernel
theorem dX11_setTax_16 : decode cX11_setTax 16 = .ok (.ldc2_w 281, 3) := by decide +kernel
theorem dX11_setTax_19 : decode cX11_setTax 19 = .ok (.invokestatic 220, 3) := by decide +kernel
theorem dX11_setTax_22 : decode cX11_setTax 22 = .ok (.aload_n 0, 1) := by decide +kernel
theorem dX11_setTax_23 : decode cX11_setTax 23 = .ok (.getfield 33, 3) := by decide +kernel
theorem dX11_setTax_26 : decode cX11_setTax 26 = .ok (.iload_n 1, 1) := by decide +kernel
theorem dX11_setTax_27 : decode cX11_setTax 27 = .ok (.aaload, 1) := by decide +kernel
theorem dX11_setTax_28 : decode cX11_setTax 28 = .ok (.iload_n 2, 1) := by decide +kernel
theorem dX11_setTax_29 : decode cX11_setTax 29 = .ok (.iload_n 3, 1) := by decide +kernel
theorem dX11_setTax_30 : decode cX11_setTax 30 = .ok (.invokevirtual 283, 3) := by decide +kernel
theorem dX11_setTax_33 : decode cX11_setTax 33 = .ok (.ireturn, 1) := by decide +kernel
theorem dX11_tax_0 : decode cX11_tax 0 = .ok (.iload_n 1, 1) := by decide +kernel
theorem dX11_tax_1 : decode cX11_tax 1 = .ok (.invokestatic 278, 3) := by decide +kernel
theorem dX11_tax_4 : decode cX11_tax 4 = .ok (.iload_n 2, 1) := by decide +kernel
theorem dX11_tax_5 : decode cX11_tax 5 = .ok (.i2l, 1) := by decide +kernel
theorem dX11_tax_6 : decode cX11_tax 6 = .ok (.lconst 0, 1) := by decide +kernel
theorem dX11_tax_7 : decode cX11_tax 7 = .ok (.ldc2_w 281, 3) := by decide +kernel
theorem dX11_tax_10 : decode cX11_tax 10 = .ok (.invokestatic 220, 3) := by decide +kernel
theorem dX11_tax_13 : decode cX11_tax 13 = .ok (.aload_n 0, 1) := by decide +kernel
theorem dX11_tax_14 : decode cX11_tax 14 = .ok (.getfield 33, 3) := by decide +kernel
theorem dX11_tax_17 : decode cX11_tax 17 = .ok (.iload_n 1, 1) := by decide +kernel
theorem dX11_tax_18 : decode cX11_tax 18 = .ok (.aaload, 1) := by decide +kernel
theorem dX11_tax_19 : decode cX11_tax 19 = .ok (.iload_n 2, 1) := by decide +kernel
theorem dX11_tax_20 : decode cX11_tax 20 = .ok (.invokevirtual 287, 3) := by decide +kernel
theorem dX11_tax_23 : decode cX11_tax 23 = .ok (.ireturn, 1) := by decide +kernel
theorem dX11_setDiscount_0 : decode cX11_setDiscount 0 = .ok (.iload_n 1, 1) := by decide +kernel
theorem dX11_setDiscount_1 : decode cX11_setDiscount 1 = .ok (.invokestatic 278, 3) := by decide +kernel
theorem dX11_setDiscount_4 : decode cX11_setDiscount 4 = .ok (.iload_n 2, 1) := by decide +kernel
theorem dX11_setDiscount_5 : decode cX11_setDiscount 5 = .ok (.i2l, 1) := by decide +kernel
theorem dX11_setDiscount_6 : decode cX11_setDiscount 6 = .ok (.lconst 1, 1) := by decide +kernel
theorem dX11_setDiscount_7 : decode cX11_setDiscount 7 = .ok (.ldc2_w 291, 3) := by decide +kernel
theorem dX11_setDiscount_10 : decode cX11_setDiscount 10 = .ok (.invokestatic 220, 3) := by decide +kernel
theorem dX11_setDiscount_13 : decode cX11_setDiscount 13 = .ok (.iload_n 3, 1) := by decide +kernel
theorem dX11_setDiscount_14 : decode cX11_setDiscount 14 = .ok (.i2l, 1) := by decide +kernel
theorem dX11_setDiscount_15 : decode cX11_setDiscount 15 = .ok (.lconst 0, 1) := by decide +kernel
theorem dX11_setDiscount_16 : decode cX11_setDiscount 16 = .ok (.ldc2_w 293, 3) := by decide +kernel
theorem dX11_setDiscount_19 : decode cX11_setDiscount 19 = .ok (.invokestatic 220, 3) := by decide +kernel
theorem dX11_setDiscount_22 : decode cX11_setDiscount 22 = .ok (.aload_n 0, 1) := by decide +kernel
theorem dX11_setDiscount_23 : decode cX11_setDiscount 23 = .ok (.getfield 37, 3) := by decide +kernel
theorem dX11_setDiscount_26 : decode cX11_setDiscount 26 = .ok (.iload_n 1, 1) := by decide +kernel
theorem dX11_setDiscount_27 : decode cX11_setDiscount 27 = .ok (.aaload, 1) := by decide +kernel
theorem dX11_setDiscount_28 : decode cX11_setDiscount 28 = .ok (.iload_n 2, 1) := by decide +kernel
theorem dX11_setDiscount_29 : decode cX11_setDiscount 29 = .ok (.iload_n 3, 1) := by decide +kernel
theorem dX11_setDiscount_30 : decode cX11_setDiscount 30 = .ok (.invokevirtual 283, 3) := by decide +kernel
theorem dX11_setDiscount_33 : decode cX11_setDiscount 33 = .ok (.ireturn, 1) := by decide +kernel
theorem dX11_checkKind_0 : decode cX11_checkKind 0 = .ok (.iload_n 0, 1) := by decide +kernel
theorem dX11_checkKind_1 : decode cX11_checkKind 1 = .ok (.ifCond .lt 9, 3) := by decide +kernel
theorem dX11_checkKind_4 : decode cX11_checkKind 4 = .ok (.iload_n 0, 1) := by decide +kernel
theorem dX11_checkKind_5 : decode cX11_checkKind 5 = .ok (.bipush 6, 2) := by decide +kernel
theorem dX11_checkKind_7 : decode cX11_checkKind 7 = .ok (.if_icmp .lt 14, 3) := by decide +kernel
theorem dX11_checkKind_10 : decode cX11_checkKind 10 = .ok (.new 195, 3) := by decide +kernel
theorem dX11_checkKind_13 : decode cX11_checkKind 13 = .ok (.dup, 1) := by decide +kernel
theorem dX11_checkKind_14 : decode cX11_checkKind 14 = .ok (.ldc_w 295, 3) := by decide +kernel
theorem dX11_checkKind_17 : decode cX11_checkKind 17 = .ok (.invokespecial 199, 3) := by decide +kernel
theorem dX11_checkKind_20 : decode cX11_checkKind 20 = .ok (.athrow, 1) := by decide +kernel
theorem dX11_checkKind_21 : decode cX11_checkKind 21 = .ok (.return_, 1) := by decide +kernel
theorem dX11_open_0 : decode cX11_open 0 = .ok (.iload_n 2, 1) := by decide +kernel
theorem dX11_open_1 : decode cX11_open 1 = .ok (.invokestatic 215, 3) := by decide +kernel
theorem dX11_open_4 : decode cX11_open 4 = .ok (.iload_n 1, 1) := by decide +kernel
theorem dX11_open_5 : decode cX11_open 5 = .ok (.i2l, 1) := by decide +kernel
theorem dX11_open_6 : decode cX11_open 6 = .ok (.lconst 0, 1) := by decide +kernel
theorem dX11_open_7 : decode cX11_open 7 = .ok (.ldc2_w 281, 3) := by decide +kernel
theorem dX11_open_10 : decode cX11_open 10 = .ok (.invokestatic 220, 3) := by decide +kernel
theorem dX11_open_13 : decode cX11_open 13 = .ok (.aload_n 0, 1) := by decide +kernel
theorem dX11_open_14 : decode cX11_open 14 = .ok (.getfield 46, 3) := by decide +kernel
theorem dX11_open_17 : decode cX11_open 17 = .ok (.bipush 20, 2) := by decide +kernel
theorem dX11_open_19 : decode cX11_open 19 = .ok (.if_icmp .lt 14, 3) := by decide +kernel
theorem dX11_open_22 : decode cX11_open 22 = .ok (.new 99, 3) := by decide +kernel
theorem dX11_open_25 : decode cX11_open 25 = .ok (.dup, 1) := by decide +kernel
theorem dX11_open_26 : decode cX11_open 26 = .ok (.ldc_w 297, 3) := by decide +kernel
theorem dX11_open_29 : decode cX11_open 29 = .ok (.invokespecial 103, 3) := by decide +kernel
theorem dX11_open_32 : decode cX11_open 32 = .ok (.athrow, 1) := by decide +kernel
theorem dX11_open_33 : decode cX11_open 33 = .ok (.aload_n 0, 1) := by decide +kernel
theorem dX11_open_34 : decode cX11_open 34 = .ok (.getfield 42, 3) := by decide +kernel
theorem dX11_open_37 : decode cX11_open 37 = .ok (.aload_n 0, 1) := by decide +kernel
theorem dX11_open_38 : decode cX11_open 38 = .ok (.getfield 46, 3) := by decide +kernel
theorem dX11_open_41 : decode cX11_open 41 = .ok (.new 40, 3) := by decide +kernel
theorem dX11_open_44 : decode cX11_open 44 = .ok (.dup, 1) := by decide +kernel
theorem dX11_open_45 : decode cX11_open 45 = .ok (.iload_n 1, 1) := by decide +kernel
theorem dX11_open_46 : decode cX11_open 46 = .ok (.iload_n 2, 1) := by decide +kernel
theorem dX11_open_47 : decode cX11_open 47 = .ok (.iload_n 3, 1) := by decide +kernel
theorem dX11_open_48 : decode cX11_open 48 = .ok (.invokespecial 299, 3) := by decide +kernel
theorem dX11_open_51 : decode cX11_open 51 = .ok (.aastore, 1) := by decide +kernel
theorem dX11_open_52 : decode cX11_open 52 = .ok (.aload_n 0, 1) := by decide +kernel
theorem dX11_open_53 : decode cX11_open 53 = .ok (.dup, 1) := by decide +kernel
theorem dX11_open_54 : decode cX11_open 54 = .ok (.getfield 46, 3) := by decide +kernel
theorem dX11_open_57 : decode cX11_open 57 = .ok (.iconst 1, 1) := by decide +kernel
theorem dX11_open_58 : decode cX11_open 58 = .ok (.iadd, 1) := by decide +kernel
theorem dX11_open_59 : decode cX11_open 59 = .ok (.putfield 46, 3) := by decide +kernel
theorem dX11_open_62 : decode cX11_open 62 = .ok (.aload_n 0, 1) := by decide +kernel
theorem dX11_open_63 : decode cX11_open 63 = .ok (.getfield 46, 3) := by decide +kernel
theorem dX11_open_66 : decode cX11_open 66 = .ok (.iconst 1, 1) := by decide +kernel
theorem dX11_open_67 : decode cX11_open 67 = .ok (.isub, 1) := by decide +kernel
theorem dX11_open_68 : decode cX11_open 68 = .ok (.ireturn, 1) := by decide +kernel
theorem dX11_line_0 : decode cX11_line 0 = .ok (.aload_n 0, 1) := by decide +kernel
theorem dX11_line_1 : decode cX11_line 1 = .ok (.iload_n 1, 1) := by decide +kernel
theorem dX11_line_2 : decode cX11_line 2 = .ok (.invokevirtual 302, 3) := by decide +kernel
theorem dX11_line_5 : decode cX11_line 5 = .ok (.astore 5, 2) := by decide +kernel
theorem dX11_line_7 : decode cX11_line 7 = .ok (.iload_n 2, 1) := by decide +kernel
theorem dX11_line_8 : decode cX11_line 8 = .ok (.invokestatic 278, 3) := by decide +kernel
theorem dX11_line_11 : decode cX11_line 11 = .ok (.iload_n 3, 1) := by decide +kernel
theorem dX11_line_12 : decode cX11_line 12 = .ok (.i2l, 1) := by decide +kernel
theorem dX11_line_13 : decode cX11_line 13 = .ok (.lconst 1, 1) := by decide +kernel
theorem dX11_line_14 : decode cX11_line 14 = .ok (.ldc2_w 291, 3) := by decide +kernel
theorem dX11_line_17 : decode cX11_line 17 = .ok (.invokestatic 220, 3) := by decide +kernel
theorem dX11_line_20 : decode cX11_line 20 = .ok (.iload 4, 2) := by decide +kernel
theorem dX11_line_22 : decode cX11_line 22 = .ok (.i2l, 1) := by decide +kernel
theorem dX11_line_23 : decode cX11_line 23 = .ok (.lconst 0, 1) := by decide +kernel
theorem dX11_line_24 : decode cX11_line 24 = .ok (.ldc2_w 306, 3) := by decide +kernel
theorem dX11_line_27 : decode cX11_line 27 = .ok (.invokestatic 220, 3) := by decide +kernel
theorem dX11_line_30 : decode cX11_line 30 = .ok (.aload_n 0, 1) := by decide +kernel
theorem dX11_line_31 : decode cX11_line 31 = .ok (.getfield 67, 3) := by decide +kernel
theorem dX11_line_34 : decode cX11_line 34 = .ok (.iload_n 1, 1) := by decide +kernel
theorem dX11_line_35 : decode cX11_line 35 = .ok (.invokevirtual 308, 3) := by decide +kernel
theorem dX11_line_38 : decode cX11_line 38 = .ok (.ifCond .eq 14, 3) := by decide +kernel
theorem dX11_line_41 : decode cX11_line 41 = .ok (.new 312, 3) := by decide +kernel
theorem dX11_line_44 : decode cX11_line 44 = .ok (.dup, 1) := by decide +kernel
theorem dX11_line_45 : decode cX11_line 45 = .ok (.ldc_w 314, 3) := by decide +kernel
theorem dX11_line_48 : decode cX11_line 48 = .ok (.invokespecial 316, 3) := by decide +kernel
theorem dX11_line_51 : decode cX11_line 51 = .ok (.athrow, 1) := by decide +kernel
theorem dX11_line_52 : decode cX11_line 52 = .ok (.aload 5, 2) := by decide +kernel
theorem dX11_line_54 : decode cX11_line 54 = .ok (.invokevirtual 317, 3) := by decide +kernel
theorem dX11_line_57 : decode cX11_line 57 = .ok (.ifCond .eq 14, 3) := by decide +kernel
theorem dX11_line_60 : decode cX11_line 60 = .ok (.new 99, 3) := by decide +kernel
theorem dX11_line_63 : decode cX11_line 63 = .ok (.dup, 1) := by decide +kernel
theorem dX11_line_64 : decode cX11_line 64 = .ok (.ldc_w 318, 3) := by decide +kernel
theorem dX11_line_67 : decode cX11_line 67 = .ok (.invokespecial 103, 3) := by decide +kernel
theorem dX11_line_70 : decode cX11_line 70 = .ok (.athrow, 1) := by decide +kernel
theorem dX11_line_71 : decode cX11_line 71 = .ok (.aload_n 0, 1) := by decide +kernel
theorem dX11_line_72 : decode cX11_line 72 = .ok (.getfield 37, 3) := by decide +kernel
theorem dX11_line_75 : decode cX11_line 75 = .ok (.iload_n 2, 1) := by decide +kernel
theorem dX11_line_76 : decode cX11_line 76 = .ok (.aaload, 1) := by decide +kernel
theorem dX11_line_77 : decode cX11_line 77 = .ok (.iload_n 3, 1) := by decide +kernel
theorem dX11_line_78 : decode cX11_line 78 = .ok (.invokevirtual 287, 3) := by decide +kernel
theorem dX11_line_81 : decode cX11_line 81 = .ok (.istore 6, 2) := by decide +kernel
theorem dX11_line_83 : decode cX11_line 83 = .ok (.iload 4, 2) := by decide +kernel
theorem dX11_line_85 : decode cX11_line 85 = .ok (.i2l, 1) := by decide +kernel
theorem dX11_line_86 : decode cX11_line 86 = .ok (.iload_n 3, 1) := by decide +kernel
theorem dX11_line_87 : decode cX11_line 87 = .ok (.i2l, 1) := by decide +kernel
theorem dX11_line_88 : decode cX11_line 88 = .ok (.lmul, 1) := by decide +kernel
theorem dX11_line_89 : decode cX11_line 89 = .ok (.sipush 1000, 3) := by decide +kernel
theorem dX11_line_92 : decode cX11_line 92 = .ok (.iload 6, 2) := by decide +kernel
theorem dX11_line_94 : decode cX11_line 94 = .ok (.isub, 1) := by decide +kernel
theorem dX11_line_95 : decode cX11_line 95 = .ok (.i2l, 1) := by decide +kernel
theorem dX11_line_96 : decode cX11_line 96 = .ok (.lmul, 1) := by decide +kernel
theorem dX11_line_97 : decode cX11_line 97 = .ok (.lstore 7, 2) := by decide +kernel
theorem dX11_line_99 : decode cX11_line 99 = .ok (.aload 5, 2) := by decide +kernel
theorem dX11_line_101 : decode cX11_line 101 = .ok (.lload 7, 2) := by decide +kernel
theorem dX11_line_103 : decode cX11_line 103 = .ok (.aload_n 0, 1) := by decide +kernel
theorem dX11_line_104 : decode cX11_line 104 = .ok (.getfield 33, 3) := by decide +kernel
theorem dX11_line_107 : decode cX11_line 107 = .ok (.iload_n 2, 1) := by decide +kernel
theorem dX11_line_108 : decode cX11_line 108 = .ok (.aaload, 1) := by decide +kernel
theorem dX11_line_109 : decode cX11_line 109 = .ok (.aload 5, 2) := by decide +kernel
theorem dX11_line_111 : decode cX11_line 111 = .ok (.getfield 320, 3) := by decide +kernel
theorem dX11_line_114 : decode cX11_line 114 = .ok (.invokevirtual 287, 3) := by decide +kernel
theorem dX11_line_117 : decode cX11_line 117 = .ok (.invokevirtual 323, 3) := by decide +kernel
theorem dX11_line_120 : decode cX11_line 120 = .ok (.ireturn, 1) := by decide +kernel
theorem dX11_netOfLine_0 : decode cX11_netOfLine 0 = .ok (.aload_n 0, 1) := by decide +kernel
theorem dX11_netOfLine_1 : decode cX11_netOfLine 1 = .ok (.iload_n 1, 1) := by decide +kernel
theorem dX11_netOfLine_2 : decode cX11_netOfLine 2 = .ok (.invokevirtual 302, 3) := by decide +kernel
theorem dX11_netOfLine_5 : decode cX11_netOfLine 5 = .ok (.astore_n 3, 1) := by decide +kernel
theorem dX11_netOfLine_6 : decode cX11_netOfLine 6 = .ok (.iload_n 2, 1) := by decide +kernel
theorem dX11_netOfLine_7 : decode cX11_netOfLine 7 = .ok (.ifCond .lt 11, 3) := by decide +kernel
theorem dX11_netOfLine_10 : decode cX11_netOfLine 10 = .ok (.iload_n 2, 1) := by decide +kernel
theorem dX11_netOfLine_11 : decode cX11_netOfLine 11 = .ok (.aload_n 3, 1) := by decide +kernel
theorem dX11_netOfLine_12 : decode cX11_netOfLine 12 = .ok (.getfield 326, 3) := by decide +kernel
theorem dX11_netOfLine_15 : decode cX11_netOfLine 15 = .ok (.if_icmp .lt 14, 3) := by decide +kernel
theorem dX11_netOfLine_18 : decode cX11_netOfLine 18 = .ok (.new 195, 3) := by decide +kernel
theorem dX11_netOfLine_21 : decode cX11_netOfLine 21 = .ok (.dup, 1) := by decide +kernel
theorem dX11_netOfLine_22 : decode cX11_netOfLine 22 = .ok (.ldc_w 329, 3) := by decide +kernel
theorem dX11_netOfLine_25 : decode cX11_netOfLine 25 = .ok (.invokespecial 199, 3) := by decide +kernel
theorem dX11_netOfLine_28 : decode cX11_netOfLine 28 = .ok (.athrow, 1) := by decide +kernel
theorem dX11_netOfLine_29 : decode cX11_netOfLine 29 = .ok (.aload_n 3, 1) := by decide +kernel
theorem dX11_netOfLine_30 : decode cX11_netOfLine 30 = .ok (.iload_n 2, 1) := by decide +kernel
theorem dX11_netOfLine_31 : decode cX11_netOfLine 31 = .ok (.aload_n 0, 1) := by decide +kernel
theorem dX11_netOfLine_32 : decode cX11_netOfLine 32 = .ok (.aload_n 3, 1) := by decide +kernel
theorem dX11_netOfLine_33 : decode cX11_netOfLine 33 = .ok (.invokevirtual 331, 3) := by decide +kernel
theorem dX11_netOfLine_36 : decode cX11_netOfLine 36 = .ok (.invokevirtual 335, 3) := by decide +kernel
theorem dX11_netOfLine_39 : decode cX11_netOfLine 39 = .ok (.lreturn, 1) := by decide +kernel
theorem dX11_net_0 : decode cX11_net 0 = .ok (.aload_n 0, 1) := by decide +kernel
theorem dX11_net_1 : decode cX11_net 1 = .ok (.iload_n 1, 1) := by decide +kernel
theorem dX11_net_2 : decode cX11_net 2 = .ok (.invokevirtual 302, 3) := by decide +kernel
theorem dX11_net_5 : decode cX11_net 5 = .ok (.astore_n 2, 1) := by decide +kernel
theorem dX11_net_6 : decode cX11_net 6 = .ok (.aload_n 2, 1) := by decide +kernel
theorem dX11_net_7 : decode cX11_net 7 = .ok (.aload_n 0, 1) := by decide +kernel
theorem dX11_net_8 : decode cX11_net 8 = .ok (.aload_n 2, 1) := by decide +kernel
theorem dX11_net_9 : decode cX11_net 9 = .ok (.invokevirtual 331, 3) := by decide +kernel
theorem dX11_net_12 : decode cX11_net 12 = .ok (.invokevirtual 338, 3) := by decide +kernel
theorem dX11_net_15 : decode cX11_net 15 = .ok (.lreturn, 1) := by decide +kernel
theorem dX11_taxOf_0 : decode cX11_taxOf 0 = .ok (.aload_n 0, 1) := by decide +kernel
theorem dX11_taxOf_1 : decode cX11_taxOf 1 = .ok (.iload_n 1, 1) := by decide +kernel
theorem dX11_taxOf_2 : decode cX11_taxOf 2 = .ok (.invokevirtual 302, 3) := by decide +kernel
theorem dX11_taxOf_5 : decode cX11_taxOf 5 = .ok (.astore_n 2, 1) := by decide +kernel
theorem dX11_taxOf_6 : decode cX11_taxOf 6 = .ok (.aload_n 2, 1) := by decide +kernel
theorem dX11_taxOf_7 : decode cX11_taxOf 7 = .ok (.aload_n 0, 1) := by decide +kernel
theorem dX11_taxOf_8 : decode cX11_taxOf 8 = .ok (.aload_n 2, 1) := by decide +kernel
theorem dX11_taxOf_9 : decode cX11_taxOf 9 = .ok (.invokevirtual 331, 3) := by decide +kernel
theorem dX11_taxOf_12 : decode cX11_taxOf 12 = .ok (.invokevirtual 342, 3) := by decide +kernel
theorem dX11_taxOf_15 : decode cX11_taxOf 15 = .ok (.lreturn, 1) := by decide +kernel
theorem dX11_cash_0 : decode cX11_cash 0 = .ok (.aload_n 0, 1) := by decide +kernel
theorem dX11_cash_1 : decode cX11_cash 1 = .ok (.iload_n 1, 1) := by decide +kernel
theorem dX11_cash_2 : decode cX11_cash 2 = .ok (.invokevirtual 302, 3) := by decide +kernel
theorem dX11_cash_5 : decode cX11_cash 5 = .ok (.astore_n 2, 1) := by decide +kernel
theorem dX11_cash_6 : decode cX11_cash 6 = .ok (.aload_n 2, 1) := by decide +kernel
theorem dX11_cash_7 : decode cX11_cash 7 = .ok (.aload_n 0, 1) := by decide +kernel
theorem dX11_cash_8 : decode cX11_cash 8 = .ok (.aload_n 2, 1) := by decide +kernel
theorem dX11_cash_9 : decode cX11_cash 9 = .ok (.invokevirtual 331, 3) := by decide +kernel
theorem dX11_cash_12 : decode cX11_cash 12 = .ok (.invokevirtual 338, 3) := by decide +kernel
theorem dX11_cash_15 : decode cX11_cash 15 = .ok (.aload_n 2, 1) := by decide +kernel
theorem dX11_cash_16 : decode cX11_cash 16 = .ok (.aload_n 0, 1) := by decide +kernel
theorem dX11_cash_17 : decode cX11_cash 17 = .ok (.aload_n 2, 1) := by decide +kernel
theorem dX11_cash_18 : decode cX11_cash 18 = .ok (.invokevirtual 331, 3) := by decide +kernel
theorem dX11_cash_21 : decode cX11_cash 21 = .ok (.invokevirtual 342, 3) := by decide +kernel
theorem dX11_cash_24 : decode cX11_cash 24 = .ok (.ladd, 1) := by decide +kernel
theorem dX11_cash_25 : decode cX11_cash 25 = .ok (.lstore_n 3, 1) := by decide +kernel
theorem dX11_cash_26 : decode cX11_cash 26 = .ok (.aload_n 0, 1) := by decide +kernel
theorem dX11_cash_27 : decode cX11_cash 27 = .ok (.getfield 24, 3) := by decide +kernel
theorem dX11_cash_30 : decode cX11_cash 30 = .ok (.aload_n 2, 1) := by decide +kernel
theorem dX11_cash_31 : decode cX11_cash 31 = .ok (.getfield 345, 3) := by decide +kernel
theorem dX11_cash_34 : decode cX11_cash 34 = .ok (.aaload, 1) := by decide +kernel
theorem dX11_cash_35 : decode cX11_cash 35 = .ok (.getfield 232, 3) := by decide +kernel
theorem dX11_cash_38 : decode cX11_cash 38 = .ok (.istore 5, 2) := by decide +kernel
theorem dX11_cash_40 : decode cX11_cash 40 = .ok (.lload_n 3, 1) := by decide +kernel
theorem dX11_cash_41 : decode cX11_cash 41 = .ok (.iload 5, 2) := by decide +kernel
theorem dX11_cash_43 : decode cX11_cash 43 = .ok (.i2l, 1) := by decide +kernel
theorem dX11_cash_44 : decode cX11_cash 44 = .ok (.bipush 104, 2) := by decide +kernel
theorem dX11_cash_46 : decode cX11_cash 46 = .ok (.invokestatic 348, 3) := by decide +kernel
theorem dX11_cash_49 : decode cX11_cash 49 = .ok (.iload 5, 2) := by decide +kernel
theorem dX11_cash_51 : decode cX11_cash 51 = .ok (.i2l, 1) := by decide +kernel
theorem dX11_cash_52 : decode cX11_cash 52 = .ok (.lmul, 1) := by decide +kernel
theorem dX11_cash_53 : decode cX11_cash 53 = .ok (.lreturn, 1) := by decide +kernel
theorem dX11_invoiceAt_0 : decode cX11_invoiceAt 0 = .ok (.iload_n 1, 1) := by decide +kernel
theorem dX11_invoiceAt_1 : decode cX11_invoiceAt 1 = .ok (.ifCond .lt 11, 3) := by decide +kernel
theorem dX11_invoiceAt_4 : decode cX11_invoiceAt 4 = .ok (.iload_n 1, 1) := by decide +kernel
theorem dX11_invoiceAt_5 : decode cX11_invoiceAt 5 = .ok (.aload_n 0, 1) := by decide +kernel
theorem dX11_invoiceAt_6 : decode cX11_invoiceAt 6 = .ok (.getfield 46, 3) := by decide +kernel
theorem dX11_invoiceAt_9 : decode cX11_invoiceAt 9 = .ok (.if_icmp .lt 14, 3) := by decide +kernel
theorem dX11_invoiceAt_12 : decode cX11_invoiceAt 12 = .ok (.new 195, 3) := by decide +kernel
theorem dX11_invoiceAt_15 : decode cX11_invoiceAt 15 = .ok (.dup, 1) := by decide +kernel
theorem dX11_invoiceAt_16 : decode cX11_invoiceAt 16 = .ok (.ldc_w 352, 3) := by decide +kernel
theorem dX11_invoiceAt_19 : decode cX11_invoiceAt 19 = .ok (.invokespecial 199, 3) := by decide +kernel
theorem dX11_invoiceAt_22 : decode cX11_invoiceAt 22 = .ok (.athrow, 1) := by decide +kernel
theorem dX11_invoiceAt_23 : decode cX11_invoiceAt 23 = .ok (.aload_n 0, 1) := by decide +kernel
theorem dX11_invoiceAt_24 : decode cX11_invoiceAt 24 = .ok (.getfield 42, 3) := by decide +kernel
theorem dX11_invoiceAt_27 : decode cX11_invoiceAt 27 = .ok (.iload_n 1, 1) := by decide +kernel
theorem dX11_invoiceAt_28 : decode cX11_invoiceAt 28 = .ok (.aaload, 1) := by decide +kernel
theorem dX11_invoiceAt_29 : decode cX11_invoiceAt 29 = .ok (.areturn, 1) := by decide +kernel
theorem dX11_modeOf_0 : decode cX11_modeOf 0 = .ok (.aload_n 0, 1) := by decide +kernel
theorem dX11_modeOf_1 : decode cX11_modeOf 1 = .ok (.getfield 24, 3) := by decide +kernel
theorem dX11_modeOf_4 : decode cX11_modeOf 4 = .ok (.aload_n 1, 1) := by decide +kernel
theorem dX11_modeOf_5 : decode cX11_modeOf 5 = .ok (.getfield 345, 3) := by decide +kernel
theorem dX11_modeOf_8 : decode cX11_modeOf 8 = .ok (.aaload, 1) := by decide +kernel
theorem dX11_modeOf_9 : decode cX11_modeOf 9 = .ok (.getfield 228, 3) := by decide +kernel
theorem dX11_modeOf_12 : decode cX11_modeOf 12 = .ok (.ireturn, 1) := by decide +kernel
theorem dX11_weigh_0 : decode cX11_weigh 0 = .ok (.iload_n 1, 1) := by decide +kernel
theorem dX11_weigh_1 : decode cX11_weigh 1 = .ok (.i2l, 1) := by decide +kernel
theorem dX11_weigh_2 : decode cX11_weigh 2 = .ok (.lconst 0, 1) := by decide +kernel
theorem dX11_weigh_3 : decode cX11_weigh 3 = .ok (.ldc2_w 281, 3) := by decide +kernel
theorem dX11_weigh_6 : decode cX11_weigh 6 = .ok (.invokestatic 220, 3) := by decide +kernel
theorem dX11_weigh_9 : decode cX11_weigh 9 = .ok (.aload_n 0, 1) := by decide +kernel
theorem dX11_weigh_10 : decode cX11_weigh 10 = .ok (.getfield 53, 3) := by decide +kernel
theorem dX11_weigh_13 : decode cX11_weigh 13 = .ok (.invokevirtual 354, 3) := by decide +kernel
theorem dX11_weigh_16 : decode cX11_weigh 16 = .ok (.ifCond .eq 14, 3) := by decide +kernel
theorem dX11_weigh_19 : decode cX11_weigh 19 = .ok (.new 99, 3) := by decide +kernel
theorem dX11_weigh_22 : decode cX11_weigh 22 = .ok (.dup, 1) := by decide +kernel
theorem dX11_weigh_23 : decode cX11_weigh 23 = .ok (.ldc_w 355, 3) := by decide +kernel
theorem dX11_weigh_26 : decode cX11_weigh 26 = .ok (.invokespecial 103, 3) := by decide +kernel
theorem dX11_weigh_29 : decode cX11_weigh 29 = .ok (.athrow, 1) := by decide +kernel
theorem dX11_weigh_30 : decode cX11_weigh 30 = .ok (.aload_n 0, 1) := by decide +kernel
theorem dX11_weigh_31 : decode cX11_weigh 31 = .ok (.getfield 53, 3) := by decide +kernel
theorem dX11_weigh_34 : decode cX11_weigh 34 = .ok (.iload_n 1, 1) := by decide +kernel
theorem dX11_weigh_35 : decode cX11_weigh 35 = .ok (.invokevirtual 357, 3) := by decide +kernel
theorem dX11_weigh_38 : decode cX11_weigh 38 = .ok (.ireturn, 1) := by decide +kernel
theorem dX11_share_0 : decode cX11_share 0 = .ok (.lload_n 1, 1) := by decide +kernel
theorem dX11_share_1 : decode cX11_share 1 = .ok (.lconst 0, 1) := by decide +kernel
theorem dX11_share_2 : decode cX11_share 2 = .ok (.ldc2_w 267, 3) := by decide +kernel
theorem dX11_share_5 : decode cX11_share 5 = .ok (.invokestatic 220, 3) := by decide +kernel
theorem dX11_share_8 : decode cX11_share 8 = .ok (.iload_n 3, 1) := by decide +kernel
theorem dX11_share_9 : decode cX11_share 9 = .ok (.bipush 108, 2) := by decide +kernel
theorem dX11_share_11 : decode cX11_share 11 = .ok (.if_icmp .eq 26, 3) := by decide +kernel
theorem dX11_share_14 : decode cX11_share 14 = .ok (.iload_n 3, 1) := by decide +kernel
theorem dX11_share_15 : decode cX11_share 15 = .ok (.bipush 102, 2) := by decide +kernel
theorem dX11_share_17 : decode cX11_share 17 = .ok (.if_icmp .eq 20, 3) := by decide +kernel
theorem dX11_share_20 : decode cX11_share 20 = .ok (.iload_n 3, 1) := by decide +kernel
theorem dX11_share_21 : decode cX11_share 21 = .ok (.bipush 98, 2) := by decide +kernel
theorem dX11_share_23 : decode cX11_share 23 = .ok (.if_icmp .eq 14, 3) := by decide +kernel
theorem dX11_share_26 : decode cX11_share 26 = .ok (.new 81, 3) := by decide +kernel
theorem dX11_share_29 : decode cX11_share 29 = .ok (.dup, 1) := by decide +kernel
theorem dX11_share_30 : decode cX11_share 30 = .ok (.ldc_w 359, 3) := by decide +kernel
theorem dX11_share_33 : decode cX11_share 33 = .ok (.invokespecial 85, 3) := by decide +kernel
theorem dX11_share_36 : decode cX11_share 36 = .ok (.athrow, 1) := by decide +kernel
theorem dX11_share_37 : decode cX11_share 37 = .ok (.aload_n 0, 1) := by decide +kernel
theorem dX11_share_38 : decode cX11_share 38 = .ok (.getfield 53, 3) := by decide +kernel
theorem dX11_share_41 : decode cX11_share 41 = .ok (.invokevirtual 361, 3) := by decide +kernel
theorem dX11_share_44 : decode cX11_share 44 = .ok (.lconst 0, 1) := by decide +kernel
theorem dX11_share_45 : decode cX11_share 45 = .ok (.lcmp, 1) := by decide +kernel
theorem dX11_share_46 : decode cX11_share 46 = .ok (.ifCond .ne 14, 3) := by decide +kernel
theorem dX11_share_49 : decode cX11_share 49 = .ok (.new 312, 3) := by decide +kernel
theorem dX11_share_52 : decode cX11_share 52 = .ok (.dup, 1) := by decide +kernel
theorem dX11_share_53 : decode cX11_share 53 = .ok (.ldc_w 365, 3) := by decide +kernel
theorem dX11_share_56 : decode cX11_share 56 = .ok (.invokespecial 316, 3) := by decide +kernel
theorem dX11_share_59 : decode cX11_share 59 = .ok (.athrow, 1) := by decide +kernel
theorem dX11_share_60 : decode cX11_share 60 = .ok (.aload_n 0, 1) := by decide +kernel
theorem dX11_share_61 : decode cX11_share 61 = .ok (.getfield 53, 3) := by decide +kernel
theorem dX11_share_64 : decode cX11_share 64 = .ok (.lload_n 1, 1) := by decide +kernel
theorem dX11_share_65 : decode cX11_share 65 = .ok (.iload_n 3, 1) := by decide +kernel
theorem dX11_share_66 : decode cX11_share 66 = .ok (.invokevirtual 367, 3) := by decide +kernel
theorem dX11_share_69 : decode cX11_share 69 = .ok (.ireturn, 1) := by decide +kernel
theorem dX11_part_0 : decode cX11_part 0 = .ok (.iload_n 1, 1) := by decide +kernel
theorem dX11_part_1 : decode cX11_part 1 = .ok (.ifCond .lt 14, 3) := by decide +kernel
theorem dX11_part_4 : decode cX11_part 4 = .ok (.iload_n 1, 1) := by decide +kernel
theorem dX11_part_5 : decode cX11_part 5 = .ok (.aload_n 0, 1) := by decide +kernel
theorem dX11_part_6 : decode cX11_part 6 = .ok (.getfield 53, 3) := by decide +kernel
theorem dX11_part_9 : decode cX11_part 9 = .ok (.getfield 371, 3) := by decide +kernel
theorem dX11_part_12 : decode cX11_part 12 = .ok (.if_icmp .lt 14, 3) := by decide +kernel
theorem dX11_part_15 : decode cX11_part 15 = .ok (.new 210, 3) := by decide +kernel
theorem dX11_part_18 : decode cX11_part 18 = .ok (.dup, 1) := by decide +kernel
theorem dX11_part_19 : decode cX11_part 19 = .ok (.ldc_w 374, 3) := by decide +kernel
theorem dX11_part_22 : decode cX11_part 22 = .ok (.invokespecial 214, 3) := by decide +kernel
theorem dX11_part_25 : decode cX11_part 25 = .ok (.athrow, 1) := by decide +kernel
theorem dX11_part_26 : decode cX11_part 26 = .ok (.aload_n 0, 1) := by decide +kernel
theorem dX11_part_27 : decode cX11_part 27 = .ok (.getfield 53, 3) := by decide +kernel
theorem dX11_part_30 : decode cX11_part 30 = .ok (.getfield 376, 3) := by decide +kernel
theorem dX11_part_33 : decode cX11_part 33 = .ok (.iload_n 1, 1) := by decide +kernel
theorem dX11_part_34 : decode cX11_part 34 = .ok (.laload, 1) := by decide +kernel
theorem dX11_part_35 : decode cX11_part 35 = .ok (.lreturn, 1) := by decide +kernel
theorem dX11_interest_0 : decode cX11_interest 0 = .ok (.lload_n 1, 1) := by decide +kernel
theorem dX11_interest_1 : decode cX11_interest 1 = .ok (.lconst 0, 1) := by decide +kernel
theorem dX11_interest_2 : decode cX11_interest 2 = .ok (.ldc2_w 267, 3) := by decide +kernel
theorem dX11_interest_5 : decode cX11_interest 5 = .ok (.invokestatic 220, 3) := by decide +kernel
theorem dX11_interest_8 : decode cX11_interest 8 = .ok (.iload_n 3, 1) := by decide +kernel
theorem dX11_interest_9 : decode cX11_interest 9 = .ok (.i2l, 1) := by decide +kernel
theorem dX11_interest_10 : decode cX11_interest 10 = .ok (.lconst 0, 1) := by decide +kernel
theorem dX11_interest_11 : decode cX11_interest 11 = .ok (.ldc2_w 281, 3) := by decide +kernel
theorem dX11_interest_14 : decode cX11_interest 14 = .ok (.invokestatic 220, 3) := by decide +kernel
theorem dX11_interest_17 : decode cX11_interest 17 = .ok (.iload 4, 2) := by decide +kernel
theorem dX11_interest_19 : decode cX11_interest 19 = .ok (.i2l, 1) := by decide +kernel
theorem dX11_interest_20 : decode cX11_interest 20 = .ok (.lconst 0, 1) := by decide +kernel
theorem dX11_interest_21 : decode cX11_interest 21 = .ok (.ldc2_w 281, 3) := by decide +kernel
theorem dX11_interest_24 : decode cX11_interest 24 = .ok (.invokestatic 220, 3) := by decide +kernel
theorem dX11_interest_27 : decode cX11_interest 27 = .ok (.iload 5, 2) := by decide +kernel
theorem dX11_interest_29 : decode cX11_interest 29 = .ok (.sipush 360, 3) := by decide +kernel
theorem dX11_interest_32 : decode cX11_interest 32 = .ok (.if_icmp .eq 30, 3) := by decide +kernel
theorem dX11_interest_35 : decode cX11_interest 35 = .ok (.iload 5, 2) := by decide +kernel
theorem dX11_interest_37 : decode cX11_interest 37 = .ok (.sipush 365, 3) := by decide +kernel
theorem dX11_interest_40 : decode cX11_interest 40 = .ok (.if_icmp .eq 22, 3) := by decide +kernel
theorem dX11_interest_43 : decode cX11_interest 43 = .ok (.iload 5, 2) := by decide +kernel
theorem dX11_interest_45 : decode cX11_interest 45 = .ok (.sipush 366, 3) := by decide +kernel
theorem dX11_interest_48 : decode cX11_interest 48 = .ok (.if_icmp .eq 14, 3) := by decide +kernel
theorem dX11_interest_51 : decode cX11_interest 51 = .ok (.new 81, 3) := by decide +kernel
theorem dX11_interest_54 : decode cX11_interest 54 = .ok (.dup, 1) := by decide +kernel
theorem dX11_interest_55 : decode cX11_interest 55 = .ok (.ldc_w 380, 3) := by decide +kernel
theorem dX11_interest_58 : decode cX11_interest 58 = .ok (.invokespecial 85, 3) := by decide +kernel
theorem dX11_interest_61 : decode cX11_interest 61 = .ok (.athrow, 1) := by decide +kernel
theorem dX11_interest_62 : decode cX11_interest 62 = .ok (.iload 6, 2) := by decide +kernel
theorem dX11_interest_64 : decode cX11_interest 64 = .ok (.invokestatic 152, 3) := by decide +kernel
theorem dX11_interest_67 : decode cX11_interest 67 = .ok (.lload_n 1, 1) := by decide +kernel
theorem dX11_interest_68 : decode cX11_interest 68 = .ok (.iload_n 3, 1) := by decide +kernel
theorem dX11_interest_69 : decode cX11_interest 69 = .ok (.i2l, 1) := by decide +kernel
theorem dX11_interest_70 : decode cX11_interest 70 = .ok (.lmul, 1) := by decide +kernel
theorem dX11_interest_71 : decode cX11_interest 71 = .ok (.iload 4, 2) := by decide +kernel
theorem dX11_interest_73 : decode cX11_interest 73 = .ok (.ldc2_w 382, 3) := by decide +kernel
theorem dX11_interest_76 : decode cX11_interest 76 = .ok (.iload 5, 2) := by decide +kernel
theorem dX11_interest_78 : decode cX11_interest 78 = .ok (.i2l, 1) := by decide +kernel
theorem dX11_interest_79 : decode cX11_interest 79 = .ok (.lmul, 1) := by decide +kernel
theorem dX11_interest_80 : decode cX11_interest 80 = .ok (.iload 6, 2) := by decide +kernel
theorem dX11_interest_82 : decode cX11_interest 82 = .ok (.invokestatic 384, 3) := by decide +kernel
theorem dX11_interest_85 : decode cX11_interest 85 = .ok (.lreturn, 1) := by decide +kernel
theorem dX11_lend_0 : decode cX11_lend 0 = .ok (.lload_n 1, 1) := by decide +kernel
theorem dX11_lend_1 : decode cX11_lend 1 = .ok (.lconst 1, 1) := by decide +kernel
theorem dX11_lend_2 : decode cX11_lend 2 = .ok (.ldc2_w 267, 3) := by decide +kernel
theorem dX11_lend_5 : decode cX11_lend 5 = .ok (.invokestatic 220, 3) := by decide +kernel
theorem dX11_lend_8 : decode cX11_lend 8 = .ok (.iload_n 3, 1) := by decide +kernel
theorem dX11_lend_9 : decode cX11_lend 9 = .ok (.i2l, 1) := by decide +kernel
theorem dX11_lend_10 : decode cX11_lend 10 = .ok (.lconst 0, 1) := by decide +kernel
theorem dX11_lend_11 : decode cX11_lend 11 = .ok (.ldc2_w 281, 3) := by decide +kernel
theorem dX11_lend_14 : decode cX11_lend 14 = .ok (.invokestatic 220, 3) := by decide +kernel
theorem dX11_lend_17 : decode cX11_lend 17 = .ok (.lload 4, 2) := by decide +kernel
theorem dX11_lend_19 : decode cX11_lend 19 = .ok (.lconst 1, 1) := by decide +kernel
theorem dX11_lend_20 : decode cX11_lend 20 = .ok (.ldc2_w 267, 3) := by decide +kernel
theorem dX11_lend_23 : decode cX11_lend 23 = .ok (.invokestatic 220, 3) := by decide +kernel
theorem dX11_lend_26 : decode cX11_lend 26 = .ok (.lload_n 1, 1) := by decide +kernel
theorem dX11_lend_27 : decode cX11_lend 27 = .ok (.iload_n 3, 1) := by decide +kernel
theorem dX11_lend_28 : decode cX11_lend 28 = .ok (.invokestatic 388, 3) := by decide +kernel
theorem dX11_lend_31 : decode cX11_lend 31 = .ok (.lload 4, 2) := by decide +kernel
theorem dX11_lend_33 : decode cX11_lend 33 = .ok (.lcmp, 1) := by decide +kernel
theorem dX11_lend_34 : decode cX11_lend 34 = .ok (.ifCond .lt 14, 3) := by decide +kernel
theorem dX11_lend_37 : decode cX11_lend 37 = .ok (.new 312, 3) := by decide +kernel
theorem dX11_lend_40 : decode cX11_lend 40 = .ok (.dup, 1) := by decide +kernel
theorem dX11_lend_41 : decode cX11_lend 41 = .ok (.ldc_w 392, 3) := by decide +kernel
theorem dX11_lend_44 : decode cX11_lend 44 = .ok (.invokespecial 316, 3) := by decide +kernel
theorem dX11_lend_47 : decode cX11_lend 47 = .ok (.athrow, 1) := by decide +kernel
theorem dX11_lend_48 : decode cX11_lend 48 = .ok (.lload_n 1, 1) := by decide +kernel
theorem dX11_lend_49 : decode cX11_lend 49 = .ok (.iload_n 3, 1) := by decide +kernel
theorem dX11_lend_50 : decode cX11_lend 50 = .ok (.lload 4, 2) := by decide +kernel
theorem dX11_lend_52 : decode cX11_lend 52 = .ok (.invokestatic 394, 3) := by decide +kernel
theorem dX11_lend_55 : decode cX11_lend 55 = .ok (.bipush 120, 2) := by decide +kernel
theorem dX11_lend_57 : decode cX11_lend 57 = .ok (.if_icmp .le 14, 3) := by decide +kernel
theorem dX11_lend_60 : decode cX11_lend 60 = .ok (.new 99, 3) := by decide +kernel
theorem dX11_lend_63 : decode cX11_lend 63 = .ok (.dup, 1) := by decide +kernel
theorem dX11_lend_64 : decode cX11_lend 64 = .ok (.ldc_w 398, 3) := by decide +kernel
theorem dX11_lend_67 : decode cX11_lend 67 = .ok (.invokespecial 103, 3) := by decide +kernel
theorem dX11_lend_70 : decode cX11_lend 70 = .ok (.athrow, 1) := by decide +kernel
theorem dX11_lend_71 : decode cX11_lend 71 = .ok (.aload_n 0, 1) := by decide +kernel
theorem dX11_lend_72 : decode cX11_lend 72 = .ok (.getfield 60, 3) := by decide +kernel
theorem dX11_lend_75 : decode cX11_lend 75 = .ok (.lload_n 1, 1) := by decide +kernel
theorem dX11_lend_76 : decode cX11_lend 76 = .ok (.iload_n 3, 1) := by decide +kernel
theorem dX11_lend_77 : decode cX11_lend 77 = .ok (.lload 4, 2) := by decide +kernel
theorem dX11_lend_79 : decode cX11_lend 79 = .ok (.invokevirtual 400, 3) := by decide +kernel
theorem dX11_lend_82 : decode cX11_lend 82 = .ok (.ireturn, 1) := by decide +kernel
theorem dX11_instalment_0 : decode cX11_instalment 0 = .ok (.iload_n 2, 1) := by decide +kernel
theorem dX11_instalment_1 : decode cX11_instalment 1 = .ok (.bipush 105, 2) := by decide +kernel
theorem dX11_instalment_3 : decode cX11_instalment 3 = .ok (.if_icmp .eq 32, 3) := by decide +kernel
theorem dX11_instalment_6 : decode cX11_instalment 6 = .ok (.iload_n 2, 1) := by decide +kernel
theorem dX11_instalment_7 : decode cX11_instalment 7 = .ok (.bipush 112, 2) := by decide +kernel
theorem dX11_instalment_9 : decode cX11_instalment 9 = .ok (.if_icmp .eq 26, 3) := by decide +kernel
theorem dX11_instalment_12 : decode cX11_instalment 12 = .ok (.iload_n 2, 1) := by decide +kernel
theorem dX11_instalment_13 : decode cX11_instalment 13 = .ok (.bipush 111, 2) := by decide +kernel
theorem dX11_instalment_15 : decode cX11_instalment 15 = .ok (.if_icmp .eq 20, 3) := by decide +kernel
theorem dX11_instalment_18 : decode cX11_instalment 18 = .ok (.iload_n 2, 1) := by decide +kernel
theorem dX11_instalment_19 : decode cX11_instalment 19 = .ok (.bipush 115, 2) := by decide +kernel
theorem dX11_instalment_21 : decode cX11_instalment 21 = .ok (.if_icmp .eq 14, 3) := by decide +kernel
theorem dX11_instalment_24 : decode cX11_instalment 24 = .ok (.new 81, 3) := by decide +kernel
theorem dX11_instalment_27 : decode cX11_instalment 27 = .ok (.dup, 1) := by decide +kernel
theorem dX11_instalment_28 : decode cX11_instalment 28 = .ok (.ldc_w 403, 3) := by decide +kernel
theorem dX11_instalment_31 : decode cX11_instalment 31 = .ok (.invokespecial 85, 3) := by decide +kernel
theorem dX11_instalment_34 : decode cX11_instalment 34 = .ok (.athrow, 1) := by decide +kernel
theorem dX11_instalment_35 : decode cX11_instalment 35 = .ok (.iload_n 1, 1) := by decide +kernel
theorem dX11_instalment_36 : decode cX11_instalment 36 = .ok (.ifCond .lt 14, 3) := by decide +kernel
theorem dX11_instalment_39 : decode cX11_instalment 39 = .ok (.iload_n 1, 1) := by decide +kernel
theorem dX11_instalment_40 : decode cX11_instalment 40 = .ok (.aload_n 0, 1) := by decide +kernel
theorem dX11_instalment_41 : decode cX11_instalment 41 = .ok (.getfield 60, 3) := by decide +kernel
theorem dX11_instalment_44 : decode cX11_instalment 44 = .ok (.getfield 405, 3) := by decide +kernel
theorem dX11_instalment_47 : decode cX11_instalment 47 = .ok (.if_icmp .lt 14, 3) := by decide +kernel
theorem dX11_instalment_50 : decode cX11_instalment 50 = .ok (.new 210, 3) := by decide +kernel
theorem dX11_instalment_53 : decode cX11_instalment 53 = .ok (.dup, 1) := by decide +kernel
theorem dX11_instalment_54 : decode cX11_instalment 54 = .ok (.ldc_w 408, 3) := by decide +kernel
theorem dX11_instalment_57 : decode cX11_instalment 57 = .ok (.invokespecial 214, 3) := by decide +kernel
theorem dX11_instalment_60 : decode cX11_instalment 60 = .ok (.athrow, 1) := by decide +kernel
theorem dX11_instalment_61 : decode cX11_instalment 61 = .ok (.iload_n 2, 1) := by decide +kernel
theorem dX11_instalment_62 : decode cX11_instalment 62 = .ok (.lookupswitch 64 #[(105, 34), (111, 54), (112, 44)], 34) := by decide +kernel
theorem dX11_instalment_96 : decode cX11_instalment 96 = .ok (.aload_n 0, 1) := by decide +kernel
theorem dX11_instalment_97 : decode cX11_instalment 97 = .ok (.getfield 60, 3) := by decide +kernel
theorem dX11_instalment_100 : decode cX11_instalment 100 = .ok (.getfield 410, 3) := by decide +kernel
theorem dX11_instalment_103 : decode cX11_instalment 103 = .ok (.iload_n 1, 1) := by decide +kernel
theorem dX11_instalment_104 : decode cX11_instalment 104 = .ok (.laload, 1) := by decide +kernel
theorem dX11_instalment_105 : decode cX11_instalment 105 = .ok (.lreturn, 1) := by decide +kernel
theorem dX11_instalment_106 : decode cX11_instalment 106 = .ok (.aload_n 0, 1) := by decide +kernel
theorem dX11_instalment_107 : decode cX11_instalment 107 = .ok (.getfield 60, 3) := by decide +kernel
theorem dX11_instalment_110 : decode cX11_instalment 110 = .ok (.getfield 413, 3) := by decide +kernel
theorem dX11_instalment_113 : decode cX11_instalment 113 = .ok (.iload_n 1, 1) := by decide +kernel
theorem dX11_instalment_114 : decode cX11_instalment 114 = .ok (.laload, 1) := by decide +kernel
theorem dX11_instalment_115 : decode cX11_instalment 115 = .ok (.lreturn, 1) := by decide +kernel
theorem dX11_instalment_116 : decode cX11_instalment 116 = .ok (.aload_n 0, 1) := by decide +kernel
theorem dX11_instalment_117 : decode cX11_instalment 117 = .ok (.getfield 60, 3) := by decide +kernel
theorem dX11_instalment_120 : decode cX11_instalment 120 = .ok (.getfield 416, 3) := by decide +kernel
theorem dX11_instalment_123 : decode cX11_instalment 123 = .ok (.iload_n 1, 1) := by decide +kernel
theorem dX11_instalment_124 : decode cX11_instalment 124 = .ok (.laload, 1) := by decide +kernel
theorem dX11_instalment_125 : decode cX11_instalment 125 = .ok (.lreturn, 1) := by decide +kernel
theorem dX11_instalment_126 : decode cX11_instalment 126 = .ok (.aload_n 0, 1) := by decide +kernel
theorem dX11_instalment_127 : decode cX11_instalment 127 = .ok (.getfield 60, 3) := by decide +kernel
theorem dX11_instalment_130 : decode cX11_instalment 130 = .ok (.getfield 410, 3) := by decide +kernel
theorem dX11_instalment_133 : decode cX11_instalment 133 = .ok (.iload_n 1, 1) := by decide +kernel
theorem dX11_instalment_134 : decode cX11_instalment 134 = .ok (.laload, 1) := by decide +kernel
theorem dX11_instalment_135 : decode cX11_instalment 135 = .ok (.aload_n 0, 1) := by decide +kernel
theorem dX11_instalment_136 : decode cX11_instalment 136 = .ok (.getfield 60, 3) := by decide +kernel
theorem dX11_instalment_139 : decode cX11_instalment 139 = .ok (.getfield 413, 3) := by decide +kernel
theorem dX11_instalment_142 : decode cX11_instalment 142 = .ok (.iload_n 1, 1) := by decide +kernel
theorem dX11_instalment_143 : decode cX11_instalment 143 = .ok (.laload, 1) := by decide +kernel
theorem dX11_instalment_144 : decode cX11_instalment 144 = .ok (.ladd, 1) := by decide +kernel
theorem dX11_instalment_145 : decode cX11_instalment 145 = .ok (.lreturn, 1) := by decide +kernel
theorem dX11_post_0 : decode cX11_post 0 = .ok (.iload_n 2, 1) := by decide +kernel
theorem dX11_post_1 : decode cX11_post 1 = .ok (.invokestatic 419, 3) := by decide +kernel
theorem dX11_post_4 : decode cX11_post 4 = .ok (.iload_n 3, 1) := by decide +kernel
theorem dX11_post_5 : decode cX11_post 5 = .ok (.invokestatic 419, 3) := by decide +kernel
theorem dX11_post_8 : decode cX11_post 8 = .ok (.iload_n 1, 1) := by decide +kernel
theorem dX11_post_9 : decode cX11_post 9 = .ok (.i2l, 1) := by decide +kernel
theorem dX11_post_10 : decode cX11_post 10 = .ok (.lconst 0, 1) := by decide +kernel
theorem dX11_post_11 : decode cX11_post 11 = .ok (.ldc2_w 281, 3) := by decide +kernel
theorem dX11_post_14 : decode cX11_post 14 = .ok (.invokestatic 220, 3) := by decide +kernel
theorem dX11_post_17 : decode cX11_post 17 = .ok (.lload 4, 2) := by decide +kernel
theorem dX11_post_19 : decode cX11_post 19 = .ok (.lconst 1, 1) := by decide +kernel
theorem dX11_post_20 : decode cX11_post 20 = .ok (.ldc2_w 267, 3) := by decide +kernel
theorem dX11_post_23 : decode cX11_post 23 = .ok (.invokestatic 220, 3) := by decide +kernel
theorem dX11_post_26 : decode cX11_post 26 = .ok (.iload_n 2, 1) := by decide +kernel
theorem dX11_post_27 : decode cX11_post 27 = .ok (.iload_n 3, 1) := by decide +kernel
theorem dX11_post_28 : decode cX11_post 28 = .ok (.invokestatic 235, 3) := by decide +kernel
theorem dX11_post_31 : decode cX11_post 31 = .ok (.aload_n 0, 1) := by decide +kernel
theorem dX11_post_32 : decode cX11_post 32 = .ok (.iload_n 1, 1) := by decide +kernel
theorem dX11_post_33 : decode cX11_post 33 = .ok (.invokevirtual 422, 3) := by decide +kernel
theorem dX11_post_36 : decode cX11_post 36 = .ok (.aload_n 0, 1) := by decide +kernel
theorem dX11_post_37 : decode cX11_post 37 = .ok (.iconst 1, 1) := by decide +kernel
theorem dX11_post_38 : decode cX11_post 38 = .ok (.invokevirtual 425, 3) := by decide +kernel
theorem dX11_post_41 : decode cX11_post 41 = .ok (.aload_n 0, 1) := by decide +kernel
theorem dX11_post_42 : decode cX11_post 42 = .ok (.getfield 67, 3) := by decide +kernel
theorem dX11_post_45 : decode cX11_post 45 = .ok (.iload_n 1, 1) := by decide +kernel
theorem dX11_post_46 : decode cX11_post 46 = .ok (.iconst (-1), 1) := by decide +kernel
theorem dX11_post_47 : decode cX11_post 47 = .ok (.invokevirtual 428, 3) := by decide +kernel
theorem dX11_post_50 : decode cX11_post 50 = .ok (.aload_n 0, 1) := by decide +kernel
theorem dX11_post_51 : decode cX11_post 51 = .ok (.getfield 67, 3) := by decide +kernel
theorem dX11_post_54 : decode cX11_post 54 = .ok (.iload_n 2, 1) := by decide +kernel
theorem dX11_post_55 : decode cX11_post 55 = .ok (.iload_n 3, 1) := by decide +kernel
theorem dX11_post_56 : decode cX11_post 56 = .ok (.lload 4, 2) := by decide +kernel
theorem dX11_post_58 : decode cX11_post 58 = .ok (.invokevirtual 431, 3) := by decide +kernel
theorem dX11_post_61 : decode cX11_post 61 = .ok (.ireturn, 1) := by decide +kernel
theorem dX11_book_0 : decode cX11_book 0 = .ok (.aload_n 0, 1) := by decide +kernel
theorem dX11_book_1 : decode cX11_book 1 = .ok (.iload_n 1, 1) := by decide +kernel
theorem dX11_book_2 : decode cX11_book 2 = .ok (.invokevirtual 302, 3) := by decide +kernel
theorem dX11_book_5 : decode cX11_book 5 = .ok (.astore_n 2, 1) := by decide +kernel
theorem dX11_book_6 : decode cX11_book 6 = .ok (.aload_n 0, 1) := by decide +kernel
theorem dX11_book_7 : decode cX11_book 7 = .ok (.getfield 67, 3) := by decide +kernel
theorem dX11_book_10 : decode cX11_book 10 = .ok (.iload_n 1, 1) := by decide +kernel
theorem dX11_book_11 : decode cX11_book 11 = .ok (.invokevirtual 308, 3) := by decide +kernel
theorem dX11_book_14 : decode cX11_book 14 = .ok (.ifCond .eq 14, 3) := by decide +kernel
theorem dX11_book_17 : decode cX11_book 17 = .ok (.new 312, 3) := by decide +kernel
theorem dX11_book_20 : decode cX11_book 20 = .ok (.dup, 1) := by decide +kernel
theorem dX11_book_21 : decode cX11_book 21 = .ok (.ldc_w 314, 3) := by decide +kernel
theorem dX11_book_24 : decode cX11_book 24 = .ok (.invokespecial 316, 3) := by decide +kernel
theorem dX11_book_27 : decode cX11_book 27 = .ok (.athrow, 1) := by decide +kernel
theorem dX11_book_28 : decode cX11_book 28 = .ok (.aload_n 0, 1) := by decide +kernel
theorem dX11_book_29 : decode cX11_book 29 = .ok (.aload_n 2, 1) := by decide +kernel
theorem dX11_book_30 : decode cX11_book 30 = .ok (.getfield 320, 3) := by decide +kernel
theorem dX11_book_33 : decode cX11_book 33 = .ok (.invokevirtual 422, 3) := by decide +kernel
theorem dX11_book_36 : decode cX11_book 36 = .ok (.aload_n 2, 1) := by decide +kernel
theorem dX11_book_37 : decode cX11_book 37 = .ok (.getfield 345, 3) := by decide +kernel
theorem dX11_book_40 : decode cX11_book 40 = .ok (.ifCond .eq 12, 3) := by decide +kernel
theorem dX11_book_43 : decode cX11_book 43 = .ok (.aload_n 0, 1) := by decide +kernel
theorem dX11_book_44 : decode cX11_book 44 = .ok (.aload_n 2, 1) := by decide +kernel
theorem dX11_book_45 : decode cX11_book 45 = .ok (.getfield 345, 3) := by decide +kernel
theorem dX11_book_48 : decode cX11_book 48 = .ok (.iconst 0, 1) := by decide +kernel
theorem dX11_book_49 : decode cX11_book 49 = .ok (.invokevirtual 256, 3) := by decide +kernel
theorem dX11_book_52 : decode cX11_book 52 = .ok (.aload_n 2, 1) := by decide +kernel
theorem dX11_book_53 : decode cX11_book 53 = .ok (.aload_n 0, 1) := by decide +kernel
theorem dX11_book_54 : decode cX11_book 54 = .ok (.aload_n 2, 1) := by decide +kernel
theorem dX11_book_55 : decode cX11_book 55 = .ok (.invokevirtual 331, 3) := by decide +kernel
theorem dX11_book_58 : decode cX11_book 58 = .ok (.invokevirtual 338, 3) := by decide +kernel
theorem dX11_book_61 : decode cX11_book 61 = .ok (.lstore_n 3, 1) := by decide +kernel
theorem dX11_book_62 : decode cX11_book 62 = .ok (.aload_n 0, 1) := by decide +kernel
theorem dX11_book_63 : decode cX11_book 63 = .ok (.aload_n 2, 1) := by decide +kernel
theorem dX11_book_64 : decode cX11_book 64 = .ok (.getfield 345, 3) := by decide +kernel
theorem dX11_book_67 : decode cX11_book 67 = .ok (.lload_n 3, 1) := by decide +kernel
theorem dX11_book_68 : decode cX11_book 68 = .ok (.aload_n 2, 1) := by decide +kernel
theorem dX11_book_69 : decode cX11_book 69 = .ok (.aload_n 0, 1) := by decide +kernel
theorem dX11_book_70 : decode cX11_book 70 = .ok (.aload_n 2, 1) := by decide +kernel
theorem dX11_book_71 : decode cX11_book 71 = .ok (.invokevirtual 331, 3) := by decide +kernel
theorem dX11_book_74 : decode cX11_book 74 = .ok (.invokevirtual 342, 3) := by decide +kernel
theorem dX11_book_77 : decode cX11_book 77 = .ok (.ladd, 1) := by decide +kernel
theorem dX11_book_78 : decode cX11_book 78 = .ok (.invokevirtual 435, 3) := by decide +kernel
theorem dX11_book_81 : decode cX11_book 81 = .ok (.lstore 5, 2) := by decide +kernel
theorem dX11_book_83 : decode cX11_book 83 = .ok (.aload_n 0, 1) := by decide +kernel
theorem dX11_book_84 : decode cX11_book 84 = .ok (.aload_n 2, 1) := by decide +kernel
theorem dX11_book_85 : decode cX11_book 85 = .ok (.getfield 345, 3) := by decide +kernel
theorem dX11_book_88 : decode cX11_book 88 = .ok (.lload_n 3, 1) := by decide +kernel
theorem dX11_book_89 : decode cX11_book 89 = .ok (.invokevirtual 435, 3) := by decide +kernel
theorem dX11_book_92 : decode cX11_book 92 = .ok (.lstore_n 3, 1) := by decide +kernel
theorem dX11_book_93 : decode cX11_book 93 = .ok (.lload_n 3, 1) := by decide +kernel
theorem dX11_book_94 : decode cX11_book 94 = .ok (.ldc2_w 267, 3) := by decide +kernel
theorem dX11_book_97 : decode cX11_book 97 = .ok (.lcmp, 1) := by decide +kernel
theorem dX11_book_98 : decode cX11_book 98 = .ok (.ifCond .gt 12, 3) := by decide +kernel
theorem dX11_book_101 : decode cX11_book 101 = .ok (.lload 5, 2) := by decide +kernel
theorem dX11_book_103 : decode cX11_book 103 = .ok (.ldc2_w 267, 3) := by decide +kernel
theorem dX11_book_106 : decode cX11_book 106 = .ok (.lcmp, 1) := by decide +kernel
theorem dX11_book_107 : decode cX11_book 107 = .ok (.ifCond .le 14, 3) := by decide +kernel
theorem dX11_book_110 : decode cX11_book 110 = .ok (.new 239, 3) := by decide +kernel
theorem dX11_book_113 : decode cX11_book 113 = .ok (.dup, 1) := by decide +kernel
theorem dX11_book_114 : decode cX11_book 114 = .ok (.ldc_w 439, 3) := by decide +kernel
theorem dX11_book_117 : decode cX11_book 117 = .ok (.invokespecial 243, 3) := by decide +kernel
theorem dX11_book_120 : decode cX11_book 120 = .ok (.athrow, 1) := by decide +kernel
theorem dX11_book_121 : decode cX11_book 121 = .ok (.lload 5, 2) := by decide +kernel
theorem dX11_book_123 : decode cX11_book 123 = .ok (.lload_n 3, 1) := by decide +kernel
theorem dX11_book_124 : decode cX11_book 124 = .ok (.lsub, 1) := by decide +kernel
theorem dX11_book_125 : decode cX11_book 125 = .ok (.lstore 7, 2) := by decide +kernel
theorem dX11_book_127 : decode cX11_book 127 = .ok (.aload_n 0, 1) := by decide +kernel
theorem dX11_book_128 : decode cX11_book 128 = .ok (.lload_n 3, 1) := by decide +kernel
theorem dX11_book_129 : decode cX11_book 129 = .ok (.lconst 0, 1) := by decide +kernel
theorem dX11_book_130 : decode cX11_book 130 = .ok (.lcmp, 1) := by decide +kernel
theorem dX11_book_131 : decode cX11_book 131 = .ok (.ifCond .le 7, 3) := by decide +kernel
theorem dX11_book_134 : decode cX11_book 134 = .ok (.iconst 1, 1) := by decide +kernel
theorem dX11_book_135 : decode cX11_book 135 = .ok (.goto 4, 3) := by decide +kernel
theorem dX11_book_138 : decode cX11_book 138 = .ok (.iconst 0, 1) := by decide +kernel
theorem dX11_book_139 : decode cX11_book 139 = .ok (.lload 7, 2) := by decide +kernel
theorem dX11_book_141 : decode cX11_book 141 = .ok (.lconst 0, 1) := by decide +kernel
theorem dX11_book_142 : decode cX11_book 142 = .ok (.lcmp, 1) := by decide +kernel
theorem dX11_book_143 : decode cX11_book 143 = .ok (.ifCond .le 7, 3) := by decide +kernel
theorem dX11_book_146 : decode cX11_book 146 = .ok (.iconst 1, 1) := by decide +kernel
theorem dX11_book_147 : decode cX11_book 147 = .ok (.goto 4, 3) := by decide +kernel
theorem dX11_book_150 : decode cX11_book 150 = .ok (.iconst 0, 1) := by decide +kernel
theorem dX11_book_151 : decode cX11_book 151 = .ok (.iadd, 1) := by decide +kernel
theorem dX11_book_152 : decode cX11_book 152 = .ok (.invokevirtual 425, 3) := by decide +kernel
theorem dX11_book_155 : decode cX11_book 155 = .ok (.aload_n 0, 1) := by decide +kernel
theorem dX11_book_156 : decode cX11_book 156 = .ok (.getfield 67, 3) := by decide +kernel
theorem dX11_book_159 : decode cX11_book 159 = .ok (.aload_n 2, 1) := by decide +kernel
theorem dX11_book_160 : decode cX11_book 160 = .ok (.getfield 320, 3) := by decide +kernel
theorem dX11_book_163 : decode cX11_book 163 = .ok (.iload_n 1, 1) := by decide +kernel
theorem dX11_book_164 : decode cX11_book 164 = .ok (.invokevirtual 428, 3) := by decide +kernel
theorem dX11_book_167 : decode cX11_book 167 = .ok (.lload_n 3, 1) := by decide +kernel
theorem dX11_book_168 : decode cX11_book 168 = .ok (.lconst 0, 1) := by decide +kernel
theorem dX11_book_169 : decode cX11_book 169 = .ok (.lcmp, 1) := by decide +kernel
theorem dX11_book_170 : decode cX11_book 170 = .ok (.ifCond .le 14, 3) := by decide +kernel
theorem dX11_book_173 : decode cX11_book 173 = .ok (.aload_n 0, 1) := by decide +kernel
theorem dX11_book_174 : decode cX11_book 174 = .ok (.getfield 67, 3) := by decide +kernel
theorem dX11_book_177 : decode cX11_book 177 = .ok (.iconst 1, 1) := by decide +kernel
theorem dX11_book_178 : decode cX11_book 178 = .ok (.iconst 2, 1) := by decide +kernel
theorem dX11_book_179 : decode cX11_book 179 = .ok (.lload_n 3, 1) := by decide +kernel
theorem dX11_book_180 : decode cX11_book 180 = .ok (.invokevirtual 431, 3) := by decide +kernel
theorem dX11_book_183 : decode cX11_book 183 = .ok (.pop, 1) := by decide +kernel
theorem dX11_book_184 : decode cX11_book 184 = .ok (.lload 7, 2) := by decide +kernel
theorem dX11_book_186 : decode cX11_book 186 = .ok (.lconst 0, 1) := by decide +kernel
theorem dX11_book_187 : decode cX11_book 187 = .ok (.lcmp, 1) := by decide +kernel
theorem dX11_book_188 : decode cX11_book 188 = .ok (.ifCond .le 15, 3) := by decide +kernel
theorem dX11_book_191 : decode cX11_book 191 = .ok (.aload_n 0, 1) := by decide +kernel
theorem dX11_book_192 : decode cX11_book 192 = .ok (.getfield 67, 3) := by decide +kernel
theorem dX11_book_195 : decode cX11_book 195 = .ok (.iconst 1, 1) := by decide +kernel
theorem dX11_book_196 : decode cX11_book 196 = .ok (.iconst 3, 1) := by decide +kernel
theorem dX11_book_197 : decode cX11_book 197 = .ok (.lload 7, 2) := by decide +kernel
theorem dX11_book_199 : decode cX11_book 199 = .ok (.invokevirtual 431, 3) := by decide +kernel
theorem dX11_book_202 : decode cX11_book 202 = .ok (.pop, 1) := by decide +kernel
theorem dX11_book_203 : decode cX11_book 203 = .ok (.aload_n 0, 1) := by decide +kernel
theorem dX11_book_204 : decode cX11_book 204 = .ok (.getfield 67, 3) := by decide +kernel
theorem dX11_book_207 : decode cX11_book 207 = .ok (.getfield 441, 3) := by decide +kernel
theorem dX11_book_210 : decode cX11_book 210 = .ok (.ireturn, 1) := by decide +kernel
theorem dX11_isBooked_0 : decode cX11_isBooked 0 = .ok (.aload_n 0, 1) := by decide +kernel
theorem dX11_isBooked_1 : decode cX11_isBooked 1 = .ok (.iload_n 1, 1) := by decide +kernel
theorem dX11_isBooked_2 : decode cX11_isBooked 2 = .ok (.invokevirtual 302, 3) := by decide +kernel
theorem dX11_isBooked_5 : decode cX11_isBooked 5 = .ok (.pop, 1) := by decide +kernel
theorem dX11_isBooked_6 : decode cX11_isBooked 6 = .ok (.aload_n 0, 1) := by decide +kernel
theorem dX11_isBooked_7 : decode cX11_isBooked 7 = .ok (.getfield 67, 3) := by decide +kernel
theorem dX11_isBooked_10 : decode cX11_isBooked 10 = .ok (.iload_n 1, 1) := by decide +kernel
theorem dX11_isBooked_11 : decode cX11_isBooked 11 = .ok (.invokevirtual 308, 3) := by decide +kernel
theorem dX11_isBooked_14 : decode cX11_isBooked 14 = .ok (.ireturn, 1) := by decide +kernel
theorem dX11_side_0 : decode cX11_side 0 = .ok (.iload_n 1, 1) := by decide +kernel
theorem dX11_side_1 : decode cX11_side 1 = .ok (.invokestatic 419, 3) := by decide +kernel
theorem dX11_side_4 : decode cX11_side 4 = .ok (.iload_n 2, 1) := by decide +kernel
theorem dX11_side_5 : decode cX11_side 5 = .ok (.invokestatic 419, 3) := by decide +kernel
theorem dX11_side_8 : decode cX11_side 8 = .ok (.iload_n 2, 1) := by decide +kernel
theorem dX11_side_9 : decode cX11_side 9 = .ok (.iload_n 1, 1) := by decide +kernel
theorem dX11_side_10 : decode cX11_side 10 = .ok (.if_icmp .ge 14, 3) := by decide +kernel
theorem dX11_side_13 : decode cX11_side 13 = .ok (.new 81, 3) := by decide +kernel
theorem dX11_side_16 : decode cX11_side 16 = .ok (.dup, 1) := by decide +kernel
theorem dX11_side_17 : decode cX11_side 17 = .ok (.ldc_w 442, 3) := by decide +kernel
theorem dX11_side_20 : decode cX11_side 20 = .ok (.invokespecial 85, 3) := by decide +kernel
theorem dX11_side_23 : decode cX11_side 23 = .ok (.athrow, 1) := by decide +kernel
theorem dX11_side_24 : decode cX11_side 24 = .ok (.aload_n 0, 1) := by decide +kernel
theorem dX11_side_25 : decode cX11_side 25 = .ok (.getfield 67, 3) := by decide +kernel
theorem dX11_side_28 : decode cX11_side 28 = .ok (.iload_n 1, 1) := by decide +kernel
theorem dX11_side_29 : decode cX11_side 29 = .ok (.iload_n 2, 1) := by decide +kernel
theorem dX11_side_30 : decode cX11_side 30 = .ok (.iload_n 3, 1) := by decide +kernel
theorem dX11_side_31 : decode cX11_side 31 = .ok (.invokevirtual 444, 3) := by decide +kernel
theorem dX11_side_34 : decode cX11_side 34 = .ok (.lreturn, 1) := by decide +kernel
theorem dX11_nextAccount_0 : decode cX11_nextAccount 0 = .ok (.aload_n 0, 1) := by decide +kernel
theorem dX11_nextAccount_1 : decode cX11_nextAccount 1 = .ok (.getfield 67, 3) := by decide +kernel
theorem dX11_nextAccount_4 : decode cX11_nextAccount 4 = .ok (.iload_n 1, 1) := by decide +kernel
theorem dX11_nextAccount_5 : decode cX11_nextAccount 5 = .ok (.invokevirtual 448, 3) := by decide +kernel
theorem dX11_nextAccount_8 : decode cX11_nextAccount 8 = .ok (.istore_n 2, 1) := by decide +kernel
theorem dX11_nextAccount_9 : decode cX11_nextAccount 9 = .ok (.iload_n 2, 1) := by decide +kernel
theorem dX11_nextAccount_10 : decode cX11_nextAccount 10 = .ok (.bipush 100, 2) := by decide +kernel
theorem dX11_nextAccount_12 : decode cX11_nextAccount 12 = .ok (.if_icmp .ne 14, 3) := by decide +kernel
theorem dX11_nextAccount_15 : decode cX11_nextAccount 15 = .ok (.new 210, 3) := by decide +kernel
theorem dX11_nextAccount_18 : decode cX11_nextAccount 18 = .ok (.dup, 1) := by decide +kernel
theorem dX11_nextAccount_19 : decode cX11_nextAccount 19 = .ok (.ldc_w 451, 3) := by decide +kernel
theorem dX11_nextAccount_22 : decode cX11_nextAccount 22 = .ok (.invokespecial 214, 3) := by decide +kernel
theorem dX11_nextAccount_25 : decode cX11_nextAccount 25 = .ok (.athrow, 1) := by decide +kernel
theorem dX11_nextAccount_26 : decode cX11_nextAccount 26 = .ok (.iload_n 2, 1) := by decide +kernel
theorem dX11_nextAccount_27 : decode cX11_nextAccount 27 = .ok (.ireturn, 1) := by decide +kernel
theorem dX11_shut_0 : decode cX11_shut 0 = .ok (.iload_n 1, 1) := by decide +kernel
theorem dX11_shut_1 : decode cX11_shut 1 = .ok (.i2l, 1) := by decide +kernel
theorem dX11_shut_2 : decode cX11_shut 2 = .ok (.lconst 0, 1) := by decide +kernel
theorem dX11_shut_3 : decode cX11_shut 3 = .ok (.ldc2_w 281, 3) := by decide +kernel
theorem dX11_shut_6 : decode cX11_shut 6 = .ok (.invokestatic 220, 3) := by decide +kernel
theorem dX11_shut_9 : decode cX11_shut 9 = .ok (.aload_n 0, 1) := by decide +kernel
theorem dX11_shut_10 : decode cX11_shut 10 = .ok (.iload_n 1, 1) := by decide +kernel
theorem dX11_shut_11 : decode cX11_shut 11 = .ok (.invokevirtual 422, 3) := by decide +kernel
theorem dX11_shut_14 : decode cX11_shut 14 = .ok (.aload_n 0, 1) := by decide +kernel
theorem dX11_shut_15 : decode cX11_shut 15 = .ok (.getfield 67, 3) := by decide +kernel
theorem dX11_shut_18 : decode cX11_shut 18 = .ok (.iload_n 1, 1) := by decide +kernel
theorem dX11_shut_19 : decode cX11_shut 19 = .ok (.invokevirtual 453, 3) := by decide +kernel
theorem dX11_shut_22 : decode cX11_shut 22 = .ok (.ireturn, 1) := by decide +kernel
theorem dX11_undo_0 : decode cX11_undo 0 = .ok (.aload_n 0, 1) := by decide +kernel
theorem dX11_undo_1 : decode cX11_undo 1 = .ok (.getfield 67, 3) := by decide +kernel
theorem dX11_undo_4 : decode cX11_undo 4 = .ok (.getfield 456, 3) := by decide +kernel
theorem dX11_undo_7 : decode cX11_undo 7 = .ok (.ifCond .ne 14, 3) := by decide +kernel
theorem dX11_undo_10 : decode cX11_undo 10 = .ok (.new 210, 3) := by decide +kernel
theorem dX11_undo_13 : decode cX11_undo 13 = .ok (.dup, 1) := by decide +kernel
theorem dX11_undo_14 : decode cX11_undo 14 = .ok (.ldc_w 459, 3) := by decide +kernel
theorem dX11_undo_17 : decode cX11_undo 17 = .ok (.invokespecial 214, 3) := by decide +kernel
theorem dX11_undo_20 : decode cX11_undo 20 = .ok (.athrow, 1) := by decide +kernel
theorem dX11_undo_21 : decode cX11_undo 21 = .ok (.aload_n 0, 1) := by decide +kernel
theorem dX11_undo_22 : decode cX11_undo 22 = .ok (.aload_n 0, 1) := by decide +kernel
theorem dX11_undo_23 : decode cX11_undo 23 = .ok (.getfield 67, 3) := by decide +kernel
theorem dX11_undo_26 : decode cX11_undo 26 = .ok (.invokevirtual 461, 3) := by decide +kernel
theorem dX11_undo_29 : decode cX11_undo 29 = .ok (.invokevirtual 422, 3) := by decide +kernel
theorem dX11_undo_32 : decode cX11_undo 32 = .ok (.aload_n 0, 1) := by decide +kernel
theorem dX11_undo_33 : decode cX11_undo 33 = .ok (.getfield 67, 3) := by decide +kernel
theorem dX11_undo_36 : decode cX11_undo 36 = .ok (.invokevirtual 464, 3) := by decide +kernel
theorem dX11_undo_39 : decode cX11_undo 39 = .ok (.ireturn, 1) := by decide +kernel
theorem dX11_isSound_0 : decode cX11_isSound 0 = .ok (.aload_n 0, 1) := by decide +kernel
theorem dX11_isSound_1 : decode cX11_isSound 1 = .ok (.getfield 67, 3) := by decide +kernel
theorem dX11_isSound_4 : decode cX11_isSound 4 = .ok (.invokevirtual 467, 3) := by decide +kernel
theorem dX11_isSound_7 : decode cX11_isSound 7 = .ok (.ifCond .eq 27, 3) := by decide +kernel
theorem dX11_isSound_10 : decode cX11_isSound 10 = .ok (.aload_n 0, 1) := by decide +kernel
theorem dX11_isSound_11 : decode cX11_isSound 11 = .ok (.getfield 53, 3) := by decide +kernel
theorem dX11_isSound_14 : decode cX11_isSound 14 = .ok (.invokevirtual 470, 3) := by decide +kernel
theorem dX11_isSound_17 : decode cX11_isSound 17 = .ok (.ifCond .eq 17, 3) := by decide +kernel
theorem dX11_isSound_20 : decode cX11_isSound 20 = .ok (.aload_n 0, 1) := by decide +kernel
theorem dX11_isSound_21 : decode cX11_isSound 21 = .ok (.getfield 60, 3) := by decide +kernel
theorem dX11_isSound_24 : decode cX11_isSound 24 = .ok (.invokevirtual 473, 3) := by decide +kernel
theorem dX11_isSound_27 : decode cX11_isSound 27 = .ok (.ifCond .eq 7, 3) := by decide +kernel
theorem dX11_isSound_30 : decode cX11_isSound 30 = .ok (.iconst 1, 1) := by decide +kernel
theorem dX11_isSound_31 : decode cX11_isSound 31 = .ok (.goto 4, 3) := by decide +kernel
theorem dX11_isSound_34 : decode cX11_isSound 34 = .ok (.iconst 0, 1) := by decide +kernel
theorem dX11_isSound_35 : decode cX11_isSound 35 = .ok (.ireturn, 1) := by decide +kernel
theorem dX11_checkAccount_0 : decode cX11_checkAccount 0 = .ok (.iload_n 0, 1) := by decide +kernel
theorem dX11_checkAccount_1 : decode cX11_checkAccount 1 = .ok (.ifCond .lt 9, 3) := by decide +kernel
theorem dX11_checkAccount_4 : decode cX11_checkAccount 4 = .ok (.iload_n 0, 1) := by decide +kernel
theorem dX11_checkAccount_5 : decode cX11_checkAccount 5 = .ok (.bipush 100, 2) := by decide +kernel
theorem dX11_checkAccount_7 : decode cX11_checkAccount 7 = .ok (.if_icmp .lt 14, 3) := by decide +kernel
theorem dX11_checkAccount_10 : decode cX11_checkAccount 10 = .ok (.new 195, 3) := by decide +kernel
theorem dX11_checkAccount_13 : decode cX11_checkAccount 13 = .ok (.dup, 1) := by decide +kernel
theorem dX11_checkAccount_14 : decode cX11_checkAccount 14 = .ok (.ldc_w 451, 3) := by decide +kernel
theorem dX11_checkAccount_17 : decode cX11_checkAccount 17 = .ok (.invokespecial 199, 3) := by decide +kernel
theorem dX11_checkAccount_20 : decode cX11_checkAccount 20 = .ok (.athrow, 1) := by decide +kernel
theorem dX11_checkAccount_21 : decode cX11_checkAccount 21 = .ok (.return_, 1) := by decide +kernel
theorem dX11_checkNotShut_0 : decode cX11_checkNotShut 0 = .ok (.aload_n 0, 1) := by decide +kernel
theorem dX11_checkNotShut_1 : decode cX11_checkNotShut 1 = .ok (.getfield 67, 3) := by decide +kernel
theorem dX11_checkNotShut_4 : decode cX11_checkNotShut 4 = .ok (.iload_n 1, 1) := by decide +kernel
theorem dX11_checkNotShut_5 : decode cX11_checkNotShut 5 = .ok (.invokevirtual 476, 3) := by decide +kernel
theorem dX11_checkNotShut_8 : decode cX11_checkNotShut 8 = .ok (.ifCond .eq 14, 3) := by decide +kernel
theorem dX11_checkNotShut_11 : decode cX11_checkNotShut 11 = .ok (.new 312, 3) := by decide +kernel
theorem dX11_checkNotShut_14 : decode cX11_checkNotShut 14 = .ok (.dup, 1) := by decide +kernel
theorem dX11_checkNotShut_15 : decode cX11_checkNotShut 15 = .ok (.ldc_w 479, 3) := by decide +kernel
theorem dX11_checkNotShut_18 : decode cX11_checkNotShut 18 = .ok (.invokespecial 316, 3) := by decide +kernel
theorem dX11_checkNotShut_21 : decode cX11_checkNotShut 21 = .ok (.athrow, 1) := by decide +kernel
theorem dX11_checkNotShut_22 : decode cX11_checkNotShut 22 = .ok (.return_, 1) := by decide +kernel
theorem dX11_checkRoom_0 : decode cX11_checkRoom 0 = .ok (.aload_n 0, 1) := by decide +kernel
theorem dX11_checkRoom_1 : decode cX11_checkRoom 1 = .ok (.getfield 67, 3) := by decide +kernel
theorem dX11_checkRoom_4 : decode cX11_checkRoom 4 = .ok (.iload_n 1, 1) := by decide +kernel
theorem dX11_checkRoom_5 : decode cX11_checkRoom 5 = .ok (.invokevirtual 481, 3) := by decide +kernel
theorem dX11_checkRoom_8 : decode cX11_checkRoom 8 = .ok (.ifCond .ne 14, 3) := by decide +kernel
theorem dX11_checkRoom_11 : decode cX11_checkRoom 11 = .ok (.new 99, 3) := by decide +kernel
theorem dX11_checkRoom_14 : decode cX11_checkRoom 14 = .ok (.dup, 1) := by decide +kernel
theorem dX11_checkRoom_15 : decode cX11_checkRoom 15 = .ok (.ldc_w 484, 3) := by decide +kernel
theorem dX11_checkRoom_18 : decode cX11_checkRoom 18 = .ok (.invokespecial 103, 3) := by decide +kernel
theorem dX11_checkRoom_21 : decode cX11_checkRoom 21 = .ok (.athrow, 1) := by decide +kernel
theorem dX11_checkRoom_22 : decode cX11_checkRoom 22 = .ok (.return_, 1) := by decide +kernel
theorem dX11_atHome_0 : decode cX11_atHome 0 = .ok (.iload_n 1, 1) := by decide +kernel
theorem dX11_atHome_1 : decode cX11_atHome 1 = .ok (.ifCond .ne 7, 3) := by decide +kernel
theorem dX11_atHome_4 : decode cX11_atHome 4 = .ok (.lload_n 2, 1) := by decide +kernel
theorem dX11_atHome_5 : decode cX11_atHome 5 = .ok (.goto 10, 3) := by decide +kernel
theorem dX11_atHome_8 : decode cX11_atHome 8 = .ok (.aload_n 0, 1) := by decide +kernel
theorem dX11_atHome_9 : decode cX11_atHome 9 = .ok (.iload_n 1, 1) := by decide +kernel
theorem dX11_atHome_10 : decode cX11_atHome 10 = .ok (.iconst 0, 1) := by decide +kernel
theorem dX11_atHome_11 : decode cX11_atHome 11 = .ok (.lload_n 2, 1) := by decide +kernel
theorem dX11_atHome_12 : decode cX11_atHome 12 = .ok (.invokevirtual 252, 3) := by decide +kernel
theorem dX11_atHome_15 : decode cX11_atHome 15 = .ok (.lreturn, 1) := by decide +kernel
theorem dX12_digit_0 : decode cX12_digit 0 = .ok (.iload_n 2, 1) := by decide +kernel
theorem dX12_digit_1 : decode cX12_digit 1 = .ok (.aload_n 0, 1) := by decide +kernel
theorem dX12_digit_2 : decode cX12_digit 2 = .ok (.getfield 1, 3) := by decide +kernel
theorem dX12_digit_5 : decode cX12_digit 5 = .ok (.iload_n 1, 1) := by decide +kernel
theorem dX12_digit_6 : decode cX12_digit 6 = .ok (.iaload, 1) := by decide +kernel
theorem dX12_digit_7 : decode cX12_digit 7 = .ok (.if_icmp .ge 18, 3) := by decide +kernel
theorem dX12_digit_10 : decode cX12_digit 10 = .ok (.aload_n 0, 1) := by decide +kernel
theorem dX12_digit_11 : decode cX12_digit 11 = .ok (.getfield 7, 3) := by decide +kernel
theorem dX12_digit_14 : decode cX12_digit 14 = .ok (.sipush 240, 3) := by decide +kernel
theorem dX12_digit_17 : decode cX12_digit 17 = .ok (.iload_n 1, 1) := by decide +kernel
theorem dX12_digit_18 : decode cX12_digit 18 = .ok (.imul, 1) := by decide +kernel
theorem dX12_digit_19 : decode cX12_digit 19 = .ok (.iload_n 2, 1) := by decide +kernel
theorem dX12_digit_20 : decode cX12_digit 20 = .ok (.iadd, 1) := by decide +kernel
theorem dX12_digit_21 : decode cX12_digit 21 = .ok (.iaload, 1) := by decide +kernel
theorem dX12_digit_22 : decode cX12_digit 22 = .ok (.goto 4, 3) := by decide +kernel
theorem dX12_digit_25 : decode cX12_digit 25 = .ok (.iconst 0, 1) := by decide +kernel
theorem dX12_digit_26 : decode cX12_digit 26 = .ok (.ireturn, 1) := by decide +kernel
theorem dX12_adds_0 : decode cX12_adds 0 = .ok (.aload_n 0, 1) := by decide +kernel
theorem dX12_adds_1 : decode cX12_adds 1 = .ok (.getfield 7, 3) := by decide +kernel
theorem dX12_adds_4 : decode cX12_adds 4 = .ok (.sipush 240, 3) := by decide +kernel
theorem dX12_adds_7 : decode cX12_adds 7 = .ok (.iload_n 1, 1) := by decide +kernel
theorem dX12_adds_8 : decode cX12_adds 8 = .ok (.imul, 1) := by decide +kernel
theorem dX12_adds_9 : decode cX12_adds 9 = .ok (.aload_n 0, 1) := by decide +kernel
theorem dX12_adds_10 : decode cX12_adds 10 = .ok (.getfield 1, 3) := by decide +kernel
theorem dX12_adds_13 : decode cX12_adds 13 = .ok (.iload_n 1, 1) := by decide +kernel
theorem dX12_adds_14 : decode cX12_adds 14 = .ok (.iaload, 1) := by decide +kernel
theorem dX12_adds_15 : decode cX12_adds 15 = .ok (.iadd, 1) := by decide +kernel
theorem dX12_adds_16 : decode cX12_adds 16 = .ok (.iload_n 2, 1) := by decide +kernel
theorem dX12_adds_17 : decode cX12_adds 17 = .ok (.iastore, 1) := by decide +kernel
theorem dX12_adds_18 : decode cX12_adds 18 = .ok (.aload_n 0, 1) := by decide +kernel
theorem dX12_adds_19 : decode cX12_adds 19 = .ok (.getfield 1, 3) := by decide +kernel
theorem dX12_adds_22 : decode cX12_adds 22 = .ok (.iload_n 1, 1) := by decide +kernel
theorem dX12_adds_23 : decode cX12_adds 23 = .ok (.dup2, 1) := by decide +kernel
theorem dX12_adds_24 : decode cX12_adds 24 = .ok (.iaload, 1) := by decide +kernel
theorem dX12_adds_25 : decode cX12_adds 25 = .ok (.iconst 1, 1) := by decide +kernel
theorem dX12_adds_26 : decode cX12_adds 26 = .ok (.iadd, 1) := by decide +kernel
theorem dX12_adds_27 : decode cX12_adds 27 = .ok (.iastore, 1) := by decide +kernel
theorem dX12_adds_28 : decode cX12_adds 28 = .ok (.return_, 1) := by decide +kernel
theorem dX12_trims_0 : decode cX12_trims 0 = .ok (.aload_n 0, 1) := by decide +kernel
theorem dX12_trims_1 : decode cX12_trims 1 = .ok (.getfield 1, 3) := by decide +kernel
theorem dX12_trims_4 : decode cX12_trims 4 = .ok (.iload_n 1, 1) := by decide +kernel
theorem dX12_trims_5 : decode cX12_trims 5 = .ok (.iaload, 1) := by decide +kernel
theorem dX12_trims_6 : decode cX12_trims 6 = .ok (.ifCond .le 32, 3) := by decide +kernel
theorem dX12_trims_9 : decode cX12_trims 9 = .ok (.aload_n 0, 1) := by decide +kernel
theorem dX12_trims_10 : decode cX12_trims 10 = .ok (.iload_n 1, 1) := by decide +kernel
theorem dX12_trims_11 : decode cX12_trims 11 = .ok (.aload_n 0, 1) := by decide +kernel
theorem dX12_trims_12 : decode cX12_trims 12 = .ok (.getfield 1, 3) := by decide +kernel
theorem dX12_trims_15 : decode cX12_trims 15 = .ok (.iload_n 1, 1) := by decide +kernel
theorem dX12_trims_16 : decode cX12_trims 16 = .ok (.iaload, 1) := by decide +kernel
theorem dX12_trims_17 : decode cX12_trims 17 = .ok (.iconst 1, 1) := by decide +kernel
theorem dX12_trims_18 : decode cX12_trims 18 = .ok (.isub, 1) := by decide +kernel
theorem dX12_trims_19 : decode cX12_trims 19 = .ok (.invokevirtual 10, 3) := by decide +kernel
theorem dX12_trims_22 : decode cX12_trims 22 = .ok (.ifCond .ne 16, 3) := by decide +kernel
theorem dX12_trims_25 : decode cX12_trims 25 = .ok (.aload_n 0, 1) := by decide +kernel
theorem dX12_trims_26 : decode cX12_trims 26 = .ok (.getfield 1, 3) := by decide +kernel
theorem dX12_trims_29 : decode cX12_trims 29 = .ok (.iload_n 1, 1) := by decide +kernel
theorem dX12_trims_30 : decode cX12_trims 30 = .ok (.dup2, 1) := by decide +kernel
theorem dX12_trims_31 : decode cX12_trims 31 = .ok (.iaload, 1) := by decide +kernel
theorem dX12_trims_32 : decode cX12_trims 32 = .ok (.iconst 1, 1) := by decide +kernel
theorem dX12_trims_33 : decode cX12_trims 33 = .ok (.isub, 1) := by decide +kernel
theorem dX12_trims_34 : decode cX12_trims 34 = .ok (.iastore, 1) := by decide +kernel
theorem dX12_trims_35 : decode cX12_trims 35 = .ok (.goto (-35), 3) := by decide +kernel
theorem dX12_trims_38 : decode cX12_trims 38 = .ok (.return_, 1) := by decide +kernel
theorem dX12_lets_0 : decode cX12_lets 0 = .ok (.aload_n 0, 1) := by decide +kernel
theorem dX12_lets_1 : decode cX12_lets 1 = .ok (.getfield 1, 3) := by decide +kernel
theorem dX12_lets_4 : decode cX12_lets 4 = .ok (.iload_n 1, 1) := by decide +kernel
theorem dX12_lets_5 : decode cX12_lets 5 = .ok (.iconst 0, 1) := by decide +kernel
theorem dX12_lets_6 : decode cX12_lets 6 = .ok (.iastore, 1) := by decide +kernel
theorem dX12_lets_7 : decode cX12_lets 7 = .ok (.lload_n 2, 1) := by decide +kernel
theorem dX12_lets_8 : decode cX12_lets 8 = .ok (.lconst 0, 1) := by decide +kernel
theorem dX12_lets_9 : decode cX12_lets 9 = .ok (.lcmp, 1) := by decide +kernel
theorem dX12_lets_10 : decode cX12_lets 10 = .ok (.ifCond .ge 8, 3) := by decide +kernel
theorem dX12_lets_13 : decode cX12_lets 13 = .ok (.lload_n 2, 1) := by decide +kernel
theorem dX12_lets_14 : decode cX12_lets 14 = .ok (.lneg, 1) := by decide +kernel
theorem dX12_lets_15 : decode cX12_lets 15 = .ok (.goto 4, 3) := by decide +kernel
theorem dX12_lets_18 : decode cX12_lets 18 = .ok (.lload_n 2, 1) := by decide +kernel
theorem dX12_lets_19 : decode cX12_lets 19 = .ok (.lstore 4, 2) := by decide +kernel
theorem dX12_lets_21 : decode cX12_lets 21 = .ok (.lload 4, 2) := by decide +kernel
theorem dX12_lets_23 : decode cX12_lets 23 = .ok (.lconst 0, 1) := by decide +kernel
theorem dX12_lets_24 : decode cX12_lets 24 = .ok (.lcmp, 1) := by decide +kernel
theorem dX12_lets_25 : decode cX12_lets 25 = .ok (.ifCond .le 26, 3) := by decide +kernel
theorem dX12_lets_28 : decode cX12_lets 28 = .ok (.aload_n 0, 1) := by decide +kernel
theorem dX12_lets_29 : decode cX12_lets 29 = .ok (.iload_n 1, 1) := by decide +kernel
theorem dX12_lets_30 : decode cX12_lets 30 = .ok (.lload 4, 2) := by decide +kernel
theorem dX12_lets_32 : decode cX12_lets 32 = .ok (.ldc2_w 14, 3) := by decide +kernel
theorem dX12_lets_35 : decode cX12_lets 35 = .ok (.lrem, 1) := by decide +kernel
theorem dX12_lets_36 : decode cX12_lets 36 = .ok (.l2i, 1) := by decide +kernel
theorem dX12_lets_37 : decode cX12_lets 37 = .ok (.invokevirtual 16, 3) := by decide +kernel
theorem dX12_lets_40 : decode cX12_lets 40 = .ok (.lload 4, 2) := by decide +kernel
theorem dX12_lets_42 : decode cX12_lets 42 = .ok (.ldc2_w 14, 3) := by decide +kernel
theorem dX12_lets_45 : decode cX12_lets 45 = .ok (.ldiv, 1) := by decide +kernel
theorem dX12_lets_46 : decode cX12_lets 46 = .ok (.lstore 4, 2) := by decide +kernel
theorem dX12_lets_48 : decode cX12_lets 48 = .ok (.goto (-27), 3) := by decide +kernel
theorem dX12_lets_51 : decode cX12_lets 51 = .ok (.return_, 1) := by decide +kernel
theorem dX12_copies_0 : decode cX12_copies 0 = .ok (.aload_n 0, 1) := by decide +kernel
theorem dX12_copies_1 : decode cX12_copies 1 = .ok (.getfield 1, 3) := by decide +kernel
theorem dX12_copies_4 : decode cX12_copies 4 = .ok (.iload_n 2, 1) := by decide +kernel
theorem dX12_copies_5 : decode cX12_copies 5 = .ok (.iconst 0, 1) := by decide +kernel
theorem dX12_copies_6 : decode cX12_copies 6 = .ok (.iastore, 1) := by decide +kernel
theorem dX12_copies_7 : decode cX12_copies 7 = .ok (.iconst 0, 1) := by decide +kernel
theorem dX12_copies_8 : decode cX12_copies 8 = .ok (.istore_n 3, 1) := by decide +kernel
theorem dX12_copies_9 : decode cX12_copies 9 = .ok (.iload_n 3, 1) := by decide +kernel
theorem dX12_copies_10 : decode cX12_copies 10 = .ok (.aload_n 0, 1) := by decide +kernel
theorem dX12_copies_11 : decode cX12_copies 11 = .ok (.getfield 1, 3) := by decide +kernel
theorem dX12_copies_14 : decode cX12_copies 14 = .ok (.iload_n 1, 1) := by decide +kernel
theorem dX12_copies_15 : decode cX12_copies 15 = .ok (.iaload, 1) := by decide +kernel
theorem dX12_copies_16 : decode cX12_copies 16 = .ok (.if_icmp .ge 20, 3) := by decide +kernel
theorem dX12_copies_19 : decode cX12_copies 19 = .ok (.aload_n 0, 1) := by decide +kernel
theorem dX12_copies_20 : decode cX12_copies 20 = .ok (.iload_n 2, 1) := by decide +kernel
theorem dX12_copies_21 : decode cX12_copies 21 = .ok (.aload_n 0, 1) := by decide +kernel
theorem dX12_copies_22 : decode cX12_copies 22 = .ok (.iload_n 1, 1) := by decide +kernel
theorem dX12_copies_23 : decode cX12_copies 23 = .ok (.iload_n 3, 1) := by decide +kernel
theorem dX12_copies_24 : decode cX12_copies 24 = .ok (.invokevirtual 10, 3) := by decide +kernel
theorem dX12_copies_27 : decode cX12_copies 27 = .ok (.invokevirtual 16, 3) := by decide +kernel
theorem dX12_copies_30 : decode cX12_copies 30 = .ok (.iinc 3 1, 3) := by decide +kernel
theorem dX12_copies_33 : decode cX12_copies 33 = .ok (.goto (-24), 3) := by decide +kernel
theorem dX12_copies_36 : decode cX12_copies 36 = .ok (.return_, 1) := by decide +kernel
theorem dX12_shifts_0 : decode cX12_shifts 0 = .ok (.iload_n 2, 1) := by decide +kernel
theorem dX12_shifts_1 : decode cX12_shifts 1 = .ok (.ifCond .le 12, 3) := by decide +kernel
theorem dX12_shifts_4 : decode cX12_shifts 4 = .ok (.aload_n 0, 1) := by decide +kernel
theorem dX12_shifts_5 : decode cX12_shifts 5 = .ok (.getfield 1, 3) := by decide +kernel
theorem dX12_shifts_8 : decode cX12_shifts 8 = .ok (.iload_n 1, 1) := by decide +kernel
theorem dX12_shifts_9 : decode cX12_shifts 9 = .ok (.iaload, 1) := by decide +kernel
theorem dX12_shifts_10 : decode cX12_shifts 10 = .ok (.ifCond .ne 4, 3) := by decide +kernel
theorem dX12_shifts_13 : decode cX12_shifts 13 = .ok (.return_, 1) := by decide +kernel
theorem dX12_shifts_14 : decode cX12_shifts 14 = .ok (.aload_n 0, 1) := by decide +kernel
theorem dX12_shifts_15 : decode cX12_shifts 15 = .ok (.getfield 1, 3) := by decide +kernel
theorem dX12_shifts_18 : decode cX12_shifts 18 = .ok (.iload_n 1, 1) := by decide +kernel
theorem dX12_shifts_19 : decode cX12_shifts 19 = .ok (.iaload, 1) := by decide +kernel
theorem dX12_shifts_20 : decode cX12_shifts 20 = .ok (.iconst 1, 1) := by decide +kernel
theorem dX12_shifts_21 : decode cX12_shifts 21 = .ok (.isub, 1) := by decide +kernel
theorem dX12_shifts_22 : decode cX12_shifts 22 = .ok (.istore_n 3, 1) := by decide +kernel
theorem dX12_shifts_23 : decode cX12_shifts 23 = .ok (.iload_n 3, 1) := by decide +kernel
theorem dX12_shifts_24 : decode cX12_shifts 24 = .ok (.ifCond .lt 35, 3) := by decide +kernel
theorem dX12_shifts_27 : decode cX12_shifts 27 = .ok (.aload_n 0, 1) := by decide +kernel
theorem dX12_shifts_28 : decode cX12_shifts 28 = .ok (.getfield 7, 3) := by decide +kernel
theorem dX12_shifts_31 : decode cX12_shifts 31 = .ok (.sipush 240, 3) := by decide +kernel
theorem dX12_shifts_34 : decode cX12_shifts 34 = .ok (.iload_n 1, 1) := by decide +kernel
theorem dX12_shifts_35 : decode cX12_shifts 35 = .ok (.imul, 1) := by decide +kernel
theorem dX12_shifts_36 : decode cX12_shifts 36 = .ok (.iload_n 3, 1) := by decide +kernel
theorem dX12_shifts_37 : decode cX12_shifts 37 = .ok (.iadd, 1) := by decide +kernel
theorem dX12_shifts_38 : decode cX12_shifts 38 = .ok (.iload_n 2, 1) := by decide +kernel
theorem dX12_shifts_39 : decode cX12_shifts 39 = .ok (.iadd, 1) := by decide +kernel
theorem dX12_shifts_40 : decode cX12_shifts 40 = .ok (.aload_n 0, 1) := by decide +kernel
theorem dX12_shifts_41 : decode cX12_shifts 41 = .ok (.getfield 7, 3) := by decide +kernel
theorem dX12_shifts_44 : decode cX12_shifts 44 = .ok (.sipush 240, 3) := by decide +kernel
theorem dX12_shifts_47 : decode cX12_shifts 47 = .ok (.iload_n 1, 1) := by decide +kernel
theorem dX12_shifts_48 : decode cX12_shifts 48 = .ok (.imul, 1) := by decide +kernel
theorem dX12_shifts_49 : decode cX12_shifts 49 = .ok (.iload_n 3, 1) := by decide +kernel
theorem dX12_shifts_50 : decode cX12_shifts 50 = .ok (.iadd, 1) := by decide +kernel
theorem dX12_shifts_51 : decode cX12_shifts 51 = .ok (.iaload, 1) := by decide +kernel
theorem dX12_shifts_52 : decode cX12_shifts 52 = .ok (.iastore, 1) := by decide +kernel
theorem dX12_shifts_53 : decode cX12_shifts 53 = .ok (.iinc 3 (-1), 3) := by decide +kernel
theorem dX12_shifts_56 : decode cX12_shifts 56 = .ok (.goto (-33), 3) := by decide +kernel
theorem dX12_shifts_59 : decode cX12_shifts 59 = .ok (.iconst 0, 1) := by decide +kernel
theorem dX12_shifts_60 : decode cX12_shifts 60 = .ok (.istore_n 3, 1) := by decide +kernel
theorem dX12_shifts_61 : decode cX12_shifts 61 = .ok (.iload_n 3, 1) := by decide +kernel
theorem dX12_shifts_62 : decode cX12_shifts 62 = .ok (.iload_n 2, 1) := by decide +kernel
theorem dX12_shifts_63 : decode cX12_shifts 63 = .ok (.if_icmp .ge 22, 3) := by decide +kernel
theorem dX12_shifts_66 : decode cX12_shifts 66 = .ok (.aload_n 0, 1) := by decide +kernel
theorem dX12_shifts_67 : decode cX12_shifts 67 = .ok (.getfield 7, 3) := by decide +kernel
theorem dX12_shifts_70 : decode cX12_shifts 70 = .ok (.sipush 240, 3) := by decide +kernel
theorem dX12_shifts_73 : decode cX12_shifts 73 = .ok (.iload_n 1, 1) := by decide +kernel
theorem dX12_shifts_74 : decode cX12_shifts 74 = .ok (.imul, 1) := by decide +kernel
theorem dX12_shifts_75 : decode cX12_shifts 75 = .ok (.iload_n 3, 1) := by decide +kernel
theorem dX12_shifts_76 : decode cX12_shifts 76 = .ok (.iadd, 1) := by decide +kernel
theorem dX12_shifts_77 : decode cX12_shifts 77 = .ok (.iconst 0, 1) := by decide +kernel
theorem dX12_shifts_78 : decode cX12_shifts 78 = .ok (.iastore, 1) := by decide +kernel
theorem dX12_shifts_79 : decode cX12_shifts 79 = .ok (.iinc 3 1, 3) := by decide +kernel
theorem dX12_shifts_82 : decode cX12_shifts 82 = .ok (.goto (-21), 3) := by decide +kernel
theorem dX12_shifts_85 : decode cX12_shifts 85 = .ok (.aload_n 0, 1) := by decide +kernel
theorem dX12_shifts_86 : decode cX12_shifts 86 = .ok (.getfield 1, 3) := by decide +kernel
theorem dX12_shifts_89 : decode cX12_shifts 89 = .ok (.iload_n 1, 1) := by decide +kernel
theorem dX12_shifts_90 : decode cX12_shifts 90 = .ok (.dup2, 1) := by decide +kernel
theorem dX12_shifts_91 : decode cX12_shifts 91 = .ok (.iaload, 1) := by decide +kernel
theorem dX12_shifts_92 : decode cX12_shifts 92 = .ok (.iload_n 2, 1) := by decide +kernel
theorem dX12_shifts_93 : decode cX12_shifts 93 = .ok (.iadd, 1) := by decide +kernel
theorem dX12_shifts_94 : decode cX12_shifts 94 = .ok (.iastore, 1) := by decide +kernel
theorem dX12_shifts_95 : decode cX12_shifts 95 = .ok (.return_, 1) := by decide +kernel
theorem dX12_compares_0 : decode cX12_compares 0 = .ok (.aload_n 0, 1) := by decide +kernel
theorem dX12_compares_1 : decode cX12_compares 1 = .ok (.getfield 1, 3) := by decide +kernel
theorem dX12_compares_4 : decode cX12_compares 4 = .ok (.iload_n 1, 1) := by decide +kernel
theorem dX12_compares_5 : decode cX12_compares 5 = .ok (.iaload, 1) := by decide +kernel
theorem dX12_compares_6 : decode cX12_compares 6 = .ok (.aload_n 0, 1) := by decide +kernel
theorem dX12_compares_7 : decode cX12_compares 7 = .ok (.getfield 1, 3) := by decide +kernel
theorem dX12_compares_10 : decode cX12_compares 10 = .ok (.iload_n 2, 1) := by decide +kernel
theorem dX12_compares_11 : decode cX12_compares 11 = .ok (.iaload, 1) := by decide +kernel
theorem dX12_compares_12 : decode cX12_compares 12 = .ok (.if_icmp .eq 24, 3) := by decide +kernel
theorem dX12_compares_15 : decode cX12_compares 15 = .ok (.aload_n 0, 1) := by decide +kernel
theorem dX12_compares_16 : decode cX12_compares 16 = .ok (.getfield 1, 3) := by decide +kernel
theorem dX12_compares_19 : decode cX12_compares 19 = .ok (.iload_n 1, 1) := by decide +kernel
theorem dX12_compares_20 : decode cX12_compares 20 = .ok (.iaload, 1) := by decide +kernel
theorem dX12_compares_21 : decode cX12_compares 21 = .ok (.aload_n 0, 1) := by decide +kernel
theorem dX12_compares_22 : decode cX12_compares 22 = .ok (.getfield 1, 3) := by decide +kernel
theorem dX12_compares_25 : decode cX12_compares 25 = .ok (.iload_n 2, 1) := by decide +kernel
theorem dX12_compares_26 : decode cX12_compares 26 = .ok (.iaload, 1) := by decide +kernel
theorem dX12_compares_27 : decode cX12_compares 27 = .ok (.if_icmp .ge 7, 3) := by decide +kernel
theorem dX12_compares_30 : decode cX12_compares 30 = .ok (.iconst (-1), 1) := by decide +kernel
theorem dX12_compares_31 : decode cX12_compares 31 = .ok (.goto 4, 3) := by decide +kernel
theorem dX12_compares_34 : decode cX12_compares 34 = .ok (.iconst 1, 1) := by decide +kernel
theorem dX12_compares_35 : decode cX12_compares 35 = .ok (.ireturn, 1) := by decide +kernel
theorem dX12_compares_36 : decode cX12_compares 36 = .ok (.aload_n 0, 1) := by decide +kernel
theorem dX12_compares_37 : decode cX12_compares 37 = .ok (.getfield 1, 3) := by decide +kernel
theorem dX12_compares_40 : decode cX12_compares 40 = .ok (.iload_n 1, 1) := by decide +kernel
theorem dX12_compares_41 : decode cX12_compares 41 = .ok (.iaload, 1) := by decide +kernel
theorem dX12_compares_42 : decode cX12_compares 42 = .ok (.iconst 1, 1) := by decide +kernel
theorem dX12_compares_43 : decode cX12_compares 43 = .ok (.isub, 1) := by decide +kernel
theorem dX12_compares_44 : decode cX12_compares 44 = .ok (.istore_n 3, 1) := by decide +kernel
theorem dX12_compares_45 : decode cX12_compares 45 = .ok (.iload_n 3, 1) := by decide +kernel
theorem dX12_compares_46 : decode cX12_compares 46 = .ok (.ifCond .lt 45, 3) := by decide +kernel
theorem dX12_compares_49 : decode cX12_compares 49 = .ok (.aload_n 0, 1) := by decide +kernel
theorem dX12_compares_50 : decode cX12_compares 50 = .ok (.iload_n 1, 1) := by decide +kernel
theorem dX12_compares_51 : decode cX12_compares 51 = .ok (.iload_n 3, 1) := by decide +kernel
theorem dX12_compares_52 : decode cX12_compares 52 = .ok (.invokevirtual 10, 3) := by decide +kernel
theorem dX12_compares_55 : decode cX12_compares 55 = .ok (.aload_n 0, 1) := by decide +kernel
theorem dX12_compares_56 : decode cX12_compares 56 = .ok (.iload_n 2, 1) := by decide +kernel
theorem dX12_compares_57 : decode cX12_compares 57 = .ok (.iload_n 3, 1) := by decide +kernel
theorem dX12_compares_58 : decode cX12_compares 58 = .ok (.invokevirtual 10, 3) := by decide +kernel
theorem dX12_compares_61 : decode cX12_compares 61 = .ok (.if_icmp .eq 24, 3) := by decide +kernel
theorem dX12_compares_64 : decode cX12_compares 64 = .ok (.aload_n 0, 1) := by decide +kernel
theorem dX12_compares_65 : decode cX12_compares 65 = .ok (.iload_n 1, 1) := by decide +kernel
theorem dX12_compares_66 : decode cX12_compares 66 = .ok (.iload_n 3, 1) := by decide +kernel
theorem dX12_compares_67 : decode cX12_compares 67 = .ok (.invokevirtual 10, 3) := by decide +kernel
theorem dX12_compares_70 : decode cX12_compares 70 = .ok (.aload_n 0, 1) := by decide +kernel
theorem dX12_compares_71 : decode cX12_compares 71 = .ok (.iload_n 2, 1) := by decide +kernel
theorem dX12_compares_72 : decode cX12_compares 72 = .ok (.iload_n 3, 1) := by decide +kernel
theorem dX12_compares_73 : decode cX12_compares 73 = .ok (.invokevirtual 10, 3) := by decide +kernel
theorem dX12_compares_76 : decode cX12_compares 76 = .ok (.if_icmp .ge 7, 3) := by decide +kernel
theorem dX12_compares_79 : decode cX12_compares 79 = .ok (.iconst (-1), 1) := by decide +kernel
theorem dX12_compares_80 : decode cX12_compares 80 = .ok (.goto 4, 3) := by decide +kernel
theorem dX12_compares_83 : decode cX12_compares 83 = .ok (.iconst 1, 1) := by decide +kernel
theorem dX12_compares_84 : decode cX12_compares 84 = .ok (.ireturn, 1) := by decide +kernel
theorem dX12_compares_85 : decode cX12_compares 85 = .ok (.iinc 3 (-1), 3) := by decide +kernel
theorem dX12_compares_88 : decode cX12_compares 88 = .ok (.goto (-43), 3) := by decide +kernel
theorem dX12_compares_91 : decode cX12_compares 91 = .ok (.iconst 0, 1) := by decide +kernel
theorem dX12_compares_92 : decode cX12_compares 92 = .ok (.ireturn, 1) := by decide +kernel
theorem dX12_plus_0 : decode cX12_plus 0 = .ok (.aload_n 0, 1) := by decide +kernel
theorem dX12_plus_1 : decode cX12_plus 1 = .ok (.getfield 1, 3) := by decide +kernel
theorem dX12_plus_4 : decode cX12_plus 4 = .ok (.iload_n 1, 1) := by decide +kernel
theorem dX12_plus_5 : decode cX12_plus 5 = .ok (.iaload, 1) := by decide +kernel
theorem dX12_plus_6 : decode cX12_plus 6 = .ok (.aload_n 0, 1) := by decide +kernel
theorem dX12_plus_7 : decode cX12_plus 7 = .ok (.getfield 1, 3) := by decide +kernel
theorem dX12_plus_10 : decode cX12_plus 10 = .ok (.iload_n 2, 1) := by decide +kernel
theorem dX12_plus_11 : decode cX12_plus 11 = .ok (.iaload, 1) := by decide +kernel
theorem dX12_plus_12 : decode cX12_plus 12 = .ok (.if_icmp .le 12, 3) := by decide +kernel
theorem dX12_plus_15 : decode cX12_plus 15 = .ok (.aload_n 0, 1) := by decide +kernel
theorem dX12_plus_16 : decode cX12_plus 16 = .ok (.getfield 1, 3) := by decide +kernel
theorem dX12_plus_19 : decode cX12_plus 19 = .ok (.iload_n 1, 1) := by decide +kernel
theorem dX12_plus_20 : decode cX12_plus 20 = .ok (.iaload, 1) := by decide +kernel
theorem dX12_plus_21 : decode cX12_plus 21 = .ok (.goto 9, 3) := by decide +kernel
theorem dX12_plus_24 : decode cX12_plus 24 = .ok (.aload_n 0, 1) := by decide +kernel
theorem dX12_plus_25 : decode cX12_plus 25 = .ok (.getfield 1, 3) := by decide +kernel
theorem dX12_plus_28 : decode cX12_plus 28 = .ok (.iload_n 2, 1) := by decide +kernel
theorem dX12_plus_29 : decode cX12_plus 29 = .ok (.iaload, 1) := by decide +kernel
theorem dX12_plus_30 : decode cX12_plus 30 = .ok (.istore_n 3, 1) := by decide +kernel
theorem dX12_plus_31 : decode cX12_plus 31 = .ok (.iconst 0, 1) := by decide +kernel
theorem dX12_plus_32 : decode cX12_plus 32 = .ok (.istore 4, 2) := by decide +kernel
theorem dX12_plus_34 : decode cX12_plus 34 = .ok (.iconst 0, 1) := by decide +kernel
theorem dX12_plus_35 : decode cX12_plus 35 = .ok (.istore 5, 2) := by decide +kernel
theorem dX12_plus_37 : decode cX12_plus 37 = .ok (.iload 5, 2) := by decide +kernel
theorem dX12_plus_39 : decode cX12_plus 39 = .ok (.iload_n 3, 1) := by decide +kernel
theorem dX12_plus_40 : decode cX12_plus 40 = .ok (.if_icmp .lt 8, 3) := by decide +kernel
theorem dX12_plus_43 : decode cX12_plus 43 = .ok (.iload 4, 2) := by decide +kernel
theorem dX12_plus_45 : decode cX12_plus 45 = .ok (.ifCond .le 71, 3) := by decide +kernel
theorem dX12_plus_48 : decode cX12_plus 48 = .ok (.iload 4, 2) := by decide +kernel
theorem dX12_plus_50 : decode cX12_plus 50 = .ok (.aload_n 0, 1) := by decide +kernel
theorem dX12_plus_51 : decode cX12_plus 51 = .ok (.iload_n 1, 1) := by decide +kernel
theorem dX12_plus_52 : decode cX12_plus 52 = .ok (.iload 5, 2) := by decide +kernel
theorem dX12_plus_54 : decode cX12_plus 54 = .ok (.invokevirtual 10, 3) := by decide +kernel
theorem dX12_plus_57 : decode cX12_plus 57 = .ok (.iadd, 1) := by decide +kernel
theorem dX12_plus_58 : decode cX12_plus 58 = .ok (.aload_n 0, 1) := by decide +kernel
theorem dX12_plus_59 : decode cX12_plus 59 = .ok (.iload_n 2, 1) := by decide +kernel
theorem dX12_plus_60 : decode cX12_plus 60 = .ok (.iload 5, 2) := by decide +kernel
theorem dX12_plus_62 : decode cX12_plus 62 = .ok (.invokevirtual 10, 3) := by decide +kernel
theorem dX12_plus_65 : decode cX12_plus 65 = .ok (.iadd, 1) := by decide +kernel
theorem dX12_plus_66 : decode cX12_plus 66 = .ok (.istore 6, 2) := by decide +kernel
theorem dX12_plus_68 : decode cX12_plus 68 = .ok (.iload 5, 2) := by decide +kernel
theorem dX12_plus_70 : decode cX12_plus 70 = .ok (.aload_n 0, 1) := by decide +kernel
theorem dX12_plus_71 : decode cX12_plus 71 = .ok (.getfield 1, 3) := by decide +kernel
theorem dX12_plus_74 : decode cX12_plus 74 = .ok (.iload_n 1, 1) := by decide +kernel
theorem dX12_plus_75 : decode cX12_plus 75 = .ok (.iaload, 1) := by decide +kernel
theorem dX12_plus_76 : decode cX12_plus 76 = .ok (.if_icmp .ne 9, 3) := by decide +kernel
theorem dX12_plus_79 : decode cX12_plus 79 = .ok (.aload_n 0, 1) := by decide +kernel
theorem dX12_plus_80 : decode cX12_plus 80 = .ok (.iload_n 1, 1) := by decide +kernel
theorem dX12_plus_81 : decode cX12_plus 81 = .ok (.iconst 0, 1) := by decide +kernel
theorem dX12_plus_82 : decode cX12_plus 82 = .ok (.invokevirtual 16, 3) := by decide +kernel
theorem dX12_plus_85 : decode cX12_plus 85 = .ok (.aload_n 0, 1) := by decide +kernel
theorem dX12_plus_86 : decode cX12_plus 86 = .ok (.getfield 7, 3) := by decide +kernel
theorem dX12_plus_89 : decode cX12_plus 89 = .ok (.sipush 240, 3) := by decide +kernel
theorem dX12_plus_92 : decode cX12_plus 92 = .ok (.iload_n 1, 1) := by decide +kernel
theorem dX12_plus_93 : decode cX12_plus 93 = .ok (.imul, 1) := by decide +kernel
theorem dX12_plus_94 : decode cX12_plus 94 = .ok (.iload 5, 2) := by decide +kernel
theorem dX12_plus_96 : decode cX12_plus 96 = .ok (.iadd, 1) := by decide +kernel
theorem dX12_plus_97 : decode cX12_plus 97 = .ok (.iload 6, 2) := by decide +kernel
theorem dX12_plus_99 : decode cX12_plus 99 = .ok (.bipush 10, 2) := by decide +kernel
theorem dX12_plus_101 : decode cX12_plus 101 = .ok (.irem, 1) := by decide +kernel
theorem dX12_plus_102 : decode cX12_plus 102 = .ok (.iastore, 1) := by decide +kernel
theorem dX12_plus_103 : decode cX12_plus 103 = .ok (.iload 6, 2) := by decide +kernel
theorem dX12_plus_105 : decode cX12_plus 105 = .ok (.bipush 10, 2) := by decide +kernel
theorem dX12_plus_107 : decode cX12_plus 107 = .ok (.idiv, 1) := by decide +kernel
theorem dX12_plus_108 : decode cX12_plus 108 = .ok (.istore 4, 2) := by decide +kernel
theorem dX12_plus_110 : decode cX12_plus 110 = .ok (.iinc 5 1, 3) := by decide +kernel
theorem dX12_plus_113 : decode cX12_plus 113 = .ok (.goto (-76), 3) := by decide +kernel
theorem dX12_plus_116 : decode cX12_plus 116 = .ok (.return_, 1) := by decide +kernel
theorem dX12_less_0 : decode cX12_less 0 = .ok (.iconst 0, 1) := by decide +kernel
theorem dX12_less_1 : decode cX12_less 1 = .ok (.istore_n 3, 1) := by decide +kernel
theorem dX12_less_2 : decode cX12_less 2 = .ok (.iconst 0, 1) := by decide +kernel
theorem dX12_less_3 : decode cX12_less 3 = .ok (.istore 4, 2) := by decide +kernel
theorem dX12_less_5 : decode cX12_less 5 = .ok (.iload 4, 2) := by decide +kernel
theorem dX12_less_7 : decode cX12_less 7 = .ok (.aload_n 0, 1) := by decide +kernel
theorem dX12_less_8 : decode cX12_less 8 = .ok (.getfield 1, 3) := by decide +kernel
theorem dX12_less_11 : decode cX12_less 11 = .ok (.iload_n 1, 1) := by decide +kernel
theorem dX12_less_12 : decode cX12_less 12 = .ok (.iaload, 1) := by decide +kernel
theorem dX12_less_13 : decode cX12_less 13 = .ok (.if_icmp .ge 67, 3) := by decide +kernel
theorem dX12_less_16 : decode cX12_less 16 = .ok (.aload_n 0, 1) := by decide +kernel
theorem dX12_less_17 : decode cX12_less 17 = .ok (.iload_n 1, 1) := by decide +kernel
theorem dX12_less_18 : decode cX12_less 18 = .ok (.iload 4, 2) := by decide +kernel
theorem dX12_less_20 : decode cX12_less 20 = .ok (.invokevirtual 10, 3) := by decide +kernel
theorem dX12_less_23 : decode cX12_less 23 = .ok (.iload_n 3, 1) := by decide +kernel
theorem dX12_less_24 : decode cX12_less 24 = .ok (.isub, 1) := by decide +kernel
theorem dX12_less_25 : decode cX12_less 25 = .ok (.aload_n 0, 1) := by decide +kernel
theorem dX12_less_26 : decode cX12_less 26 = .ok (.iload_n 2, 1) := by decide +kernel
theorem dX12_less_27 : decode cX12_less 27 = .ok (.iload 4, 2) := by decide +kernel
theorem dX12_less_29 : decode cX12_less 29 = .ok (.invokevirtual 10, 3) := by decide +kernel
theorem dX12_less_32 : decode cX12_less 32 = .ok (.isub, 1) := by decide +kernel
theorem dX12_less_33 : decode cX12_less 33 = .ok (.istore 5, 2) := by decide +kernel
theorem dX12_less_35 : decode cX12_less 35 = .ok (.iload 5, 2) := by decide +kernel
theorem dX12_less_37 : decode cX12_less 37 = .ok (.ifCond .ge 7, 3) := by decide +kernel
theorem dX12_less_40 : decode cX12_less 40 = .ok (.iconst 1, 1) := by decide +kernel
theorem dX12_less_41 : decode cX12_less 41 = .ok (.goto 4, 3) := by decide +kernel
theorem dX12_less_44 : decode cX12_less 44 = .ok (.iconst 0, 1) := by decide +kernel
theorem dX12_less_45 : decode cX12_less 45 = .ok (.istore_n 3, 1) := by decide +kernel
theorem dX12_less_46 : decode cX12_less 46 = .ok (.aload_n 0, 1) := by decide +kernel
theorem dX12_less_47 : decode cX12_less 47 = .ok (.getfield 7, 3) := by decide +kernel
theorem dX12_less_50 : decode cX12_less 50 = .ok (.sipush 240, 3) := by decide +kernel
theorem dX12_less_53 : decode cX12_less 53 = .ok (.iload_n 1, 1) := by decide +kernel
theorem dX12_less_54 : decode cX12_less 54 = .ok (.imul, 1) := by decide +kernel
theorem dX12_less_55 : decode cX12_less 55 = .ok (.iload 4, 2) := by decide +kernel
theorem dX12_less_57 : decode cX12_less 57 = .ok (.iadd, 1) := by decide +kernel
theorem dX12_less_58 : decode cX12_less 58 = .ok (.iload 5, 2) := by decide +kernel
theorem dX12_less_60 : decode cX12_less 60 = .ok (.ifCond .ge 11, 3) := by decide +kernel
theorem dX12_less_63 : decode cX12_less 63 = .ok (.iload 5, 2) := by decide +kernel
theorem dX12_less_65 : decode cX12_less 65 = .ok (.bipush 10, 2) := by decide +kernel
theorem dX12_less_67 : decode cX12_less 67 = .ok (.iadd, 1) := by decide +kernel
theorem dX12_less_68 : decode cX12_less 68 = .ok (.goto 5, 3) := by decide +kernel
theorem dX12_less_71 : decode cX12_less 71 = .ok (.iload 5, 2) := by decide +kernel
theorem dX12_less_73 : decode cX12_less 73 = .ok (.iastore, 1) := by decide +kernel
theorem dX12_less_74 : decode cX12_less 74 = .ok (.iinc 4 1, 3) := by decide +kernel
theorem dX12_less_77 : decode cX12_less 77 = .ok (.goto (-72), 3) := by decide +kernel
theorem dX12_less_80 : decode cX12_less 80 = .ok (.aload_n 0, 1) := by decide +kernel
theorem dX12_less_81 : decode cX12_less 81 = .ok (.iload_n 1, 1) := by decide +kernel
theorem dX12_less_82 : decode cX12_less 82 = .ok (.invokevirtual 20, 3) := by decide +kernel
theorem dX12_less_85 : decode cX12_less 85 = .ok (.return_, 1) := by decide +kernel
theorem dX12_times_0 : decode cX12_times 0 = .ok (.aload_n 0, 1) := by decide +kernel
theorem dX12_times_1 : decode cX12_times 1 = .ok (.getfield 1, 3) := by decide +kernel
theorem dX12_times_4 : decode cX12_times 4 = .ok (.bipush 7, 2) := by decide +kernel
theorem dX12_times_6 : decode cX12_times 6 = .ok (.iconst 0, 1) := by decide +kernel
theorem dX12_times_7 : decode cX12_times 7 = .ok (.iastore, 1) := by decide +kernel
theorem dX12_times_8 : decode cX12_times 8 = .ok (.iconst 0, 1) := by decide +kernel
theorem dX12_times_9 : decode cX12_times 9 = .ok (.istore_n 3, 1) := by decide +kernel
theorem dX12_times_10 : decode cX12_times 10 = .ok (.iload_n 3, 1) := by decide +kernel
theorem dX12_times_11 : decode cX12_times 11 = .ok (.aload_n 0, 1) := by decide +kernel
theorem dX12_times_12 : decode cX12_times 12 = .ok (.getfield 1, 3) := by decide +kernel
theorem dX12_times_15 : decode cX12_times 15 = .ok (.iload_n 1, 1) := by decide +kernel
theorem dX12_times_16 : decode cX12_times 16 = .ok (.iaload, 1) := by decide +kernel
theorem dX12_times_17 : decode cX12_times 17 = .ok (.if_icmp .ge 103, 3) := by decide +kernel
theorem dX12_times_20 : decode cX12_times 20 = .ok (.aload_n 0, 1) := by decide +kernel
theorem dX12_times_21 : decode cX12_times 21 = .ok (.getfield 1, 3) := by decide +kernel
theorem dX12_times_24 : decode cX12_times 24 = .ok (.bipush 6, 2) := by decide +kernel
theorem dX12_times_26 : decode cX12_times 26 = .ok (.iconst 0, 1) := by decide +kernel
theorem dX12_times_27 : decode cX12_times 27 = .ok (.iastore, 1) := by decide +kernel
theorem dX12_times_28 : decode cX12_times 28 = .ok (.iconst 0, 1) := by decide +kernel
theorem dX12_times_29 : decode cX12_times 29 = .ok (.istore 4, 2) := by decide +kernel
theorem dX12_times_31 : decode cX12_times 31 = .ok (.iconst 0, 1) := by decide +kernel
theorem dX12_times_32 : decode cX12_times 32 = .ok (.istore 5, 2) := by decide +kernel
theorem dX12_times_34 : decode cX12_times 34 = .ok (.iload 5, 2) := by decide +kernel
theorem dX12_times_36 : decode cX12_times 36 = .ok (.aload_n 0, 1) := by decide +kernel
theorem dX12_times_37 : decode cX12_times 37 = .ok (.getfield 1, 3) := by decide +kernel
theorem dX12_times_40 : decode cX12_times 40 = .ok (.iload_n 2, 1) := by decide +kernel
theorem dX12_times_41 : decode cX12_times 41 = .ok (.iaload, 1) := by decide +kernel
theorem dX12_times_42 : decode cX12_times 42 = .ok (.if_icmp .lt 8, 3) := by decide +kernel
theorem dX12_times_45 : decode cX12_times 45 = .ok (.iload 4, 2) := by decide +kernel
theorem dX12_times_47 : decode cX12_times 47 = .ok (.ifCond .le 46, 3) := by decide +kernel
theorem dX12_times_50 : decode cX12_times 50 = .ok (.iload 4, 2) := by decide +kernel
theorem dX12_times_52 : decode cX12_times 52 = .ok (.aload_n 0, 1) := by decide +kernel
theorem dX12_times_53 : decode cX12_times 53 = .ok (.iload_n 1, 1) := by decide +kernel
theorem dX12_times_54 : decode cX12_times 54 = .ok (.iload_n 3, 1) := by decide +kernel
theorem dX12_times_55 : decode cX12_times 55 = .ok (.invokevirtual 10, 3) := by decide +kernel
theorem dX12_times_58 : decode cX12_times 58 = .ok (.aload_n 0, 1) := by decide +kernel
theorem dX12_times_59 : decode cX12_times 59 = .ok (.iload_n 2, 1) := by decide +kernel
theorem dX12_times_60 : decode cX12_times 60 = .ok (.iload 5, 2) := by decide +kernel
theorem dX12_times_62 : decode cX12_times 62 = .ok (.invokevirtual 10, 3) := by decide +kernel
theorem dX12_times_65 : decode cX12_times 65 = .ok (.imul, 1) := by decide +kernel
theorem dX12_times_66 : decode cX12_times 66 = .ok (.iadd, 1) := by decide +kernel
theorem dX12_times_67 : decode cX12_times 67 = .ok (.istore 6, 2) := by decide +kernel
theorem dX12_times_69 : decode cX12_times 69 = .ok (.aload_n 0, 1) := by decide +kernel
theorem dX12_times_70 : decode cX12_times 70 = .ok (.bipush 6, 2) := by decide +kernel
theorem dX12_times_72 : decode cX12_times 72 = .ok (.iload 6, 2) := by decide +kernel
theorem dX12_times_74 : decode cX12_times 74 = .ok (.bipush 10, 2) := by decide +kernel
theorem dX12_times_76 : decode cX12_times 76 = .ok (.irem, 1) := by decide +kernel
theorem dX12_times_77 : decode cX12_times 77 = .ok (.invokevirtual 16, 3) := by decide +kernel
theorem dX12_times_80 : decode cX12_times 80 = .ok (.iload 6, 2) := by decide +kernel
theorem dX12_times_82 : decode cX12_times 82 = .ok (.bipush 10, 2) := by decide +kernel
theorem dX12_times_84 : decode cX12_times 84 = .ok (.idiv, 1) := by decide +kernel
theorem dX12_times_85 : decode cX12_times 85 = .ok (.istore 4, 2) := by decide +kernel
theorem dX12_times_87 : decode cX12_times 87 = .ok (.iinc 5 1, 3) := by decide +kernel
theorem dX12_times_90 : decode cX12_times 90 = .ok (.goto (-56), 3) := by decide +kernel
theorem dX12_times_93 : decode cX12_times 93 = .ok (.aload_n 0, 1) := by decide +kernel
theorem dX12_times_94 : decode cX12_times 94 = .ok (.bipush 6, 2) := by decide +kernel
theorem dX12_times_96 : decode cX12_times 96 = .ok (.invokevirtual 20, 3) := by decide +kernel
theorem dX12_times_99 : decode cX12_times 99 = .ok (.aload_n 0, 1) := by decide +kernel
theorem dX12_times_100 : decode cX12_times 100 = .ok (.bipush 6, 2) := by decide +kernel
theorem dX12_times_102 : decode cX12_times 102 = .ok (.iload_n 3, 1) := by decide +kernel
theorem dX12_times_103 : decode cX12_times 103 = .ok (.invokevirtual 24, 3) := by decide +kernel
theorem dX12_times_106 : decode cX12_times 106 = .ok (.aload_n 0, 1) := by decide +kernel
theorem dX12_times_107 : decode cX12_times 107 = .ok (.bipush 7, 2) := by decide +kernel
theorem dX12_times_109 : decode cX12_times 109 = .ok (.bipush 6, 2) := by decide +kernel
theorem dX12_times_111 : decode cX12_times 111 = .ok (.invokevirtual 27, 3) := by decide +kernel
theorem dX12_times_114 : decode cX12_times 114 = .ok (.iinc 3 1, 3) := by decide +kernel
theorem dX12_times_117 : decode cX12_times 117 = .ok (.goto (-107), 3) := by decide +kernel
theorem dX12_times_120 : decode cX12_times 120 = .ok (.aload_n 0, 1) := by decide +kernel
theorem dX12_times_121 : decode cX12_times 121 = .ok (.bipush 7, 2) := by decide +kernel
theorem dX12_times_123 : decode cX12_times 123 = .ok (.iload_n 1, 1) := by decide +kernel
theorem dX12_times_124 : decode cX12_times 124 = .ok (.invokevirtual 30, 3) := by decide +kernel
theorem dX12_times_127 : decode cX12_times 127 = .ok (.return_, 1) := by decide +kernel
theorem dX12_divides_0 : decode cX12_divides 0 = .ok (.aload_n 0, 1) := by decide +kernel
theorem dX12_divides_1 : decode cX12_divides 1 = .ok (.getfield 1, 3) := by decide +kernel
theorem dX12_divides_4 : decode cX12_divides 4 = .ok (.iconst 3, 1) := by decide +kernel
theorem dX12_divides_5 : decode cX12_divides 5 = .ok (.iconst 0, 1) := by decide +kernel
theorem dX12_divides_6 : decode cX12_divides 6 = .ok (.iastore, 1) := by decide +kernel
theorem dX12_divides_7 : decode cX12_divides 7 = .ok (.aload_n 0, 1) := by decide +kernel
theorem dX12_divides_8 : decode cX12_divides 8 = .ok (.getfield 1, 3) := by decide +kernel
theorem dX12_divides_11 : decode cX12_divides 11 = .ok (.iconst 2, 1) := by decide +kernel
theorem dX12_divides_12 : decode cX12_divides 12 = .ok (.aload_n 0, 1) := by decide +kernel
theorem dX12_divides_13 : decode cX12_divides 13 = .ok (.getfield 1, 3) := by decide +kernel
theorem dX12_divides_16 : decode cX12_divides 16 = .ok (.iconst 0, 1) := by decide +kernel
theorem dX12_divides_17 : decode cX12_divides 17 = .ok (.iaload, 1) := by decide +kernel
theorem dX12_divides_18 : decode cX12_divides 18 = .ok (.iastore, 1) := by decide +kernel
theorem dX12_divides_19 : decode cX12_divides 19 = .ok (.aload_n 0, 1) := by decide +kernel
theorem dX12_divides_20 : decode cX12_divides 20 = .ok (.getfield 1, 3) := by decide +kernel
theorem dX12_divides_23 : decode cX12_divides 23 = .ok (.iconst 0, 1) := by decide +kernel
theorem dX12_divides_24 : decode cX12_divides 24 = .ok (.iaload, 1) := by decide +kernel
theorem dX12_divides_25 : decode cX12_divides 25 = .ok (.iconst 1, 1) := by decide +kernel
theorem dX12_divides_26 : decode cX12_divides 26 = .ok (.isub, 1) := by decide +kernel
theorem dX12_divides_27 : decode cX12_divides 27 = .ok (.istore_n 1, 1) := by decide +kernel
theorem dX12_divides_28 : decode cX12_divides 28 = .ok (.iload_n 1, 1) := by decide +kernel
theorem dX12_divides_29 : decode cX12_divides 29 = .ok (.ifCond .lt 69, 3) := by decide +kernel
theorem dX12_divides_32 : decode cX12_divides 32 = .ok (.aload_n 0, 1) := by decide +kernel
theorem dX12_divides_33 : decode cX12_divides 33 = .ok (.iconst 3, 1) := by decide +kernel
theorem dX12_divides_34 : decode cX12_divides 34 = .ok (.iconst 1, 1) := by decide +kernel
theorem dX12_divides_35 : decode cX12_divides 35 = .ok (.invokevirtual 24, 3) := by decide +kernel
theorem dX12_divides_38 : decode cX12_divides 38 = .ok (.aload_n 0, 1) := by decide +kernel
theorem dX12_divides_39 : decode cX12_divides 39 = .ok (.bipush 8, 2) := by decide +kernel
theorem dX12_divides_41 : decode cX12_divides 41 = .ok (.aload_n 0, 1) := by decide +kernel
theorem dX12_divides_42 : decode cX12_divides 42 = .ok (.iconst 0, 1) := by decide +kernel
theorem dX12_divides_43 : decode cX12_divides 43 = .ok (.iload_n 1, 1) := by decide +kernel
theorem dX12_divides_44 : decode cX12_divides 44 = .ok (.invokevirtual 10, 3) := by decide +kernel
theorem dX12_divides_47 : decode cX12_divides 47 = .ok (.i2l, 1) := by decide +kernel
theorem dX12_divides_48 : decode cX12_divides 48 = .ok (.invokevirtual 33, 3) := by decide +kernel
theorem dX12_divides_51 : decode cX12_divides 51 = .ok (.aload_n 0, 1) := by decide +kernel
theorem dX12_divides_52 : decode cX12_divides 52 = .ok (.iconst 3, 1) := by decide +kernel
theorem dX12_divides_53 : decode cX12_divides 53 = .ok (.bipush 8, 2) := by decide +kernel
theorem dX12_divides_55 : decode cX12_divides 55 = .ok (.invokevirtual 27, 3) := by decide +kernel
theorem dX12_divides_58 : decode cX12_divides 58 = .ok (.iconst 0, 1) := by decide +kernel
theorem dX12_divides_59 : decode cX12_divides 59 = .ok (.istore_n 2, 1) := by decide +kernel
theorem dX12_divides_60 : decode cX12_divides 60 = .ok (.aload_n 0, 1) := by decide +kernel
theorem dX12_divides_61 : decode cX12_divides 61 = .ok (.iconst 3, 1) := by decide +kernel
theorem dX12_divides_62 : decode cX12_divides 62 = .ok (.iconst 1, 1) := by decide +kernel
theorem dX12_divides_63 : decode cX12_divides 63 = .ok (.invokevirtual 37, 3) := by decide +kernel
theorem dX12_divides_66 : decode cX12_divides 66 = .ok (.ifCond .lt 15, 3) := by decide +kernel
theorem dX12_divides_69 : decode cX12_divides 69 = .ok (.aload_n 0, 1) := by decide +kernel
theorem dX12_divides_70 : decode cX12_divides 70 = .ok (.iconst 3, 1) := by decide +kernel
theorem dX12_divides_71 : decode cX12_divides 71 = .ok (.iconst 1, 1) := by decide +kernel
theorem dX12_divides_72 : decode cX12_divides 72 = .ok (.invokevirtual 40, 3) := by decide +kernel
theorem dX12_divides_75 : decode cX12_divides 75 = .ok (.iinc 2 1, 3) := by decide +kernel
theorem dX12_divides_78 : decode cX12_divides 78 = .ok (.goto (-18), 3) := by decide +kernel
theorem dX12_divides_81 : decode cX12_divides 81 = .ok (.aload_n 0, 1) := by decide +kernel
theorem dX12_divides_82 : decode cX12_divides 82 = .ok (.getfield 7, 3) := by decide +kernel
theorem dX12_divides_85 : decode cX12_divides 85 = .ok (.sipush 480, 3) := by decide +kernel
theorem dX12_divides_88 : decode cX12_divides 88 = .ok (.iload_n 1, 1) := by decide +kernel
theorem dX12_divides_89 : decode cX12_divides 89 = .ok (.iadd, 1) := by decide +kernel
theorem dX12_divides_90 : decode cX12_divides 90 = .ok (.iload_n 2, 1) := by decide +kernel
theorem dX12_divides_91 : decode cX12_divides 91 = .ok (.iastore, 1) := by decide +kernel
theorem dX12_divides_92 : decode cX12_divides 92 = .ok (.iinc 1 (-1), 3) := by decide +kernel
theorem dX12_divides_95 : decode cX12_divides 95 = .ok (.goto (-67), 3) := by decide +kernel
theorem dX12_divides_98 : decode cX12_divides 98 = .ok (.aload_n 0, 1) := by decide +kernel
theorem dX12_divides_99 : decode cX12_divides 99 = .ok (.iconst 2, 1) := by decide +kernel
theorem dX12_divides_100 : decode cX12_divides 100 = .ok (.invokevirtual 20, 3) := by decide +kernel
theorem dX12_divides_103 : decode cX12_divides 103 = .ok (.return_, 1) := by decide +kernel
theorem dX12_rounds_0 : decode cX12_rounds 0 = .ok (.aload_n 0, 1) := by decide +kernel
theorem dX12_rounds_1 : decode cX12_rounds 1 = .ok (.invokevirtual 43, 3) := by decide +kernel
theorem dX12_rounds_4 : decode cX12_rounds 4 = .ok (.aload_n 0, 1) := by decide +kernel
theorem dX12_rounds_5 : decode cX12_rounds 5 = .ok (.iconst 3, 1) := by decide +kernel
theorem dX12_rounds_6 : decode cX12_rounds 6 = .ok (.bipush 9, 2) := by decide +kernel
theorem dX12_rounds_8 : decode cX12_rounds 8 = .ok (.invokevirtual 30, 3) := by decide +kernel
theorem dX12_rounds_11 : decode cX12_rounds 11 = .ok (.aload_n 0, 1) := by decide +kernel
theorem dX12_rounds_12 : decode cX12_rounds 12 = .ok (.bipush 9, 2) := by decide +kernel
theorem dX12_rounds_14 : decode cX12_rounds 14 = .ok (.iconst 3, 1) := by decide +kernel
theorem dX12_rounds_15 : decode cX12_rounds 15 = .ok (.invokevirtual 27, 3) := by decide +kernel
theorem dX12_rounds_18 : decode cX12_rounds 18 = .ok (.aload_n 0, 1) := by decide +kernel
theorem dX12_rounds_19 : decode cX12_rounds 19 = .ok (.bipush 9, 2) := by decide +kernel
theorem dX12_rounds_21 : decode cX12_rounds 21 = .ok (.iconst 1, 1) := by decide +kernel
theorem dX12_rounds_22 : decode cX12_rounds 22 = .ok (.invokevirtual 37, 3) := by decide +kernel
theorem dX12_rounds_25 : decode cX12_rounds 25 = .ok (.istore_n 3, 1) := by decide +kernel
theorem dX12_rounds_26 : decode cX12_rounds 26 = .ok (.aload_n 0, 1) := by decide +kernel
theorem dX12_rounds_27 : decode cX12_rounds 27 = .ok (.iconst 2, 1) := by decide +kernel
theorem dX12_rounds_28 : decode cX12_rounds 28 = .ok (.iconst 0, 1) := by decide +kernel
theorem dX12_rounds_29 : decode cX12_rounds 29 = .ok (.invokevirtual 10, 3) := by decide +kernel
theorem dX12_rounds_32 : decode cX12_rounds 32 = .ok (.iconst 2, 1) := by decide +kernel
theorem dX12_rounds_33 : decode cX12_rounds 33 = .ok (.irem, 1) := by decide +kernel
theorem dX12_rounds_34 : decode cX12_rounds 34 = .ok (.iconst 1, 1) := by decide +kernel
theorem dX12_rounds_35 : decode cX12_rounds 35 = .ok (.if_icmp .ne 7, 3) := by decide +kernel
theorem dX12_rounds_38 : decode cX12_rounds 38 = .ok (.iconst 1, 1) := by decide +kernel
theorem dX12_rounds_39 : decode cX12_rounds 39 = .ok (.goto 4, 3) := by decide +kernel
theorem dX12_rounds_42 : decode cX12_rounds 42 = .ok (.iconst 0, 1) := by decide +kernel
theorem dX12_rounds_43 : decode cX12_rounds 43 = .ok (.istore 4, 2) := by decide +kernel
theorem dX12_rounds_45 : decode cX12_rounds 45 = .ok (.iload_n 2, 1) := by decide +kernel
theorem dX12_rounds_46 : decode cX12_rounds 46 = .ok (.tableswitch 167 99 117 #[96, 167, 144, 110, 167, 116, 167, 167, 167, 130, 167, 167, 167, 167, 167, 167, 167, 167, 90], 90) := by decide +kernel
theorem dX12_rounds_136 : decode cX12_rounds 136 = .ok (.iconst 1, 1) := by decide +kernel
theorem dX12_rounds_137 : decode cX12_rounds 137 = .ok (.istore 5, 2) := by decide +kernel
theorem dX12_rounds_139 : decode cX12_rounds 139 = .ok (.goto 77, 3) := by decide +kernel
theorem dX12_rounds_142 : decode cX12_rounds 142 = .ok (.iload_n 1, 1) := by decide +kernel
theorem dX12_rounds_143 : decode cX12_rounds 143 = .ok (.ifCond .ne 7, 3) := by decide +kernel
theorem dX12_rounds_146 : decode cX12_rounds 146 = .ok (.iconst 1, 1) := by decide +kernel
theorem dX12_rounds_147 : decode cX12_rounds 147 = .ok (.goto 4, 3) := by decide +kernel
theorem dX12_rounds_150 : decode cX12_rounds 150 = .ok (.iconst 0, 1) := by decide +kernel
theorem dX12_rounds_151 : decode cX12_rounds 151 = .ok (.istore 5, 2) := by decide +kernel
theorem dX12_rounds_153 : decode cX12_rounds 153 = .ok (.goto 63, 3) := by decide +kernel
theorem dX12_rounds_156 : decode cX12_rounds 156 = .ok (.iload_n 1, 1) := by decide +kernel
theorem dX12_rounds_157 : decode cX12_rounds 157 = .ok (.istore 5, 2) := by decide +kernel
theorem dX12_rounds_159 : decode cX12_rounds 159 = .ok (.goto 57, 3) := by decide +kernel
theorem dX12_rounds_162 : decode cX12_rounds 162 = .ok (.iload_n 3, 1) := by decide +kernel
theorem dX12_rounds_163 : decode cX12_rounds 163 = .ok (.ifCond .lt 7, 3) := by decide +kernel
theorem dX12_rounds_166 : decode cX12_rounds 166 = .ok (.iconst 1, 1) := by decide +kernel
theorem dX12_rounds_167 : decode cX12_rounds 167 = .ok (.goto 4, 3) := by decide +kernel
theorem dX12_rounds_170 : decode cX12_rounds 170 = .ok (.iconst 0, 1) := by decide +kernel
theorem dX12_rounds_171 : decode cX12_rounds 171 = .ok (.istore 5, 2) := by decide +kernel
theorem dX12_rounds_173 : decode cX12_rounds 173 = .ok (.goto 43, 3) := by decide +kernel
theorem dX12_rounds_176 : decode cX12_rounds 176 = .ok (.iload_n 3, 1) := by decide +kernel
theorem dX12_rounds_177 : decode cX12_rounds 177 = .ok (.ifCond .le 7, 3) := by decide +kernel
theorem dX12_rounds_180 : decode cX12_rounds 180 = .ok (.iconst 1, 1) := by decide +kernel
theorem dX12_rounds_181 : decode cX12_rounds 181 = .ok (.goto 4, 3) := by decide +kernel
theorem dX12_rounds_184 : decode cX12_rounds 184 = .ok (.iconst 0, 1) := by decide +kernel
theorem dX12_rounds_185 : decode cX12_rounds 185 = .ok (.istore 5, 2) := by decide +kernel
theorem dX12_rounds_187 : decode cX12_rounds 187 = .ok (.goto 29, 3) := by decide +kernel
theorem dX12_rounds_190 : decode cX12_rounds 190 = .ok (.iload_n 3, 1) := by decide +kernel
theorem dX12_rounds_191 : decode cX12_rounds 191 = .ok (.ifCond .gt 12, 3) := by decide +kernel
theorem dX12_rounds_194 : decode cX12_rounds 194 = .ok (.iload_n 3, 1) := by decide +kernel
theorem dX12_rounds_195 : decode cX12_rounds 195 = .ok (.ifCond .ne 12, 3) := by decide +kernel
theorem dX12_rounds_198 : decode cX12_rounds 198 = .ok (.iload 4, 2) := by decide +kernel
theorem dX12_rounds_200 : decode cX12_rounds 200 = .ok (.ifCond .eq 7, 3) := by decide +kernel
theorem dX12_rounds_203 : decode cX12_rounds 203 = .ok (.iconst 1, 1) := by decide +kernel
theorem dX12_rounds_204 : decode cX12_rounds 204 = .ok (.goto 4, 3) := by decide +kernel
theorem dX12_rounds_207 : decode cX12_rounds 207 = .ok (.iconst 0, 1) := by decide +kernel
theorem dX12_rounds_208 : decode cX12_rounds 208 = .ok (.istore 5, 2) := by decide +kernel
theorem dX12_rounds_210 : decode cX12_rounds 210 = .ok (.goto 6, 3) := by decide +kernel
theorem dX12_rounds_213 : decode cX12_rounds 213 = .ok (.iconst 0, 1) := by decide +kernel
theorem dX12_rounds_214 : decode cX12_rounds 214 = .ok (.istore 5, 2) := by decide +kernel
theorem dX12_rounds_216 : decode cX12_rounds 216 = .ok (.aload_n 0, 1) := by decide +kernel
theorem dX12_rounds_217 : decode cX12_rounds 217 = .ok (.getfield 1, 3) := by decide +kernel
theorem dX12_rounds_220 : decode cX12_rounds 220 = .ok (.iconst 3, 1) := by decide +kernel
theorem dX12_rounds_221 : decode cX12_rounds 221 = .ok (.iaload, 1) := by decide +kernel
theorem dX12_rounds_222 : decode cX12_rounds 222 = .ok (.ifCond .ne 4, 3) := by decide +kernel
theorem dX12_rounds_225 : decode cX12_rounds 225 = .ok (.return_, 1) := by decide +kernel
theorem dX12_rounds_226 : decode cX12_rounds 226 = .ok (.aload_n 0, 1) := by decide +kernel
theorem dX12_rounds_227 : decode cX12_rounds 227 = .ok (.dup, 1) := by decide +kernel
theorem dX12_rounds_228 : decode cX12_rounds 228 = .ok (.getfield 47, 3) := by decide +kernel
theorem dX12_rounds_231 : decode cX12_rounds 231 = .ok (.iload_n 2, 1) := by decide +kernel
theorem dX12_rounds_232 : decode cX12_rounds 232 = .ok (.bipush 110, 2) := by decide +kernel
theorem dX12_rounds_234 : decode cX12_rounds 234 = .ok (.if_icmp .ne 7, 3) := by decide +kernel
theorem dX12_rounds_237 : decode cX12_rounds 237 = .ok (.iconst 1, 1) := by decide +kernel
theorem dX12_rounds_238 : decode cX12_rounds 238 = .ok (.goto 4, 3) := by decide +kernel
theorem dX12_rounds_241 : decode cX12_rounds 241 = .ok (.iconst 0, 1) := by decide +kernel
theorem dX12_rounds_242 : decode cX12_rounds 242 = .ok (.ior, 1) := by decide +kernel
theorem dX12_rounds_243 : decode cX12_rounds 243 = .ok (.putfield 47, 3) := by decide +kernel
theorem dX12_rounds_246 : decode cX12_rounds 246 = .ok (.aload_n 0, 1) := by decide +kernel
theorem dX12_rounds_247 : decode cX12_rounds 247 = .ok (.bipush 8, 2) := by decide +kernel
theorem dX12_rounds_249 : decode cX12_rounds 249 = .ok (.lconst 1, 1) := by decide +kernel
theorem dX12_rounds_250 : decode cX12_rounds 250 = .ok (.invokevirtual 33, 3) := by decide +kernel
theorem dX12_rounds_253 : decode cX12_rounds 253 = .ok (.iload 5, 2) := by decide +kernel
theorem dX12_rounds_255 : decode cX12_rounds 255 = .ok (.ifCond .eq 10, 3) := by decide +kernel
theorem dX12_rounds_258 : decode cX12_rounds 258 = .ok (.aload_n 0, 1) := by decide +kernel
theorem dX12_rounds_259 : decode cX12_rounds 259 = .ok (.iconst 2, 1) := by decide +kernel
theorem dX12_rounds_260 : decode cX12_rounds 260 = .ok (.bipush 8, 2) := by decide +kernel
theorem dX12_rounds_262 : decode cX12_rounds 262 = .ok (.invokevirtual 27, 3) := by decide +kernel
theorem dX12_rounds_265 : decode cX12_rounds 265 = .ok (.return_, 1) := by decide +kernel
theorem dX12_value_0 : decode cX12_value 0 = .ok (.lconst 0, 1) := by decide +kernel
theorem dX12_value_1 : decode cX12_value 1 = .ok (.lstore_n 2, 1) := by decide +kernel
theorem dX12_value_2 : decode cX12_value 2 = .ok (.aload_n 0, 1) := by decide +kernel
theorem dX12_value_3 : decode cX12_value 3 = .ok (.getfield 1, 3) := by decide +kernel
theorem dX12_value_6 : decode cX12_value 6 = .ok (.iload_n 1, 1) := by decide +kernel
theorem dX12_value_7 : decode cX12_value 7 = .ok (.iaload, 1) := by decide +kernel
theorem dX12_value_8 : decode cX12_value 8 = .ok (.iconst 1, 1) := by decide +kernel
theorem dX12_value_9 : decode cX12_value 9 = .ok (.isub, 1) := by decide +kernel
theorem dX12_value_10 : decode cX12_value 10 = .ok (.istore 4, 2) := by decide +kernel
theorem dX12_value_12 : decode cX12_value 12 = .ok (.iload 4, 2) := by decide +kernel
theorem dX12_value_14 : decode cX12_value 14 = .ok (.ifCond .lt 24, 3) := by decide +kernel
theorem dX12_value_17 : decode cX12_value 17 = .ok (.ldc2_w 14, 3) := by decide +kernel
theorem dX12_value_20 : decode cX12_value 20 = .ok (.lload_n 2, 1) := by decide +kernel
theorem dX12_value_21 : decode cX12_value 21 = .ok (.lmul, 1) := by decide +kernel
theorem dX12_value_22 : decode cX12_value 22 = .ok (.aload_n 0, 1) := by decide +kernel
theorem dX12_value_23 : decode cX12_value 23 = .ok (.iload_n 1, 1) := by decide +kernel
theorem dX12_value_24 : decode cX12_value 24 = .ok (.iload 4, 2) := by decide +kernel
theorem dX12_value_26 : decode cX12_value 26 = .ok (.invokevirtual 10, 3) := by decide +kernel
theorem dX12_value_29 : decode cX12_value 29 = .ok (.i2l, 1) := by decide +kernel
theorem dX12_value_30 : decode cX12_value 30 = .ok (.ladd, 1) := by decide +kernel
theorem dX12_value_31 : decode cX12_value 31 = .ok (.lstore_n 2, 1) := by decide +kernel
theorem dX12_value_32 : decode cX12_value 32 = .ok (.iinc 4 (-1), 3) := by decide +kernel
theorem dX12_value_35 : decode cX12_value 35 = .ok (.goto (-23), 3) := by decide +kernel
theorem dX12_value_38 : decode cX12_value 38 = .ok (.lload_n 2, 1) := by decide +kernel
theorem dX12_value_39 : decode cX12_value 39 = .ok (.lreturn, 1) := by decide +kernel
theorem dX12_isMode_0 : decode cX12_isMode 0 = .ok (.iload_n 0, 1) := by decide +kernel
theorem dX12_isMode_1 : decode cX12_isMode 1 = .ok (.tableswitch 93 99 117 #[91, 91, 91, 91, 93, 91, 93, 93, 93, 91, 93, 91, 93, 93, 93, 93, 93, 93, 91], 91) := by decide +kernel
theorem dX12_isMode_92 : decode cX12_isMode 92 = .ok (.iconst 1, 1) := by decide +kernel
theorem dX12_isMode_93 : decode cX12_isMode 93 = .ok (.ireturn, 1) := by decide +kernel
theorem dX12_isMode_94 : decode cX12_isMode 94 = .ok (.iconst 0, 1) := by decide +kernel
theorem dX12_isMode_95 : decode cX12_isMode 95 = .ok (.ireturn, 1) := by decide +kernel
theorem dX12_greater_0 : decode cX12_greater 0 = .ok (.iload_n 0, 1) := by decide +kernel
theorem dX12_greater_1 : decode cX12_greater 1 = .ok (.iload_n 1, 1) := by decide +kernel
theorem dX12_greater_2 : decode cX12_greater 2 = .ok (.if_icmp .le 7, 3) := by decide +kernel
theorem dX12_greater_5 : decode cX12_greater 5 = .ok (.iload_n 0, 1) := by decide +kernel
theorem dX12_greater_6 : decode cX12_greater 6 = .ok (.goto 4, 3) := by decide +kernel
theorem dX12_greater_9 : decode cX12_greater 9 = .ok (.iload_n 1, 1) := by decide +kernel
theorem dX12_greater_10 : decode cX12_greater 10 = .ok (.ireturn, 1) := by decide +kernel
theorem dX12_init_0 : decode cX12_init 0 = .ok (.aload_n 0, 1) := by decide +kernel
theorem dX12_init_1 : decode cX12_init 1 = .ok (.invokespecial 51, 3) := by decide +kernel
theorem dX12_init_4 : decode cX12_init 4 = .ok (.aload_n 0, 1) := by decide +kernel
theorem dX12_init_5 : decode cX12_init 5 = .ok (.sipush 2400, 3) := by decide +kernel
theorem dX12_init_8 : decode cX12_init 8 = .ok (.newarray .int, 2) := by decide +kernel
theorem dX12_init_10 : decode cX12_init 10 = .ok (.putfield 7, 3) := by decide +kernel
theorem dX12_init_13 : decode cX12_init 13 = .ok (.aload_n 0, 1) := by decide +kernel
theorem dX12_init_14 : decode cX12_init 14 = .ok (.bipush 10, 2) := by decide +kernel
theorem dX12_init_16 : decode cX12_init 16 = .ok (.newarray .int, 2) := by decide +kernel
theorem dX12_init_18 : decode cX12_init 18 = .ok (.putfield 1, 3) := by decide +kernel
theorem dX12_init_21 : decode cX12_init 21 = .ok (.aload_n 0, 1) := by decide +kernel
theorem dX12_init_22 : decode cX12_init 22 = .ok (.bipush 12, 2) := by decide +kernel
theorem dX12_init_24 : decode cX12_init 24 = .ok (.newarray .long, 2) := by decide +kernel
theorem dX12_init_26 : decode cX12_init 26 = .ok (.putfield 56, 3) := by decide +kernel
theorem dX12_init_29 : decode cX12_init 29 = .ok (.aload_n 0, 1) := by decide +kernel
theorem dX12_init_30 : decode cX12_init 30 = .ok (.bipush 12, 2) := by decide +kernel
theorem dX12_init_32 : decode cX12_init 32 = .ok (.newarray .int, 2) := by decide +kernel
theorem dX12_init_34 : decode cX12_init 34 = .ok (.putfield 60, 3) := by decide +kernel
theorem dX12_init_37 : decode cX12_init 37 = .ok (.aload_n 0, 1) := by decide +kernel
theorem dX12_init_38 : decode cX12_init 38 = .ok (.bipush 12, 2) := by decide +kernel
theorem dX12_init_40 : decode cX12_init 40 = .ok (.newarray .boolean, 2) := by decide +kernel
theorem dX12_init_42 : decode cX12_init 42 = .ok (.putfield 63, 3) := by decide +kernel
theorem dX12_init_45 : decode cX12_init 45 = .ok (.aload_n 0, 1) := by decide +kernel
theorem dX12_init_46 : decode cX12_init 46 = .ok (.bipush 24, 2) := by decide +kernel
theorem dX12_init_48 : decode cX12_init 48 = .ok (.newarray .char, 2) := by decide +kernel
theorem dX12_init_50 : decode cX12_init 50 = .ok (.putfield 67, 3) := by decide +kernel
theorem dX12_init_53 : decode cX12_init 53 = .ok (.aload_n 0, 1) := by decide +kernel
theorem dX12_init_54 : decode cX12_init 54 = .ok (.iconst 4, 1) := by decide +kernel
theorem dX12_init_55 : decode cX12_init 55 = .ok (.newarray .int, 2) := by decide +kernel
theorem dX12_init_57 : decode cX12_init 57 = .ok (.putfield 71, 3) := by decide +kernel
theorem dX12_init_60 : decode cX12_init 60 = .ok (.aload_n 0, 1) := by decide +kernel
theorem dX12_init_61 : decode cX12_init 61 = .ok (.iconst 4, 1) := by decide +kernel
theorem dX12_init_62 : decode cX12_init 62 = .ok (.newarray .int, 2) := by decide +kernel
theorem dX12_init_64 : decode cX12_init 64 = .ok (.putfield 74, 3) := by decide +kernel
theorem dX12_init_67 : decode cX12_init 67 = .ok (.aload_n 0, 1) := by decide +kernel
theorem dX12_init_68 : decode cX12_init 68 = .ok (.iconst 4, 1) := by decide +kernel
theorem dX12_init_69 : decode cX12_init 69 = .ok (.newarray .char, 2) := by decide +kernel
theorem dX12_init_71 : decode cX12_init 71 = .ok (.putfield 77, 3) := by decide +kernel
theorem dX12_init_74 : decode cX12_init 74 = .ok (.aload_n 0, 1) := by decide +kernel
theorem dX12_init_75 : decode cX12_init 75 = .ok (.bipush 16, 2) := by decide +kernel
theorem dX12_init_77 : decode cX12_init 77 = .ok (.newarray .long, 2) := by decide +kernel
theorem dX12_init_79 : decode cX12_init 79 = .ok (.putfield 80, 3) := by decide +kernel
theorem dX12_init_82 : decode cX12_init 82 = .ok (.aload_n 0, 1) := by decide +kernel
theorem dX12_init_83 : decode cX12_init 83 = .ok (.bipush 16, 2) := by decide +kernel
theorem dX12_init_85 : decode cX12_init 85 = .ok (.newarray .int, 2) := by decide +kernel
theorem dX12_init_87 : decode cX12_init 87 = .ok (.putfield 83, 3) := by decide +kernel
theorem dX12_init_90 : decode cX12_init 90 = .ok (.aload_n 0, 1) := by decide +kernel
theorem dX12_init_91 : decode cX12_init 91 = .ok (.ldc 86, 2) := by decide +kernel
theorem dX12_init_93 : decode cX12_init 93 = .ok (.newarray .int, 2) := by decide +kernel
theorem dX12_init_95 : decode cX12_init 95 = .ok (.putfield 87, 3) := by decide +kernel
theorem dX12_init_98 : decode cX12_init 98 = .ok (.aload_n 0, 1) := by decide +kernel
theorem dX12_init_99 : decode cX12_init 99 = .ok (.ldc 86, 2) := by decide +kernel
theorem dX12_init_101 : decode cX12_init 101 = .ok (.newarray .int, 2) := by decide +kernel
theorem dX12_init_103 : decode cX12_init 103 = .ok (.putfield 90, 3) := by decide +kernel
theorem dX12_init_106 : decode cX12_init 106 = .ok (.aload_n 0, 1) := by decide +kernel
theorem dX12_init_107 : decode cX12_init 107 = .ok (.ldc 86, 2) := by decide +kernel
theorem dX12_init_109 : decode cX12_init 109 = .ok (.newarray .int, 2) := by decide +kernel
theorem dX12_init_111 : decode cX12_init 111 = .ok (.putfield 93, 3) := by decide +kernel
theorem dX12_init_114 : decode cX12_init 114 = .ok (.aload_n 0, 1) := by decide +kernel
theorem dX12_init_115 : decode cX12_init 115 = .ok (.ldc 86, 2) := by decide +kernel
theorem dX12_init_117 : decode cX12_init 117 = .ok (.newarray .int, 2) := by decide +kernel
theorem dX12_init_119 : decode cX12_init 119 = .ok (.putfield 96, 3) := by decide +kernel
theorem dX12_init_122 : decode cX12_init 122 = .ok (.aload_n 0, 1) := by decide +kernel
theorem dX12_init_123 : decode cX12_init 123 = .ok (.bipush 6, 2) := by decide +kernel
theorem dX12_init_125 : decode cX12_init 125 = .ok (.newarray .int, 2) := by decide +kernel
theorem dX12_init_127 : decode cX12_init 127 = .ok (.putfield 99, 3) := by decide +kernel
theorem dX12_init_130 : decode cX12_init 130 = .ok (.aload_n 0, 1) := by decide +kernel
theorem dX12_init_131 : decode cX12_init 131 = .ok (.bipush 6, 2) := by decide +kernel
theorem dX12_init_133 : decode cX12_init 133 = .ok (.newarray .int, 2) := by decide +kernel
theorem dX12_init_135 : decode cX12_init 135 = .ok (.putfield 102, 3) := by decide +kernel
theorem dX12_init_138 : decode cX12_init 138 = .ok (.aload_n 0, 1) := by decide +kernel
theorem dX12_init_139 : decode cX12_init 139 = .ok (.bipush 20, 2) := by decide +kernel
theorem dX12_init_141 : decode cX12_init 141 = .ok (.newarray .int, 2) := by decide +kernel
theorem dX12_init_143 : decode cX12_init 143 = .ok (.putfield 105, 3) := by decide +kernel
theorem dX12_init_146 : decode cX12_init 146 = .ok (.aload_n 0, 1) := by decide +kernel
theorem dX12_init_147 : decode cX12_init 147 = .ok (.bipush 20, 2) := by decide +kernel
theorem dX12_init_149 : decode cX12_init 149 = .ok (.newarray .int, 2) := by decide +kernel
theorem dX12_init_151 : decode cX12_init 151 = .ok (.putfield 108, 3) := by decide +kernel
theorem dX12_init_154 : decode cX12_init 154 = .ok (.aload_n 0, 1) := by decide +kernel
theorem dX12_init_155 : decode cX12_init 155 = .ok (.bipush 20, 2) := by decide +kernel
theorem dX12_init_157 : decode cX12_init 157 = .ok (.newarray .int, 2) := by decide +kernel
theorem dX12_init_159 : decode cX12_init 159 = .ok (.putfield 111, 3) := by decide +kernel
theorem dX12_init_162 : decode cX12_init 162 = .ok (.aload_n 0, 1) := by decide +kernel
theorem dX12_init_163 : decode cX12_init 163 = .ok (.bipush 20, 2) := by decide +kernel
theorem dX12_init_165 : decode cX12_init 165 = .ok (.newarray .boolean, 2) := by decide +kernel
theorem dX12_init_167 : decode cX12_init 167 = .ok (.putfield 114, 3) := by decide +kernel
theorem dX12_init_170 : decode cX12_init 170 = .ok (.aload_n 0, 1) := by decide +kernel
theorem dX12_init_171 : decode cX12_init 171 = .ok (.bipush 20, 2) := by decide +kernel
theorem dX12_init_173 : decode cX12_init 173 = .ok (.newarray .boolean, 2) := by decide +kernel
theorem dX12_init_175 : decode cX12_init 175 = .ok (.putfield 117, 3) := by decide +kernel
theorem dX12_init_178 : decode cX12_init 178 = .ok (.aload_n 0, 1) := by decide +kernel
theorem dX12_init_179 : decode cX12_init 179 = .ok (.sipush 240, 3) := by decide +kernel
theorem dX12_init_182 : decode cX12_init 182 = .ok (.newarray .long, 2) := by decide +kernel
theorem dX12_init_184 : decode cX12_init 184 = .ok (.putfield 120, 3) := by decide +kernel
theorem dX12_init_187 : decode cX12_init 187 = .ok (.aload_n 0, 1) := by decide +kernel
theorem dX12_init_188 : decode cX12_init 188 = .ok (.sipush 240, 3) := by decide +kernel
theorem dX12_init_191 : decode cX12_init 191 = .ok (.newarray .int, 2) := by decide +kernel
theorem dX12_init_193 : decode cX12_init 193 = .ok (.putfield 123, 3) := by decide +kernel
theorem dX12_init_196 : decode cX12_init 196 = .ok (.aload_n 0, 1) := by decide +kernel
theorem dX12_init_197 : decode cX12_init 197 = .ok (.bipush 12, 2) := by decide +kernel
theorem dX12_init_199 : decode cX12_init 199 = .ok (.newarray .int, 2) := by decide +kernel
theorem dX12_init_201 : decode cX12_init 201 = .ok (.putfield 126, 3) := by decide +kernel
theorem dX12_init_204 : decode cX12_init 204 = .ok (.aload_n 0, 1) := by decide +kernel
theorem dX12_init_205 : decode cX12_init 205 = .ok (.bipush 12, 2) := by decide +kernel
theorem dX12_init_207 : decode cX12_init 207 = .ok (.newarray .long, 2) := by decide +kernel
theorem dX12_init_209 : decode cX12_init 209 = .ok (.putfield 129, 3) := by decide +kernel
theorem dX12_init_212 : decode cX12_init 212 = .ok (.aload_n 0, 1) := by decide +kernel
theorem dX12_init_213 : decode cX12_init 213 = .ok (.bipush 12, 2) := by decide +kernel
theorem dX12_init_215 : decode cX12_init 215 = .ok (.newarray .long, 2) := by decide +kernel
theorem dX12_init_217 : decode cX12_init 217 = .ok (.putfield 132, 3) := by decide +kernel
theorem dX12_init_220 : decode cX12_init 220 = .ok (.aload_n 0, 1) := by decide +kernel
theorem dX12_init_221 : decode cX12_init 221 = .ok (.bipush 120, 2) := by decide +kernel
theorem dX12_init_223 : decode cX12_init 223 = .ok (.newarray .long, 2) := by decide +kernel
theorem dX12_init_225 : decode cX12_init 225 = .ok (.putfield 135, 3) := by decide +kernel
theorem dX12_init_228 : decode cX12_init 228 = .ok (.aload_n 0, 1) := by decide +kernel
theorem dX12_init_229 : decode cX12_init 229 = .ok (.bipush 120, 2) := by decide +kernel
theorem dX12_init_231 : decode cX12_init 231 = .ok (.newarray .long, 2) := by decide +kernel
theorem dX12_init_233 : decode cX12_init 233 = .ok (.putfield 138, 3) := by decide +kernel
theorem dX12_init_236 : decode cX12_init 236 = .ok (.aload_n 0, 1) := by decide +kernel
theorem dX12_init_237 : decode cX12_init 237 = .ok (.bipush 120, 2) := by decide +kernel
theorem dX12_init_239 : decode cX12_init 239 = .ok (.newarray .long, 2) := by decide +kernel
theorem dX12_init_241 : decode cX12_init 241 = .ok (.putfield 141, 3) := by decide +kernel
theorem dX12_init_244 : decode cX12_init 244 = .ok (.aload_n 0, 1) := by decide +kernel
theorem dX12_init_245 : decode cX12_init 245 = .ok (.bipush 120, 2) := by decide +kernel
theorem dX12_init_247 : decode cX12_init 247 = .ok (.newarray .long, 2) := by decide +kernel
theorem dX12_init_249 : decode cX12_init 249 = .ok (.putfield 144, 3) := by decide +kernel
theorem dX12_init_252 : decode cX12_init 252 = .ok (.aload_n 0, 1) := by decide +kernel
theorem dX12_init_253 : decode cX12_init 253 = .ok (.bipush 120, 2) := by decide +kernel
theorem dX12_init_255 : decode cX12_init 255 = .ok (.newarray .long, 2) := by decide +kernel
theorem dX12_init_257 : decode cX12_init 257 = .ok (.putfield 147, 3) := by decide +kernel
theorem dX12_init_260 : decode cX12_init 260 = .ok (.aload_n 0, 1) := by decide +kernel
theorem dX12_init_261 : decode cX12_init 261 = .ok (.bipush 120, 2) := by decide +kernel
theorem dX12_init_263 : decode cX12_init 263 = .ok (.newarray .long, 2) := by decide +kernel
theorem dX12_init_265 : decode cX12_init 265 = .ok (.putfield 150, 3) := by decide +kernel
theorem dX12_init_268 : decode cX12_init 268 = .ok (.aload_n 0, 1) := by decide +kernel
theorem dX12_init_269 : decode cX12_init 269 = .ok (.sipush 200, 3) := by decide +kernel
theorem dX12_init_272 : decode cX12_init 272 = .ok (.newarray .int, 2) := by decide +kernel
theorem dX12_init_274 : decode cX12_init 274 = .ok (.putfield 153, 3) := by decide +kernel
theorem dX12_init_277 : decode cX12_init 277 = .ok (.aload_n 0, 1) := by decide +kernel
theorem dX12_init_278 : decode cX12_init 278 = .ok (.sipush 200, 3) := by decide +kernel
theorem dX12_init_281 : decode cX12_init 281 = .ok (.newarray .int, 2) := by decide +kernel
theorem dX12_init_283 : decode cX12_init 283 = .ok (.putfield 156, 3) := by decide +kernel
theorem dX12_init_286 : decode cX12_init 286 = .ok (.aload_n 0, 1) := by decide +kernel
theorem dX12_init_287 : decode cX12_init 287 = .ok (.sipush 200, 3) := by decide +kernel
theorem dX12_init_290 : decode cX12_init 290 = .ok (.newarray .int, 2) := by decide +kernel
theorem dX12_init_292 : decode cX12_init 292 = .ok (.putfield 159, 3) := by decide +kernel
theorem dX12_init_295 : decode cX12_init 295 = .ok (.aload_n 0, 1) := by decide +kernel
theorem dX12_init_296 : decode cX12_init 296 = .ok (.sipush 200, 3) := by decide +kernel
theorem dX12_init_299 : decode cX12_init 299 = .ok (.newarray .long, 2) := by decide +kernel
theorem dX12_init_301 : decode cX12_init 301 = .ok (.putfield 162, 3) := by decide +kernel
theorem dX12_init_304 : decode cX12_init 304 = .ok (.aload_n 0, 1) := by decide +kernel
theorem dX12_init_305 : decode cX12_init 305 = .ok (.iconst (-1), 1) := by decide +kernel
theorem dX12_init_306 : decode cX12_init 306 = .ok (.putfield 165, 3) := by decide +kernel
theorem dX12_init_309 : decode cX12_init 309 = .ok (.aload_n 0, 1) := by decide +kernel
theorem dX12_init_310 : decode cX12_init 310 = .ok (.sipush 600, 3) := by decide +kernel
theorem dX12_init_313 : decode cX12_init 313 = .ok (.newarray .int, 2) := by decide +kernel
theorem dX12_init_315 : decode cX12_init 315 = .ok (.putfield 169, 3) := by decide +kernel
theorem dX12_init_318 : decode cX12_init 318 = .ok (.aload_n 0, 1) := by decide +kernel
theorem dX12_init_319 : decode cX12_init 319 = .ok (.sipush 600, 3) := by decide +kernel
theorem dX12_init_322 : decode cX12_init 322 = .ok (.newarray .int, 2) := by decide +kernel
theorem dX12_init_324 : decode cX12_init 324 = .ok (.putfield 172, 3) := by decide +kernel
theorem dX12_init_327 : decode cX12_init 327 = .ok (.aload_n 0, 1) := by decide +kernel
theorem dX12_init_328 : decode cX12_init 328 = .ok (.sipush 600, 3) := by decide +kernel
theorem dX12_init_331 : decode cX12_init 331 = .ok (.newarray .int, 2) := by decide +kernel
theorem dX12_init_333 : decode cX12_init 333 = .ok (.putfield 175, 3) := by decide +kernel
theorem dX12_init_336 : decode cX12_init 336 = .ok (.iconst 0, 1) := by decide +kernel
theorem dX12_init_337 : decode cX12_init 337 = .ok (.istore_n 1, 1) := by decide +kernel
theorem dX12_init_338 : decode cX12_init 338 = .ok (.iload_n 1, 1) := by decide +kernel
theorem dX12_init_339 : decode cX12_init 339 = .ok (.iconst 4, 1) := by decide +kernel
theorem dX12_init_340 : decode cX12_init 340 = .ok (.if_icmp .ge 31, 3) := by decide +kernel
theorem dX12_init_343 : decode cX12_init 343 = .ok (.aload_n 0, 1) := by decide +kernel
theorem dX12_init_344 : decode cX12_init 344 = .ok (.getfield 71, 3) := by decide +kernel
theorem dX12_init_347 : decode cX12_init 347 = .ok (.iload_n 1, 1) := by decide +kernel
theorem dX12_init_348 : decode cX12_init 348 = .ok (.iconst 2, 1) := by decide +kernel
theorem dX12_init_349 : decode cX12_init 349 = .ok (.iastore, 1) := by decide +kernel
theorem dX12_init_350 : decode cX12_init 350 = .ok (.aload_n 0, 1) := by decide +kernel
theorem dX12_init_351 : decode cX12_init 351 = .ok (.getfield 77, 3) := by decide +kernel
theorem dX12_init_354 : decode cX12_init 354 = .ok (.iload_n 1, 1) := by decide +kernel
theorem dX12_init_355 : decode cX12_init 355 = .ok (.bipush 104, 2) := by decide +kernel
theorem dX12_init_357 : decode cX12_init 357 = .ok (.castore, 1) := by decide +kernel
theorem dX12_init_358 : decode cX12_init 358 = .ok (.aload_n 0, 1) := by decide +kernel
theorem dX12_init_359 : decode cX12_init 359 = .ok (.getfield 74, 3) := by decide +kernel
theorem dX12_init_362 : decode cX12_init 362 = .ok (.iload_n 1, 1) := by decide +kernel
theorem dX12_init_363 : decode cX12_init 363 = .ok (.iconst 1, 1) := by decide +kernel
theorem dX12_init_364 : decode cX12_init 364 = .ok (.iastore, 1) := by decide +kernel
theorem dX12_init_365 : decode cX12_init 365 = .ok (.iinc 1 1, 3) := by decide +kernel
theorem dX12_init_368 : decode cX12_init 368 = .ok (.goto (-30), 3) := by decide +kernel
theorem dX12_init_371 : decode cX12_init 371 = .ok (.return_, 1) := by decide +kernel
theorem dX12_thrown_0 : decode cX12_thrown 0 = .ok (.aload_n 0, 1) := by decide +kernel
theorem dX12_thrown_1 : decode cX12_thrown 1 = .ok (.getfield 178, 3) := by decide +kernel
theorem dX12_thrown_4 : decode cX12_thrown 4 = .ok (.ireturn, 1) := by decide +kernel
theorem dX12_fails_0 : decode cX12_fails 0 = .ok (.aload_n 0, 1) := by decide +kernel
theorem dX12_fails_1 : decode cX12_fails 1 = .ok (.iload_n 1, 1) := by decide +kernel
theorem dX12_fails_2 : decode cX12_fails 2 = .ok (.putfield 178, 3) := by decide +kernel
theorem dX12_fails_5 : decode cX12_fails 5 = .ok (.iload_n 1, 1) := by decide +kernel
theorem dX12_fails_6 : decode cX12_fails 6 = .ok (.ifCond .le 7, 3) := by decide +kernel
theorem dX12_fails_9 : decode cX12_fails 9 = .ok (.iconst 1, 1) := by decide +kernel
theorem dX12_fails_10 : decode cX12_fails 10 = .ok (.goto 4, 3) := by decide +kernel
theorem dX12_fails_13 : decode cX12_fails 13 = .ok (.iconst 0, 1) := by decide +kernel
theorem dX12_fails_14 : decode cX12_fails 14 = .ok (.ireturn, 1) := by decide +kernel
theorem dX12_in_0 : decode cX12_in 0 = .ok (.lload_n 0, 1) := by decide +kernel
theorem dX12_in_1 : decode cX12_in 1 = .ok (.lload_n 2, 1) := by decide +kernel
theorem dX12_in_2 : decode cX12_in 2 = .ok (.lcmp, 1) := by decide +kernel
theorem dX12_in_3 : decode cX12_in 3 = .ok (.ifCond .lt 14, 3) := by decide +kernel
theorem dX12_in_6 : decode cX12_in 6 = .ok (.lload_n 0, 1) := by decide +kernel
theorem dX12_in_7 : decode cX12_in 7 = .ok (.lload 4, 2) := by decide +kernel
theorem dX12_in_9 : decode cX12_in 9 = .ok (.lcmp, 1) := by decide +kernel
theorem dX12_in_10 : decode cX12_in 10 = .ok (.ifCond .gt 7, 3) := by decide +kernel
theorem dX12_in_13 : decode cX12_in 13 = .ok (.iconst 1, 1) := by decide +kernel
theorem dX12_in_14 : decode cX12_in 14 = .ok (.goto 4, 3) := by decide +kernel
theorem dX12_in_17 : decode cX12_in 17 = .ok (.iconst 0, 1) := by decide +kernel
theorem dX12_in_18 : decode cX12_in 18 = .ok (.ireturn, 1) := by decide +kernel
theorem dX12_isShelf_0 : decode cX12_isShelf 0 = .ok (.iload_n 0, 1) := by decide +kernel
theorem dX12_isShelf_1 : decode cX12_isShelf 1 = .ok (.i2l, 1) := by decide +kernel
theorem dX12_isShelf_2 : decode cX12_isShelf 2 = .ok (.lconst 0, 1) := by decide +kernel
theorem dX12_isShelf_3 : decode cX12_isShelf 3 = .ok (.ldc2_w 181, 3) := by decide +kernel
theorem dX12_isShelf_6 : decode cX12_isShelf 6 = .ok (.invokestatic 183, 3) := by decide +kernel
theorem dX12_isShelf_9 : decode cX12_isShelf 9 = .ok (.ireturn, 1) := by decide +kernel
theorem dX12_digitsOf_0 : decode cX12_digitsOf 0 = .ok (.iconst 1, 1) := by decide +kernel
theorem dX12_digitsOf_1 : decode cX12_digitsOf 1 = .ok (.istore_n 2, 1) := by decide +kernel
theorem dX12_digitsOf_2 : decode cX12_digitsOf 2 = .ok (.lload_n 0, 1) := by decide +kernel
theorem dX12_digitsOf_3 : decode cX12_digitsOf 3 = .ok (.ldc2_w 14, 3) := by decide +kernel
theorem dX12_digitsOf_6 : decode cX12_digitsOf 6 = .ok (.ldiv, 1) := by decide +kernel
theorem dX12_digitsOf_7 : decode cX12_digitsOf 7 = .ok (.lstore_n 3, 1) := by decide +kernel
theorem dX12_digitsOf_8 : decode cX12_digitsOf 8 = .ok (.lload_n 3, 1) := by decide +kernel
theorem dX12_digitsOf_9 : decode cX12_digitsOf 9 = .ok (.lconst 0, 1) := by decide +kernel
theorem dX12_digitsOf_10 : decode cX12_digitsOf 10 = .ok (.lcmp, 1) := by decide +kernel
theorem dX12_digitsOf_11 : decode cX12_digitsOf 11 = .ok (.ifCond .eq 15, 3) := by decide +kernel
theorem dX12_digitsOf_14 : decode cX12_digitsOf 14 = .ok (.iinc 2 1, 3) := by decide +kernel
theorem dX12_digitsOf_17 : decode cX12_digitsOf 17 = .ok (.lload_n 3, 1) := by decide +kernel
theorem dX12_digitsOf_18 : decode cX12_digitsOf 18 = .ok (.ldc2_w 14, 3) := by decide +kernel
theorem dX12_digitsOf_21 : decode cX12_digitsOf 21 = .ok (.ldiv, 1) := by decide +kernel
theorem dX12_digitsOf_22 : decode cX12_digitsOf 22 = .ok (.lstore_n 3, 1) := by decide +kernel
theorem dX12_digitsOf_23 : decode cX12_digitsOf 23 = .ok (.goto (-15), 3) := by decide +kernel
theorem dX12_digitsOf_26 : decode cX12_digitsOf 26 = .ok (.iload_n 2, 1) := by decide +kernel
theorem dX12_digitsOf_27 : decode cX12_digitsOf 27 = .ok (.ireturn, 1) := by decide +kernel
theorem dX12_isScale_0 : decode cX12_isScale 0 = .ok (.iload_n 0, 1) := by decide +kernel
theorem dX12_isScale_1 : decode cX12_isScale 1 = .ok (.i2l, 1) := by decide +kernel
theorem dX12_isScale_2 : decode cX12_isScale 2 = .ok (.ldc2_w 187, 3) := by decide +kernel
theorem dX12_isScale_5 : decode cX12_isScale 5 = .ok (.ldc2_w 189, 3) := by decide +kernel
theorem dX12_isScale_8 : decode cX12_isScale 8 = .ok (.invokestatic 183, 3) := by decide +kernel
theorem dX12_isScale_11 : decode cX12_isScale 11 = .ok (.ireturn, 1) := by decide +kernel
theorem dX12_lays_0 : decode cX12_lays 0 = .ok (.aload_n 0, 1) := by decide +kernel
theorem dX12_lays_1 : decode cX12_lays 1 = .ok (.getfield 1, 3) := by decide +kernel
theorem dX12_lays_4 : decode cX12_lays 4 = .ok (.iload_n 2, 1) := by decide +kernel
theorem dX12_lays_5 : decode cX12_lays 5 = .ok (.iaload, 1) := by decide +kernel
theorem dX12_lays_6 : decode cX12_lays 6 = .ok (.bipush 18, 2) := by decide +kernel
theorem dX12_lays_8 : decode cX12_lays 8 = .ok (.if_icmp .gt 11, 3) := by decide +kernel
theorem dX12_lays_11 : decode cX12_lays 11 = .ok (.iload 4, 2) := by decide +kernel
theorem dX12_lays_13 : decode cX12_lays 13 = .ok (.invokestatic 191, 3) := by decide +kernel
theorem dX12_lays_16 : decode cX12_lays 16 = .ok (.ifCond .ne 5, 3) := by decide +kernel
theorem dX12_lays_19 : decode cX12_lays 19 = .ok (.iconst 0, 1) := by decide +kernel
theorem dX12_lays_20 : decode cX12_lays 20 = .ok (.ireturn, 1) := by decide +kernel
theorem dX12_lays_21 : decode cX12_lays 21 = .ok (.aload_n 0, 1) := by decide +kernel
theorem dX12_lays_22 : decode cX12_lays 22 = .ok (.getfield 56, 3) := by decide +kernel
theorem dX12_lays_25 : decode cX12_lays 25 = .ok (.iload_n 1, 1) := by decide +kernel
theorem dX12_lays_26 : decode cX12_lays 26 = .ok (.iload_n 3, 1) := by decide +kernel
theorem dX12_lays_27 : decode cX12_lays 27 = .ok (.ifCond .eq 12, 3) := by decide +kernel
theorem dX12_lays_30 : decode cX12_lays 30 = .ok (.aload_n 0, 1) := by decide +kernel
theorem dX12_lays_31 : decode cX12_lays 31 = .ok (.iload_n 2, 1) := by decide +kernel
theorem dX12_lays_32 : decode cX12_lays 32 = .ok (.invokevirtual 195, 3) := by decide +kernel
theorem dX12_lays_35 : decode cX12_lays 35 = .ok (.lneg, 1) := by decide +kernel
theorem dX12_lays_36 : decode cX12_lays 36 = .ok (.goto 8, 3) := by decide +kernel
theorem dX12_lays_39 : decode cX12_lays 39 = .ok (.aload_n 0, 1) := by decide +kernel
theorem dX12_lays_40 : decode cX12_lays 40 = .ok (.iload_n 2, 1) := by decide +kernel
theorem dX12_lays_41 : decode cX12_lays 41 = .ok (.invokevirtual 195, 3) := by decide +kernel
theorem dX12_lays_44 : decode cX12_lays 44 = .ok (.lastore, 1) := by decide +kernel
theorem dX12_lays_45 : decode cX12_lays 45 = .ok (.aload_n 0, 1) := by decide +kernel
theorem dX12_lays_46 : decode cX12_lays 46 = .ok (.getfield 60, 3) := by decide +kernel
theorem dX12_lays_49 : decode cX12_lays 49 = .ok (.iload_n 1, 1) := by decide +kernel
theorem dX12_lays_50 : decode cX12_lays 50 = .ok (.iload 4, 2) := by decide +kernel
theorem dX12_lays_52 : decode cX12_lays 52 = .ok (.iastore, 1) := by decide +kernel
theorem dX12_lays_53 : decode cX12_lays 53 = .ok (.aload_n 0, 1) := by decide +kernel
theorem dX12_lays_54 : decode cX12_lays 54 = .ok (.getfield 63, 3) := by decide +kernel
theorem dX12_lays_57 : decode cX12_lays 57 = .ok (.iload_n 1, 1) := by decide +kernel
theorem dX12_lays_58 : decode cX12_lays 58 = .ok (.iconst 1, 1) := by decide +kernel
theorem dX12_lays_59 : decode cX12_lays 59 = .ok (.bastore, 1) := by decide +kernel
theorem dX12_lays_60 : decode cX12_lays 60 = .ok (.iconst 1, 1) := by decide +kernel
theorem dX12_lays_61 : decode cX12_lays 61 = .ok (.ireturn, 1) := by decide +kernel
theorem dX12_put_0 : decode cX12_put 0 = .ok (.aload_n 0, 1) := by decide +kernel
theorem dX12_put_1 : decode cX12_put 1 = .ok (.iload_n 1, 1) := by decide +kernel
theorem dX12_put_2 : decode cX12_put 2 = .ok (.invokestatic 199, 3) := by decide +kernel
theorem dX12_put_5 : decode cX12_put 5 = .ok (.ifCond .ne 7, 3) := by decide +kernel
theorem dX12_put_8 : decode cX12_put 8 = .ok (.iconst 1, 1) := by decide +kernel
theorem dX12_put_9 : decode cX12_put 9 = .ok (.goto 29, 3) := by decide +kernel
theorem dX12_put_12 : decode cX12_put 12 = .ok (.iload 4, 2) := by decide +kernel
theorem dX12_put_14 : decode cX12_put 14 = .ok (.invokestatic 191, 3) := by decide +kernel
theorem dX12_put_17 : decode cX12_put 17 = .ok (.ifCond .eq 16, 3) := by decide +kernel
theorem dX12_put_20 : decode cX12_put 20 = .ok (.lload_n 2, 1) := by decide +kernel
theorem dX12_put_21 : decode cX12_put 21 = .ok (.ldc2_w 202, 3) := by decide +kernel
theorem dX12_put_24 : decode cX12_put 24 = .ok (.ldc2_w 204, 3) := by decide +kernel
theorem dX12_put_27 : decode cX12_put 27 = .ok (.invokestatic 183, 3) := by decide +kernel
theorem dX12_put_30 : decode cX12_put 30 = .ok (.ifCond .ne 7, 3) := by decide +kernel
theorem dX12_put_33 : decode cX12_put 33 = .ok (.iconst 2, 1) := by decide +kernel
theorem dX12_put_34 : decode cX12_put 34 = .ok (.goto 4, 3) := by decide +kernel
theorem dX12_put_37 : decode cX12_put 37 = .ok (.iconst 0, 1) := by decide +kernel
theorem dX12_put_38 : decode cX12_put 38 = .ok (.invokevirtual 206, 3) := by decide +kernel
theorem dX12_put_41 : decode cX12_put 41 = .ok (.ifCond .eq 5, 3) := by decide +kernel
theorem dX12_put_44 : decode cX12_put 44 = .ok (.iconst 0, 1) := by decide +kernel
theorem dX12_put_45 : decode cX12_put 45 = .ok (.ireturn, 1) := by decide +kernel
theorem dX12_put_46 : decode cX12_put 46 = .ok (.aload_n 0, 1) := by decide +kernel
theorem dX12_put_47 : decode cX12_put 47 = .ok (.getfield 56, 3) := by decide +kernel
theorem dX12_put_50 : decode cX12_put 50 = .ok (.iload_n 1, 1) := by decide +kernel
theorem dX12_put_51 : decode cX12_put 51 = .ok (.lload_n 2, 1) := by decide +kernel
theorem dX12_put_52 : decode cX12_put 52 = .ok (.lastore, 1) := by decide +kernel
theorem dX12_put_53 : decode cX12_put 53 = .ok (.aload_n 0, 1) := by decide +kernel
theorem dX12_put_54 : decode cX12_put 54 = .ok (.getfield 60, 3) := by decide +kernel
theorem dX12_put_57 : decode cX12_put 57 = .ok (.iload_n 1, 1) := by decide +kernel
theorem dX12_put_58 : decode cX12_put 58 = .ok (.iload 4, 2) := by decide +kernel
theorem dX12_put_60 : decode cX12_put 60 = .ok (.iastore, 1) := by decide +kernel
theorem dX12_put_61 : decode cX12_put 61 = .ok (.aload_n 0, 1) := by decide +kernel
theorem dX12_put_62 : decode cX12_put 62 = .ok (.getfield 63, 3) := by decide +kernel
theorem dX12_put_65 : decode cX12_put 65 = .ok (.iload_n 1, 1) := by decide +kernel
theorem dX12_put_66 : decode cX12_put 66 = .ok (.iconst 1, 1) := by decide +kernel
theorem dX12_put_67 : decode cX12_put 67 = .ok (.bastore, 1) := by decide +kernel
theorem dX12_put_68 : decode cX12_put 68 = .ok (.lload_n 2, 1) := by decide +kernel
theorem dX12_put_69 : decode cX12_put 69 = .ok (.invokestatic 209, 3) := by decide +kernel
theorem dX12_put_72 : decode cX12_put 72 = .ok (.ireturn, 1) := by decide +kernel
theorem dX12_type_0 : decode cX12_type 0 = .ok (.aload_n 0, 1) := by decide +kernel
theorem dX12_type_1 : decode cX12_type 1 = .ok (.aload_n 0, 1) := by decide +kernel
theorem dX12_type_2 : decode cX12_type 2 = .ok (.getfield 213, 3) := by decide +kernel
theorem dX12_type_5 : decode cX12_type 5 = .ok (.bipush 24, 2) := by decide +kernel
theorem dX12_type_7 : decode cX12_type 7 = .ok (.if_icmp .ne 7, 3) := by decide +kernel
theorem dX12_type_10 : decode cX12_type 10 = .ok (.iconst 1, 1) := by decide +kernel
theorem dX12_type_11 : decode cX12_type 11 = .ok (.goto 4, 3) := by decide +kernel
theorem dX12_type_14 : decode cX12_type 14 = .ok (.iconst 0, 1) := by decide +kernel
theorem dX12_type_15 : decode cX12_type 15 = .ok (.invokevirtual 206, 3) := by decide +kernel
theorem dX12_type_18 : decode cX12_type 18 = .ok (.ifCond .eq 5, 3) := by decide +kernel
theorem dX12_type_21 : decode cX12_type 21 = .ok (.iconst 0, 1) := by decide +kernel
theorem dX12_type_22 : decode cX12_type 22 = .ok (.ireturn, 1) := by decide +kernel
theorem dX12_type_23 : decode cX12_type 23 = .ok (.aload_n 0, 1) := by decide +kernel
theorem dX12_type_24 : decode cX12_type 24 = .ok (.getfield 67, 3) := by decide +kernel
theorem dX12_type_27 : decode cX12_type 27 = .ok (.aload_n 0, 1) := by decide +kernel
theorem dX12_type_28 : decode cX12_type 28 = .ok (.getfield 213, 3) := by decide +kernel
theorem dX12_type_31 : decode cX12_type 31 = .ok (.iload_n 1, 1) := by decide +kernel
theorem dX12_type_32 : decode cX12_type 32 = .ok (.castore, 1) := by decide +kernel
theorem dX12_type_33 : decode cX12_type 33 = .ok (.aload_n 0, 1) := by decide +kernel
theorem dX12_type_34 : decode cX12_type 34 = .ok (.dup, 1) := by decide +kernel
theorem dX12_type_35 : decode cX12_type 35 = .ok (.getfield 213, 3) := by decide +kernel
theorem dX12_type_38 : decode cX12_type 38 = .ok (.iconst 1, 1) := by decide +kernel
theorem dX12_type_39 : decode cX12_type 39 = .ok (.iadd, 1) := by decide +kernel
theorem dX12_type_40 : decode cX12_type 40 = .ok (.putfield 213, 3) := by decide +kernel
theorem dX12_type_43 : decode cX12_type 43 = .ok (.aload_n 0, 1) := by decide +kernel
theorem dX12_type_44 : decode cX12_type 44 = .ok (.getfield 213, 3) := by decide +kernel
theorem dX12_type_47 : decode cX12_type 47 = .ok (.ireturn, 1) := by decide +kernel
theorem dX12_next_0 : decode cX12_next 0 = .ok (.iload_n 1, 1) := by decide +kernel
theorem dX12_next_1 : decode cX12_next 1 = .ok (.bipush 48, 2) := by decide +kernel
theorem dX12_next_3 : decode cX12_next 3 = .ok (.if_icmp .lt 13, 3) := by decide +kernel
theorem dX12_next_6 : decode cX12_next 6 = .ok (.iload_n 1, 1) := by decide +kernel
theorem dX12_next_7 : decode cX12_next 7 = .ok (.bipush 57, 2) := by decide +kernel
theorem dX12_next_9 : decode cX12_next 9 = .ok (.if_icmp .gt 7, 3) := by decide +kernel
theorem dX12_next_12 : decode cX12_next 12 = .ok (.iconst 1, 1) := by decide +kernel
theorem dX12_next_13 : decode cX12_next 13 = .ok (.goto 4, 3) := by decide +kernel
theorem dX12_next_16 : decode cX12_next 16 = .ok (.iconst 0, 1) := by decide +kernel
theorem dX12_next_17 : decode cX12_next 17 = .ok (.istore_n 2, 1) := by decide +kernel
theorem dX12_next_18 : decode cX12_next 18 = .ok (.iload_n 1, 1) := by decide +kernel
theorem dX12_next_19 : decode cX12_next 19 = .ok (.bipush 43, 2) := by decide +kernel
theorem dX12_next_21 : decode cX12_next 21 = .ok (.if_icmp .eq 9, 3) := by decide +kernel
theorem dX12_next_24 : decode cX12_next 24 = .ok (.iload_n 1, 1) := by decide +kernel
theorem dX12_next_25 : decode cX12_next 25 = .ok (.bipush 45, 2) := by decide +kernel
theorem dX12_next_27 : decode cX12_next 27 = .ok (.if_icmp .ne 7, 3) := by decide +kernel
theorem dX12_next_30 : decode cX12_next 30 = .ok (.iconst 1, 1) := by decide +kernel
theorem dX12_next_31 : decode cX12_next 31 = .ok (.goto 4, 3) := by decide +kernel
theorem dX12_next_34 : decode cX12_next 34 = .ok (.iconst 0, 1) := by decide +kernel
theorem dX12_next_35 : decode cX12_next 35 = .ok (.istore_n 3, 1) := by decide +kernel
theorem dX12_next_36 : decode cX12_next 36 = .ok (.iload_n 1, 1) := by decide +kernel
theorem dX12_next_37 : decode cX12_next 37 = .ok (.bipush 101, 2) := by decide +kernel
theorem dX12_next_39 : decode cX12_next 39 = .ok (.if_icmp .eq 9, 3) := by decide +kernel
theorem dX12_next_42 : decode cX12_next 42 = .ok (.iload_n 1, 1) := by decide +kernel
theorem dX12_next_43 : decode cX12_next 43 = .ok (.bipush 69, 2) := by decide +kernel
theorem dX12_next_45 : decode cX12_next 45 = .ok (.if_icmp .ne 7, 3) := by decide +kernel
theorem dX12_next_48 : decode cX12_next 48 = .ok (.iconst 1, 1) := by decide +kernel
theorem dX12_next_49 : decode cX12_next 49 = .ok (.goto 4, 3) := by decide +kernel
theorem dX12_next_52 : decode cX12_next 52 = .ok (.iconst 0, 1) := by decide +kernel
theorem dX12_next_53 : decode cX12_next 53 = .ok (.istore 4, 2) := by decide +kernel
theorem dX12_next_55 : decode cX12_next 55 = .ok (.iload_n 0, 1) := by decide +kernel
theorem dX12_next_56 : decode cX12_next 56 = .ok (.tableswitch 207 0 9 #[56, 84, 104, 133, 144, 164, 144, 184, 195, 195], 56) := by decide +kernel
theorem dX12_next_112 : decode cX12_next 112 = .ok (.iload_n 3, 1) := by decide +kernel
theorem dX12_next_113 : decode cX12_next 113 = .ok (.ifCond .eq 7, 3) := by decide +kernel
theorem dX12_next_116 : decode cX12_next 116 = .ok (.iconst 1, 1) := by decide +kernel
theorem dX12_next_117 : decode cX12_next 117 = .ok (.goto 22, 3) := by decide +kernel
theorem dX12_next_120 : decode cX12_next 120 = .ok (.iload_n 2, 1) := by decide +kernel
theorem dX12_next_121 : decode cX12_next 121 = .ok (.ifCond .eq 7, 3) := by decide +kernel
theorem dX12_next_124 : decode cX12_next 124 = .ok (.iconst 2, 1) := by decide +kernel
theorem dX12_next_125 : decode cX12_next 125 = .ok (.goto 14, 3) := by decide +kernel
theorem dX12_next_128 : decode cX12_next 128 = .ok (.iload_n 1, 1) := by decide +kernel
theorem dX12_next_129 : decode cX12_next 129 = .ok (.bipush 46, 2) := by decide +kernel
theorem dX12_next_131 : decode cX12_next 131 = .ok (.if_icmp .ne 7, 3) := by decide +kernel
theorem dX12_next_134 : decode cX12_next 134 = .ok (.iconst 3, 1) := by decide +kernel
theorem dX12_next_135 : decode cX12_next 135 = .ok (.goto 4, 3) := by decide +kernel
theorem dX12_next_138 : decode cX12_next 138 = .ok (.iconst (-1), 1) := by decide +kernel
theorem dX12_next_139 : decode cX12_next 139 = .ok (.ireturn, 1) := by decide +kernel
theorem dX12_next_140 : decode cX12_next 140 = .ok (.iload_n 2, 1) := by decide +kernel
theorem dX12_next_141 : decode cX12_next 141 = .ok (.ifCond .eq 7, 3) := by decide +kernel
theorem dX12_next_144 : decode cX12_next 144 = .ok (.iconst 2, 1) := by decide +kernel
theorem dX12_next_145 : decode cX12_next 145 = .ok (.goto 14, 3) := by decide +kernel
theorem dX12_next_148 : decode cX12_next 148 = .ok (.iload_n 1, 1) := by decide +kernel
theorem dX12_next_149 : decode cX12_next 149 = .ok (.bipush 46, 2) := by decide +kernel
theorem dX12_next_151 : decode cX12_next 151 = .ok (.if_icmp .ne 7, 3) := by decide +kernel
theorem dX12_next_154 : decode cX12_next 154 = .ok (.iconst 3, 1) := by decide +kernel
theorem dX12_next_155 : decode cX12_next 155 = .ok (.goto 4, 3) := by decide +kernel
theorem dX12_next_158 : decode cX12_next 158 = .ok (.iconst (-1), 1) := by decide +kernel
theorem dX12_next_159 : decode cX12_next 159 = .ok (.ireturn, 1) := by decide +kernel
theorem dX12_next_160 : decode cX12_next 160 = .ok (.iload_n 2, 1) := by decide +kernel
theorem dX12_next_161 : decode cX12_next 161 = .ok (.ifCond .eq 7, 3) := by decide +kernel
theorem dX12_next_164 : decode cX12_next 164 = .ok (.iconst 2, 1) := by decide +kernel
theorem dX12_next_165 : decode cX12_next 165 = .ok (.goto 23, 3) := by decide +kernel
theorem dX12_next_168 : decode cX12_next 168 = .ok (.iload_n 1, 1) := by decide +kernel
theorem dX12_next_169 : decode cX12_next 169 = .ok (.bipush 46, 2) := by decide +kernel
theorem dX12_next_171 : decode cX12_next 171 = .ok (.if_icmp .ne 7, 3) := by decide +kernel
theorem dX12_next_174 : decode cX12_next 174 = .ok (.iconst 4, 1) := by decide +kernel
theorem dX12_next_175 : decode cX12_next 175 = .ok (.goto 13, 3) := by decide +kernel
theorem dX12_next_178 : decode cX12_next 178 = .ok (.iload 4, 2) := by decide +kernel
theorem dX12_next_180 : decode cX12_next 180 = .ok (.ifCond .eq 7, 3) := by decide +kernel
theorem dX12_next_183 : decode cX12_next 183 = .ok (.iconst 5, 1) := by decide +kernel
theorem dX12_next_184 : decode cX12_next 184 = .ok (.goto 4, 3) := by decide +kernel
theorem dX12_next_187 : decode cX12_next 187 = .ok (.iconst (-1), 1) := by decide +kernel
theorem dX12_next_188 : decode cX12_next 188 = .ok (.ireturn, 1) := by decide +kernel
theorem dX12_next_189 : decode cX12_next 189 = .ok (.iload_n 2, 1) := by decide +kernel
theorem dX12_next_190 : decode cX12_next 190 = .ok (.ifCond .eq 8, 3) := by decide +kernel
theorem dX12_next_193 : decode cX12_next 193 = .ok (.bipush 6, 2) := by decide +kernel
theorem dX12_next_195 : decode cX12_next 195 = .ok (.goto 4, 3) := by decide +kernel
theorem dX12_next_198 : decode cX12_next 198 = .ok (.iconst (-1), 1) := by decide +kernel
theorem dX12_next_199 : decode cX12_next 199 = .ok (.ireturn, 1) := by decide +kernel
theorem dX12_next_200 : decode cX12_next 200 = .ok (.iload_n 2, 1) := by decide +kernel
theorem dX12_next_201 : decode cX12_next 201 = .ok (.ifCond .eq 8, 3) := by decide +kernel
theorem dX12_next_204 : decode cX12_next 204 = .ok (.bipush 6, 2) := by decide +kernel
theorem dX12_next_206 : decode cX12_next 206 = .ok (.goto 13, 3) := by decide +kernel
theorem dX12_next_209 : decode cX12_next 209 = .ok (.iload 4, 2) := by decide +kernel
theorem dX12_next_211 : decode cX12_next 211 = .ok (.ifCond .eq 7, 3) := by decide +kernel
theorem dX12_next_214 : decode cX12_next 214 = .ok (.iconst 5, 1) := by decide +kernel
theorem dX12_next_215 : decode cX12_next 215 = .ok (.goto 4, 3) := by decide +kernel
theorem dX12_next_218 : decode cX12_next 218 = .ok (.iconst (-1), 1) := by decide +kernel
theorem dX12_next_219 : decode cX12_next 219 = .ok (.ireturn, 1) := by decide +kernel
theorem dX12_next_220 : decode cX12_next 220 = .ok (.iload_n 3, 1) := by decide +kernel
theorem dX12_next_221 : decode cX12_next 221 = .ok (.ifCond .eq 8, 3) := by decide +kernel
theorem dX12_next_224 : decode cX12_next 224 = .ok (.bipush 7, 2) := by decide +kernel
theorem dX12_next_226 : decode cX12_next 226 = .ok (.goto 13, 3) := by decide +kernel
theorem dX12_next_229 : decode cX12_next 229 = .ok (.iload_n 2, 1) := by decide +kernel
theorem dX12_next_230 : decode cX12_next 230 = .ok (.ifCond .eq 8, 3) := by decide +kernel
theorem dX12_next_233 : decode cX12_next 233 = .ok (.bipush 8, 2) := by decide +kernel
theorem dX12_next_235 : decode cX12_next 235 = .ok (.goto 4, 3) := by decide +kernel
theorem dX12_next_238 : decode cX12_next 238 = .ok (.iconst (-1), 1) := by decide +kernel
theorem dX12_next_239 : decode cX12_next 239 = .ok (.ireturn, 1) := by decide +kernel
theorem dX12_next_240 : decode cX12_next 240 = .ok (.iload_n 2, 1) := by decide +kernel
theorem dX12_next_241 : decode cX12_next 241 = .ok (.ifCond .eq 8, 3) := by decide +kernel
theorem dX12_next_244 : decode cX12_next 244 = .ok (.bipush 8, 2) := by decide +kernel
theorem dX12_next_246 : decode cX12_next 246 = .ok (.goto 4, 3) := by decide +kernel
theorem dX12_next_249 : decode cX12_next 249 = .ok (.iconst (-1), 1) := by decide +kernel
theorem dX12_next_250 : decode cX12_next 250 = .ok (.ireturn, 1) := by decide +kernel
theorem dX12_next_251 : decode cX12_next 251 = .ok (.iload_n 2, 1) := by decide +kernel
theorem dX12_next_252 : decode cX12_next 252 = .ok (.ifCond .eq 9, 3) := by decide +kernel
theorem dX12_next_255 : decode cX12_next 255 = .ok (.iload_n 0, 1) := by decide +kernel
theorem dX12_next_256 : decode cX12_next 256 = .ok (.iconst 1, 1) := by decide +kernel
theorem dX12_next_257 : decode cX12_next 257 = .ok (.iadd, 1) := by decide +kernel
theorem dX12_next_258 : decode cX12_next 258 = .ok (.goto 4, 3) := by decide +kernel
theorem dX12_next_261 : decode cX12_next 261 = .ok (.iconst (-1), 1) := by decide +kernel
theorem dX12_next_262 : decode cX12_next 262 = .ok (.ireturn, 1) := by decide +kernel
theorem dX12_next_263 : decode cX12_next 263 = .ok (.iconst (-1), 1) := by decide +kernel
theorem dX12_next_264 : decode cX12_next 264 = .ok (.ireturn, 1) := by decide +kernel
theorem dX12_faultOf_0 : decode cX12_faultOf 0 = .ok (.iconst 0, 1) := by decide +kernel
theorem dX12_faultOf_1 : decode cX12_faultOf 1 = .ok (.istore_n 1, 1) := by decide +kernel
theorem dX12_faultOf_2 : decode cX12_faultOf 2 = .ok (.iconst 0, 1) := by decide +kernel
theorem dX12_faultOf_3 : decode cX12_faultOf 3 = .ok (.istore_n 2, 1) := by decide +kernel
theorem dX12_faultOf_4 : decode cX12_faultOf 4 = .ok (.iload_n 2, 1) := by decide +kernel
theorem dX12_faultOf_5 : decode cX12_faultOf 5 = .ok (.aload_n 0, 1) := by decide +kernel
theorem dX12_faultOf_6 : decode cX12_faultOf 6 = .ok (.getfield 213, 3) := by decide +kernel
theorem dX12_faultOf_9 : decode cX12_faultOf 9 = .ok (.if_icmp .ge 26, 3) := by decide +kernel
theorem dX12_faultOf_12 : decode cX12_faultOf 12 = .ok (.iload_n 1, 1) := by decide +kernel
theorem dX12_faultOf_13 : decode cX12_faultOf 13 = .ok (.aload_n 0, 1) := by decide +kernel
theorem dX12_faultOf_14 : decode cX12_faultOf 14 = .ok (.getfield 67, 3) := by decide +kernel
theorem dX12_faultOf_17 : decode cX12_faultOf 17 = .ok (.iload_n 2, 1) := by decide +kernel
theorem dX12_faultOf_18 : decode cX12_faultOf 18 = .ok (.caload, 1) := by decide +kernel
theorem dX12_faultOf_19 : decode cX12_faultOf 19 = .ok (.invokestatic 216, 3) := by decide +kernel
theorem dX12_faultOf_22 : decode cX12_faultOf 22 = .ok (.istore_n 1, 1) := by decide +kernel
theorem dX12_faultOf_23 : decode cX12_faultOf 23 = .ok (.iload_n 1, 1) := by decide +kernel
theorem dX12_faultOf_24 : decode cX12_faultOf 24 = .ok (.ifCond .ge 5, 3) := by decide +kernel
theorem dX12_faultOf_27 : decode cX12_faultOf 27 = .ok (.iload_n 2, 1) := by decide +kernel
theorem dX12_faultOf_28 : decode cX12_faultOf 28 = .ok (.ireturn, 1) := by decide +kernel
theorem dX12_faultOf_29 : decode cX12_faultOf 29 = .ok (.iinc 2 1, 3) := by decide +kernel
theorem dX12_faultOf_32 : decode cX12_faultOf 32 = .ok (.goto (-28), 3) := by decide +kernel
theorem dX12_faultOf_35 : decode cX12_faultOf 35 = .ok (.iload_n 1, 1) := by decide +kernel
theorem dX12_faultOf_36 : decode cX12_faultOf 36 = .ok (.ifCond .eq 24, 3) := by decide +kernel
theorem dX12_faultOf_39 : decode cX12_faultOf 39 = .ok (.iload_n 1, 1) := by decide +kernel
theorem dX12_faultOf_40 : decode cX12_faultOf 40 = .ok (.iconst 1, 1) := by decide +kernel
theorem dX12_faultOf_41 : decode cX12_faultOf 41 = .ok (.if_icmp .eq 19, 3) := by decide +kernel
theorem dX12_faultOf_44 : decode cX12_faultOf 44 = .ok (.iload_n 1, 1) := by decide +kernel
theorem dX12_faultOf_45 : decode cX12_faultOf 45 = .ok (.iconst 3, 1) := by decide +kernel
theorem dX12_faultOf_46 : decode cX12_faultOf 46 = .ok (.if_icmp .eq 14, 3) := by decide +kernel
theorem dX12_faultOf_49 : decode cX12_faultOf 49 = .ok (.iload_n 1, 1) := by decide +kernel
theorem dX12_faultOf_50 : decode cX12_faultOf 50 = .ok (.iconst 5, 1) := by decide +kernel
theorem dX12_faultOf_51 : decode cX12_faultOf 51 = .ok (.if_icmp .eq 9, 3) := by decide +kernel
theorem dX12_faultOf_54 : decode cX12_faultOf 54 = .ok (.iload_n 1, 1) := by decide +kernel
theorem dX12_faultOf_55 : decode cX12_faultOf 55 = .ok (.bipush 7, 2) := by decide +kernel
theorem dX12_faultOf_57 : decode cX12_faultOf 57 = .ok (.if_icmp .ne 10, 3) := by decide +kernel
theorem dX12_faultOf_60 : decode cX12_faultOf 60 = .ok (.aload_n 0, 1) := by decide +kernel
theorem dX12_faultOf_61 : decode cX12_faultOf 61 = .ok (.getfield 213, 3) := by decide +kernel
theorem dX12_faultOf_64 : decode cX12_faultOf 64 = .ok (.goto 4, 3) := by decide +kernel
theorem dX12_faultOf_67 : decode cX12_faultOf 67 = .ok (.iconst (-1), 1) := by decide +kernel
theorem dX12_faultOf_68 : decode cX12_faultOf 68 = .ok (.ireturn, 1) := by decide +kernel
theorem dX12_fault_0 : decode cX12_fault 0 = .ok (.aload_n 0, 1) := by decide +kernel
theorem dX12_fault_1 : decode cX12_fault 1 = .ok (.iconst 0, 1) := by decide +kernel
theorem dX12_fault_2 : decode cX12_fault 2 = .ok (.putfield 178, 3) := by decide +kernel
theorem dX12_fault_5 : decode cX12_fault 5 = .ok (.aload_n 0, 1) := by decide +kernel
theorem dX12_fault_6 : decode cX12_fault 6 = .ok (.invokevirtual 220, 3) := by decide +kernel
theorem dX12_fault_9 : decode cX12_fault 9 = .ok (.ireturn, 1) := by decide +kernel
theorem dX12_read_0 : decode cX12_read 0 = .ok (.aload_n 0, 1) := by decide +kernel
theorem dX12_read_1 : decode cX12_read 1 = .ok (.iload_n 1, 1) := by decide +kernel
theorem dX12_read_2 : decode cX12_read 2 = .ok (.invokestatic 199, 3) := by decide +kernel
theorem dX12_read_5 : decode cX12_read 5 = .ok (.ifCond .ne 7, 3) := by decide +kernel
theorem dX12_read_8 : decode cX12_read 8 = .ok (.iconst 1, 1) := by decide +kernel
theorem dX12_read_9 : decode cX12_read 9 = .ok (.goto 15, 3) := by decide +kernel
theorem dX12_read_12 : decode cX12_read 12 = .ok (.aload_n 0, 1) := by decide +kernel
theorem dX12_read_13 : decode cX12_read 13 = .ok (.invokevirtual 220, 3) := by decide +kernel
theorem dX12_read_16 : decode cX12_read 16 = .ok (.ifCond .lt 7, 3) := by decide +kernel
theorem dX12_read_19 : decode cX12_read 19 = .ok (.iconst 2, 1) := by decide +kernel
theorem dX12_read_20 : decode cX12_read 20 = .ok (.goto 4, 3) := by decide +kernel
theorem dX12_read_23 : decode cX12_read 23 = .ok (.iconst 0, 1) := by decide +kernel
theorem dX12_read_24 : decode cX12_read 24 = .ok (.invokevirtual 206, 3) := by decide +kernel
theorem dX12_read_27 : decode cX12_read 27 = .ok (.ifCond .eq 5, 3) := by decide +kernel
theorem dX12_read_30 : decode cX12_read 30 = .ok (.iconst 0, 1) := by decide +kernel
theorem dX12_read_31 : decode cX12_read 31 = .ok (.ireturn, 1) := by decide +kernel
theorem dX12_read_32 : decode cX12_read 32 = .ok (.aload_n 0, 1) := by decide +kernel
theorem dX12_read_33 : decode cX12_read 33 = .ok (.getfield 1, 3) := by decide +kernel
theorem dX12_read_36 : decode cX12_read 36 = .ok (.iconst 4, 1) := by decide +kernel
theorem dX12_read_37 : decode cX12_read 37 = .ok (.iconst 0, 1) := by decide +kernel
theorem dX12_read_38 : decode cX12_read 38 = .ok (.iastore, 1) := by decide +kernel
theorem dX12_read_39 : decode cX12_read 39 = .ok (.iconst 0, 1) := by decide +kernel
theorem dX12_read_40 : decode cX12_read 40 = .ok (.istore_n 2, 1) := by decide +kernel
theorem dX12_read_41 : decode cX12_read 41 = .ok (.iconst 0, 1) := by decide +kernel
theorem dX12_read_42 : decode cX12_read 42 = .ok (.istore_n 3, 1) := by decide +kernel
theorem dX12_read_43 : decode cX12_read 43 = .ok (.iconst 1, 1) := by decide +kernel
theorem dX12_read_44 : decode cX12_read 44 = .ok (.istore 4, 2) := by decide +kernel
theorem dX12_read_46 : decode cX12_read 46 = .ok (.iconst 0, 1) := by decide +kernel
theorem dX12_read_47 : decode cX12_read 47 = .ok (.istore 5, 2) := by decide +kernel
theorem dX12_read_49 : decode cX12_read 49 = .ok (.iconst 0, 1) := by decide +kernel
theorem dX12_read_50 : decode cX12_read 50 = .ok (.istore 6, 2) := by decide +kernel
theorem dX12_read_52 : decode cX12_read 52 = .ok (.iload 6, 2) := by decide +kernel
theorem dX12_read_54 : decode cX12_read 54 = .ok (.aload_n 0, 1) := by decide +kernel
theorem dX12_read_55 : decode cX12_read 55 = .ok (.getfield 213, 3) := by decide +kernel
theorem dX12_read_58 : decode cX12_read 58 = .ok (.if_icmp .ge 136, 3) := by decide +kernel
theorem dX12_read_61 : decode cX12_read 61 = .ok (.iload 5, 2) := by decide +kernel
theorem dX12_read_63 : decode cX12_read 63 = .ok (.aload_n 0, 1) := by decide +kernel
theorem dX12_read_64 : decode cX12_read 64 = .ok (.getfield 67, 3) := by decide +kernel
theorem dX12_read_67 : decode cX12_read 67 = .ok (.iload 6, 2) := by decide +kernel
theorem dX12_read_69 : decode cX12_read 69 = .ok (.caload, 1) := by decide +kernel
theorem dX12_read_70 : decode cX12_read 70 = .ok (.invokestatic 216, 3) := by decide +kernel
theorem dX12_read_73 : decode cX12_read 73 = .ok (.istore 5, 2) := by decide +kernel
theorem dX12_read_75 : decode cX12_read 75 = .ok (.iload 5, 2) := by decide +kernel
theorem dX12_read_77 : decode cX12_read 77 = .ok (.iconst 2, 1) := by decide +kernel
theorem dX12_read_78 : decode cX12_read 78 = .ok (.if_icmp .eq 10, 3) := by decide +kernel
theorem dX12_read_81 : decode cX12_read 81 = .ok (.iload 5, 2) := by decide +kernel
theorem dX12_read_83 : decode cX12_read 83 = .ok (.bipush 6, 2) := by decide +kernel
theorem dX12_read_85 : decode cX12_read 85 = .ok (.if_icmp .ne 58, 3) := by decide +kernel
theorem dX12_read_88 : decode cX12_read 88 = .ok (.aload_n 0, 1) := by decide +kernel
theorem dX12_read_89 : decode cX12_read 89 = .ok (.getfield 67, 3) := by decide +kernel
theorem dX12_read_92 : decode cX12_read 92 = .ok (.iload 6, 2) := by decide +kernel
theorem dX12_read_94 : decode cX12_read 94 = .ok (.caload, 1) := by decide +kernel
theorem dX12_read_95 : decode cX12_read 95 = .ok (.bipush 46, 2) := by decide +kernel
theorem dX12_read_97 : decode cX12_read 97 = .ok (.if_icmp .eq 46, 3) := by decide +kernel
theorem dX12_read_100 : decode cX12_read 100 = .ok (.aload_n 0, 1) := by decide +kernel
theorem dX12_read_101 : decode cX12_read 101 = .ok (.iconst 4, 1) := by decide +kernel
theorem dX12_read_102 : decode cX12_read 102 = .ok (.iconst 1, 1) := by decide +kernel
theorem dX12_read_103 : decode cX12_read 103 = .ok (.invokevirtual 24, 3) := by decide +kernel
theorem dX12_read_106 : decode cX12_read 106 = .ok (.aload_n 0, 1) := by decide +kernel
theorem dX12_read_107 : decode cX12_read 107 = .ok (.iconst 5, 1) := by decide +kernel
theorem dX12_read_108 : decode cX12_read 108 = .ok (.aload_n 0, 1) := by decide +kernel
theorem dX12_read_109 : decode cX12_read 109 = .ok (.getfield 67, 3) := by decide +kernel
theorem dX12_read_112 : decode cX12_read 112 = .ok (.iload 6, 2) := by decide +kernel
theorem dX12_read_114 : decode cX12_read 114 = .ok (.caload, 1) := by decide +kernel
theorem dX12_read_115 : decode cX12_read 115 = .ok (.bipush 48, 2) := by decide +kernel
theorem dX12_read_117 : decode cX12_read 117 = .ok (.isub, 1) := by decide +kernel
theorem dX12_read_118 : decode cX12_read 118 = .ok (.i2l, 1) := by decide +kernel
theorem dX12_read_119 : decode cX12_read 119 = .ok (.invokevirtual 33, 3) := by decide +kernel
theorem dX12_read_122 : decode cX12_read 122 = .ok (.aload_n 0, 1) := by decide +kernel
theorem dX12_read_123 : decode cX12_read 123 = .ok (.iconst 4, 1) := by decide +kernel
theorem dX12_read_124 : decode cX12_read 124 = .ok (.iconst 5, 1) := by decide +kernel
theorem dX12_read_125 : decode cX12_read 125 = .ok (.invokevirtual 27, 3) := by decide +kernel
theorem dX12_read_128 : decode cX12_read 128 = .ok (.iload_n 2, 1) := by decide +kernel
theorem dX12_read_129 : decode cX12_read 129 = .ok (.iload 5, 2) := by decide +kernel
theorem dX12_read_131 : decode cX12_read 131 = .ok (.bipush 6, 2) := by decide +kernel
theorem dX12_read_133 : decode cX12_read 133 = .ok (.if_icmp .ne 7, 3) := by decide +kernel
theorem dX12_read_136 : decode cX12_read 136 = .ok (.iconst 1, 1) := by decide +kernel
theorem dX12_read_137 : decode cX12_read 137 = .ok (.goto 4, 3) := by decide +kernel
theorem dX12_read_140 : decode cX12_read 140 = .ok (.iconst 0, 1) := by decide +kernel
theorem dX12_read_141 : decode cX12_read 141 = .ok (.iadd, 1) := by decide +kernel
theorem dX12_read_142 : decode cX12_read 142 = .ok (.istore_n 2, 1) := by decide +kernel
theorem dX12_read_143 : decode cX12_read 143 = .ok (.iload 5, 2) := by decide +kernel
theorem dX12_read_145 : decode cX12_read 145 = .ok (.bipush 8, 2) := by decide +kernel
theorem dX12_read_147 : decode cX12_read 147 = .ok (.if_icmp .lt 19, 3) := by decide +kernel
theorem dX12_read_150 : decode cX12_read 150 = .ok (.bipush 10, 2) := by decide +kernel
theorem dX12_read_152 : decode cX12_read 152 = .ok (.iload_n 3, 1) := by decide +kernel
theorem dX12_read_153 : decode cX12_read 153 = .ok (.imul, 1) := by decide +kernel
theorem dX12_read_154 : decode cX12_read 154 = .ok (.aload_n 0, 1) := by decide +kernel
theorem dX12_read_155 : decode cX12_read 155 = .ok (.getfield 67, 3) := by decide +kernel
theorem dX12_read_158 : decode cX12_read 158 = .ok (.iload 6, 2) := by decide +kernel
theorem dX12_read_160 : decode cX12_read 160 = .ok (.caload, 1) := by decide +kernel
theorem dX12_read_161 : decode cX12_read 161 = .ok (.iadd, 1) := by decide +kernel
theorem dX12_read_162 : decode cX12_read 162 = .ok (.bipush 48, 2) := by decide +kernel
theorem dX12_read_164 : decode cX12_read 164 = .ok (.isub, 1) := by decide +kernel
theorem dX12_read_165 : decode cX12_read 165 = .ok (.istore_n 3, 1) := by decide +kernel
theorem dX12_read_166 : decode cX12_read 166 = .ok (.iload 5, 2) := by decide +kernel
theorem dX12_read_168 : decode cX12_read 168 = .ok (.bipush 7, 2) := by decide +kernel
theorem dX12_read_170 : decode cX12_read 170 = .ok (.if_icmp .ne 18, 3) := by decide +kernel
theorem dX12_read_173 : decode cX12_read 173 = .ok (.aload_n 0, 1) := by decide +kernel
theorem dX12_read_174 : decode cX12_read 174 = .ok (.getfield 67, 3) := by decide +kernel
theorem dX12_read_177 : decode cX12_read 177 = .ok (.iload 6, 2) := by decide +kernel
theorem dX12_read_179 : decode cX12_read 179 = .ok (.caload, 1) := by decide +kernel
theorem dX12_read_180 : decode cX12_read 180 = .ok (.bipush 45, 2) := by decide +kernel
theorem dX12_read_182 : decode cX12_read 182 = .ok (.if_icmp .ne 6, 3) := by decide +kernel
theorem dX12_read_185 : decode cX12_read 185 = .ok (.iconst (-1), 1) := by decide +kernel
theorem dX12_read_186 : decode cX12_read 186 = .ok (.istore 4, 2) := by decide +kernel
theorem dX12_read_188 : decode cX12_read 188 = .ok (.iinc 6 1, 3) := by decide +kernel
theorem dX12_read_191 : decode cX12_read 191 = .ok (.goto (-139), 3) := by decide +kernel
theorem dX12_read_194 : decode cX12_read 194 = .ok (.aload_n 0, 1) := by decide +kernel
theorem dX12_read_195 : decode cX12_read 195 = .ok (.aload_n 0, 1) := by decide +kernel
theorem dX12_read_196 : decode cX12_read 196 = .ok (.iload_n 1, 1) := by decide +kernel
theorem dX12_read_197 : decode cX12_read 197 = .ok (.iconst 4, 1) := by decide +kernel
theorem dX12_read_198 : decode cX12_read 198 = .ok (.aload_n 0, 1) := by decide +kernel
theorem dX12_read_199 : decode cX12_read 199 = .ok (.getfield 67, 3) := by decide +kernel
theorem dX12_read_202 : decode cX12_read 202 = .ok (.iconst 0, 1) := by decide +kernel
theorem dX12_read_203 : decode cX12_read 203 = .ok (.caload, 1) := by decide +kernel
theorem dX12_read_204 : decode cX12_read 204 = .ok (.bipush 45, 2) := by decide +kernel
theorem dX12_read_206 : decode cX12_read 206 = .ok (.if_icmp .ne 7, 3) := by decide +kernel
theorem dX12_read_209 : decode cX12_read 209 = .ok (.iconst 1, 1) := by decide +kernel
theorem dX12_read_210 : decode cX12_read 210 = .ok (.goto 4, 3) := by decide +kernel
theorem dX12_read_213 : decode cX12_read 213 = .ok (.iconst 0, 1) := by decide +kernel
theorem dX12_read_214 : decode cX12_read 214 = .ok (.iload_n 2, 1) := by decide +kernel
theorem dX12_read_215 : decode cX12_read 215 = .ok (.iload 4, 2) := by decide +kernel
theorem dX12_read_217 : decode cX12_read 217 = .ok (.iload_n 3, 1) := by decide +kernel
theorem dX12_read_218 : decode cX12_read 218 = .ok (.imul, 1) := by decide +kernel
theorem dX12_read_219 : decode cX12_read 219 = .ok (.isub, 1) := by decide +kernel
theorem dX12_read_220 : decode cX12_read 220 = .ok (.invokevirtual 224, 3) := by decide +kernel
theorem dX12_read_223 : decode cX12_read 223 = .ok (.ifCond .eq 7, 3) := by decide +kernel
theorem dX12_read_226 : decode cX12_read 226 = .ok (.iconst 0, 1) := by decide +kernel
theorem dX12_read_227 : decode cX12_read 227 = .ok (.goto 4, 3) := by decide +kernel
theorem dX12_read_230 : decode cX12_read 230 = .ok (.iconst 3, 1) := by decide +kernel
theorem dX12_read_231 : decode cX12_read 231 = .ok (.invokevirtual 206, 3) := by decide +kernel
theorem dX12_read_234 : decode cX12_read 234 = .ok (.ifCond .eq 5, 3) := by decide +kernel
theorem dX12_read_237 : decode cX12_read 237 = .ok (.iconst 0, 1) := by decide +kernel
theorem dX12_read_238 : decode cX12_read 238 = .ok (.ireturn, 1) := by decide +kernel
theorem dX12_read_239 : decode cX12_read 239 = .ok (.aload_n 0, 1) := by decide +kernel
theorem dX12_read_240 : decode cX12_read 240 = .ok (.iconst 0, 1) := by decide +kernel
theorem dX12_read_241 : decode cX12_read 241 = .ok (.putfield 213, 3) := by decide +kernel
theorem dX12_read_244 : decode cX12_read 244 = .ok (.aload_n 0, 1) := by decide +kernel
theorem dX12_read_245 : decode cX12_read 245 = .ok (.getfield 60, 3) := by decide +kernel
theorem dX12_read_248 : decode cX12_read 248 = .ok (.iload_n 1, 1) := by decide +kernel
theorem dX12_read_249 : decode cX12_read 249 = .ok (.iaload, 1) := by decide +kernel
theorem dX12_read_250 : decode cX12_read 250 = .ok (.ireturn, 1) := by decide +kernel
theorem dX12_wipe_0 : decode cX12_wipe 0 = .ok (.aload_n 0, 1) := by decide +kernel
theorem dX12_wipe_1 : decode cX12_wipe 1 = .ok (.iconst 0, 1) := by decide +kernel
theorem dX12_wipe_2 : decode cX12_wipe 2 = .ok (.putfield 178, 3) := by decide +kernel
theorem dX12_wipe_5 : decode cX12_wipe 5 = .ok (.aload_n 0, 1) := by decide +kernel
theorem dX12_wipe_6 : decode cX12_wipe 6 = .ok (.getfield 213, 3) := by decide +kernel
theorem dX12_wipe_9 : decode cX12_wipe 9 = .ok (.istore_n 1, 1) := by decide +kernel
theorem dX12_wipe_10 : decode cX12_wipe 10 = .ok (.aload_n 0, 1) := by decide +kernel
theorem dX12_wipe_11 : decode cX12_wipe 11 = .ok (.iconst 0, 1) := by decide +kernel
theorem dX12_wipe_12 : decode cX12_wipe 12 = .ok (.putfield 213, 3) := by decide +kernel
theorem dX12_wipe_15 : decode cX12_wipe 15 = .ok (.iload_n 1, 1) := by decide +kernel
theorem dX12_wipe_16 : decode cX12_wipe 16 = .ok (.ireturn, 1) := by decide +kernel
theorem dX12_noValue_0 : decode cX12_noValue 0 = .ok (.iload_n 1, 1) := by decide +kernel
theorem dX12_noValue_1 : decode cX12_noValue 1 = .ok (.invokestatic 199, 3) := by decide +kernel
theorem dX12_noValue_4 : decode cX12_noValue 4 = .ok (.ifCond .ne 7, 3) := by decide +kernel
theorem dX12_noValue_7 : decode cX12_noValue 7 = .ok (.iconst 1, 1) := by decide +kernel
theorem dX12_noValue_8 : decode cX12_noValue 8 = .ok (.goto 17, 3) := by decide +kernel
theorem dX12_noValue_11 : decode cX12_noValue 11 = .ok (.aload_n 0, 1) := by decide +kernel
theorem dX12_noValue_12 : decode cX12_noValue 12 = .ok (.getfield 63, 3) := by decide +kernel
theorem dX12_noValue_15 : decode cX12_noValue 15 = .ok (.iload_n 1, 1) := by decide +kernel
theorem dX12_noValue_16 : decode cX12_noValue 16 = .ok (.baload, 1) := by decide +kernel
theorem dX12_noValue_17 : decode cX12_noValue 17 = .ok (.ifCond .eq 7, 3) := by decide +kernel
theorem dX12_noValue_20 : decode cX12_noValue 20 = .ok (.iconst 0, 1) := by decide +kernel
theorem dX12_noValue_21 : decode cX12_noValue 21 = .ok (.goto 4, 3) := by decide +kernel
theorem dX12_noValue_24 : decode cX12_noValue 24 = .ok (.iconst 2, 1) := by decide +kernel
theorem dX12_noValue_25 : decode cX12_noValue 25 = .ok (.ireturn, 1) := by decide +kernel
theorem dX12_unscaled_0 : decode cX12_unscaled 0 = .ok (.aload_n 0, 1) := by decide +kernel
theorem dX12_unscaled_1 : decode cX12_unscaled 1 = .ok (.aload_n 0, 1) := by decide +kernel
theorem dX12_unscaled_2 : decode cX12_unscaled 2 = .ok (.iload_n 1, 1) := by decide +kernel
theorem dX12_unscaled_3 : decode cX12_unscaled 3 = .ok (.invokevirtual 228, 3) := by decide +kernel
theorem dX12_unscaled_6 : decode cX12_unscaled 6 = .ok (.invokevirtual 206, 3) := by decide +kernel
theorem dX12_unscaled_9 : decode cX12_unscaled 9 = .ok (.ifCond .eq 7, 3) := by decide +kernel
theorem dX12_unscaled_12 : decode cX12_unscaled 12 = .ok (.lconst 0, 1) := by decide +kernel
theorem dX12_unscaled_13 : decode cX12_unscaled 13 = .ok (.goto 9, 3) := by decide +kernel
theorem dX12_unscaled_16 : decode cX12_unscaled 16 = .ok (.aload_n 0, 1) := by decide +kernel
theorem dX12_unscaled_17 : decode cX12_unscaled 17 = .ok (.getfield 56, 3) := by decide +kernel
theorem dX12_unscaled_20 : decode cX12_unscaled 20 = .ok (.iload_n 1, 1) := by decide +kernel
theorem dX12_unscaled_21 : decode cX12_unscaled 21 = .ok (.laload, 1) := by decide +kernel
theorem dX12_unscaled_22 : decode cX12_unscaled 22 = .ok (.lreturn, 1) := by decide +kernel
theorem dX12_scale_0 : decode cX12_scale 0 = .ok (.aload_n 0, 1) := by decide +kernel
theorem dX12_scale_1 : decode cX12_scale 1 = .ok (.aload_n 0, 1) := by decide +kernel
theorem dX12_scale_2 : decode cX12_scale 2 = .ok (.iload_n 1, 1) := by decide +kernel
theorem dX12_scale_3 : decode cX12_scale 3 = .ok (.invokevirtual 228, 3) := by decide +kernel
theorem dX12_scale_6 : decode cX12_scale 6 = .ok (.invokevirtual 206, 3) := by decide +kernel
theorem dX12_scale_9 : decode cX12_scale 9 = .ok (.ifCond .eq 7, 3) := by decide +kernel
theorem dX12_scale_12 : decode cX12_scale 12 = .ok (.iconst 0, 1) := by decide +kernel
theorem dX12_scale_13 : decode cX12_scale 13 = .ok (.goto 9, 3) := by decide +kernel
theorem dX12_scale_16 : decode cX12_scale 16 = .ok (.aload_n 0, 1) := by decide +kernel
theorem dX12_scale_17 : decode cX12_scale 17 = .ok (.getfield 60, 3) := by decide +kernel
theorem dX12_scale_20 : decode cX12_scale 20 = .ok (.iload_n 1, 1) := by decide +kernel
theorem dX12_scale_21 : decode cX12_scale 21 = .ok (.iaload, 1) := by decide +kernel
theorem dX12_scale_22 : decode cX12_scale 22 = .ok (.ireturn, 1) := by decide +kernel
theorem dX12_precision_0 : decode cX12_precision 0 = .ok (.aload_n 0, 1) := by decide +kernel
theorem dX12_precision_1 : decode cX12_precision 1 = .ok (.aload_n 0, 1) := by decide +kernel
theorem dX12_precision_2 : decode cX12_precision 2 = .ok (.iload_n 1, 1) := by decide +kernel
theorem dX12_precision_3 : decode cX12_precision 3 = .ok (.invokevirtual 228, 3) := by decide +kernel
theorem dX12_precision_6 : decode cX12_precision 6 = .ok (.invokevirtual 206, 3) := by decide +kernel
theorem dX12_precision_9 : decode cX12_precision 9 = .ok (.ifCond .ne 14, 3) := by decide +kernel
theorem dX12_precision_12 : decode cX12_precision 12 = .ok (.aload_n 0, 1) := by decide +kernel
theorem dX12_precision_13 : decode cX12_precision 13 = .ok (.getfield 56, 3) := by decide +kernel
theorem dX12_precision_16 : decode cX12_precision 16 = .ok (.iload_n 1, 1) := by decide +kernel
theorem dX12_precision_17 : decode cX12_precision 17 = .ok (.laload, 1) := by decide +kernel
theorem dX12_precision_18 : decode cX12_precision 18 = .ok (.lconst 0, 1) := by decide +kernel
theorem dX12_precision_19 : decode cX12_precision 19 = .ok (.lcmp, 1) := by decide +kernel
theorem dX12_precision_20 : decode cX12_precision 20 = .ok (.ifCond .ne 5, 3) := by decide +kernel
theorem dX12_precision_23 : decode cX12_precision 23 = .ok (.iconst 0, 1) := by decide +kernel
theorem dX12_precision_24 : decode cX12_precision 24 = .ok (.ireturn, 1) := by decide +kernel
theorem dX12_precision_25 : decode cX12_precision 25 = .ok (.aload_n 0, 1) := by decide +kernel
theorem dX12_precision_26 : decode cX12_precision 26 = .ok (.getfield 56, 3) := by decide +kernel
theorem dX12_precision_29 : decode cX12_precision 29 = .ok (.iload_n 1, 1) := by decide +kernel
theorem dX12_precision_30 : decode cX12_precision 30 = .ok (.laload, 1) := by decide +kernel
theorem dX12_precision_31 : decode cX12_precision 31 = .ok (.lconst 0, 1) := by decide +kernel
theorem dX12_precision_32 : decode cX12_precision 32 = .ok (.lcmp, 1) := by decide +kernel
theorem dX12_precision_33 : decode cX12_precision 33 = .ok (.ifCond .ge 16, 3) := by decide +kernel
theorem dX12_precision_36 : decode cX12_precision 36 = .ok (.aload_n 0, 1) := by decide +kernel
theorem dX12_precision_37 : decode cX12_precision 37 = .ok (.getfield 56, 3) := by decide +kernel
theorem dX12_precision_40 : decode cX12_precision 40 = .ok (.iload_n 1, 1) := by decide +kernel
theorem dX12_precision_41 : decode cX12_precision 41 = .ok (.laload, 1) := by decide +kernel
theorem dX12_precision_42 : decode cX12_precision 42 = .ok (.invokestatic 209, 3) := by decide +kernel
theorem dX12_precision_45 : decode cX12_precision 45 = .ok (.ineg, 1) := by decide +kernel
theorem dX12_precision_46 : decode cX12_precision 46 = .ok (.goto 12, 3) := by decide +kernel
theorem dX12_precision_49 : decode cX12_precision 49 = .ok (.aload_n 0, 1) := by decide +kernel
theorem dX12_precision_50 : decode cX12_precision 50 = .ok (.getfield 56, 3) := by decide +kernel
theorem dX12_precision_53 : decode cX12_precision 53 = .ok (.iload_n 1, 1) := by decide +kernel
theorem dX12_precision_54 : decode cX12_precision 54 = .ok (.laload, 1) := by decide +kernel
theorem dX12_precision_55 : decode cX12_precision 55 = .ok (.invokestatic 209, 3) := by decide +kernel
theorem dX12_precision_58 : decode cX12_precision 58 = .ok (.ireturn, 1) := by decide +kernel
theorem dX12_as_0 : decode cX12_as 0 = .ok (.aload_n 0, 1) := by decide +kernel
theorem dX12_as_1 : decode cX12_as 1 = .ok (.iload_n 1, 1) := by decide +kernel
theorem dX12_as_2 : decode cX12_as 2 = .ok (.aload_n 0, 1) := by decide +kernel
theorem dX12_as_3 : decode cX12_as 3 = .ok (.getfield 56, 3) := by decide +kernel
theorem dX12_as_6 : decode cX12_as 6 = .ok (.iload_n 2, 1) := by decide +kernel
theorem dX12_as_7 : decode cX12_as 7 = .ok (.laload, 1) := by decide +kernel
theorem dX12_as_8 : decode cX12_as 8 = .ok (.invokevirtual 33, 3) := by decide +kernel
theorem dX12_as_11 : decode cX12_as 11 = .ok (.aload_n 0, 1) := by decide +kernel
theorem dX12_as_12 : decode cX12_as 12 = .ok (.iload_n 1, 1) := by decide +kernel
theorem dX12_as_13 : decode cX12_as 13 = .ok (.iload_n 3, 1) := by decide +kernel
theorem dX12_as_14 : decode cX12_as 14 = .ok (.aload_n 0, 1) := by decide +kernel
theorem dX12_as_15 : decode cX12_as 15 = .ok (.getfield 60, 3) := by decide +kernel
theorem dX12_as_18 : decode cX12_as 18 = .ok (.iload_n 2, 1) := by decide +kernel
theorem dX12_as_19 : decode cX12_as 19 = .ok (.iaload, 1) := by decide +kernel
theorem dX12_as_20 : decode cX12_as 20 = .ok (.isub, 1) := by decide +kernel
theorem dX12_as_21 : decode cX12_as 21 = .ok (.invokevirtual 24, 3) := by decide +kernel
theorem dX12_as_24 : decode cX12_as 24 = .ok (.return_, 1) := by decide +kernel
theorem dX12_signOf_0 : decode cX12_signOf 0 = .ok (.lload_n 0, 1) := by decide +kernel
theorem dX12_signOf_1 : decode cX12_signOf 1 = .ok (.lconst 0, 1) := by decide +kernel
theorem dX12_signOf_2 : decode cX12_signOf 2 = .ok (.lcmp, 1) := by decide +kernel
theorem dX12_signOf_3 : decode cX12_signOf 3 = .ok (.ifCond .ge 7, 3) := by decide +kernel
theorem dX12_signOf_6 : decode cX12_signOf 6 = .ok (.iconst (-1), 1) := by decide +kernel
theorem dX12_signOf_7 : decode cX12_signOf 7 = .ok (.goto 14, 3) := by decide +kernel
theorem dX12_signOf_10 : decode cX12_signOf 10 = .ok (.lload_n 0, 1) := by decide +kernel
theorem dX12_signOf_11 : decode cX12_signOf 11 = .ok (.lconst 0, 1) := by decide +kernel
theorem dX12_signOf_12 : decode cX12_signOf 12 = .ok (.lcmp, 1) := by decide +kernel
theorem dX12_signOf_13 : decode cX12_signOf 13 = .ok (.ifCond .le 7, 3) := by decide +kernel
theorem dX12_signOf_16 : decode cX12_signOf 16 = .ok (.iconst 1, 1) := by decide +kernel
theorem dX12_signOf_17 : decode cX12_signOf 17 = .ok (.goto 4, 3) := by decide +kernel
theorem dX12_signOf_20 : decode cX12_signOf 20 = .ok (.iconst 0, 1) := by decide +kernel
theorem dX12_signOf_21 : decode cX12_signOf 21 = .ok (.ireturn, 1) := by decide +kernel
theorem dX12_order_0 : decode cX12_order 0 = .ok (.aload_n 0, 1) := by decide +kernel
theorem dX12_order_1 : decode cX12_order 1 = .ok (.getfield 60, 3) := by decide +kernel
theorem dX12_order_4 : decode cX12_order 4 = .ok (.iload_n 1, 1) := by decide +kernel
theorem dX12_order_5 : decode cX12_order 5 = .ok (.iaload, 1) := by decide +kernel
theorem dX12_order_6 : decode cX12_order 6 = .ok (.aload_n 0, 1) := by decide +kernel
theorem dX12_order_7 : decode cX12_order 7 = .ok (.getfield 60, 3) := by decide +kernel
theorem dX12_order_10 : decode cX12_order 10 = .ok (.iload_n 2, 1) := by decide +kernel
theorem dX12_order_11 : decode cX12_order 11 = .ok (.iaload, 1) := by decide +kernel
theorem dX12_order_12 : decode cX12_order 12 = .ok (.invokestatic 232, 3) := by decide +kernel
theorem dX12_order_15 : decode cX12_order 15 = .ok (.istore_n 3, 1) := by decide +kernel
theorem dX12_order_16 : decode cX12_order 16 = .ok (.aload_n 0, 1) := by decide +kernel
theorem dX12_order_17 : decode cX12_order 17 = .ok (.getfield 56, 3) := by decide +kernel
theorem dX12_order_20 : decode cX12_order 20 = .ok (.iload_n 1, 1) := by decide +kernel
theorem dX12_order_21 : decode cX12_order 21 = .ok (.laload, 1) := by decide +kernel
theorem dX12_order_22 : decode cX12_order 22 = .ok (.invokestatic 235, 3) := by decide +kernel
theorem dX12_order_25 : decode cX12_order 25 = .ok (.istore 4, 2) := by decide +kernel
theorem dX12_order_27 : decode cX12_order 27 = .ok (.aload_n 0, 1) := by decide +kernel
theorem dX12_order_28 : decode cX12_order 28 = .ok (.getfield 56, 3) := by decide +kernel
theorem dX12_order_31 : decode cX12_order 31 = .ok (.iload_n 2, 1) := by decide +kernel
theorem dX12_order_32 : decode cX12_order 32 = .ok (.laload, 1) := by decide +kernel
theorem dX12_order_33 : decode cX12_order 33 = .ok (.invokestatic 235, 3) := by decide +kernel
theorem dX12_order_36 : decode cX12_order 36 = .ok (.istore 5, 2) := by decide +kernel
theorem dX12_order_38 : decode cX12_order 38 = .ok (.iload 4, 2) := by decide +kernel
theorem dX12_order_40 : decode cX12_order 40 = .ok (.iload 5, 2) := by decide +kernel
theorem dX12_order_42 : decode cX12_order 42 = .ok (.if_icmp .eq 16, 3) := by decide +kernel
theorem dX12_order_45 : decode cX12_order 45 = .ok (.iload 4, 2) := by decide +kernel
theorem dX12_order_47 : decode cX12_order 47 = .ok (.iload 5, 2) := by decide +kernel
theorem dX12_order_49 : decode cX12_order 49 = .ok (.if_icmp .ge 7, 3) := by decide +kernel
theorem dX12_order_52 : decode cX12_order 52 = .ok (.iconst (-1), 1) := by decide +kernel
theorem dX12_order_53 : decode cX12_order 53 = .ok (.goto 4, 3) := by decide +kernel
theorem dX12_order_56 : decode cX12_order 56 = .ok (.iconst 1, 1) := by decide +kernel
theorem dX12_order_57 : decode cX12_order 57 = .ok (.ireturn, 1) := by decide +kernel
theorem dX12_order_58 : decode cX12_order 58 = .ok (.aload_n 0, 1) := by decide +kernel
theorem dX12_order_59 : decode cX12_order 59 = .ok (.iconst 4, 1) := by decide +kernel
theorem dX12_order_60 : decode cX12_order 60 = .ok (.iload_n 1, 1) := by decide +kernel
theorem dX12_order_61 : decode cX12_order 61 = .ok (.iload_n 3, 1) := by decide +kernel
theorem dX12_order_62 : decode cX12_order 62 = .ok (.invokevirtual 238, 3) := by decide +kernel
theorem dX12_order_65 : decode cX12_order 65 = .ok (.aload_n 0, 1) := by decide +kernel
theorem dX12_order_66 : decode cX12_order 66 = .ok (.iconst 5, 1) := by decide +kernel
theorem dX12_order_67 : decode cX12_order 67 = .ok (.iload_n 2, 1) := by decide +kernel
theorem dX12_order_68 : decode cX12_order 68 = .ok (.iload_n 3, 1) := by decide +kernel
theorem dX12_order_69 : decode cX12_order 69 = .ok (.invokevirtual 238, 3) := by decide +kernel
theorem dX12_order_72 : decode cX12_order 72 = .ok (.iload 4, 2) := by decide +kernel
theorem dX12_order_74 : decode cX12_order 74 = .ok (.aload_n 0, 1) := by decide +kernel
theorem dX12_order_75 : decode cX12_order 75 = .ok (.iconst 4, 1) := by decide +kernel
theorem dX12_order_76 : decode cX12_order 76 = .ok (.iconst 5, 1) := by decide +kernel
theorem dX12_order_77 : decode cX12_order 77 = .ok (.invokevirtual 37, 3) := by decide +kernel
theorem dX12_order_80 : decode cX12_order 80 = .ok (.imul, 1) := by decide +kernel
theorem dX12_order_81 : decode cX12_order 81 = .ok (.ireturn, 1) := by decide +kernel
theorem dX12_sums_0 : decode cX12_sums 0 = .ok (.aload_n 0, 1) := by decide +kernel
theorem dX12_sums_1 : decode cX12_sums 1 = .ok (.getfield 60, 3) := by decide +kernel
theorem dX12_sums_4 : decode cX12_sums 4 = .ok (.iload_n 1, 1) := by decide +kernel
theorem dX12_sums_5 : decode cX12_sums 5 = .ok (.iaload, 1) := by decide +kernel
theorem dX12_sums_6 : decode cX12_sums 6 = .ok (.aload_n 0, 1) := by decide +kernel
theorem dX12_sums_7 : decode cX12_sums 7 = .ok (.getfield 60, 3) := by decide +kernel
theorem dX12_sums_10 : decode cX12_sums 10 = .ok (.iload_n 2, 1) := by decide +kernel
theorem dX12_sums_11 : decode cX12_sums 11 = .ok (.iaload, 1) := by decide +kernel
theorem dX12_sums_12 : decode cX12_sums 12 = .ok (.invokestatic 232, 3) := by decide +kernel
theorem dX12_sums_15 : decode cX12_sums 15 = .ok (.istore 5, 2) := by decide +kernel
theorem dX12_sums_17 : decode cX12_sums 17 = .ok (.aload_n 0, 1) := by decide +kernel
theorem dX12_sums_18 : decode cX12_sums 18 = .ok (.iconst 4, 1) := by decide +kernel
theorem dX12_sums_19 : decode cX12_sums 19 = .ok (.iload_n 1, 1) := by decide +kernel
theorem dX12_sums_20 : decode cX12_sums 20 = .ok (.iload 5, 2) := by decide +kernel
theorem dX12_sums_22 : decode cX12_sums 22 = .ok (.invokevirtual 238, 3) := by decide +kernel
theorem dX12_sums_25 : decode cX12_sums 25 = .ok (.aload_n 0, 1) := by decide +kernel
theorem dX12_sums_26 : decode cX12_sums 26 = .ok (.iconst 5, 1) := by decide +kernel
theorem dX12_sums_27 : decode cX12_sums 27 = .ok (.iload_n 2, 1) := by decide +kernel
theorem dX12_sums_28 : decode cX12_sums 28 = .ok (.iload 5, 2) := by decide +kernel
theorem dX12_sums_30 : decode cX12_sums 30 = .ok (.invokevirtual 238, 3) := by decide +kernel
theorem dX12_sums_33 : decode cX12_sums 33 = .ok (.aload_n 0, 1) := by decide +kernel
theorem dX12_sums_34 : decode cX12_sums 34 = .ok (.getfield 56, 3) := by decide +kernel
theorem dX12_sums_37 : decode cX12_sums 37 = .ok (.iload_n 1, 1) := by decide +kernel
theorem dX12_sums_38 : decode cX12_sums 38 = .ok (.laload, 1) := by decide +kernel
theorem dX12_sums_39 : decode cX12_sums 39 = .ok (.lconst 0, 1) := by decide +kernel
theorem dX12_sums_40 : decode cX12_sums 40 = .ok (.lcmp, 1) := by decide +kernel
theorem dX12_sums_41 : decode cX12_sums 41 = .ok (.ifCond .ge 7, 3) := by decide +kernel
theorem dX12_sums_44 : decode cX12_sums 44 = .ok (.iconst 1, 1) := by decide +kernel
theorem dX12_sums_45 : decode cX12_sums 45 = .ok (.goto 4, 3) := by decide +kernel
theorem dX12_sums_48 : decode cX12_sums 48 = .ok (.iconst 0, 1) := by decide +kernel
theorem dX12_sums_49 : decode cX12_sums 49 = .ok (.istore 6, 2) := by decide +kernel
theorem dX12_sums_51 : decode cX12_sums 51 = .ok (.aload_n 0, 1) := by decide +kernel
theorem dX12_sums_52 : decode cX12_sums 52 = .ok (.getfield 56, 3) := by decide +kernel
theorem dX12_sums_55 : decode cX12_sums 55 = .ok (.iload_n 2, 1) := by decide +kernel
theorem dX12_sums_56 : decode cX12_sums 56 = .ok (.laload, 1) := by decide +kernel
theorem dX12_sums_57 : decode cX12_sums 57 = .ok (.lconst 0, 1) := by decide +kernel
theorem dX12_sums_58 : decode cX12_sums 58 = .ok (.lcmp, 1) := by decide +kernel
theorem dX12_sums_59 : decode cX12_sums 59 = .ok (.ifCond .ge 7, 3) := by decide +kernel
theorem dX12_sums_62 : decode cX12_sums 62 = .ok (.iconst 1, 1) := by decide +kernel
theorem dX12_sums_63 : decode cX12_sums 63 = .ok (.goto 4, 3) := by decide +kernel
theorem dX12_sums_66 : decode cX12_sums 66 = .ok (.iconst 0, 1) := by decide +kernel
theorem dX12_sums_67 : decode cX12_sums 67 = .ok (.iload_n 3, 1) := by decide +kernel
theorem dX12_sums_68 : decode cX12_sums 68 = .ok (.if_icmp .eq 7, 3) := by decide +kernel
theorem dX12_sums_71 : decode cX12_sums 71 = .ok (.iconst 1, 1) := by decide +kernel
theorem dX12_sums_72 : decode cX12_sums 72 = .ok (.goto 4, 3) := by decide +kernel
theorem dX12_sums_75 : decode cX12_sums 75 = .ok (.iconst 0, 1) := by decide +kernel
theorem dX12_sums_76 : decode cX12_sums 76 = .ok (.istore 7, 2) := by decide +kernel
theorem dX12_sums_78 : decode cX12_sums 78 = .ok (.iload 6, 2) := by decide +kernel
theorem dX12_sums_80 : decode cX12_sums 80 = .ok (.iload 7, 2) := by decide +kernel
theorem dX12_sums_82 : decode cX12_sums 82 = .ok (.if_icmp .ne 21, 3) := by decide +kernel
theorem dX12_sums_85 : decode cX12_sums 85 = .ok (.aload_n 0, 1) := by decide +kernel
theorem dX12_sums_86 : decode cX12_sums 86 = .ok (.iconst 4, 1) := by decide +kernel
theorem dX12_sums_87 : decode cX12_sums 87 = .ok (.iconst 5, 1) := by decide +kernel
theorem dX12_sums_88 : decode cX12_sums 88 = .ok (.invokevirtual 27, 3) := by decide +kernel
theorem dX12_sums_91 : decode cX12_sums 91 = .ok (.aload_n 0, 1) := by decide +kernel
theorem dX12_sums_92 : decode cX12_sums 92 = .ok (.iload 4, 2) := by decide +kernel
theorem dX12_sums_94 : decode cX12_sums 94 = .ok (.iconst 4, 1) := by decide +kernel
theorem dX12_sums_95 : decode cX12_sums 95 = .ok (.iload 6, 2) := by decide +kernel
theorem dX12_sums_97 : decode cX12_sums 97 = .ok (.iload 5, 2) := by decide +kernel
theorem dX12_sums_99 : decode cX12_sums 99 = .ok (.invokevirtual 224, 3) := by decide +kernel
theorem dX12_sums_102 : decode cX12_sums 102 = .ok (.ireturn, 1) := by decide +kernel
theorem dX12_sums_103 : decode cX12_sums 103 = .ok (.aload_n 0, 1) := by decide +kernel
theorem dX12_sums_104 : decode cX12_sums 104 = .ok (.iconst 4, 1) := by decide +kernel
theorem dX12_sums_105 : decode cX12_sums 105 = .ok (.iconst 5, 1) := by decide +kernel
theorem dX12_sums_106 : decode cX12_sums 106 = .ok (.invokevirtual 37, 3) := by decide +kernel
theorem dX12_sums_109 : decode cX12_sums 109 = .ok (.ifCond .lt 21, 3) := by decide +kernel
theorem dX12_sums_112 : decode cX12_sums 112 = .ok (.aload_n 0, 1) := by decide +kernel
theorem dX12_sums_113 : decode cX12_sums 113 = .ok (.iconst 4, 1) := by decide +kernel
theorem dX12_sums_114 : decode cX12_sums 114 = .ok (.iconst 5, 1) := by decide +kernel
theorem dX12_sums_115 : decode cX12_sums 115 = .ok (.invokevirtual 40, 3) := by decide +kernel
theorem dX12_sums_118 : decode cX12_sums 118 = .ok (.aload_n 0, 1) := by decide +kernel
theorem dX12_sums_119 : decode cX12_sums 119 = .ok (.iload 4, 2) := by decide +kernel
theorem dX12_sums_121 : decode cX12_sums 121 = .ok (.iconst 4, 1) := by decide +kernel
theorem dX12_sums_122 : decode cX12_sums 122 = .ok (.iload 6, 2) := by decide +kernel
theorem dX12_sums_124 : decode cX12_sums 124 = .ok (.iload 5, 2) := by decide +kernel
theorem dX12_sums_126 : decode cX12_sums 126 = .ok (.invokevirtual 224, 3) := by decide +kernel
theorem dX12_sums_129 : decode cX12_sums 129 = .ok (.ireturn, 1) := by decide +kernel
theorem dX12_sums_130 : decode cX12_sums 130 = .ok (.aload_n 0, 1) := by decide +kernel
theorem dX12_sums_131 : decode cX12_sums 131 = .ok (.iconst 5, 1) := by decide +kernel
theorem dX12_sums_132 : decode cX12_sums 132 = .ok (.iconst 4, 1) := by decide +kernel
theorem dX12_sums_133 : decode cX12_sums 133 = .ok (.invokevirtual 40, 3) := by decide +kernel
theorem dX12_sums_136 : decode cX12_sums 136 = .ok (.aload_n 0, 1) := by decide +kernel
theorem dX12_sums_137 : decode cX12_sums 137 = .ok (.iload 4, 2) := by decide +kernel
theorem dX12_sums_139 : decode cX12_sums 139 = .ok (.iconst 5, 1) := by decide +kernel
theorem dX12_sums_140 : decode cX12_sums 140 = .ok (.iload 7, 2) := by decide +kernel
theorem dX12_sums_142 : decode cX12_sums 142 = .ok (.iload 5, 2) := by decide +kernel
theorem dX12_sums_144 : decode cX12_sums 144 = .ok (.invokevirtual 224, 3) := by decide +kernel
theorem dX12_sums_147 : decode cX12_sums 147 = .ok (.ireturn, 1) := by decide +kernel
theorem dX12_multiplies_0 : decode cX12_multiplies 0 = .ok (.aload_n 0, 1) := by decide +kernel
theorem dX12_multiplies_1 : decode cX12_multiplies 1 = .ok (.iconst 4, 1) := by decide +kernel
theorem dX12_multiplies_2 : decode cX12_multiplies 2 = .ok (.aload_n 0, 1) := by decide +kernel
theorem dX12_multiplies_3 : decode cX12_multiplies 3 = .ok (.getfield 56, 3) := by decide +kernel
theorem dX12_multiplies_6 : decode cX12_multiplies 6 = .ok (.iload_n 1, 1) := by decide +kernel
theorem dX12_multiplies_7 : decode cX12_multiplies 7 = .ok (.laload, 1) := by decide +kernel
theorem dX12_multiplies_8 : decode cX12_multiplies 8 = .ok (.invokevirtual 33, 3) := by decide +kernel
theorem dX12_multiplies_11 : decode cX12_multiplies 11 = .ok (.aload_n 0, 1) := by decide +kernel
theorem dX12_multiplies_12 : decode cX12_multiplies 12 = .ok (.iconst 5, 1) := by decide +kernel
theorem dX12_multiplies_13 : decode cX12_multiplies 13 = .ok (.aload_n 0, 1) := by decide +kernel
theorem dX12_multiplies_14 : decode cX12_multiplies 14 = .ok (.getfield 56, 3) := by decide +kernel
theorem dX12_multiplies_17 : decode cX12_multiplies 17 = .ok (.iload_n 2, 1) := by decide +kernel
theorem dX12_multiplies_18 : decode cX12_multiplies 18 = .ok (.laload, 1) := by decide +kernel
theorem dX12_multiplies_19 : decode cX12_multiplies 19 = .ok (.invokevirtual 33, 3) := by decide +kernel
theorem dX12_multiplies_22 : decode cX12_multiplies 22 = .ok (.aload_n 0, 1) := by decide +kernel
theorem dX12_multiplies_23 : decode cX12_multiplies 23 = .ok (.iconst 4, 1) := by decide +kernel
theorem dX12_multiplies_24 : decode cX12_multiplies 24 = .ok (.iconst 5, 1) := by decide +kernel
theorem dX12_multiplies_25 : decode cX12_multiplies 25 = .ok (.invokevirtual 242, 3) := by decide +kernel
theorem dX12_multiplies_28 : decode cX12_multiplies 28 = .ok (.aload_n 0, 1) := by decide +kernel
theorem dX12_multiplies_29 : decode cX12_multiplies 29 = .ok (.iload_n 3, 1) := by decide +kernel
theorem dX12_multiplies_30 : decode cX12_multiplies 30 = .ok (.iconst 4, 1) := by decide +kernel
theorem dX12_multiplies_31 : decode cX12_multiplies 31 = .ok (.aload_n 0, 1) := by decide +kernel
theorem dX12_multiplies_32 : decode cX12_multiplies 32 = .ok (.getfield 56, 3) := by decide +kernel
theorem dX12_multiplies_35 : decode cX12_multiplies 35 = .ok (.iload_n 1, 1) := by decide +kernel
theorem dX12_multiplies_36 : decode cX12_multiplies 36 = .ok (.laload, 1) := by decide +kernel
theorem dX12_multiplies_37 : decode cX12_multiplies 37 = .ok (.lconst 0, 1) := by decide +kernel
theorem dX12_multiplies_38 : decode cX12_multiplies 38 = .ok (.lcmp, 1) := by decide +kernel
theorem dX12_multiplies_39 : decode cX12_multiplies 39 = .ok (.ifCond .ge 7, 3) := by decide +kernel
theorem dX12_multiplies_42 : decode cX12_multiplies 42 = .ok (.iconst 1, 1) := by decide +kernel
theorem dX12_multiplies_43 : decode cX12_multiplies 43 = .ok (.goto 4, 3) := by decide +kernel
theorem dX12_multiplies_46 : decode cX12_multiplies 46 = .ok (.iconst 0, 1) := by decide +kernel
theorem dX12_multiplies_47 : decode cX12_multiplies 47 = .ok (.aload_n 0, 1) := by decide +kernel
theorem dX12_multiplies_48 : decode cX12_multiplies 48 = .ok (.getfield 56, 3) := by decide +kernel
theorem dX12_multiplies_51 : decode cX12_multiplies 51 = .ok (.iload_n 2, 1) := by decide +kernel
theorem dX12_multiplies_52 : decode cX12_multiplies 52 = .ok (.laload, 1) := by decide +kernel
theorem dX12_multiplies_53 : decode cX12_multiplies 53 = .ok (.lconst 0, 1) := by decide +kernel
theorem dX12_multiplies_54 : decode cX12_multiplies 54 = .ok (.lcmp, 1) := by decide +kernel
theorem dX12_multiplies_55 : decode cX12_multiplies 55 = .ok (.ifCond .ge 7, 3) := by decide +kernel
theorem dX12_multiplies_58 : decode cX12_multiplies 58 = .ok (.iconst 1, 1) := by decide +kernel
theorem dX12_multiplies_59 : decode cX12_multiplies 59 = .ok (.goto 4, 3) := by decide +kernel
theorem dX12_multiplies_62 : decode cX12_multiplies 62 = .ok (.iconst 0, 1) := by decide +kernel
theorem dX12_multiplies_63 : decode cX12_multiplies 63 = .ok (.if_icmp .eq 7, 3) := by decide +kernel
theorem dX12_multiplies_66 : decode cX12_multiplies 66 = .ok (.iconst 1, 1) := by decide +kernel
theorem dX12_multiplies_67 : decode cX12_multiplies 67 = .ok (.goto 4, 3) := by decide +kernel
theorem dX12_multiplies_70 : decode cX12_multiplies 70 = .ok (.iconst 0, 1) := by decide +kernel
theorem dX12_multiplies_71 : decode cX12_multiplies 71 = .ok (.aload_n 0, 1) := by decide +kernel
theorem dX12_multiplies_72 : decode cX12_multiplies 72 = .ok (.getfield 60, 3) := by decide +kernel
theorem dX12_multiplies_75 : decode cX12_multiplies 75 = .ok (.iload_n 1, 1) := by decide +kernel
theorem dX12_multiplies_76 : decode cX12_multiplies 76 = .ok (.iaload, 1) := by decide +kernel
theorem dX12_multiplies_77 : decode cX12_multiplies 77 = .ok (.aload_n 0, 1) := by decide +kernel
theorem dX12_multiplies_78 : decode cX12_multiplies 78 = .ok (.getfield 60, 3) := by decide +kernel
theorem dX12_multiplies_81 : decode cX12_multiplies 81 = .ok (.iload_n 2, 1) := by decide +kernel
theorem dX12_multiplies_82 : decode cX12_multiplies 82 = .ok (.iaload, 1) := by decide +kernel
theorem dX12_multiplies_83 : decode cX12_multiplies 83 = .ok (.iadd, 1) := by decide +kernel
theorem dX12_multiplies_84 : decode cX12_multiplies 84 = .ok (.invokevirtual 224, 3) := by decide +kernel
theorem dX12_multiplies_87 : decode cX12_multiplies 87 = .ok (.ireturn, 1) := by decide +kernel
theorem dX12_takes_0 : decode cX12_takes 0 = .ok (.aload_n 0, 1) := by decide +kernel
theorem dX12_takes_1 : decode cX12_takes 1 = .ok (.iconst 4, 1) := by decide +kernel
theorem dX12_takes_2 : decode cX12_takes 2 = .ok (.aload_n 0, 1) := by decide +kernel
theorem dX12_takes_3 : decode cX12_takes 3 = .ok (.getfield 56, 3) := by decide +kernel
theorem dX12_takes_6 : decode cX12_takes 6 = .ok (.iload_n 1, 1) := by decide +kernel
theorem dX12_takes_7 : decode cX12_takes 7 = .ok (.laload, 1) := by decide +kernel
theorem dX12_takes_8 : decode cX12_takes 8 = .ok (.invokevirtual 33, 3) := by decide +kernel
theorem dX12_takes_11 : decode cX12_takes 11 = .ok (.aload_n 0, 1) := by decide +kernel
theorem dX12_takes_12 : decode cX12_takes 12 = .ok (.iload_n 2, 1) := by decide +kernel
theorem dX12_takes_13 : decode cX12_takes 13 = .ok (.iconst 4, 1) := by decide +kernel
theorem dX12_takes_14 : decode cX12_takes 14 = .ok (.aload_n 0, 1) := by decide +kernel
theorem dX12_takes_15 : decode cX12_takes 15 = .ok (.getfield 56, 3) := by decide +kernel
theorem dX12_takes_18 : decode cX12_takes 18 = .ok (.iload_n 1, 1) := by decide +kernel
theorem dX12_takes_19 : decode cX12_takes 19 = .ok (.laload, 1) := by decide +kernel
theorem dX12_takes_20 : decode cX12_takes 20 = .ok (.lconst 0, 1) := by decide +kernel
theorem dX12_takes_21 : decode cX12_takes 21 = .ok (.lcmp, 1) := by decide +kernel
theorem dX12_takes_22 : decode cX12_takes 22 = .ok (.ifCond .ge 7, 3) := by decide +kernel
theorem dX12_takes_25 : decode cX12_takes 25 = .ok (.iconst 1, 1) := by decide +kernel
theorem dX12_takes_26 : decode cX12_takes 26 = .ok (.goto 4, 3) := by decide +kernel
theorem dX12_takes_29 : decode cX12_takes 29 = .ok (.iconst 0, 1) := by decide +kernel
theorem dX12_takes_30 : decode cX12_takes 30 = .ok (.aload_n 0, 1) := by decide +kernel
theorem dX12_takes_31 : decode cX12_takes 31 = .ok (.getfield 60, 3) := by decide +kernel
theorem dX12_takes_34 : decode cX12_takes 34 = .ok (.iload_n 1, 1) := by decide +kernel
theorem dX12_takes_35 : decode cX12_takes 35 = .ok (.iaload, 1) := by decide +kernel
theorem dX12_takes_36 : decode cX12_takes 36 = .ok (.invokevirtual 224, 3) := by decide +kernel
theorem dX12_takes_39 : decode cX12_takes 39 = .ok (.ireturn, 1) := by decide +kernel
theorem dX12_noPair_0 : decode cX12_noPair 0 = .ok (.iload_n 1, 1) := by decide +kernel
theorem dX12_noPair_1 : decode cX12_noPair 1 = .ok (.invokestatic 199, 3) := by decide +kernel
theorem dX12_noPair_4 : decode cX12_noPair 4 = .ok (.ifCond .eq 17, 3) := by decide +kernel
theorem dX12_noPair_7 : decode cX12_noPair 7 = .ok (.iload_n 2, 1) := by decide +kernel
theorem dX12_noPair_8 : decode cX12_noPair 8 = .ok (.invokestatic 199, 3) := by decide +kernel
theorem dX12_noPair_11 : decode cX12_noPair 11 = .ok (.ifCond .eq 10, 3) := by decide +kernel
theorem dX12_noPair_14 : decode cX12_noPair 14 = .ok (.iload_n 3, 1) := by decide +kernel
theorem dX12_noPair_15 : decode cX12_noPair 15 = .ok (.invokestatic 199, 3) := by decide +kernel
theorem dX12_noPair_18 : decode cX12_noPair 18 = .ok (.ifCond .ne 7, 3) := by decide +kernel
theorem dX12_noPair_21 : decode cX12_noPair 21 = .ok (.iconst 1, 1) := by decide +kernel
theorem dX12_noPair_22 : decode cX12_noPair 22 = .ok (.goto 4, 3) := by decide +kernel
theorem dX12_noPair_25 : decode cX12_noPair 25 = .ok (.iconst 0, 1) := by decide +kernel
theorem dX12_noPair_26 : decode cX12_noPair 26 = .ok (.ireturn, 1) := by decide +kernel
theorem dX12_join_0 : decode cX12_join 0 = .ok (.iload_n 3, 1) := by decide +kernel
theorem dX12_join_1 : decode cX12_join 1 = .ok (.bipush 43, 2) := by decide +kernel
theorem dX12_join_3 : decode cX12_join 3 = .ok (.if_icmp .eq 27, 3) := by decide +kernel
theorem dX12_join_6 : decode cX12_join 6 = .ok (.iload_n 3, 1) := by decide +kernel
theorem dX12_join_7 : decode cX12_join 7 = .ok (.bipush 45, 2) := by decide +kernel
theorem dX12_join_9 : decode cX12_join 9 = .ok (.if_icmp .eq 21, 3) := by decide +kernel
theorem dX12_join_12 : decode cX12_join 12 = .ok (.iload_n 3, 1) := by decide +kernel
theorem dX12_join_13 : decode cX12_join 13 = .ok (.bipush 42, 2) := by decide +kernel
theorem dX12_join_15 : decode cX12_join 15 = .ok (.if_icmp .eq 15, 3) := by decide +kernel
theorem dX12_join_18 : decode cX12_join 18 = .ok (.iload_n 3, 1) := by decide +kernel
theorem dX12_join_19 : decode cX12_join 19 = .ok (.bipush 103, 2) := by decide +kernel
theorem dX12_join_21 : decode cX12_join 21 = .ok (.if_icmp .eq 9, 3) := by decide +kernel
theorem dX12_join_24 : decode cX12_join 24 = .ok (.iload_n 3, 1) := by decide +kernel
theorem dX12_join_25 : decode cX12_join 25 = .ok (.bipush 108, 2) := by decide +kernel
theorem dX12_join_27 : decode cX12_join 27 = .ok (.if_icmp .ne 7, 3) := by decide +kernel
theorem dX12_join_30 : decode cX12_join 30 = .ok (.iconst 1, 1) := by decide +kernel
theorem dX12_join_31 : decode cX12_join 31 = .ok (.goto 4, 3) := by decide +kernel
theorem dX12_join_34 : decode cX12_join 34 = .ok (.iconst 0, 1) := by decide +kernel
theorem dX12_join_35 : decode cX12_join 35 = .ok (.istore 5, 2) := by decide +kernel
theorem dX12_join_37 : decode cX12_join 37 = .ok (.aload_n 0, 1) := by decide +kernel
theorem dX12_join_38 : decode cX12_join 38 = .ok (.aload_n 0, 1) := by decide +kernel
theorem dX12_join_39 : decode cX12_join 39 = .ok (.iload_n 1, 1) := by decide +kernel
theorem dX12_join_40 : decode cX12_join 40 = .ok (.iload_n 2, 1) := by decide +kernel
theorem dX12_join_41 : decode cX12_join 41 = .ok (.iload 4, 2) := by decide +kernel
theorem dX12_join_43 : decode cX12_join 43 = .ok (.invokevirtual 245, 3) := by decide +kernel
theorem dX12_join_46 : decode cX12_join 46 = .ok (.ifCond .le 7, 3) := by decide +kernel
theorem dX12_join_49 : decode cX12_join 49 = .ok (.iconst 1, 1) := by decide +kernel
theorem dX12_join_50 : decode cX12_join 50 = .ok (.goto 35, 3) := by decide +kernel
theorem dX12_join_53 : decode cX12_join 53 = .ok (.iload 5, 2) := by decide +kernel
theorem dX12_join_55 : decode cX12_join 55 = .ok (.ifCond .ne 7, 3) := by decide +kernel
theorem dX12_join_58 : decode cX12_join 58 = .ok (.iconst 2, 1) := by decide +kernel
theorem dX12_join_59 : decode cX12_join 59 = .ok (.goto 26, 3) := by decide +kernel
theorem dX12_join_62 : decode cX12_join 62 = .ok (.aload_n 0, 1) := by decide +kernel
theorem dX12_join_63 : decode cX12_join 63 = .ok (.getfield 63, 3) := by decide +kernel
theorem dX12_join_66 : decode cX12_join 66 = .ok (.iload_n 1, 1) := by decide +kernel
theorem dX12_join_67 : decode cX12_join 67 = .ok (.baload, 1) := by decide +kernel
theorem dX12_join_68 : decode cX12_join 68 = .ok (.ifCond .eq 12, 3) := by decide +kernel
theorem dX12_join_71 : decode cX12_join 71 = .ok (.aload_n 0, 1) := by decide +kernel
theorem dX12_join_72 : decode cX12_join 72 = .ok (.getfield 63, 3) := by decide +kernel
theorem dX12_join_75 : decode cX12_join 75 = .ok (.iload_n 2, 1) := by decide +kernel
theorem dX12_join_76 : decode cX12_join 76 = .ok (.baload, 1) := by decide +kernel
theorem dX12_join_77 : decode cX12_join 77 = .ok (.ifCond .ne 7, 3) := by decide +kernel
theorem dX12_join_80 : decode cX12_join 80 = .ok (.iconst 3, 1) := by decide +kernel
theorem dX12_join_81 : decode cX12_join 81 = .ok (.goto 4, 3) := by decide +kernel
theorem dX12_join_84 : decode cX12_join 84 = .ok (.iconst 0, 1) := by decide +kernel
theorem dX12_join_85 : decode cX12_join 85 = .ok (.invokevirtual 206, 3) := by decide +kernel
theorem dX12_join_88 : decode cX12_join 88 = .ok (.ifCond .eq 5, 3) := by decide +kernel
theorem dX12_join_91 : decode cX12_join 91 = .ok (.iconst 0, 1) := by decide +kernel
theorem dX12_join_92 : decode cX12_join 92 = .ok (.ireturn, 1) := by decide +kernel
theorem dX12_join_93 : decode cX12_join 93 = .ok (.iload_n 3, 1) := by decide +kernel
theorem dX12_join_94 : decode cX12_join 94 = .ok (.lookupswitch 108 #[(42, 70), (43, 42), (45, 56), (103, 83)], 42) := by decide +kernel
theorem dX12_join_136 : decode cX12_join 136 = .ok (.aload_n 0, 1) := by decide +kernel
theorem dX12_join_137 : decode cX12_join 137 = .ok (.iload_n 1, 1) := by decide +kernel
theorem dX12_join_138 : decode cX12_join 138 = .ok (.iload_n 2, 1) := by decide +kernel
theorem dX12_join_139 : decode cX12_join 139 = .ok (.iconst 0, 1) := by decide +kernel
theorem dX12_join_140 : decode cX12_join 140 = .ok (.iload 4, 2) := by decide +kernel
theorem dX12_join_142 : decode cX12_join 142 = .ok (.invokevirtual 249, 3) := by decide +kernel
theorem dX12_join_145 : decode cX12_join 145 = .ok (.istore 6, 2) := by decide +kernel
theorem dX12_join_147 : decode cX12_join 147 = .ok (.goto 77, 3) := by decide +kernel
theorem dX12_join_150 : decode cX12_join 150 = .ok (.aload_n 0, 1) := by decide +kernel
theorem dX12_join_151 : decode cX12_join 151 = .ok (.iload_n 1, 1) := by decide +kernel
theorem dX12_join_152 : decode cX12_join 152 = .ok (.iload_n 2, 1) := by decide +kernel
theorem dX12_join_153 : decode cX12_join 153 = .ok (.iconst 1, 1) := by decide +kernel
theorem dX12_join_154 : decode cX12_join 154 = .ok (.iload 4, 2) := by decide +kernel
theorem dX12_join_156 : decode cX12_join 156 = .ok (.invokevirtual 249, 3) := by decide +kernel
theorem dX12_join_159 : decode cX12_join 159 = .ok (.istore 6, 2) := by decide +kernel
theorem dX12_join_161 : decode cX12_join 161 = .ok (.goto 63, 3) := by decide +kernel
theorem dX12_join_164 : decode cX12_join 164 = .ok (.aload_n 0, 1) := by decide +kernel
theorem dX12_join_165 : decode cX12_join 165 = .ok (.iload_n 1, 1) := by decide +kernel
theorem dX12_join_166 : decode cX12_join 166 = .ok (.iload_n 2, 1) := by decide +kernel
theorem dX12_join_167 : decode cX12_join 167 = .ok (.iload 4, 2) := by decide +kernel
theorem dX12_join_169 : decode cX12_join 169 = .ok (.invokevirtual 252, 3) := by decide +kernel
theorem dX12_join_172 : decode cX12_join 172 = .ok (.istore 6, 2) := by decide +kernel
theorem dX12_join_174 : decode cX12_join 174 = .ok (.goto 50, 3) := by decide +kernel
theorem dX12_join_177 : decode cX12_join 177 = .ok (.aload_n 0, 1) := by decide +kernel
theorem dX12_join_178 : decode cX12_join 178 = .ok (.aload_n 0, 1) := by decide +kernel
theorem dX12_join_179 : decode cX12_join 179 = .ok (.iload_n 1, 1) := by decide +kernel
theorem dX12_join_180 : decode cX12_join 180 = .ok (.iload_n 2, 1) := by decide +kernel
theorem dX12_join_181 : decode cX12_join 181 = .ok (.invokevirtual 256, 3) := by decide +kernel
theorem dX12_join_184 : decode cX12_join 184 = .ok (.ifCond .lt 7, 3) := by decide +kernel
theorem dX12_join_187 : decode cX12_join 187 = .ok (.iload_n 1, 1) := by decide +kernel
theorem dX12_join_188 : decode cX12_join 188 = .ok (.goto 4, 3) := by decide +kernel
theorem dX12_join_191 : decode cX12_join 191 = .ok (.iload_n 2, 1) := by decide +kernel
theorem dX12_join_192 : decode cX12_join 192 = .ok (.iload 4, 2) := by decide +kernel
theorem dX12_join_194 : decode cX12_join 194 = .ok (.invokevirtual 259, 3) := by decide +kernel
theorem dX12_join_197 : decode cX12_join 197 = .ok (.istore 6, 2) := by decide +kernel
theorem dX12_join_199 : decode cX12_join 199 = .ok (.goto 25, 3) := by decide +kernel
theorem dX12_join_202 : decode cX12_join 202 = .ok (.aload_n 0, 1) := by decide +kernel
theorem dX12_join_203 : decode cX12_join 203 = .ok (.aload_n 0, 1) := by decide +kernel
theorem dX12_join_204 : decode cX12_join 204 = .ok (.iload_n 1, 1) := by decide +kernel
theorem dX12_join_205 : decode cX12_join 205 = .ok (.iload_n 2, 1) := by decide +kernel
theorem dX12_join_206 : decode cX12_join 206 = .ok (.invokevirtual 256, 3) := by decide +kernel
theorem dX12_join_209 : decode cX12_join 209 = .ok (.ifCond .gt 7, 3) := by decide +kernel
theorem dX12_join_212 : decode cX12_join 212 = .ok (.iload_n 1, 1) := by decide +kernel
theorem dX12_join_213 : decode cX12_join 213 = .ok (.goto 4, 3) := by decide +kernel
theorem dX12_join_216 : decode cX12_join 216 = .ok (.iload_n 2, 1) := by decide +kernel
theorem dX12_join_217 : decode cX12_join 217 = .ok (.iload 4, 2) := by decide +kernel
theorem dX12_join_219 : decode cX12_join 219 = .ok (.invokevirtual 259, 3) := by decide +kernel
theorem dX12_join_222 : decode cX12_join 222 = .ok (.istore 6, 2) := by decide +kernel
theorem dX12_join_224 : decode cX12_join 224 = .ok (.aload_n 0, 1) := by decide +kernel
theorem dX12_join_225 : decode cX12_join 225 = .ok (.iload 6, 2) := by decide +kernel
theorem dX12_join_227 : decode cX12_join 227 = .ok (.ifCond .eq 7, 3) := by decide +kernel
theorem dX12_join_230 : decode cX12_join 230 = .ok (.iconst 0, 1) := by decide +kernel
theorem dX12_join_231 : decode cX12_join 231 = .ok (.goto 4, 3) := by decide +kernel
theorem dX12_join_234 : decode cX12_join 234 = .ok (.iconst 4, 1) := by decide +kernel
theorem dX12_join_235 : decode cX12_join 235 = .ok (.invokevirtual 206, 3) := by decide +kernel
theorem dX12_join_238 : decode cX12_join 238 = .ok (.ifCond .eq 7, 3) := by decide +kernel
theorem dX12_join_241 : decode cX12_join 241 = .ok (.iconst 0, 1) := by decide +kernel
theorem dX12_join_242 : decode cX12_join 242 = .ok (.goto 10, 3) := by decide +kernel
theorem dX12_join_245 : decode cX12_join 245 = .ok (.aload_n 0, 1) := by decide +kernel
theorem dX12_join_246 : decode cX12_join 246 = .ok (.getfield 60, 3) := by decide +kernel
theorem dX12_join_249 : decode cX12_join 249 = .ok (.iload 4, 2) := by decide +kernel
theorem dX12_join_251 : decode cX12_join 251 = .ok (.iaload, 1) := by decide +kernel
theorem dX12_join_252 : decode cX12_join 252 = .ok (.ireturn, 1) := by decide +kernel
theorem dX12_turn_0 : decode cX12_turn 0 = .ok (.iload_n 2, 1) := by decide +kernel
theorem dX12_turn_1 : decode cX12_turn 1 = .ok (.bipush 45, 2) := by decide +kernel
theorem dX12_turn_3 : decode cX12_turn 3 = .ok (.if_icmp .eq 15, 3) := by decide +kernel
theorem dX12_turn_6 : decode cX12_turn 6 = .ok (.iload_n 2, 1) := by decide +kernel
theorem dX12_turn_7 : decode cX12_turn 7 = .ok (.bipush 97, 2) := by decide +kernel
theorem dX12_turn_9 : decode cX12_turn 9 = .ok (.if_icmp .eq 9, 3) := by decide +kernel
theorem dX12_turn_12 : decode cX12_turn 12 = .ok (.iload_n 2, 1) := by decide +kernel
theorem dX12_turn_13 : decode cX12_turn 13 = .ok (.bipush 115, 2) := by decide +kernel
theorem dX12_turn_15 : decode cX12_turn 15 = .ok (.if_icmp .ne 7, 3) := by decide +kernel
theorem dX12_turn_18 : decode cX12_turn 18 = .ok (.iconst 1, 1) := by decide +kernel
theorem dX12_turn_19 : decode cX12_turn 19 = .ok (.goto 4, 3) := by decide +kernel
theorem dX12_turn_22 : decode cX12_turn 22 = .ok (.iconst 0, 1) := by decide +kernel
theorem dX12_turn_23 : decode cX12_turn 23 = .ok (.istore 4, 2) := by decide +kernel
theorem dX12_turn_25 : decode cX12_turn 25 = .ok (.aload_n 0, 1) := by decide +kernel
theorem dX12_turn_26 : decode cX12_turn 26 = .ok (.iload_n 1, 1) := by decide +kernel
theorem dX12_turn_27 : decode cX12_turn 27 = .ok (.invokestatic 199, 3) := by decide +kernel
theorem dX12_turn_30 : decode cX12_turn 30 = .ok (.ifCond .eq 10, 3) := by decide +kernel
theorem dX12_turn_33 : decode cX12_turn 33 = .ok (.iload_n 3, 1) := by decide +kernel
theorem dX12_turn_34 : decode cX12_turn 34 = .ok (.invokestatic 199, 3) := by decide +kernel
theorem dX12_turn_37 : decode cX12_turn 37 = .ok (.ifCond .ne 7, 3) := by decide +kernel
theorem dX12_turn_40 : decode cX12_turn 40 = .ok (.iconst 1, 1) := by decide +kernel
theorem dX12_turn_41 : decode cX12_turn 41 = .ok (.goto 26, 3) := by decide +kernel
theorem dX12_turn_44 : decode cX12_turn 44 = .ok (.iload 4, 2) := by decide +kernel
theorem dX12_turn_46 : decode cX12_turn 46 = .ok (.ifCond .ne 7, 3) := by decide +kernel
theorem dX12_turn_49 : decode cX12_turn 49 = .ok (.iconst 2, 1) := by decide +kernel
theorem dX12_turn_50 : decode cX12_turn 50 = .ok (.goto 17, 3) := by decide +kernel
theorem dX12_turn_53 : decode cX12_turn 53 = .ok (.aload_n 0, 1) := by decide +kernel
theorem dX12_turn_54 : decode cX12_turn 54 = .ok (.getfield 63, 3) := by decide +kernel
theorem dX12_turn_57 : decode cX12_turn 57 = .ok (.iload_n 1, 1) := by decide +kernel
theorem dX12_turn_58 : decode cX12_turn 58 = .ok (.baload, 1) := by decide +kernel
theorem dX12_turn_59 : decode cX12_turn 59 = .ok (.ifCond .ne 7, 3) := by decide +kernel
theorem dX12_turn_62 : decode cX12_turn 62 = .ok (.iconst 3, 1) := by decide +kernel
theorem dX12_turn_63 : decode cX12_turn 63 = .ok (.goto 4, 3) := by decide +kernel
theorem dX12_turn_66 : decode cX12_turn 66 = .ok (.iconst 0, 1) := by decide +kernel
theorem dX12_turn_67 : decode cX12_turn 67 = .ok (.invokevirtual 206, 3) := by decide +kernel
theorem dX12_turn_70 : decode cX12_turn 70 = .ok (.ifCond .eq 5, 3) := by decide +kernel
theorem dX12_turn_73 : decode cX12_turn 73 = .ok (.iconst 0, 1) := by decide +kernel
theorem dX12_turn_74 : decode cX12_turn 74 = .ok (.ireturn, 1) := by decide +kernel
theorem dX12_turn_75 : decode cX12_turn 75 = .ok (.aload_n 0, 1) := by decide +kernel
theorem dX12_turn_76 : decode cX12_turn 76 = .ok (.getfield 56, 3) := by decide +kernel
theorem dX12_turn_79 : decode cX12_turn 79 = .ok (.iload_n 1, 1) := by decide +kernel
theorem dX12_turn_80 : decode cX12_turn 80 = .ok (.laload, 1) := by decide +kernel
theorem dX12_turn_81 : decode cX12_turn 81 = .ok (.lstore 5, 2) := by decide +kernel
theorem dX12_turn_83 : decode cX12_turn 83 = .ok (.aload_n 0, 1) := by decide +kernel
theorem dX12_turn_84 : decode cX12_turn 84 = .ok (.getfield 60, 3) := by decide +kernel
theorem dX12_turn_87 : decode cX12_turn 87 = .ok (.iload_n 1, 1) := by decide +kernel
theorem dX12_turn_88 : decode cX12_turn 88 = .ok (.iaload, 1) := by decide +kernel
theorem dX12_turn_89 : decode cX12_turn 89 = .ok (.istore 7, 2) := by decide +kernel
theorem dX12_turn_91 : decode cX12_turn 91 = .ok (.iload_n 2, 1) := by decide +kernel
theorem dX12_turn_92 : decode cX12_turn 92 = .ok (.bipush 115, 2) := by decide +kernel
theorem dX12_turn_94 : decode cX12_turn 94 = .ok (.if_icmp .ne 45, 3) := by decide +kernel
theorem dX12_turn_97 : decode cX12_turn 97 = .ok (.lload 5, 2) := by decide +kernel
theorem dX12_turn_99 : decode cX12_turn 99 = .ok (.lconst 0, 1) := by decide +kernel
theorem dX12_turn_100 : decode cX12_turn 100 = .ok (.lcmp, 1) := by decide +kernel
theorem dX12_turn_101 : decode cX12_turn 101 = .ok (.ifCond .eq 28, 3) := by decide +kernel
theorem dX12_turn_104 : decode cX12_turn 104 = .ok (.lload 5, 2) := by decide +kernel
theorem dX12_turn_106 : decode cX12_turn 106 = .ok (.ldc2_w 14, 3) := by decide +kernel
theorem dX12_turn_109 : decode cX12_turn 109 = .ok (.lrem, 1) := by decide +kernel
theorem dX12_turn_110 : decode cX12_turn 110 = .ok (.lconst 0, 1) := by decide +kernel
theorem dX12_turn_111 : decode cX12_turn 111 = .ok (.lcmp, 1) := by decide +kernel
theorem dX12_turn_112 : decode cX12_turn 112 = .ok (.ifCond .ne 17, 3) := by decide +kernel
theorem dX12_turn_115 : decode cX12_turn 115 = .ok (.lload 5, 2) := by decide +kernel
theorem dX12_turn_117 : decode cX12_turn 117 = .ok (.ldc2_w 14, 3) := by decide +kernel
theorem dX12_turn_120 : decode cX12_turn 120 = .ok (.ldiv, 1) := by decide +kernel
theorem dX12_turn_121 : decode cX12_turn 121 = .ok (.lstore 5, 2) := by decide +kernel
theorem dX12_turn_123 : decode cX12_turn 123 = .ok (.iinc 7 (-1), 3) := by decide +kernel
theorem dX12_turn_126 : decode cX12_turn 126 = .ok (.goto (-29), 3) := by decide +kernel
theorem dX12_turn_129 : decode cX12_turn 129 = .ok (.lload 5, 2) := by decide +kernel
theorem dX12_turn_131 : decode cX12_turn 131 = .ok (.lconst 0, 1) := by decide +kernel
theorem dX12_turn_132 : decode cX12_turn 132 = .ok (.lcmp, 1) := by decide +kernel
theorem dX12_turn_133 : decode cX12_turn 133 = .ok (.ifCond .ne 6, 3) := by decide +kernel
theorem dX12_turn_136 : decode cX12_turn 136 = .ok (.iconst 0, 1) := by decide +kernel
theorem dX12_turn_137 : decode cX12_turn 137 = .ok (.istore 7, 2) := by decide +kernel
theorem dX12_turn_139 : decode cX12_turn 139 = .ok (.iload_n 2, 1) := by decide +kernel
theorem dX12_turn_140 : decode cX12_turn 140 = .ok (.bipush 45, 2) := by decide +kernel
theorem dX12_turn_142 : decode cX12_turn 142 = .ok (.if_icmp .ne 18, 3) := by decide +kernel
theorem dX12_turn_145 : decode cX12_turn 145 = .ok (.lload 5, 2) := by decide +kernel
theorem dX12_turn_147 : decode cX12_turn 147 = .ok (.lconst 0, 1) := by decide +kernel
theorem dX12_turn_148 : decode cX12_turn 148 = .ok (.lcmp, 1) := by decide +kernel
theorem dX12_turn_149 : decode cX12_turn 149 = .ok (.ifCond .le 7, 3) := by decide +kernel
theorem dX12_turn_152 : decode cX12_turn 152 = .ok (.iconst 1, 1) := by decide +kernel
theorem dX12_turn_153 : decode cX12_turn 153 = .ok (.goto 25, 3) := by decide +kernel
theorem dX12_turn_156 : decode cX12_turn 156 = .ok (.iconst 0, 1) := by decide +kernel
theorem dX12_turn_157 : decode cX12_turn 157 = .ok (.goto 21, 3) := by decide +kernel
theorem dX12_turn_160 : decode cX12_turn 160 = .ok (.iload_n 2, 1) := by decide +kernel
theorem dX12_turn_161 : decode cX12_turn 161 = .ok (.bipush 115, 2) := by decide +kernel
theorem dX12_turn_163 : decode cX12_turn 163 = .ok (.if_icmp .ne 14, 3) := by decide +kernel
theorem dX12_turn_166 : decode cX12_turn 166 = .ok (.lload 5, 2) := by decide +kernel
theorem dX12_turn_168 : decode cX12_turn 168 = .ok (.lconst 0, 1) := by decide +kernel
theorem dX12_turn_169 : decode cX12_turn 169 = .ok (.lcmp, 1) := by decide +kernel
theorem dX12_turn_170 : decode cX12_turn 170 = .ok (.ifCond .ge 7, 3) := by decide +kernel
theorem dX12_turn_173 : decode cX12_turn 173 = .ok (.iconst 1, 1) := by decide +kernel
theorem dX12_turn_174 : decode cX12_turn 174 = .ok (.goto 4, 3) := by decide +kernel
theorem dX12_turn_177 : decode cX12_turn 177 = .ok (.iconst 0, 1) := by decide +kernel
theorem dX12_turn_178 : decode cX12_turn 178 = .ok (.istore 8, 2) := by decide +kernel
theorem dX12_turn_180 : decode cX12_turn 180 = .ok (.aload_n 0, 1) := by decide +kernel
theorem dX12_turn_181 : decode cX12_turn 181 = .ok (.iconst 4, 1) := by decide +kernel
theorem dX12_turn_182 : decode cX12_turn 182 = .ok (.lload 5, 2) := by decide +kernel
theorem dX12_turn_184 : decode cX12_turn 184 = .ok (.invokevirtual 33, 3) := by decide +kernel
theorem dX12_turn_187 : decode cX12_turn 187 = .ok (.aload_n 0, 1) := by decide +kernel
theorem dX12_turn_188 : decode cX12_turn 188 = .ok (.aload_n 0, 1) := by decide +kernel
theorem dX12_turn_189 : decode cX12_turn 189 = .ok (.iload_n 3, 1) := by decide +kernel
theorem dX12_turn_190 : decode cX12_turn 190 = .ok (.iconst 4, 1) := by decide +kernel
theorem dX12_turn_191 : decode cX12_turn 191 = .ok (.iload 8, 2) := by decide +kernel
theorem dX12_turn_193 : decode cX12_turn 193 = .ok (.iload 7, 2) := by decide +kernel
theorem dX12_turn_195 : decode cX12_turn 195 = .ok (.invokevirtual 224, 3) := by decide +kernel
theorem dX12_turn_198 : decode cX12_turn 198 = .ok (.ifCond .eq 7, 3) := by decide +kernel
theorem dX12_turn_201 : decode cX12_turn 201 = .ok (.iconst 0, 1) := by decide +kernel
theorem dX12_turn_202 : decode cX12_turn 202 = .ok (.goto 4, 3) := by decide +kernel
theorem dX12_turn_205 : decode cX12_turn 205 = .ok (.iconst 4, 1) := by decide +kernel
theorem dX12_turn_206 : decode cX12_turn 206 = .ok (.invokevirtual 206, 3) := by decide +kernel
theorem dX12_turn_209 : decode cX12_turn 209 = .ok (.ifCond .eq 7, 3) := by decide +kernel
theorem dX12_turn_212 : decode cX12_turn 212 = .ok (.iconst 0, 1) := by decide +kernel
theorem dX12_turn_213 : decode cX12_turn 213 = .ok (.goto 9, 3) := by decide +kernel
theorem dX12_turn_216 : decode cX12_turn 216 = .ok (.aload_n 0, 1) := by decide +kernel
theorem dX12_turn_217 : decode cX12_turn 217 = .ok (.getfield 60, 3) := by decide +kernel
theorem dX12_turn_220 : decode cX12_turn 220 = .ok (.iload_n 3, 1) := by decide +kernel
theorem dX12_turn_221 : decode cX12_turn 221 = .ok (.iaload, 1) := by decide +kernel
theorem dX12_turn_222 : decode cX12_turn 222 = .ok (.ireturn, 1) := by decide +kernel
theorem dX12_move_0 : decode cX12_move 0 = .ok (.aload_n 0, 1) := by decide +kernel
theorem dX12_move_1 : decode cX12_move 1 = .ok (.iload_n 1, 1) := by decide +kernel
theorem dX12_move_2 : decode cX12_move 2 = .ok (.invokestatic 199, 3) := by decide +kernel
theorem dX12_move_5 : decode cX12_move 5 = .ok (.ifCond .eq 10, 3) := by decide +kernel
theorem dX12_move_8 : decode cX12_move 8 = .ok (.iload_n 3, 1) := by decide +kernel
theorem dX12_move_9 : decode cX12_move 9 = .ok (.invokestatic 199, 3) := by decide +kernel
theorem dX12_move_12 : decode cX12_move 12 = .ok (.ifCond .ne 7, 3) := by decide +kernel
theorem dX12_move_15 : decode cX12_move 15 = .ok (.iconst 1, 1) := by decide +kernel
theorem dX12_move_16 : decode cX12_move 16 = .ok (.goto 39, 3) := by decide +kernel
theorem dX12_move_19 : decode cX12_move 19 = .ok (.iload_n 2, 1) := by decide +kernel
theorem dX12_move_20 : decode cX12_move 20 = .ok (.ifCond .eq 17, 3) := by decide +kernel
theorem dX12_move_23 : decode cX12_move 23 = .ok (.iload_n 2, 1) := by decide +kernel
theorem dX12_move_24 : decode cX12_move 24 = .ok (.i2l, 1) := by decide +kernel
theorem dX12_move_25 : decode cX12_move 25 = .ok (.ldc2_w 263, 3) := by decide +kernel
theorem dX12_move_28 : decode cX12_move 28 = .ok (.ldc2_w 265, 3) := by decide +kernel
theorem dX12_move_31 : decode cX12_move 31 = .ok (.invokestatic 183, 3) := by decide +kernel
theorem dX12_move_34 : decode cX12_move 34 = .ok (.ifCond .ne 7, 3) := by decide +kernel
theorem dX12_move_37 : decode cX12_move 37 = .ok (.iconst 2, 1) := by decide +kernel
theorem dX12_move_38 : decode cX12_move 38 = .ok (.goto 17, 3) := by decide +kernel
theorem dX12_move_41 : decode cX12_move 41 = .ok (.aload_n 0, 1) := by decide +kernel
theorem dX12_move_42 : decode cX12_move 42 = .ok (.getfield 63, 3) := by decide +kernel
theorem dX12_move_45 : decode cX12_move 45 = .ok (.iload_n 1, 1) := by decide +kernel
theorem dX12_move_46 : decode cX12_move 46 = .ok (.baload, 1) := by decide +kernel
theorem dX12_move_47 : decode cX12_move 47 = .ok (.ifCond .ne 7, 3) := by decide +kernel
theorem dX12_move_50 : decode cX12_move 50 = .ok (.iconst 3, 1) := by decide +kernel
theorem dX12_move_51 : decode cX12_move 51 = .ok (.goto 4, 3) := by decide +kernel
theorem dX12_move_54 : decode cX12_move 54 = .ok (.iconst 0, 1) := by decide +kernel
theorem dX12_move_55 : decode cX12_move 55 = .ok (.invokevirtual 206, 3) := by decide +kernel
theorem dX12_move_58 : decode cX12_move 58 = .ok (.ifCond .eq 5, 3) := by decide +kernel
theorem dX12_move_61 : decode cX12_move 61 = .ok (.iconst 0, 1) := by decide +kernel
theorem dX12_move_62 : decode cX12_move 62 = .ok (.ireturn, 1) := by decide +kernel
theorem dX12_move_63 : decode cX12_move 63 = .ok (.aload_n 0, 1) := by decide +kernel
theorem dX12_move_64 : decode cX12_move 64 = .ok (.getfield 60, 3) := by decide +kernel
theorem dX12_move_67 : decode cX12_move 67 = .ok (.iload_n 1, 1) := by decide +kernel
theorem dX12_move_68 : decode cX12_move 68 = .ok (.iaload, 1) := by decide +kernel
theorem dX12_move_69 : decode cX12_move 69 = .ok (.iload_n 2, 1) := by decide +kernel
theorem dX12_move_70 : decode cX12_move 70 = .ok (.iadd, 1) := by decide +kernel
theorem dX12_move_71 : decode cX12_move 71 = .ok (.istore 4, 2) := by decide +kernel
theorem dX12_move_73 : decode cX12_move 73 = .ok (.aload_n 0, 1) := by decide +kernel
theorem dX12_move_74 : decode cX12_move 74 = .ok (.iconst 4, 1) := by decide +kernel
theorem dX12_move_75 : decode cX12_move 75 = .ok (.aload_n 0, 1) := by decide +kernel
theorem dX12_move_76 : decode cX12_move 76 = .ok (.getfield 56, 3) := by decide +kernel
theorem dX12_move_79 : decode cX12_move 79 = .ok (.iload_n 1, 1) := by decide +kernel
theorem dX12_move_80 : decode cX12_move 80 = .ok (.laload, 1) := by decide +kernel
theorem dX12_move_81 : decode cX12_move 81 = .ok (.invokevirtual 33, 3) := by decide +kernel
theorem dX12_move_84 : decode cX12_move 84 = .ok (.aload_n 0, 1) := by decide +kernel
theorem dX12_move_85 : decode cX12_move 85 = .ok (.iconst 4, 1) := by decide +kernel
theorem dX12_move_86 : decode cX12_move 86 = .ok (.iload 4, 2) := by decide +kernel
theorem dX12_move_88 : decode cX12_move 88 = .ok (.ineg, 1) := by decide +kernel
theorem dX12_move_89 : decode cX12_move 89 = .ok (.invokevirtual 24, 3) := by decide +kernel
theorem dX12_move_92 : decode cX12_move 92 = .ok (.aload_n 0, 1) := by decide +kernel
theorem dX12_move_93 : decode cX12_move 93 = .ok (.aload_n 0, 1) := by decide +kernel
theorem dX12_move_94 : decode cX12_move 94 = .ok (.iload_n 3, 1) := by decide +kernel
theorem dX12_move_95 : decode cX12_move 95 = .ok (.iconst 4, 1) := by decide +kernel
theorem dX12_move_96 : decode cX12_move 96 = .ok (.aload_n 0, 1) := by decide +kernel
theorem dX12_move_97 : decode cX12_move 97 = .ok (.getfield 56, 3) := by decide +kernel
theorem dX12_move_100 : decode cX12_move 100 = .ok (.iload_n 1, 1) := by decide +kernel
theorem dX12_move_101 : decode cX12_move 101 = .ok (.laload, 1) := by decide +kernel
theorem dX12_move_102 : decode cX12_move 102 = .ok (.lconst 0, 1) := by decide +kernel
theorem dX12_move_103 : decode cX12_move 103 = .ok (.lcmp, 1) := by decide +kernel
theorem dX12_move_104 : decode cX12_move 104 = .ok (.ifCond .ge 7, 3) := by decide +kernel
theorem dX12_move_107 : decode cX12_move 107 = .ok (.iconst 1, 1) := by decide +kernel
theorem dX12_move_108 : decode cX12_move 108 = .ok (.goto 4, 3) := by decide +kernel
theorem dX12_move_111 : decode cX12_move 111 = .ok (.iconst 0, 1) := by decide +kernel
theorem dX12_move_112 : decode cX12_move 112 = .ok (.iconst 0, 1) := by decide +kernel
theorem dX12_move_113 : decode cX12_move 113 = .ok (.iload 4, 2) := by decide +kernel
theorem dX12_move_115 : decode cX12_move 115 = .ok (.invokestatic 232, 3) := by decide +kernel
theorem dX12_move_118 : decode cX12_move 118 = .ok (.invokevirtual 224, 3) := by decide +kernel
theorem dX12_move_121 : decode cX12_move 121 = .ok (.ifCond .eq 7, 3) := by decide +kernel
theorem dX12_move_124 : decode cX12_move 124 = .ok (.iconst 0, 1) := by decide +kernel
theorem dX12_move_125 : decode cX12_move 125 = .ok (.goto 4, 3) := by decide +kernel
theorem dX12_move_128 : decode cX12_move 128 = .ok (.iconst 4, 1) := by decide +kernel
theorem dX12_move_129 : decode cX12_move 129 = .ok (.invokevirtual 206, 3) := by decide +kernel
theorem dX12_move_132 : decode cX12_move 132 = .ok (.ifCond .eq 7, 3) := by decide +kernel
theorem dX12_move_135 : decode cX12_move 135 = .ok (.iconst 0, 1) := by decide +kernel
theorem dX12_move_136 : decode cX12_move 136 = .ok (.goto 9, 3) := by decide +kernel
theorem dX12_move_139 : decode cX12_move 139 = .ok (.aload_n 0, 1) := by decide +kernel
theorem dX12_move_140 : decode cX12_move 140 = .ok (.getfield 60, 3) := by decide +kernel
theorem dX12_move_143 : decode cX12_move 143 = .ok (.iload_n 3, 1) := by decide +kernel
theorem dX12_move_144 : decode cX12_move 144 = .ok (.iaload, 1) := by decide +kernel
theorem dX12_move_145 : decode cX12_move 145 = .ok (.ireturn, 1) := by decide +kernel
theorem dX12_scales_0 : decode cX12_scales 0 = .ok (.aload_n 0, 1) := by decide +kernel
theorem dX12_scales_1 : decode cX12_scales 1 = .ok (.iconst 0, 1) := by decide +kernel
theorem dX12_scales_2 : decode cX12_scales 2 = .ok (.putfield 47, 3) := by decide +kernel
theorem dX12_scales_5 : decode cX12_scales 5 = .ok (.aload_n 0, 1) := by decide +kernel
theorem dX12_scales_6 : decode cX12_scales 6 = .ok (.iconst 0, 1) := by decide +kernel
theorem dX12_scales_7 : decode cX12_scales 7 = .ok (.aload_n 0, 1) := by decide +kernel
theorem dX12_scales_8 : decode cX12_scales 8 = .ok (.getfield 56, 3) := by decide +kernel
theorem dX12_scales_11 : decode cX12_scales 11 = .ok (.iload_n 1, 1) := by decide +kernel
theorem dX12_scales_12 : decode cX12_scales 12 = .ok (.laload, 1) := by decide +kernel
theorem dX12_scales_13 : decode cX12_scales 13 = .ok (.invokevirtual 33, 3) := by decide +kernel
theorem dX12_scales_16 : decode cX12_scales 16 = .ok (.aload_n 0, 1) := by decide +kernel
theorem dX12_scales_17 : decode cX12_scales 17 = .ok (.iconst 0, 1) := by decide +kernel
theorem dX12_scales_18 : decode cX12_scales 18 = .ok (.iload_n 2, 1) := by decide +kernel
theorem dX12_scales_19 : decode cX12_scales 19 = .ok (.aload_n 0, 1) := by decide +kernel
theorem dX12_scales_20 : decode cX12_scales 20 = .ok (.getfield 60, 3) := by decide +kernel
theorem dX12_scales_23 : decode cX12_scales 23 = .ok (.iload_n 1, 1) := by decide +kernel
theorem dX12_scales_24 : decode cX12_scales 24 = .ok (.iaload, 1) := by decide +kernel
theorem dX12_scales_25 : decode cX12_scales 25 = .ok (.isub, 1) := by decide +kernel
theorem dX12_scales_26 : decode cX12_scales 26 = .ok (.invokevirtual 24, 3) := by decide +kernel
theorem dX12_scales_29 : decode cX12_scales 29 = .ok (.aload_n 0, 1) := by decide +kernel
theorem dX12_scales_30 : decode cX12_scales 30 = .ok (.iconst 1, 1) := by decide +kernel
theorem dX12_scales_31 : decode cX12_scales 31 = .ok (.lconst 1, 1) := by decide +kernel
theorem dX12_scales_32 : decode cX12_scales 32 = .ok (.invokevirtual 33, 3) := by decide +kernel
theorem dX12_scales_35 : decode cX12_scales 35 = .ok (.aload_n 0, 1) := by decide +kernel
theorem dX12_scales_36 : decode cX12_scales 36 = .ok (.iconst 1, 1) := by decide +kernel
theorem dX12_scales_37 : decode cX12_scales 37 = .ok (.aload_n 0, 1) := by decide +kernel
theorem dX12_scales_38 : decode cX12_scales 38 = .ok (.getfield 60, 3) := by decide +kernel
theorem dX12_scales_41 : decode cX12_scales 41 = .ok (.iload_n 1, 1) := by decide +kernel
theorem dX12_scales_42 : decode cX12_scales 42 = .ok (.iaload, 1) := by decide +kernel
theorem dX12_scales_43 : decode cX12_scales 43 = .ok (.iload_n 2, 1) := by decide +kernel
theorem dX12_scales_44 : decode cX12_scales 44 = .ok (.isub, 1) := by decide +kernel
theorem dX12_scales_45 : decode cX12_scales 45 = .ok (.invokevirtual 24, 3) := by decide +kernel
theorem dX12_scales_48 : decode cX12_scales 48 = .ok (.aload_n 0, 1) := by decide +kernel
theorem dX12_scales_49 : decode cX12_scales 49 = .ok (.aload_n 0, 1) := by decide +kernel
theorem dX12_scales_50 : decode cX12_scales 50 = .ok (.getfield 56, 3) := by decide +kernel
theorem dX12_scales_53 : decode cX12_scales 53 = .ok (.iload_n 1, 1) := by decide +kernel
theorem dX12_scales_54 : decode cX12_scales 54 = .ok (.laload, 1) := by decide +kernel
theorem dX12_scales_55 : decode cX12_scales 55 = .ok (.lconst 0, 1) := by decide +kernel
theorem dX12_scales_56 : decode cX12_scales 56 = .ok (.lcmp, 1) := by decide +kernel
theorem dX12_scales_57 : decode cX12_scales 57 = .ok (.ifCond .ge 7, 3) := by decide +kernel
theorem dX12_scales_60 : decode cX12_scales 60 = .ok (.iconst 1, 1) := by decide +kernel
theorem dX12_scales_61 : decode cX12_scales 61 = .ok (.goto 4, 3) := by decide +kernel
theorem dX12_scales_64 : decode cX12_scales 64 = .ok (.iconst 0, 1) := by decide +kernel
theorem dX12_scales_65 : decode cX12_scales 65 = .ok (.iload_n 3, 1) := by decide +kernel
theorem dX12_scales_66 : decode cX12_scales 66 = .ok (.invokevirtual 267, 3) := by decide +kernel
theorem dX12_scales_69 : decode cX12_scales 69 = .ok (.return_, 1) := by decide +kernel
theorem dX12_setScale_0 : decode cX12_setScale 0 = .ok (.aload_n 0, 1) := by decide +kernel
theorem dX12_setScale_1 : decode cX12_setScale 1 = .ok (.iload_n 1, 1) := by decide +kernel
theorem dX12_setScale_2 : decode cX12_setScale 2 = .ok (.invokestatic 199, 3) := by decide +kernel
theorem dX12_setScale_5 : decode cX12_setScale 5 = .ok (.ifCond .eq 11, 3) := by decide +kernel
theorem dX12_setScale_8 : decode cX12_setScale 8 = .ok (.iload 4, 2) := by decide +kernel
theorem dX12_setScale_10 : decode cX12_setScale 10 = .ok (.invokestatic 199, 3) := by decide +kernel
theorem dX12_setScale_13 : decode cX12_setScale 13 = .ok (.ifCond .ne 7, 3) := by decide +kernel
theorem dX12_setScale_16 : decode cX12_setScale 16 = .ok (.iconst 1, 1) := by decide +kernel
theorem dX12_setScale_17 : decode cX12_setScale 17 = .ok (.goto 35, 3) := by decide +kernel
theorem dX12_setScale_20 : decode cX12_setScale 20 = .ok (.iload_n 2, 1) := by decide +kernel
theorem dX12_setScale_21 : decode cX12_setScale 21 = .ok (.invokestatic 191, 3) := by decide +kernel
theorem dX12_setScale_24 : decode cX12_setScale 24 = .ok (.ifCond .eq 10, 3) := by decide +kernel
theorem dX12_setScale_27 : decode cX12_setScale 27 = .ok (.iload_n 3, 1) := by decide +kernel
theorem dX12_setScale_28 : decode cX12_setScale 28 = .ok (.invokestatic 271, 3) := by decide +kernel
theorem dX12_setScale_31 : decode cX12_setScale 31 = .ok (.ifCond .ne 7, 3) := by decide +kernel
theorem dX12_setScale_34 : decode cX12_setScale 34 = .ok (.iconst 2, 1) := by decide +kernel
theorem dX12_setScale_35 : decode cX12_setScale 35 = .ok (.goto 17, 3) := by decide +kernel
theorem dX12_setScale_38 : decode cX12_setScale 38 = .ok (.aload_n 0, 1) := by decide +kernel
theorem dX12_setScale_39 : decode cX12_setScale 39 = .ok (.getfield 63, 3) := by decide +kernel
theorem dX12_setScale_42 : decode cX12_setScale 42 = .ok (.iload_n 1, 1) := by decide +kernel
theorem dX12_setScale_43 : decode cX12_setScale 43 = .ok (.baload, 1) := by decide +kernel
theorem dX12_setScale_44 : decode cX12_setScale 44 = .ok (.ifCond .ne 7, 3) := by decide +kernel
theorem dX12_setScale_47 : decode cX12_setScale 47 = .ok (.iconst 3, 1) := by decide +kernel
theorem dX12_setScale_48 : decode cX12_setScale 48 = .ok (.goto 4, 3) := by decide +kernel
theorem dX12_setScale_51 : decode cX12_setScale 51 = .ok (.iconst 0, 1) := by decide +kernel
theorem dX12_setScale_52 : decode cX12_setScale 52 = .ok (.invokevirtual 206, 3) := by decide +kernel
theorem dX12_setScale_55 : decode cX12_setScale 55 = .ok (.ifCond .eq 5, 3) := by decide +kernel
theorem dX12_setScale_58 : decode cX12_setScale 58 = .ok (.iconst 0, 1) := by decide +kernel
theorem dX12_setScale_59 : decode cX12_setScale 59 = .ok (.ireturn, 1) := by decide +kernel
theorem dX12_setScale_60 : decode cX12_setScale 60 = .ok (.aload_n 0, 1) := by decide +kernel
theorem dX12_setScale_61 : decode cX12_setScale 61 = .ok (.iload_n 1, 1) := by decide +kernel
theorem dX12_setScale_62 : decode cX12_setScale 62 = .ok (.iload_n 2, 1) := by decide +kernel
theorem dX12_setScale_63 : decode cX12_setScale 63 = .ok (.iload_n 3, 1) := by decide +kernel
theorem dX12_setScale_64 : decode cX12_setScale 64 = .ok (.invokevirtual 275, 3) := by decide +kernel
theorem dX12_setScale_67 : decode cX12_setScale 67 = .ok (.aload_n 0, 1) := by decide +kernel
theorem dX12_setScale_68 : decode cX12_setScale 68 = .ok (.aload_n 0, 1) := by decide +kernel
theorem dX12_setScale_69 : decode cX12_setScale 69 = .ok (.getfield 47, 3) := by decide +kernel
theorem dX12_setScale_72 : decode cX12_setScale 72 = .ok (.ifCond .ne 34, 3) := by decide +kernel
theorem dX12_setScale_75 : decode cX12_setScale 75 = .ok (.aload_n 0, 1) := by decide +kernel
theorem dX12_setScale_76 : decode cX12_setScale 76 = .ok (.iload 4, 2) := by decide +kernel
theorem dX12_setScale_78 : decode cX12_setScale 78 = .ok (.iconst 2, 1) := by decide +kernel
theorem dX12_setScale_79 : decode cX12_setScale 79 = .ok (.aload_n 0, 1) := by decide +kernel
theorem dX12_setScale_80 : decode cX12_setScale 80 = .ok (.getfield 56, 3) := by decide +kernel
theorem dX12_setScale_83 : decode cX12_setScale 83 = .ok (.iload_n 1, 1) := by decide +kernel
theorem dX12_setScale_84 : decode cX12_setScale 84 = .ok (.laload, 1) := by decide +kernel
theorem dX12_setScale_85 : decode cX12_setScale 85 = .ok (.lconst 0, 1) := by decide +kernel
theorem dX12_setScale_86 : decode cX12_setScale 86 = .ok (.lcmp, 1) := by decide +kernel
theorem dX12_setScale_87 : decode cX12_setScale 87 = .ok (.ifCond .ge 7, 3) := by decide +kernel
theorem dX12_setScale_90 : decode cX12_setScale 90 = .ok (.iconst 1, 1) := by decide +kernel
theorem dX12_setScale_91 : decode cX12_setScale 91 = .ok (.goto 4, 3) := by decide +kernel
theorem dX12_setScale_94 : decode cX12_setScale 94 = .ok (.iconst 0, 1) := by decide +kernel
theorem dX12_setScale_95 : decode cX12_setScale 95 = .ok (.iload_n 2, 1) := by decide +kernel
theorem dX12_setScale_96 : decode cX12_setScale 96 = .ok (.invokevirtual 224, 3) := by decide +kernel
theorem dX12_setScale_99 : decode cX12_setScale 99 = .ok (.ifCond .eq 7, 3) := by decide +kernel
theorem dX12_setScale_102 : decode cX12_setScale 102 = .ok (.iconst 0, 1) := by decide +kernel
theorem dX12_setScale_103 : decode cX12_setScale 103 = .ok (.goto 4, 3) := by decide +kernel
theorem dX12_setScale_106 : decode cX12_setScale 106 = .ok (.iconst 4, 1) := by decide +kernel
theorem dX12_setScale_107 : decode cX12_setScale 107 = .ok (.invokevirtual 206, 3) := by decide +kernel
theorem dX12_setScale_110 : decode cX12_setScale 110 = .ok (.ifCond .eq 7, 3) := by decide +kernel
theorem dX12_setScale_113 : decode cX12_setScale 113 = .ok (.iconst 0, 1) := by decide +kernel
theorem dX12_setScale_114 : decode cX12_setScale 114 = .ok (.goto 13, 3) := by decide +kernel
theorem dX12_setScale_117 : decode cX12_setScale 117 = .ok (.aload_n 0, 1) := by decide +kernel
theorem dX12_setScale_118 : decode cX12_setScale 118 = .ok (.getfield 56, 3) := by decide +kernel
theorem dX12_setScale_121 : decode cX12_setScale 121 = .ok (.iload 4, 2) := by decide +kernel
theorem dX12_setScale_123 : decode cX12_setScale 123 = .ok (.laload, 1) := by decide +kernel
theorem dX12_setScale_124 : decode cX12_setScale 124 = .ok (.invokestatic 209, 3) := by decide +kernel
theorem dX12_setScale_127 : decode cX12_setScale 127 = .ok (.ireturn, 1) := by decide +kernel
theorem dX12_round_0 : decode cX12_round 0 = .ok (.aload_n 0, 1) := by decide +kernel
theorem dX12_round_1 : decode cX12_round 1 = .ok (.iload_n 1, 1) := by decide +kernel
theorem dX12_round_2 : decode cX12_round 2 = .ok (.invokestatic 199, 3) := by decide +kernel
theorem dX12_round_5 : decode cX12_round 5 = .ok (.ifCond .eq 11, 3) := by decide +kernel
theorem dX12_round_8 : decode cX12_round 8 = .ok (.iload 4, 2) := by decide +kernel
theorem dX12_round_10 : decode cX12_round 10 = .ok (.invokestatic 199, 3) := by decide +kernel
theorem dX12_round_13 : decode cX12_round 13 = .ok (.ifCond .ne 7, 3) := by decide +kernel
theorem dX12_round_16 : decode cX12_round 16 = .ok (.iconst 1, 1) := by decide +kernel
theorem dX12_round_17 : decode cX12_round 17 = .ok (.goto 40, 3) := by decide +kernel
theorem dX12_round_20 : decode cX12_round 20 = .ok (.iload_n 2, 1) := by decide +kernel
theorem dX12_round_21 : decode cX12_round 21 = .ok (.i2l, 1) := by decide +kernel
theorem dX12_round_22 : decode cX12_round 22 = .ok (.lconst 1, 1) := by decide +kernel
theorem dX12_round_23 : decode cX12_round 23 = .ok (.ldc2_w 278, 3) := by decide +kernel
theorem dX12_round_26 : decode cX12_round 26 = .ok (.invokestatic 183, 3) := by decide +kernel
theorem dX12_round_29 : decode cX12_round 29 = .ok (.ifCond .eq 10, 3) := by decide +kernel
theorem dX12_round_32 : decode cX12_round 32 = .ok (.iload_n 3, 1) := by decide +kernel
theorem dX12_round_33 : decode cX12_round 33 = .ok (.invokestatic 271, 3) := by decide +kernel
theorem dX12_round_36 : decode cX12_round 36 = .ok (.ifCond .ne 7, 3) := by decide +kernel
theorem dX12_round_39 : decode cX12_round 39 = .ok (.iconst 2, 1) := by decide +kernel
theorem dX12_round_40 : decode cX12_round 40 = .ok (.goto 17, 3) := by decide +kernel
theorem dX12_round_43 : decode cX12_round 43 = .ok (.aload_n 0, 1) := by decide +kernel
theorem dX12_round_44 : decode cX12_round 44 = .ok (.getfield 63, 3) := by decide +kernel
theorem dX12_round_47 : decode cX12_round 47 = .ok (.iload_n 1, 1) := by decide +kernel
theorem dX12_round_48 : decode cX12_round 48 = .ok (.baload, 1) := by decide +kernel
theorem dX12_round_49 : decode cX12_round 49 = .ok (.ifCond .ne 7, 3) := by decide +kernel
theorem dX12_round_52 : decode cX12_round 52 = .ok (.iconst 3, 1) := by decide +kernel
theorem dX12_round_53 : decode cX12_round 53 = .ok (.goto 4, 3) := by decide +kernel
theorem dX12_round_56 : decode cX12_round 56 = .ok (.iconst 0, 1) := by decide +kernel
theorem dX12_round_57 : decode cX12_round 57 = .ok (.invokevirtual 206, 3) := by decide +kernel
theorem dX12_round_60 : decode cX12_round 60 = .ok (.ifCond .eq 5, 3) := by decide +kernel
theorem dX12_round_63 : decode cX12_round 63 = .ok (.iconst 0, 1) := by decide +kernel
theorem dX12_round_64 : decode cX12_round 64 = .ok (.ireturn, 1) := by decide +kernel
theorem dX12_round_65 : decode cX12_round 65 = .ok (.aload_n 0, 1) := by decide +kernel
theorem dX12_round_66 : decode cX12_round 66 = .ok (.getfield 60, 3) := by decide +kernel
theorem dX12_round_69 : decode cX12_round 69 = .ok (.iload_n 1, 1) := by decide +kernel
theorem dX12_round_70 : decode cX12_round 70 = .ok (.iaload, 1) := by decide +kernel
theorem dX12_round_71 : decode cX12_round 71 = .ok (.iconst 0, 1) := by decide +kernel
theorem dX12_round_72 : decode cX12_round 72 = .ok (.aload_n 0, 1) := by decide +kernel
theorem dX12_round_73 : decode cX12_round 73 = .ok (.getfield 56, 3) := by decide +kernel
theorem dX12_round_76 : decode cX12_round 76 = .ok (.iload_n 1, 1) := by decide +kernel
theorem dX12_round_77 : decode cX12_round 77 = .ok (.laload, 1) := by decide +kernel
theorem dX12_round_78 : decode cX12_round 78 = .ok (.invokestatic 209, 3) := by decide +kernel
theorem dX12_round_81 : decode cX12_round 81 = .ok (.iload_n 2, 1) := by decide +kernel
theorem dX12_round_82 : decode cX12_round 82 = .ok (.isub, 1) := by decide +kernel
theorem dX12_round_83 : decode cX12_round 83 = .ok (.invokestatic 232, 3) := by decide +kernel
theorem dX12_round_86 : decode cX12_round 86 = .ok (.isub, 1) := by decide +kernel
theorem dX12_round_87 : decode cX12_round 87 = .ok (.istore 5, 2) := by decide +kernel
theorem dX12_round_89 : decode cX12_round 89 = .ok (.aload_n 0, 1) := by decide +kernel
theorem dX12_round_90 : decode cX12_round 90 = .ok (.iload_n 1, 1) := by decide +kernel
theorem dX12_round_91 : decode cX12_round 91 = .ok (.iload 5, 2) := by decide +kernel
theorem dX12_round_93 : decode cX12_round 93 = .ok (.iload_n 3, 1) := by decide +kernel
theorem dX12_round_94 : decode cX12_round 94 = .ok (.invokevirtual 275, 3) := by decide +kernel
theorem dX12_round_97 : decode cX12_round 97 = .ok (.aload_n 0, 1) := by decide +kernel
theorem dX12_round_98 : decode cX12_round 98 = .ok (.iconst 2, 1) := by decide +kernel
theorem dX12_round_99 : decode cX12_round 99 = .ok (.iconst 4, 1) := by decide +kernel
theorem dX12_round_100 : decode cX12_round 100 = .ok (.invokevirtual 30, 3) := by decide +kernel
theorem dX12_round_103 : decode cX12_round 103 = .ok (.aload_n 0, 1) := by decide +kernel
theorem dX12_round_104 : decode cX12_round 104 = .ok (.getfield 1, 3) := by decide +kernel
theorem dX12_round_107 : decode cX12_round 107 = .ok (.iconst 4, 1) := by decide +kernel
theorem dX12_round_108 : decode cX12_round 108 = .ok (.iaload, 1) := by decide +kernel
theorem dX12_round_109 : decode cX12_round 109 = .ok (.iload_n 2, 1) := by decide +kernel
theorem dX12_round_110 : decode cX12_round 110 = .ok (.if_icmp .le 30, 3) := by decide +kernel
theorem dX12_round_113 : decode cX12_round 113 = .ok (.aload_n 0, 1) := by decide +kernel
theorem dX12_round_114 : decode cX12_round 114 = .ok (.iconst 4, 1) := by decide +kernel
theorem dX12_round_115 : decode cX12_round 115 = .ok (.iconst 0, 1) := by decide +kernel
theorem dX12_round_116 : decode cX12_round 116 = .ok (.invokevirtual 30, 3) := by decide +kernel
theorem dX12_round_119 : decode cX12_round 119 = .ok (.aload_n 0, 1) := by decide +kernel
theorem dX12_round_120 : decode cX12_round 120 = .ok (.iconst 1, 1) := by decide +kernel
theorem dX12_round_121 : decode cX12_round 121 = .ok (.ldc2_w 14, 3) := by decide +kernel
theorem dX12_round_124 : decode cX12_round 124 = .ok (.invokevirtual 33, 3) := by decide +kernel
theorem dX12_round_127 : decode cX12_round 127 = .ok (.aload_n 0, 1) := by decide +kernel
theorem dX12_round_128 : decode cX12_round 128 = .ok (.invokevirtual 43, 3) := by decide +kernel
theorem dX12_round_131 : decode cX12_round 131 = .ok (.aload_n 0, 1) := by decide +kernel
theorem dX12_round_132 : decode cX12_round 132 = .ok (.iconst 2, 1) := by decide +kernel
theorem dX12_round_133 : decode cX12_round 133 = .ok (.iconst 4, 1) := by decide +kernel
theorem dX12_round_134 : decode cX12_round 134 = .ok (.invokevirtual 30, 3) := by decide +kernel
theorem dX12_round_137 : decode cX12_round 137 = .ok (.iinc 5 (-1), 3) := by decide +kernel
theorem dX12_round_140 : decode cX12_round 140 = .ok (.aload_n 0, 1) := by decide +kernel
theorem dX12_round_141 : decode cX12_round 141 = .ok (.aload_n 0, 1) := by decide +kernel
theorem dX12_round_142 : decode cX12_round 142 = .ok (.getfield 47, 3) := by decide +kernel
theorem dX12_round_145 : decode cX12_round 145 = .ok (.ifCond .ne 35, 3) := by decide +kernel
theorem dX12_round_148 : decode cX12_round 148 = .ok (.aload_n 0, 1) := by decide +kernel
theorem dX12_round_149 : decode cX12_round 149 = .ok (.iload 4, 2) := by decide +kernel
theorem dX12_round_151 : decode cX12_round 151 = .ok (.iconst 4, 1) := by decide +kernel
theorem dX12_round_152 : decode cX12_round 152 = .ok (.aload_n 0, 1) := by decide +kernel
theorem dX12_round_153 : decode cX12_round 153 = .ok (.getfield 56, 3) := by decide +kernel
theorem dX12_round_156 : decode cX12_round 156 = .ok (.iload_n 1, 1) := by decide +kernel
theorem dX12_round_157 : decode cX12_round 157 = .ok (.laload, 1) := by decide +kernel
theorem dX12_round_158 : decode cX12_round 158 = .ok (.lconst 0, 1) := by decide +kernel
theorem dX12_round_159 : decode cX12_round 159 = .ok (.lcmp, 1) := by decide +kernel
theorem dX12_round_160 : decode cX12_round 160 = .ok (.ifCond .ge 7, 3) := by decide +kernel
theorem dX12_round_163 : decode cX12_round 163 = .ok (.iconst 1, 1) := by decide +kernel
theorem dX12_round_164 : decode cX12_round 164 = .ok (.goto 4, 3) := by decide +kernel
theorem dX12_round_167 : decode cX12_round 167 = .ok (.iconst 0, 1) := by decide +kernel
theorem dX12_round_168 : decode cX12_round 168 = .ok (.iload 5, 2) := by decide +kernel
theorem dX12_round_170 : decode cX12_round 170 = .ok (.invokevirtual 224, 3) := by decide +kernel
theorem dX12_round_173 : decode cX12_round 173 = .ok (.ifCond .eq 7, 3) := by decide +kernel
theorem dX12_round_176 : decode cX12_round 176 = .ok (.iconst 0, 1) := by decide +kernel
theorem dX12_round_177 : decode cX12_round 177 = .ok (.goto 4, 3) := by decide +kernel
theorem dX12_round_180 : decode cX12_round 180 = .ok (.iconst 4, 1) := by decide +kernel
theorem dX12_round_181 : decode cX12_round 181 = .ok (.invokevirtual 206, 3) := by decide +kernel
theorem dX12_round_184 : decode cX12_round 184 = .ok (.ifCond .eq 7, 3) := by decide +kernel
theorem dX12_round_187 : decode cX12_round 187 = .ok (.iconst 0, 1) := by decide +kernel
theorem dX12_round_188 : decode cX12_round 188 = .ok (.goto 10, 3) := by decide +kernel
theorem dX12_round_191 : decode cX12_round 191 = .ok (.aload_n 0, 1) := by decide +kernel
theorem dX12_round_192 : decode cX12_round 192 = .ok (.getfield 60, 3) := by decide +kernel
theorem dX12_round_195 : decode cX12_round 195 = .ok (.iload 4, 2) := by decide +kernel
theorem dX12_round_197 : decode cX12_round 197 = .ok (.iaload, 1) := by decide +kernel
theorem dX12_round_198 : decode cX12_round 198 = .ok (.ireturn, 1) := by decide +kernel
theorem dX12_divide_0 : decode cX12_divide 0 = .ok (.aload_n 0, 1) := by decide +kernel
theorem dX12_divide_1 : decode cX12_divide 1 = .ok (.aload_n 0, 1) := by decide +kernel
theorem dX12_divide_2 : decode cX12_divide 2 = .ok (.iload_n 1, 1) := by decide +kernel
theorem dX12_divide_3 : decode cX12_divide 3 = .ok (.iload_n 2, 1) := by decide +kernel
theorem dX12_divide_4 : decode cX12_divide 4 = .ok (.iload 5, 2) := by decide +kernel
theorem dX12_divide_6 : decode cX12_divide 6 = .ok (.invokevirtual 245, 3) := by decide +kernel
theorem dX12_divide_9 : decode cX12_divide 9 = .ok (.ifCond .le 7, 3) := by decide +kernel
theorem dX12_divide_12 : decode cX12_divide 12 = .ok (.iconst 1, 1) := by decide +kernel
theorem dX12_divide_13 : decode cX12_divide 13 = .ok (.goto 60, 3) := by decide +kernel
theorem dX12_divide_16 : decode cX12_divide 16 = .ok (.iload_n 3, 1) := by decide +kernel
theorem dX12_divide_17 : decode cX12_divide 17 = .ok (.invokestatic 191, 3) := by decide +kernel
theorem dX12_divide_20 : decode cX12_divide 20 = .ok (.ifCond .eq 11, 3) := by decide +kernel
theorem dX12_divide_23 : decode cX12_divide 23 = .ok (.iload 4, 2) := by decide +kernel
theorem dX12_divide_25 : decode cX12_divide 25 = .ok (.invokestatic 271, 3) := by decide +kernel
theorem dX12_divide_28 : decode cX12_divide 28 = .ok (.ifCond .ne 7, 3) := by decide +kernel
theorem dX12_divide_31 : decode cX12_divide 31 = .ok (.iconst 2, 1) := by decide +kernel
theorem dX12_divide_32 : decode cX12_divide 32 = .ok (.goto 41, 3) := by decide +kernel
theorem dX12_divide_35 : decode cX12_divide 35 = .ok (.aload_n 0, 1) := by decide +kernel
theorem dX12_divide_36 : decode cX12_divide 36 = .ok (.getfield 63, 3) := by decide +kernel
theorem dX12_divide_39 : decode cX12_divide 39 = .ok (.iload_n 1, 1) := by decide +kernel
theorem dX12_divide_40 : decode cX12_divide 40 = .ok (.baload, 1) := by decide +kernel
theorem dX12_divide_41 : decode cX12_divide 41 = .ok (.ifCond .eq 12, 3) := by decide +kernel
theorem dX12_divide_44 : decode cX12_divide 44 = .ok (.aload_n 0, 1) := by decide +kernel
theorem dX12_divide_45 : decode cX12_divide 45 = .ok (.getfield 63, 3) := by decide +kernel
theorem dX12_divide_48 : decode cX12_divide 48 = .ok (.iload_n 2, 1) := by decide +kernel
theorem dX12_divide_49 : decode cX12_divide 49 = .ok (.baload, 1) := by decide +kernel
theorem dX12_divide_50 : decode cX12_divide 50 = .ok (.ifCond .ne 7, 3) := by decide +kernel
theorem dX12_divide_53 : decode cX12_divide 53 = .ok (.iconst 3, 1) := by decide +kernel
theorem dX12_divide_54 : decode cX12_divide 54 = .ok (.goto 19, 3) := by decide +kernel
theorem dX12_divide_57 : decode cX12_divide 57 = .ok (.aload_n 0, 1) := by decide +kernel
theorem dX12_divide_58 : decode cX12_divide 58 = .ok (.getfield 56, 3) := by decide +kernel
theorem dX12_divide_61 : decode cX12_divide 61 = .ok (.iload_n 2, 1) := by decide +kernel
theorem dX12_divide_62 : decode cX12_divide 62 = .ok (.laload, 1) := by decide +kernel
theorem dX12_divide_63 : decode cX12_divide 63 = .ok (.lconst 0, 1) := by decide +kernel
theorem dX12_divide_64 : decode cX12_divide 64 = .ok (.lcmp, 1) := by decide +kernel
theorem dX12_divide_65 : decode cX12_divide 65 = .ok (.ifCond .ne 7, 3) := by decide +kernel
theorem dX12_divide_68 : decode cX12_divide 68 = .ok (.iconst 4, 1) := by decide +kernel
theorem dX12_divide_69 : decode cX12_divide 69 = .ok (.goto 4, 3) := by decide +kernel
theorem dX12_divide_72 : decode cX12_divide 72 = .ok (.iconst 0, 1) := by decide +kernel
theorem dX12_divide_73 : decode cX12_divide 73 = .ok (.invokevirtual 206, 3) := by decide +kernel
theorem dX12_divide_76 : decode cX12_divide 76 = .ok (.ifCond .eq 5, 3) := by decide +kernel
theorem dX12_divide_79 : decode cX12_divide 79 = .ok (.iconst 0, 1) := by decide +kernel
theorem dX12_divide_80 : decode cX12_divide 80 = .ok (.ireturn, 1) := by decide +kernel
theorem dX12_divide_81 : decode cX12_divide 81 = .ok (.aload_n 0, 1) := by decide +kernel
theorem dX12_divide_82 : decode cX12_divide 82 = .ok (.getfield 60, 3) := by decide +kernel
theorem dX12_divide_85 : decode cX12_divide 85 = .ok (.iload_n 2, 1) := by decide +kernel
theorem dX12_divide_86 : decode cX12_divide 86 = .ok (.iaload, 1) := by decide +kernel
theorem dX12_divide_87 : decode cX12_divide 87 = .ok (.aload_n 0, 1) := by decide +kernel
theorem dX12_divide_88 : decode cX12_divide 88 = .ok (.getfield 60, 3) := by decide +kernel
theorem dX12_divide_91 : decode cX12_divide 91 = .ok (.iload_n 1, 1) := by decide +kernel
theorem dX12_divide_92 : decode cX12_divide 92 = .ok (.iaload, 1) := by decide +kernel
theorem dX12_divide_93 : decode cX12_divide 93 = .ok (.isub, 1) := by decide +kernel
theorem dX12_divide_94 : decode cX12_divide 94 = .ok (.iload_n 3, 1) := by decide +kernel
theorem dX12_divide_95 : decode cX12_divide 95 = .ok (.iadd, 1) := by decide +kernel
theorem dX12_divide_96 : decode cX12_divide 96 = .ok (.istore 6, 2) := by decide +kernel
theorem dX12_divide_98 : decode cX12_divide 98 = .ok (.aload_n 0, 1) := by decide +kernel
theorem dX12_divide_99 : decode cX12_divide 99 = .ok (.getfield 56, 3) := by decide +kernel
theorem dX12_divide_102 : decode cX12_divide 102 = .ok (.iload_n 1, 1) := by decide +kernel
theorem dX12_divide_103 : decode cX12_divide 103 = .ok (.laload, 1) := by decide +kernel
theorem dX12_divide_104 : decode cX12_divide 104 = .ok (.lconst 0, 1) := by decide +kernel
theorem dX12_divide_105 : decode cX12_divide 105 = .ok (.lcmp, 1) := by decide +kernel
theorem dX12_divide_106 : decode cX12_divide 106 = .ok (.ifCond .ge 7, 3) := by decide +kernel
theorem dX12_divide_109 : decode cX12_divide 109 = .ok (.iconst 1, 1) := by decide +kernel
theorem dX12_divide_110 : decode cX12_divide 110 = .ok (.goto 4, 3) := by decide +kernel
theorem dX12_divide_113 : decode cX12_divide 113 = .ok (.iconst 0, 1) := by decide +kernel
theorem dX12_divide_114 : decode cX12_divide 114 = .ok (.aload_n 0, 1) := by decide +kernel
theorem dX12_divide_115 : decode cX12_divide 115 = .ok (.getfield 56, 3) := by decide +kernel
theorem dX12_divide_118 : decode cX12_divide 118 = .ok (.iload_n 2, 1) := by decide +kernel
theorem dX12_divide_119 : decode cX12_divide 119 = .ok (.laload, 1) := by decide +kernel
theorem dX12_divide_120 : decode cX12_divide 120 = .ok (.lconst 0, 1) := by decide +kernel
theorem dX12_divide_121 : decode cX12_divide 121 = .ok (.lcmp, 1) := by decide +kernel
theorem dX12_divide_122 : decode cX12_divide 122 = .ok (.ifCond .ge 7, 3) := by decide +kernel
theorem dX12_divide_125 : decode cX12_divide 125 = .ok (.iconst 1, 1) := by decide +kernel
theorem dX12_divide_126 : decode cX12_divide 126 = .ok (.goto 4, 3) := by decide +kernel
theorem dX12_divide_129 : decode cX12_divide 129 = .ok (.iconst 0, 1) := by decide +kernel
theorem dX12_divide_130 : decode cX12_divide 130 = .ok (.if_icmp .eq 7, 3) := by decide +kernel
theorem dX12_divide_133 : decode cX12_divide 133 = .ok (.iconst 1, 1) := by decide +kernel
theorem dX12_divide_134 : decode cX12_divide 134 = .ok (.goto 4, 3) := by decide +kernel
theorem dX12_divide_137 : decode cX12_divide 137 = .ok (.iconst 0, 1) := by decide +kernel
theorem dX12_divide_138 : decode cX12_divide 138 = .ok (.istore 7, 2) := by decide +kernel
theorem dX12_divide_140 : decode cX12_divide 140 = .ok (.aload_n 0, 1) := by decide +kernel
theorem dX12_divide_141 : decode cX12_divide 141 = .ok (.iconst 0, 1) := by decide +kernel
theorem dX12_divide_142 : decode cX12_divide 142 = .ok (.putfield 47, 3) := by decide +kernel
theorem dX12_divide_145 : decode cX12_divide 145 = .ok (.aload_n 0, 1) := by decide +kernel
theorem dX12_divide_146 : decode cX12_divide 146 = .ok (.iconst 0, 1) := by decide +kernel
theorem dX12_divide_147 : decode cX12_divide 147 = .ok (.aload_n 0, 1) := by decide +kernel
theorem dX12_divide_148 : decode cX12_divide 148 = .ok (.getfield 56, 3) := by decide +kernel
theorem dX12_divide_151 : decode cX12_divide 151 = .ok (.iload_n 1, 1) := by decide +kernel
theorem dX12_divide_152 : decode cX12_divide 152 = .ok (.laload, 1) := by decide +kernel
theorem dX12_divide_153 : decode cX12_divide 153 = .ok (.invokevirtual 33, 3) := by decide +kernel
theorem dX12_divide_156 : decode cX12_divide 156 = .ok (.aload_n 0, 1) := by decide +kernel
theorem dX12_divide_157 : decode cX12_divide 157 = .ok (.iconst 0, 1) := by decide +kernel
theorem dX12_divide_158 : decode cX12_divide 158 = .ok (.iload 6, 2) := by decide +kernel
theorem dX12_divide_160 : decode cX12_divide 160 = .ok (.invokevirtual 24, 3) := by decide +kernel
theorem dX12_divide_163 : decode cX12_divide 163 = .ok (.aload_n 0, 1) := by decide +kernel
theorem dX12_divide_164 : decode cX12_divide 164 = .ok (.iconst 1, 1) := by decide +kernel
theorem dX12_divide_165 : decode cX12_divide 165 = .ok (.aload_n 0, 1) := by decide +kernel
theorem dX12_divide_166 : decode cX12_divide 166 = .ok (.getfield 56, 3) := by decide +kernel
theorem dX12_divide_169 : decode cX12_divide 169 = .ok (.iload_n 2, 1) := by decide +kernel
theorem dX12_divide_170 : decode cX12_divide 170 = .ok (.laload, 1) := by decide +kernel
theorem dX12_divide_171 : decode cX12_divide 171 = .ok (.invokevirtual 33, 3) := by decide +kernel
theorem dX12_divide_174 : decode cX12_divide 174 = .ok (.aload_n 0, 1) := by decide +kernel
theorem dX12_divide_175 : decode cX12_divide 175 = .ok (.iconst 1, 1) := by decide +kernel
theorem dX12_divide_176 : decode cX12_divide 176 = .ok (.iload 6, 2) := by decide +kernel
theorem dX12_divide_178 : decode cX12_divide 178 = .ok (.ineg, 1) := by decide +kernel
theorem dX12_divide_179 : decode cX12_divide 179 = .ok (.invokevirtual 24, 3) := by decide +kernel
theorem dX12_divide_182 : decode cX12_divide 182 = .ok (.aload_n 0, 1) := by decide +kernel
theorem dX12_divide_183 : decode cX12_divide 183 = .ok (.iload 7, 2) := by decide +kernel
theorem dX12_divide_185 : decode cX12_divide 185 = .ok (.iload 4, 2) := by decide +kernel
theorem dX12_divide_187 : decode cX12_divide 187 = .ok (.invokevirtual 267, 3) := by decide +kernel
theorem dX12_divide_190 : decode cX12_divide 190 = .ok (.aload_n 0, 1) := by decide +kernel
theorem dX12_divide_191 : decode cX12_divide 191 = .ok (.aload_n 0, 1) := by decide +kernel
theorem dX12_divide_192 : decode cX12_divide 192 = .ok (.getfield 47, 3) := by decide +kernel
theorem dX12_divide_195 : decode cX12_divide 195 = .ok (.ifCond .ne 20, 3) := by decide +kernel
theorem dX12_divide_198 : decode cX12_divide 198 = .ok (.aload_n 0, 1) := by decide +kernel
theorem dX12_divide_199 : decode cX12_divide 199 = .ok (.iload 5, 2) := by decide +kernel
theorem dX12_divide_201 : decode cX12_divide 201 = .ok (.iconst 2, 1) := by decide +kernel
theorem dX12_divide_202 : decode cX12_divide 202 = .ok (.iload 7, 2) := by decide +kernel
theorem dX12_divide_204 : decode cX12_divide 204 = .ok (.iload_n 3, 1) := by decide +kernel
theorem dX12_divide_205 : decode cX12_divide 205 = .ok (.invokevirtual 224, 3) := by decide +kernel
theorem dX12_divide_208 : decode cX12_divide 208 = .ok (.ifCond .eq 7, 3) := by decide +kernel
theorem dX12_divide_211 : decode cX12_divide 211 = .ok (.iconst 0, 1) := by decide +kernel
theorem dX12_divide_212 : decode cX12_divide 212 = .ok (.goto 4, 3) := by decide +kernel
theorem dX12_divide_215 : decode cX12_divide 215 = .ok (.iconst 4, 1) := by decide +kernel
theorem dX12_divide_216 : decode cX12_divide 216 = .ok (.invokevirtual 206, 3) := by decide +kernel
theorem dX12_divide_219 : decode cX12_divide 219 = .ok (.ifCond .eq 7, 3) := by decide +kernel
theorem dX12_divide_222 : decode cX12_divide 222 = .ok (.iconst 0, 1) := by decide +kernel
theorem dX12_divide_223 : decode cX12_divide 223 = .ok (.goto 13, 3) := by decide +kernel
theorem dX12_divide_226 : decode cX12_divide 226 = .ok (.aload_n 0, 1) := by decide +kernel
theorem dX12_divide_227 : decode cX12_divide 227 = .ok (.getfield 56, 3) := by decide +kernel
theorem dX12_divide_230 : decode cX12_divide 230 = .ok (.iload 5, 2) := by decide +kernel
theorem dX12_divide_232 : decode cX12_divide 232 = .ok (.laload, 1) := by decide +kernel
theorem dX12_divide_233 : decode cX12_divide 233 = .ok (.invokestatic 209, 3) := by decide +kernel
theorem dX12_divide_236 : decode cX12_divide 236 = .ok (.ireturn, 1) := by decide +kernel
theorem dX12_common_0 : decode cX12_common 0 = .ok (.lload_n 0, 1) := by decide +kernel
theorem dX12_common_1 : decode cX12_common 1 = .ok (.lstore 4, 2) := by decide +kernel
theorem dX12_common_3 : decode cX12_common 3 = .ok (.lload_n 2, 1) := by decide +kernel
theorem dX12_common_4 : decode cX12_common 4 = .ok (.lstore 6, 2) := by decide +kernel
theorem dX12_common_6 : decode cX12_common 6 = .ok (.lload 6, 2) := by decide +kernel
theorem dX12_common_8 : decode cX12_common 8 = .ok (.lconst 0, 1) := by decide +kernel
theorem dX12_common_9 : decode cX12_common 9 = .ok (.lcmp, 1) := by decide +kernel
theorem dX12_common_10 : decode cX12_common 10 = .ok (.ifCond .eq 21, 3) := by decide +kernel
theorem dX12_common_13 : decode cX12_common 13 = .ok (.lload 4, 2) := by decide +kernel
theorem dX12_common_15 : decode cX12_common 15 = .ok (.lload 6, 2) := by decide +kernel
theorem dX12_common_17 : decode cX12_common 17 = .ok (.lrem, 1) := by decide +kernel
theorem dX12_common_18 : decode cX12_common 18 = .ok (.lstore 8, 2) := by decide +kernel
theorem dX12_common_20 : decode cX12_common 20 = .ok (.lload 6, 2) := by decide +kernel
theorem dX12_common_22 : decode cX12_common 22 = .ok (.lstore 4, 2) := by decide +kernel
theorem dX12_common_24 : decode cX12_common 24 = .ok (.lload 8, 2) := by decide +kernel
theorem dX12_common_26 : decode cX12_common 26 = .ok (.lstore 6, 2) := by decide +kernel
theorem dX12_common_28 : decode cX12_common 28 = .ok (.goto (-22), 3) := by decide +kernel
theorem dX12_common_31 : decode cX12_common 31 = .ok (.lload 4, 2) := by decide +kernel
theorem dX12_common_33 : decode cX12_common 33 = .ok (.lconst 0, 1) := by decide +kernel
theorem dX12_common_34 : decode cX12_common 34 = .ok (.lcmp, 1) := by decide +kernel
theorem dX12_common_35 : decode cX12_common 35 = .ok (.ifCond .ge 9, 3) := by decide +kernel
theorem dX12_common_38 : decode cX12_common 38 = .ok (.lload 4, 2) := by decide +kernel
theorem dX12_common_40 : decode cX12_common 40 = .ok (.lneg, 1) := by decide +kernel
theorem dX12_common_41 : decode cX12_common 41 = .ok (.goto 5, 3) := by decide +kernel
theorem dX12_common_44 : decode cX12_common 44 = .ok (.lload 4, 2) := by decide +kernel
theorem dX12_common_46 : decode cX12_common 46 = .ok (.lreturn, 1) := by decide +kernel
theorem dX12_divideExactly_0 : decode cX12_divideExactly 0 = .ok (.aload_n 0, 1) := by decide +kernel
theorem dX12_divideExactly_1 : decode cX12_divideExactly 1 = .ok (.aload_n 0, 1) := by decide +kernel
theorem dX12_divideExactly_2 : decode cX12_divideExactly 2 = .ok (.iload_n 1, 1) := by decide +kernel
theorem dX12_divideExactly_3 : decode cX12_divideExactly 3 = .ok (.iload_n 2, 1) := by decide +kernel
theorem dX12_divideExactly_4 : decode cX12_divideExactly 4 = .ok (.iload_n 3, 1) := by decide +kernel
theorem dX12_divideExactly_5 : decode cX12_divideExactly 5 = .ok (.invokevirtual 245, 3) := by decide +kernel
theorem dX12_divideExactly_8 : decode cX12_divideExactly 8 = .ok (.ifCond .le 7, 3) := by decide +kernel
theorem dX12_divideExactly_11 : decode cX12_divideExactly 11 = .ok (.iconst 1, 1) := by decide +kernel
theorem dX12_divideExactly_12 : decode cX12_divideExactly 12 = .ok (.goto 41, 3) := by decide +kernel
theorem dX12_divideExactly_15 : decode cX12_divideExactly 15 = .ok (.aload_n 0, 1) := by decide +kernel
theorem dX12_divideExactly_16 : decode cX12_divideExactly 16 = .ok (.getfield 63, 3) := by decide +kernel
theorem dX12_divideExactly_19 : decode cX12_divideExactly 19 = .ok (.iload_n 1, 1) := by decide +kernel
theorem dX12_divideExactly_20 : decode cX12_divideExactly 20 = .ok (.baload, 1) := by decide +kernel
theorem dX12_divideExactly_21 : decode cX12_divideExactly 21 = .ok (.ifCond .eq 12, 3) := by decide +kernel
theorem dX12_divideExactly_24 : decode cX12_divideExactly 24 = .ok (.aload_n 0, 1) := by decide +kernel
theorem dX12_divideExactly_25 : decode cX12_divideExactly 25 = .ok (.getfield 63, 3) := by decide +kernel
theorem dX12_divideExactly_28 : decode cX12_divideExactly 28 = .ok (.iload_n 2, 1) := by decide +kernel
theorem dX12_divideExactly_29 : decode cX12_divideExactly 29 = .ok (.baload, 1) := by decide +kernel
theorem dX12_divideExactly_30 : decode cX12_divideExactly 30 = .ok (.ifCond .ne 7, 3) := by decide +kernel
theorem dX12_divideExactly_33 : decode cX12_divideExactly 33 = .ok (.iconst 2, 1) := by decide +kernel
theorem dX12_divideExactly_34 : decode cX12_divideExactly 34 = .ok (.goto 19, 3) := by decide +kernel
theorem dX12_divideExactly_37 : decode cX12_divideExactly 37 = .ok (.aload_n 0, 1) := by decide +kernel
theorem dX12_divideExactly_38 : decode cX12_divideExactly 38 = .ok (.getfield 56, 3) := by decide +kernel
theorem dX12_divideExactly_41 : decode cX12_divideExactly 41 = .ok (.iload_n 2, 1) := by decide +kernel
theorem dX12_divideExactly_42 : decode cX12_divideExactly 42 = .ok (.laload, 1) := by decide +kernel
theorem dX12_divideExactly_43 : decode cX12_divideExactly 43 = .ok (.lconst 0, 1) := by decide +kernel
theorem dX12_divideExactly_44 : decode cX12_divideExactly 44 = .ok (.lcmp, 1) := by decide +kernel
theorem dX12_divideExactly_45 : decode cX12_divideExactly 45 = .ok (.ifCond .ne 7, 3) := by decide +kernel
theorem dX12_divideExactly_48 : decode cX12_divideExactly 48 = .ok (.iconst 3, 1) := by decide +kernel
theorem dX12_divideExactly_49 : decode cX12_divideExactly 49 = .ok (.goto 4, 3) := by decide +kernel
theorem dX12_divideExactly_52 : decode cX12_divideExactly 52 = .ok (.iconst 0, 1) := by decide +kernel
theorem dX12_divideExactly_53 : decode cX12_divideExactly 53 = .ok (.invokevirtual 206, 3) := by decide +kernel
theorem dX12_divideExactly_56 : decode cX12_divideExactly 56 = .ok (.ifCond .eq 5, 3) := by decide +kernel
theorem dX12_divideExactly_59 : decode cX12_divideExactly 59 = .ok (.iconst 0, 1) := by decide +kernel
theorem dX12_divideExactly_60 : decode cX12_divideExactly 60 = .ok (.ireturn, 1) := by decide +kernel
theorem dX12_divideExactly_61 : decode cX12_divideExactly 61 = .ok (.aload_n 0, 1) := by decide +kernel
theorem dX12_divideExactly_62 : decode cX12_divideExactly 62 = .ok (.getfield 56, 3) := by decide +kernel
theorem dX12_divideExactly_65 : decode cX12_divideExactly 65 = .ok (.iload_n 1, 1) := by decide +kernel
theorem dX12_divideExactly_66 : decode cX12_divideExactly 66 = .ok (.laload, 1) := by decide +kernel
theorem dX12_divideExactly_67 : decode cX12_divideExactly 67 = .ok (.lconst 0, 1) := by decide +kernel
theorem dX12_divideExactly_68 : decode cX12_divideExactly 68 = .ok (.lcmp, 1) := by decide +kernel
theorem dX12_divideExactly_69 : decode cX12_divideExactly 69 = .ok (.ifCond .ge 7, 3) := by decide +kernel
theorem dX12_divideExactly_72 : decode cX12_divideExactly 72 = .ok (.iconst 1, 1) := by decide +kernel
theorem dX12_divideExactly_73 : decode cX12_divideExactly 73 = .ok (.goto 4, 3) := by decide +kernel
theorem dX12_divideExactly_76 : decode cX12_divideExactly 76 = .ok (.iconst 0, 1) := by decide +kernel
theorem dX12_divideExactly_77 : decode cX12_divideExactly 77 = .ok (.aload_n 0, 1) := by decide +kernel
theorem dX12_divideExactly_78 : decode cX12_divideExactly 78 = .ok (.getfield 56, 3) := by decide +kernel
theorem dX12_divideExactly_81 : decode cX12_divideExactly 81 = .ok (.iload_n 2, 1) := by decide +kernel
theorem dX12_divideExactly_82 : decode cX12_divideExactly 82 = .ok (.laload, 1) := by decide +kernel
theorem dX12_divideExactly_83 : decode cX12_divideExactly 83 = .ok (.lconst 0, 1) := by decide +kernel
theorem dX12_divideExactly_84 : decode cX12_divideExactly 84 = .ok (.lcmp, 1) := by decide +kernel
theorem dX12_divideExactly_85 : decode cX12_divideExactly 85 = .ok (.ifCond .ge 7, 3) := by decide +kernel
theorem dX12_divideExactly_88 : decode cX12_divideExactly 88 = .ok (.iconst 1, 1) := by decide +kernel
theorem dX12_divideExactly_89 : decode cX12_divideExactly 89 = .ok (.goto 4, 3) := by decide +kernel
theorem dX12_divideExactly_92 : decode cX12_divideExactly 92 = .ok (.iconst 0, 1) := by decide +kernel
theorem dX12_divideExactly_93 : decode cX12_divideExactly 93 = .ok (.if_icmp .eq 7, 3) := by decide +kernel
theorem dX12_divideExactly_96 : decode cX12_divideExactly 96 = .ok (.iconst 1, 1) := by decide +kernel
theorem dX12_divideExactly_97 : decode cX12_divideExactly 97 = .ok (.goto 4, 3) := by decide +kernel
theorem dX12_divideExactly_100 : decode cX12_divideExactly 100 = .ok (.iconst 0, 1) := by decide +kernel
theorem dX12_divideExactly_101 : decode cX12_divideExactly 101 = .ok (.istore 4, 2) := by decide +kernel
theorem dX12_divideExactly_103 : decode cX12_divideExactly 103 = .ok (.aload_n 0, 1) := by decide +kernel
theorem dX12_divideExactly_104 : decode cX12_divideExactly 104 = .ok (.getfield 60, 3) := by decide +kernel
theorem dX12_divideExactly_107 : decode cX12_divideExactly 107 = .ok (.iload_n 1, 1) := by decide +kernel
theorem dX12_divideExactly_108 : decode cX12_divideExactly 108 = .ok (.iaload, 1) := by decide +kernel
theorem dX12_divideExactly_109 : decode cX12_divideExactly 109 = .ok (.aload_n 0, 1) := by decide +kernel
theorem dX12_divideExactly_110 : decode cX12_divideExactly 110 = .ok (.getfield 60, 3) := by decide +kernel
theorem dX12_divideExactly_113 : decode cX12_divideExactly 113 = .ok (.iload_n 2, 1) := by decide +kernel
theorem dX12_divideExactly_114 : decode cX12_divideExactly 114 = .ok (.iaload, 1) := by decide +kernel
theorem dX12_divideExactly_115 : decode cX12_divideExactly 115 = .ok (.isub, 1) := by decide +kernel
theorem dX12_divideExactly_116 : decode cX12_divideExactly 116 = .ok (.istore 5, 2) := by decide +kernel
theorem dX12_divideExactly_118 : decode cX12_divideExactly 118 = .ok (.aload_n 0, 1) := by decide +kernel
theorem dX12_divideExactly_119 : decode cX12_divideExactly 119 = .ok (.getfield 56, 3) := by decide +kernel
theorem dX12_divideExactly_122 : decode cX12_divideExactly 122 = .ok (.iload_n 2, 1) := by decide +kernel
theorem dX12_divideExactly_123 : decode cX12_divideExactly 123 = .ok (.laload, 1) := by decide +kernel
theorem dX12_divideExactly_124 : decode cX12_divideExactly 124 = .ok (.aload_n 0, 1) := by decide +kernel
theorem dX12_divideExactly_125 : decode cX12_divideExactly 125 = .ok (.getfield 56, 3) := by decide +kernel
theorem dX12_divideExactly_128 : decode cX12_divideExactly 128 = .ok (.iload_n 1, 1) := by decide +kernel
theorem dX12_divideExactly_129 : decode cX12_divideExactly 129 = .ok (.laload, 1) := by decide +kernel
theorem dX12_divideExactly_130 : decode cX12_divideExactly 130 = .ok (.aload_n 0, 1) := by decide +kernel
theorem dX12_divideExactly_131 : decode cX12_divideExactly 131 = .ok (.getfield 56, 3) := by decide +kernel
theorem dX12_divideExactly_134 : decode cX12_divideExactly 134 = .ok (.iload_n 2, 1) := by decide +kernel
theorem dX12_divideExactly_135 : decode cX12_divideExactly 135 = .ok (.laload, 1) := by decide +kernel
theorem dX12_divideExactly_136 : decode cX12_divideExactly 136 = .ok (.invokestatic 280, 3) := by decide +kernel
theorem dX12_divideExactly_139 : decode cX12_divideExactly 139 = .ok (.ldiv, 1) := by decide +kernel
theorem dX12_divideExactly_140 : decode cX12_divideExactly 140 = .ok (.lstore 6, 2) := by decide +kernel
theorem dX12_divideExactly_142 : decode cX12_divideExactly 142 = .ok (.iconst 0, 1) := by decide +kernel
theorem dX12_divideExactly_143 : decode cX12_divideExactly 143 = .ok (.istore 8, 2) := by decide +kernel
theorem dX12_divideExactly_145 : decode cX12_divideExactly 145 = .ok (.iconst 0, 1) := by decide +kernel
theorem dX12_divideExactly_146 : decode cX12_divideExactly 146 = .ok (.istore 9, 2) := by decide +kernel
theorem dX12_divideExactly_148 : decode cX12_divideExactly 148 = .ok (.lload 6, 2) := by decide +kernel
theorem dX12_divideExactly_150 : decode cX12_divideExactly 150 = .ok (.ldc2_w 284, 3) := by decide +kernel
theorem dX12_divideExactly_153 : decode cX12_divideExactly 153 = .ok (.lrem, 1) := by decide +kernel
theorem dX12_divideExactly_154 : decode cX12_divideExactly 154 = .ok (.lconst 0, 1) := by decide +kernel
theorem dX12_divideExactly_155 : decode cX12_divideExactly 155 = .ok (.lcmp, 1) := by decide +kernel
theorem dX12_divideExactly_156 : decode cX12_divideExactly 156 = .ok (.ifCond .ne 17, 3) := by decide +kernel
theorem dX12_divideExactly_159 : decode cX12_divideExactly 159 = .ok (.lload 6, 2) := by decide +kernel
theorem dX12_divideExactly_161 : decode cX12_divideExactly 161 = .ok (.ldc2_w 284, 3) := by decide +kernel
theorem dX12_divideExactly_164 : decode cX12_divideExactly 164 = .ok (.ldiv, 1) := by decide +kernel
theorem dX12_divideExactly_165 : decode cX12_divideExactly 165 = .ok (.lstore 6, 2) := by decide +kernel
theorem dX12_divideExactly_167 : decode cX12_divideExactly 167 = .ok (.iinc 8 1, 3) := by decide +kernel
theorem dX12_divideExactly_170 : decode cX12_divideExactly 170 = .ok (.goto (-22), 3) := by decide +kernel
theorem dX12_divideExactly_173 : decode cX12_divideExactly 173 = .ok (.lload 6, 2) := by decide +kernel
theorem dX12_divideExactly_175 : decode cX12_divideExactly 175 = .ok (.ldc2_w 286, 3) := by decide +kernel
theorem dX12_divideExactly_178 : decode cX12_divideExactly 178 = .ok (.lrem, 1) := by decide +kernel
theorem dX12_divideExactly_179 : decode cX12_divideExactly 179 = .ok (.lconst 0, 1) := by decide +kernel
theorem dX12_divideExactly_180 : decode cX12_divideExactly 180 = .ok (.lcmp, 1) := by decide +kernel
theorem dX12_divideExactly_181 : decode cX12_divideExactly 181 = .ok (.ifCond .ne 17, 3) := by decide +kernel
theorem dX12_divideExactly_184 : decode cX12_divideExactly 184 = .ok (.lload 6, 2) := by decide +kernel
theorem dX12_divideExactly_186 : decode cX12_divideExactly 186 = .ok (.ldc2_w 286, 3) := by decide +kernel
theorem dX12_divideExactly_189 : decode cX12_divideExactly 189 = .ok (.ldiv, 1) := by decide +kernel
theorem dX12_divideExactly_190 : decode cX12_divideExactly 190 = .ok (.lstore 6, 2) := by decide +kernel
theorem dX12_divideExactly_192 : decode cX12_divideExactly 192 = .ok (.iinc 9 1, 3) := by decide +kernel
theorem dX12_divideExactly_195 : decode cX12_divideExactly 195 = .ok (.goto (-22), 3) := by decide +kernel
theorem dX12_divideExactly_198 : decode cX12_divideExactly 198 = .ok (.aload_n 0, 1) := by decide +kernel
theorem dX12_divideExactly_199 : decode cX12_divideExactly 199 = .ok (.lload 6, 2) := by decide +kernel
theorem dX12_divideExactly_201 : decode cX12_divideExactly 201 = .ok (.lconst 1, 1) := by decide +kernel
theorem dX12_divideExactly_202 : decode cX12_divideExactly 202 = .ok (.lcmp, 1) := by decide +kernel
theorem dX12_divideExactly_203 : decode cX12_divideExactly 203 = .ok (.ifCond .eq 12, 3) := by decide +kernel
theorem dX12_divideExactly_206 : decode cX12_divideExactly 206 = .ok (.lload 6, 2) := by decide +kernel
theorem dX12_divideExactly_208 : decode cX12_divideExactly 208 = .ok (.ldc2_w 288, 3) := by decide +kernel
theorem dX12_divideExactly_211 : decode cX12_divideExactly 211 = .ok (.lcmp, 1) := by decide +kernel
theorem dX12_divideExactly_212 : decode cX12_divideExactly 212 = .ok (.ifCond .ne 7, 3) := by decide +kernel
theorem dX12_divideExactly_215 : decode cX12_divideExactly 215 = .ok (.iconst 0, 1) := by decide +kernel
theorem dX12_divideExactly_216 : decode cX12_divideExactly 216 = .ok (.goto 4, 3) := by decide +kernel
theorem dX12_divideExactly_219 : decode cX12_divideExactly 219 = .ok (.iconst 3, 1) := by decide +kernel
theorem dX12_divideExactly_220 : decode cX12_divideExactly 220 = .ok (.invokevirtual 206, 3) := by decide +kernel
theorem dX12_divideExactly_223 : decode cX12_divideExactly 223 = .ok (.ifCond .eq 5, 3) := by decide +kernel
theorem dX12_divideExactly_226 : decode cX12_divideExactly 226 = .ok (.iconst 0, 1) := by decide +kernel
theorem dX12_divideExactly_227 : decode cX12_divideExactly 227 = .ok (.ireturn, 1) := by decide +kernel
theorem dX12_divideExactly_228 : decode cX12_divideExactly 228 = .ok (.iload 8, 2) := by decide +kernel
theorem dX12_divideExactly_230 : decode cX12_divideExactly 230 = .ok (.iload 9, 2) := by decide +kernel
theorem dX12_divideExactly_232 : decode cX12_divideExactly 232 = .ok (.invokestatic 232, 3) := by decide +kernel
theorem dX12_divideExactly_235 : decode cX12_divideExactly 235 = .ok (.istore 10, 2) := by decide +kernel
theorem dX12_divideExactly_237 : decode cX12_divideExactly 237 = .ok (.aload_n 0, 1) := by decide +kernel
theorem dX12_divideExactly_238 : decode cX12_divideExactly 238 = .ok (.iconst 0, 1) := by decide +kernel
theorem dX12_divideExactly_239 : decode cX12_divideExactly 239 = .ok (.aload_n 0, 1) := by decide +kernel
theorem dX12_divideExactly_240 : decode cX12_divideExactly 240 = .ok (.getfield 56, 3) := by decide +kernel
theorem dX12_divideExactly_243 : decode cX12_divideExactly 243 = .ok (.iload_n 1, 1) := by decide +kernel
theorem dX12_divideExactly_244 : decode cX12_divideExactly 244 = .ok (.laload, 1) := by decide +kernel
theorem dX12_divideExactly_245 : decode cX12_divideExactly 245 = .ok (.invokevirtual 33, 3) := by decide +kernel
theorem dX12_divideExactly_248 : decode cX12_divideExactly 248 = .ok (.aload_n 0, 1) := by decide +kernel
theorem dX12_divideExactly_249 : decode cX12_divideExactly 249 = .ok (.iconst 0, 1) := by decide +kernel
theorem dX12_divideExactly_250 : decode cX12_divideExactly 250 = .ok (.iload 10, 2) := by decide +kernel
theorem dX12_divideExactly_252 : decode cX12_divideExactly 252 = .ok (.invokevirtual 24, 3) := by decide +kernel
theorem dX12_divideExactly_255 : decode cX12_divideExactly 255 = .ok (.aload_n 0, 1) := by decide +kernel
theorem dX12_divideExactly_256 : decode cX12_divideExactly 256 = .ok (.iconst 1, 1) := by decide +kernel
theorem dX12_divideExactly_257 : decode cX12_divideExactly 257 = .ok (.aload_n 0, 1) := by decide +kernel
theorem dX12_divideExactly_258 : decode cX12_divideExactly 258 = .ok (.getfield 56, 3) := by decide +kernel
theorem dX12_divideExactly_261 : decode cX12_divideExactly 261 = .ok (.iload_n 2, 1) := by decide +kernel
theorem dX12_divideExactly_262 : decode cX12_divideExactly 262 = .ok (.laload, 1) := by decide +kernel
theorem dX12_divideExactly_263 : decode cX12_divideExactly 263 = .ok (.invokevirtual 33, 3) := by decide +kernel
theorem dX12_divideExactly_266 : decode cX12_divideExactly 266 = .ok (.aload_n 0, 1) := by decide +kernel
theorem dX12_divideExactly_267 : decode cX12_divideExactly 267 = .ok (.invokevirtual 43, 3) := by decide +kernel
theorem dX12_divideExactly_270 : decode cX12_divideExactly 270 = .ok (.aload_n 0, 1) := by decide +kernel
theorem dX12_divideExactly_271 : decode cX12_divideExactly 271 = .ok (.aload_n 0, 1) := by decide +kernel
theorem dX12_divideExactly_272 : decode cX12_divideExactly 272 = .ok (.iload_n 3, 1) := by decide +kernel
theorem dX12_divideExactly_273 : decode cX12_divideExactly 273 = .ok (.iconst 2, 1) := by decide +kernel
theorem dX12_divideExactly_274 : decode cX12_divideExactly 274 = .ok (.iload 4, 2) := by decide +kernel
theorem dX12_divideExactly_276 : decode cX12_divideExactly 276 = .ok (.iload 5, 2) := by decide +kernel
theorem dX12_divideExactly_278 : decode cX12_divideExactly 278 = .ok (.iload 10, 2) := by decide +kernel
theorem dX12_divideExactly_280 : decode cX12_divideExactly 280 = .ok (.iadd, 1) := by decide +kernel
theorem dX12_divideExactly_281 : decode cX12_divideExactly 281 = .ok (.invokevirtual 224, 3) := by decide +kernel
theorem dX12_divideExactly_284 : decode cX12_divideExactly 284 = .ok (.ifCond .eq 7, 3) := by decide +kernel
theorem dX12_divideExactly_287 : decode cX12_divideExactly 287 = .ok (.iconst 0, 1) := by decide +kernel
theorem dX12_divideExactly_288 : decode cX12_divideExactly 288 = .ok (.goto 4, 3) := by decide +kernel
theorem dX12_divideExactly_291 : decode cX12_divideExactly 291 = .ok (.iconst 3, 1) := by decide +kernel
theorem dX12_divideExactly_292 : decode cX12_divideExactly 292 = .ok (.invokevirtual 206, 3) := by decide +kernel
theorem dX12_divideExactly_295 : decode cX12_divideExactly 295 = .ok (.ifCond .eq 7, 3) := by decide +kernel
theorem dX12_divideExactly_298 : decode cX12_divideExactly 298 = .ok (.iconst 0, 1) := by decide +kernel
theorem dX12_divideExactly_299 : decode cX12_divideExactly 299 = .ok (.goto 9, 3) := by decide +kernel
theorem dX12_divideExactly_302 : decode cX12_divideExactly 302 = .ok (.aload_n 0, 1) := by decide +kernel
theorem dX12_divideExactly_303 : decode cX12_divideExactly 303 = .ok (.getfield 60, 3) := by decide +kernel
theorem dX12_divideExactly_306 : decode cX12_divideExactly 306 = .ok (.iload_n 3, 1) := by decide +kernel
theorem dX12_divideExactly_307 : decode cX12_divideExactly 307 = .ok (.iaload, 1) := by decide +kernel
theorem dX12_divideExactly_308 : decode cX12_divideExactly 308 = .ok (.ireturn, 1) := by decide +kernel
theorem dX12_compare_0 : decode cX12_compare 0 = .ok (.aload_n 0, 1) := by decide +kernel
theorem dX12_compare_1 : decode cX12_compare 1 = .ok (.iload_n 1, 1) := by decide +kernel
theorem dX12_compare_2 : decode cX12_compare 2 = .ok (.invokestatic 199, 3) := by decide +kernel
theorem dX12_compare_5 : decode cX12_compare 5 = .ok (.ifCond .eq 10, 3) := by decide +kernel
theorem dX12_compare_8 : decode cX12_compare 8 = .ok (.iload_n 2, 1) := by decide +kernel
theorem dX12_compare_9 : decode cX12_compare 9 = .ok (.invokestatic 199, 3) := by decide +kernel
theorem dX12_compare_12 : decode cX12_compare 12 = .ok (.ifCond .ne 7, 3) := by decide +kernel
theorem dX12_compare_15 : decode cX12_compare 15 = .ok (.iconst 1, 1) := by decide +kernel
theorem dX12_compare_16 : decode cX12_compare 16 = .ok (.goto 26, 3) := by decide +kernel
theorem dX12_compare_19 : decode cX12_compare 19 = .ok (.aload_n 0, 1) := by decide +kernel
theorem dX12_compare_20 : decode cX12_compare 20 = .ok (.getfield 63, 3) := by decide +kernel
theorem dX12_compare_23 : decode cX12_compare 23 = .ok (.iload_n 1, 1) := by decide +kernel
theorem dX12_compare_24 : decode cX12_compare 24 = .ok (.baload, 1) := by decide +kernel
theorem dX12_compare_25 : decode cX12_compare 25 = .ok (.ifCond .eq 12, 3) := by decide +kernel
theorem dX12_compare_28 : decode cX12_compare 28 = .ok (.aload_n 0, 1) := by decide +kernel
theorem dX12_compare_29 : decode cX12_compare 29 = .ok (.getfield 63, 3) := by decide +kernel
theorem dX12_compare_32 : decode cX12_compare 32 = .ok (.iload_n 2, 1) := by decide +kernel
theorem dX12_compare_33 : decode cX12_compare 33 = .ok (.baload, 1) := by decide +kernel
theorem dX12_compare_34 : decode cX12_compare 34 = .ok (.ifCond .ne 7, 3) := by decide +kernel
theorem dX12_compare_37 : decode cX12_compare 37 = .ok (.iconst 2, 1) := by decide +kernel
theorem dX12_compare_38 : decode cX12_compare 38 = .ok (.goto 4, 3) := by decide +kernel
theorem dX12_compare_41 : decode cX12_compare 41 = .ok (.iconst 0, 1) := by decide +kernel
theorem dX12_compare_42 : decode cX12_compare 42 = .ok (.invokevirtual 206, 3) := by decide +kernel
theorem dX12_compare_45 : decode cX12_compare 45 = .ok (.ifCond .eq 7, 3) := by decide +kernel
theorem dX12_compare_48 : decode cX12_compare 48 = .ok (.iconst 0, 1) := by decide +kernel
theorem dX12_compare_49 : decode cX12_compare 49 = .ok (.goto 9, 3) := by decide +kernel
theorem dX12_compare_52 : decode cX12_compare 52 = .ok (.aload_n 0, 1) := by decide +kernel
theorem dX12_compare_53 : decode cX12_compare 53 = .ok (.iload_n 1, 1) := by decide +kernel
theorem dX12_compare_54 : decode cX12_compare 54 = .ok (.iload_n 2, 1) := by decide +kernel
theorem dX12_compare_55 : decode cX12_compare 55 = .ok (.invokevirtual 256, 3) := by decide +kernel
theorem dX12_compare_58 : decode cX12_compare 58 = .ok (.ireturn, 1) := by decide +kernel
theorem dX12_isEqual_0 : decode cX12_isEqual 0 = .ok (.aload_n 0, 1) := by decide +kernel
theorem dX12_isEqual_1 : decode cX12_isEqual 1 = .ok (.iload_n 1, 1) := by decide +kernel
theorem dX12_isEqual_2 : decode cX12_isEqual 2 = .ok (.invokestatic 199, 3) := by decide +kernel
theorem dX12_isEqual_5 : decode cX12_isEqual 5 = .ok (.ifCond .eq 10, 3) := by decide +kernel
theorem dX12_isEqual_8 : decode cX12_isEqual 8 = .ok (.iload_n 2, 1) := by decide +kernel
theorem dX12_isEqual_9 : decode cX12_isEqual 9 = .ok (.invokestatic 199, 3) := by decide +kernel
theorem dX12_isEqual_12 : decode cX12_isEqual 12 = .ok (.ifCond .ne 7, 3) := by decide +kernel
theorem dX12_isEqual_15 : decode cX12_isEqual 15 = .ok (.iconst 1, 1) := by decide +kernel
theorem dX12_isEqual_16 : decode cX12_isEqual 16 = .ok (.goto 26, 3) := by decide +kernel
theorem dX12_isEqual_19 : decode cX12_isEqual 19 = .ok (.aload_n 0, 1) := by decide +kernel
theorem dX12_isEqual_20 : decode cX12_isEqual 20 = .ok (.getfield 63, 3) := by decide +kernel
theorem dX12_isEqual_23 : decode cX12_isEqual 23 = .ok (.iload_n 1, 1) := by decide +kernel
theorem dX12_isEqual_24 : decode cX12_isEqual 24 = .ok (.baload, 1) := by decide +kernel
theorem dX12_isEqual_25 : decode cX12_isEqual 25 = .ok (.ifCond .eq 12, 3) := by decide +kernel
theorem dX12_isEqual_28 : decode cX12_isEqual 28 = .ok (.aload_n 0, 1) := by decide +kernel
theorem dX12_isEqual_29 : decode cX12_isEqual 29 = .ok (.getfield 63, 3) := by decide +kernel
theorem dX12_isEqual_32 : decode cX12_isEqual 32 = .ok (.iload_n 2, 1) := by decide +kernel
theorem dX12_isEqual_33 : decode cX12_isEqual 33 = .ok (.baload, 1) := by decide +kernel
theorem dX12_isEqual_34 : decode cX12_isEqual 34 = .ok (.ifCond .ne 7, 3) := by decide +kernel
theorem dX12_isEqual_37 : decode cX12_isEqual 37 = .ok (.iconst 2, 1) := by decide +kernel
theorem dX12_isEqual_38 : decode cX12_isEqual 38 = .ok (.goto 4, 3) := by decide +kernel
theorem dX12_isEqual_41 : decode cX12_isEqual 41 = .ok (.iconst 0, 1) := by decide +kernel
theorem dX12_isEqual_42 : decode cX12_isEqual 42 = .ok (.invokevirtual 206, 3) := by decide +kernel
theorem dX12_isEqual_45 : decode cX12_isEqual 45 = .ok (.ifCond .ne 38, 3) := by decide +kernel
theorem dX12_isEqual_48 : decode cX12_isEqual 48 = .ok (.aload_n 0, 1) := by decide +kernel
theorem dX12_isEqual_49 : decode cX12_isEqual 49 = .ok (.getfield 56, 3) := by decide +kernel
theorem dX12_isEqual_52 : decode cX12_isEqual 52 = .ok (.iload_n 1, 1) := by decide +kernel
theorem dX12_isEqual_53 : decode cX12_isEqual 53 = .ok (.laload, 1) := by decide +kernel
theorem dX12_isEqual_54 : decode cX12_isEqual 54 = .ok (.aload_n 0, 1) := by decide +kernel
theorem dX12_isEqual_55 : decode cX12_isEqual 55 = .ok (.getfield 56, 3) := by decide +kernel
theorem dX12_isEqual_58 : decode cX12_isEqual 58 = .ok (.iload_n 2, 1) := by decide +kernel
theorem dX12_isEqual_59 : decode cX12_isEqual 59 = .ok (.laload, 1) := by decide +kernel
theorem dX12_isEqual_60 : decode cX12_isEqual 60 = .ok (.lcmp, 1) := by decide +kernel
theorem dX12_isEqual_61 : decode cX12_isEqual 61 = .ok (.ifCond .ne 22, 3) := by decide +kernel
theorem dX12_isEqual_64 : decode cX12_isEqual 64 = .ok (.aload_n 0, 1) := by decide +kernel
theorem dX12_isEqual_65 : decode cX12_isEqual 65 = .ok (.getfield 60, 3) := by decide +kernel
theorem dX12_isEqual_68 : decode cX12_isEqual 68 = .ok (.iload_n 1, 1) := by decide +kernel
theorem dX12_isEqual_69 : decode cX12_isEqual 69 = .ok (.iaload, 1) := by decide +kernel
theorem dX12_isEqual_70 : decode cX12_isEqual 70 = .ok (.aload_n 0, 1) := by decide +kernel
theorem dX12_isEqual_71 : decode cX12_isEqual 71 = .ok (.getfield 60, 3) := by decide +kernel
theorem dX12_isEqual_74 : decode cX12_isEqual 74 = .ok (.iload_n 2, 1) := by decide +kernel
theorem dX12_isEqual_75 : decode cX12_isEqual 75 = .ok (.iaload, 1) := by decide +kernel
theorem dX12_isEqual_76 : decode cX12_isEqual 76 = .ok (.if_icmp .ne 7, 3) := by decide +kernel
theorem dX12_isEqual_79 : decode cX12_isEqual 79 = .ok (.iconst 1, 1) := by decide +kernel
theorem dX12_isEqual_80 : decode cX12_isEqual 80 = .ok (.goto 4, 3) := by decide +kernel
theorem dX12_isEqual_83 : decode cX12_isEqual 83 = .ok (.iconst 0, 1) := by decide +kernel
theorem dX12_isEqual_84 : decode cX12_isEqual 84 = .ok (.ireturn, 1) := by decide +kernel
theorem dX12_isCurrency_0 : decode cX12_isCurrency 0 = .ok (.iload_n 0, 1) := by decide +kernel
theorem dX12_isCurrency_1 : decode cX12_isCurrency 1 = .ok (.i2l, 1) := by decide +kernel
theorem dX12_isCurrency_2 : decode cX12_isCurrency 2 = .ok (.lconst 0, 1) := by decide +kernel
theorem dX12_isCurrency_3 : decode cX12_isCurrency 3 = .ok (.ldc2_w 290, 3) := by decide +kernel
theorem dX12_isCurrency_6 : decode cX12_isCurrency 6 = .ok (.invokestatic 183, 3) := by decide +kernel
theorem dX12_isCurrency_9 : decode cX12_isCurrency 9 = .ok (.ireturn, 1) := by decide +kernel
theorem dX12_setCurrency_0 : decode cX12_setCurrency 0 = .ok (.aload_n 0, 1) := by decide +kernel
theorem dX12_setCurrency_1 : decode cX12_setCurrency 1 = .ok (.iload_n 1, 1) := by decide +kernel
theorem dX12_setCurrency_2 : decode cX12_setCurrency 2 = .ok (.invokestatic 292, 3) := by decide +kernel
theorem dX12_setCurrency_5 : decode cX12_setCurrency 5 = .ok (.ifCond .ne 7, 3) := by decide +kernel
theorem dX12_setCurrency_8 : decode cX12_setCurrency 8 = .ok (.iconst 1, 1) := by decide +kernel
theorem dX12_setCurrency_9 : decode cX12_setCurrency 9 = .ok (.goto 40, 3) := by decide +kernel
theorem dX12_setCurrency_12 : decode cX12_setCurrency 12 = .ok (.iload_n 2, 1) := by decide +kernel
theorem dX12_setCurrency_13 : decode cX12_setCurrency 13 = .ok (.i2l, 1) := by decide +kernel
theorem dX12_setCurrency_14 : decode cX12_setCurrency 14 = .ok (.lconst 0, 1) := by decide +kernel
theorem dX12_setCurrency_15 : decode cX12_setCurrency 15 = .ok (.ldc2_w 290, 3) := by decide +kernel
theorem dX12_setCurrency_18 : decode cX12_setCurrency 18 = .ok (.invokestatic 183, 3) := by decide +kernel
theorem dX12_setCurrency_21 : decode cX12_setCurrency 21 = .ok (.ifCond .eq 23, 3) := by decide +kernel
theorem dX12_setCurrency_24 : decode cX12_setCurrency 24 = .ok (.iload_n 3, 1) := by decide +kernel
theorem dX12_setCurrency_25 : decode cX12_setCurrency 25 = .ok (.invokestatic 271, 3) := by decide +kernel
theorem dX12_setCurrency_28 : decode cX12_setCurrency 28 = .ok (.ifCond .eq 16, 3) := by decide +kernel
theorem dX12_setCurrency_31 : decode cX12_setCurrency 31 = .ok (.iload 4, 2) := by decide +kernel
theorem dX12_setCurrency_33 : decode cX12_setCurrency 33 = .ok (.i2l, 1) := by decide +kernel
theorem dX12_setCurrency_34 : decode cX12_setCurrency 34 = .ok (.lconst 1, 1) := by decide +kernel
theorem dX12_setCurrency_35 : decode cX12_setCurrency 35 = .ok (.ldc2_w 295, 3) := by decide +kernel
theorem dX12_setCurrency_38 : decode cX12_setCurrency 38 = .ok (.invokestatic 183, 3) := by decide +kernel
theorem dX12_setCurrency_41 : decode cX12_setCurrency 41 = .ok (.ifCond .ne 7, 3) := by decide +kernel
theorem dX12_setCurrency_44 : decode cX12_setCurrency 44 = .ok (.iconst 2, 1) := by decide +kernel
theorem dX12_setCurrency_45 : decode cX12_setCurrency 45 = .ok (.goto 4, 3) := by decide +kernel
theorem dX12_setCurrency_48 : decode cX12_setCurrency 48 = .ok (.iconst 0, 1) := by decide +kernel
theorem dX12_setCurrency_49 : decode cX12_setCurrency 49 = .ok (.invokevirtual 206, 3) := by decide +kernel
theorem dX12_setCurrency_52 : decode cX12_setCurrency 52 = .ok (.ifCond .eq 5, 3) := by decide +kernel
theorem dX12_setCurrency_55 : decode cX12_setCurrency 55 = .ok (.iconst 0, 1) := by decide +kernel
theorem dX12_setCurrency_56 : decode cX12_setCurrency 56 = .ok (.ireturn, 1) := by decide +kernel
theorem dX12_setCurrency_57 : decode cX12_setCurrency 57 = .ok (.aload_n 0, 1) := by decide +kernel
theorem dX12_setCurrency_58 : decode cX12_setCurrency 58 = .ok (.getfield 71, 3) := by decide +kernel
theorem dX12_setCurrency_61 : decode cX12_setCurrency 61 = .ok (.iload_n 1, 1) := by decide +kernel
theorem dX12_setCurrency_62 : decode cX12_setCurrency 62 = .ok (.iaload, 1) := by decide +kernel
theorem dX12_setCurrency_63 : decode cX12_setCurrency 63 = .ok (.istore 5, 2) := by decide +kernel
theorem dX12_setCurrency_65 : decode cX12_setCurrency 65 = .ok (.aload_n 0, 1) := by decide +kernel
theorem dX12_setCurrency_66 : decode cX12_setCurrency 66 = .ok (.getfield 71, 3) := by decide +kernel
theorem dX12_setCurrency_69 : decode cX12_setCurrency 69 = .ok (.iload_n 1, 1) := by decide +kernel
theorem dX12_setCurrency_70 : decode cX12_setCurrency 70 = .ok (.iload_n 2, 1) := by decide +kernel
theorem dX12_setCurrency_71 : decode cX12_setCurrency 71 = .ok (.iastore, 1) := by decide +kernel
theorem dX12_setCurrency_72 : decode cX12_setCurrency 72 = .ok (.aload_n 0, 1) := by decide +kernel
theorem dX12_setCurrency_73 : decode cX12_setCurrency 73 = .ok (.getfield 77, 3) := by decide +kernel
theorem dX12_setCurrency_76 : decode cX12_setCurrency 76 = .ok (.iload_n 1, 1) := by decide +kernel
theorem dX12_setCurrency_77 : decode cX12_setCurrency 77 = .ok (.iload_n 3, 1) := by decide +kernel
theorem dX12_setCurrency_78 : decode cX12_setCurrency 78 = .ok (.castore, 1) := by decide +kernel
theorem dX12_setCurrency_79 : decode cX12_setCurrency 79 = .ok (.aload_n 0, 1) := by decide +kernel
theorem dX12_setCurrency_80 : decode cX12_setCurrency 80 = .ok (.getfield 74, 3) := by decide +kernel
theorem dX12_setCurrency_83 : decode cX12_setCurrency 83 = .ok (.iload_n 1, 1) := by decide +kernel
theorem dX12_setCurrency_84 : decode cX12_setCurrency 84 = .ok (.iload 4, 2) := by decide +kernel
theorem dX12_setCurrency_86 : decode cX12_setCurrency 86 = .ok (.iastore, 1) := by decide +kernel
theorem dX12_setCurrency_87 : decode cX12_setCurrency 87 = .ok (.iload 5, 2) := by decide +kernel
theorem dX12_setCurrency_89 : decode cX12_setCurrency 89 = .ok (.ireturn, 1) := by decide +kernel
theorem dX12_setRate_0 : decode cX12_setRate 0 = .ok (.aload_n 0, 1) := by decide +kernel
theorem dX12_setRate_1 : decode cX12_setRate 1 = .ok (.iload_n 1, 1) := by decide +kernel
theorem dX12_setRate_2 : decode cX12_setRate 2 = .ok (.invokestatic 292, 3) := by decide +kernel
theorem dX12_setRate_5 : decode cX12_setRate 5 = .ok (.ifCond .eq 17, 3) := by decide +kernel
theorem dX12_setRate_8 : decode cX12_setRate 8 = .ok (.iload_n 2, 1) := by decide +kernel
theorem dX12_setRate_9 : decode cX12_setRate 9 = .ok (.invokestatic 292, 3) := by decide +kernel
theorem dX12_setRate_12 : decode cX12_setRate 12 = .ok (.ifCond .eq 10, 3) := by decide +kernel
theorem dX12_setRate_15 : decode cX12_setRate 15 = .ok (.iload_n 3, 1) := by decide +kernel
theorem dX12_setRate_16 : decode cX12_setRate 16 = .ok (.invokestatic 199, 3) := by decide +kernel
theorem dX12_setRate_19 : decode cX12_setRate 19 = .ok (.ifCond .ne 7, 3) := by decide +kernel
theorem dX12_setRate_22 : decode cX12_setRate 22 = .ok (.iconst 1, 1) := by decide +kernel
theorem dX12_setRate_23 : decode cX12_setRate 23 = .ok (.goto 41, 3) := by decide +kernel
theorem dX12_setRate_26 : decode cX12_setRate 26 = .ok (.iload_n 1, 1) := by decide +kernel
theorem dX12_setRate_27 : decode cX12_setRate 27 = .ok (.iload_n 2, 1) := by decide +kernel
theorem dX12_setRate_28 : decode cX12_setRate 28 = .ok (.if_icmp .ne 7, 3) := by decide +kernel
theorem dX12_setRate_31 : decode cX12_setRate 31 = .ok (.iconst 2, 1) := by decide +kernel
theorem dX12_setRate_32 : decode cX12_setRate 32 = .ok (.goto 32, 3) := by decide +kernel
theorem dX12_setRate_35 : decode cX12_setRate 35 = .ok (.aload_n 0, 1) := by decide +kernel
theorem dX12_setRate_36 : decode cX12_setRate 36 = .ok (.getfield 63, 3) := by decide +kernel
theorem dX12_setRate_39 : decode cX12_setRate 39 = .ok (.iload_n 3, 1) := by decide +kernel
theorem dX12_setRate_40 : decode cX12_setRate 40 = .ok (.baload, 1) := by decide +kernel
theorem dX12_setRate_41 : decode cX12_setRate 41 = .ok (.ifCond .ne 7, 3) := by decide +kernel
theorem dX12_setRate_44 : decode cX12_setRate 44 = .ok (.iconst 3, 1) := by decide +kernel
theorem dX12_setRate_45 : decode cX12_setRate 45 = .ok (.goto 19, 3) := by decide +kernel
theorem dX12_setRate_48 : decode cX12_setRate 48 = .ok (.aload_n 0, 1) := by decide +kernel
theorem dX12_setRate_49 : decode cX12_setRate 49 = .ok (.getfield 56, 3) := by decide +kernel
theorem dX12_setRate_52 : decode cX12_setRate 52 = .ok (.iload_n 3, 1) := by decide +kernel
theorem dX12_setRate_53 : decode cX12_setRate 53 = .ok (.laload, 1) := by decide +kernel
theorem dX12_setRate_54 : decode cX12_setRate 54 = .ok (.lconst 0, 1) := by decide +kernel
theorem dX12_setRate_55 : decode cX12_setRate 55 = .ok (.lcmp, 1) := by decide +kernel
theorem dX12_setRate_56 : decode cX12_setRate 56 = .ok (.ifCond .gt 7, 3) := by decide +kernel
theorem dX12_setRate_59 : decode cX12_setRate 59 = .ok (.iconst 4, 1) := by decide +kernel
theorem dX12_setRate_60 : decode cX12_setRate 60 = .ok (.goto 4, 3) := by decide +kernel
theorem dX12_setRate_63 : decode cX12_setRate 63 = .ok (.iconst 0, 1) := by decide +kernel
theorem dX12_setRate_64 : decode cX12_setRate 64 = .ok (.invokevirtual 206, 3) := by decide +kernel
theorem dX12_setRate_67 : decode cX12_setRate 67 = .ok (.ifCond .eq 5, 3) := by decide +kernel
theorem dX12_setRate_70 : decode cX12_setRate 70 = .ok (.iconst 0, 1) := by decide +kernel
theorem dX12_setRate_71 : decode cX12_setRate 71 = .ok (.ireturn, 1) := by decide +kernel
theorem dX12_setRate_72 : decode cX12_setRate 72 = .ok (.iconst 4, 1) := by decide +kernel
theorem dX12_setRate_73 : decode cX12_setRate 73 = .ok (.iload_n 1, 1) := by decide +kernel
theorem dX12_setRate_74 : decode cX12_setRate 74 = .ok (.imul, 1) := by decide +kernel
theorem dX12_setRate_75 : decode cX12_setRate 75 = .ok (.iload_n 2, 1) := by decide +kernel
theorem dX12_setRate_76 : decode cX12_setRate 76 = .ok (.iadd, 1) := by decide +kernel
theorem dX12_setRate_77 : decode cX12_setRate 77 = .ok (.istore 4, 2) := by decide +kernel
theorem dX12_setRate_79 : decode cX12_setRate 79 = .ok (.aload_n 0, 1) := by decide +kernel
theorem dX12_setRate_80 : decode cX12_setRate 80 = .ok (.getfield 80, 3) := by decide +kernel
theorem dX12_setRate_83 : decode cX12_setRate 83 = .ok (.iload 4, 2) := by decide +kernel
theorem dX12_setRate_85 : decode cX12_setRate 85 = .ok (.laload, 1) := by decide +kernel
theorem dX12_setRate_86 : decode cX12_setRate 86 = .ok (.lconst 0, 1) := by decide +kernel
theorem dX12_setRate_87 : decode cX12_setRate 87 = .ok (.lcmp, 1) := by decide +kernel
theorem dX12_setRate_88 : decode cX12_setRate 88 = .ok (.ifCond .le 7, 3) := by decide +kernel
theorem dX12_setRate_91 : decode cX12_setRate 91 = .ok (.iconst 1, 1) := by decide +kernel
theorem dX12_setRate_92 : decode cX12_setRate 92 = .ok (.goto 4, 3) := by decide +kernel
theorem dX12_setRate_95 : decode cX12_setRate 95 = .ok (.iconst 0, 1) := by decide +kernel
theorem dX12_setRate_96 : decode cX12_setRate 96 = .ok (.istore 5, 2) := by decide +kernel
theorem dX12_setRate_98 : decode cX12_setRate 98 = .ok (.aload_n 0, 1) := by decide +kernel
theorem dX12_setRate_99 : decode cX12_setRate 99 = .ok (.getfield 80, 3) := by decide +kernel
theorem dX12_setRate_102 : decode cX12_setRate 102 = .ok (.iload 4, 2) := by decide +kernel
theorem dX12_setRate_104 : decode cX12_setRate 104 = .ok (.aload_n 0, 1) := by decide +kernel
theorem dX12_setRate_105 : decode cX12_setRate 105 = .ok (.getfield 56, 3) := by decide +kernel
theorem dX12_setRate_108 : decode cX12_setRate 108 = .ok (.iload_n 3, 1) := by decide +kernel
theorem dX12_setRate_109 : decode cX12_setRate 109 = .ok (.laload, 1) := by decide +kernel
theorem dX12_setRate_110 : decode cX12_setRate 110 = .ok (.lastore, 1) := by decide +kernel
theorem dX12_setRate_111 : decode cX12_setRate 111 = .ok (.aload_n 0, 1) := by decide +kernel
theorem dX12_setRate_112 : decode cX12_setRate 112 = .ok (.getfield 83, 3) := by decide +kernel
theorem dX12_setRate_115 : decode cX12_setRate 115 = .ok (.iload 4, 2) := by decide +kernel
theorem dX12_setRate_117 : decode cX12_setRate 117 = .ok (.aload_n 0, 1) := by decide +kernel
theorem dX12_setRate_118 : decode cX12_setRate 118 = .ok (.getfield 60, 3) := by decide +kernel
theorem dX12_setRate_121 : decode cX12_setRate 121 = .ok (.iload_n 3, 1) := by decide +kernel
theorem dX12_setRate_122 : decode cX12_setRate 122 = .ok (.iaload, 1) := by decide +kernel
theorem dX12_setRate_123 : decode cX12_setRate 123 = .ok (.iastore, 1) := by decide +kernel
theorem dX12_setRate_124 : decode cX12_setRate 124 = .ok (.iload 5, 2) := by decide +kernel
theorem dX12_setRate_126 : decode cX12_setRate 126 = .ok (.ireturn, 1) := by decide +kernel
theorem dX12_changed_0 : decode cX12_changed 0 = .ok (.iconst 4, 1) := by decide +kernel
theorem dX12_changed_1 : decode cX12_changed 1 = .ok (.iload_n 1, 1) := by decide +kernel
theorem dX12_changed_2 : decode cX12_changed 2 = .ok (.imul, 1) := by decide +kernel
theorem dX12_changed_3 : decode cX12_changed 3 = .ok (.iload_n 2, 1) := by decide +kernel
theorem dX12_changed_4 : decode cX12_changed 4 = .ok (.iadd, 1) := by decide +kernel
theorem dX12_changed_5 : decode cX12_changed 5 = .ok (.istore 5, 2) := by decide +kernel
theorem dX12_changed_7 : decode cX12_changed 7 = .ok (.aload_n 0, 1) := by decide +kernel
theorem dX12_changed_8 : decode cX12_changed 8 = .ok (.getfield 71, 3) := by decide +kernel
theorem dX12_changed_11 : decode cX12_changed 11 = .ok (.iload_n 2, 1) := by decide +kernel
theorem dX12_changed_12 : decode cX12_changed 12 = .ok (.iaload, 1) := by decide +kernel
theorem dX12_changed_13 : decode cX12_changed 13 = .ok (.aload_n 0, 1) := by decide +kernel
theorem dX12_changed_14 : decode cX12_changed 14 = .ok (.getfield 71, 3) := by decide +kernel
theorem dX12_changed_17 : decode cX12_changed 17 = .ok (.iload_n 1, 1) := by decide +kernel
theorem dX12_changed_18 : decode cX12_changed 18 = .ok (.iaload, 1) := by decide +kernel
theorem dX12_changed_19 : decode cX12_changed 19 = .ok (.isub, 1) := by decide +kernel
theorem dX12_changed_20 : decode cX12_changed 20 = .ok (.aload_n 0, 1) := by decide +kernel
theorem dX12_changed_21 : decode cX12_changed 21 = .ok (.getfield 83, 3) := by decide +kernel
theorem dX12_changed_24 : decode cX12_changed 24 = .ok (.iload 5, 2) := by decide +kernel
theorem dX12_changed_26 : decode cX12_changed 26 = .ok (.iaload, 1) := by decide +kernel
theorem dX12_changed_27 : decode cX12_changed 27 = .ok (.isub, 1) := by decide +kernel
theorem dX12_changed_28 : decode cX12_changed 28 = .ok (.istore 6, 2) := by decide +kernel
theorem dX12_changed_30 : decode cX12_changed 30 = .ok (.aload_n 0, 1) := by decide +kernel
theorem dX12_changed_31 : decode cX12_changed 31 = .ok (.iconst 0, 1) := by decide +kernel
theorem dX12_changed_32 : decode cX12_changed 32 = .ok (.lload_n 3, 1) := by decide +kernel
theorem dX12_changed_33 : decode cX12_changed 33 = .ok (.invokevirtual 33, 3) := by decide +kernel
theorem dX12_changed_36 : decode cX12_changed 36 = .ok (.aload_n 0, 1) := by decide +kernel
theorem dX12_changed_37 : decode cX12_changed 37 = .ok (.iconst 5, 1) := by decide +kernel
theorem dX12_changed_38 : decode cX12_changed 38 = .ok (.aload_n 0, 1) := by decide +kernel
theorem dX12_changed_39 : decode cX12_changed 39 = .ok (.getfield 80, 3) := by decide +kernel
theorem dX12_changed_42 : decode cX12_changed 42 = .ok (.iload 5, 2) := by decide +kernel
theorem dX12_changed_44 : decode cX12_changed 44 = .ok (.laload, 1) := by decide +kernel
theorem dX12_changed_45 : decode cX12_changed 45 = .ok (.invokevirtual 33, 3) := by decide +kernel
theorem dX12_changed_48 : decode cX12_changed 48 = .ok (.aload_n 0, 1) := by decide +kernel
theorem dX12_changed_49 : decode cX12_changed 49 = .ok (.iconst 0, 1) := by decide +kernel
theorem dX12_changed_50 : decode cX12_changed 50 = .ok (.iconst 5, 1) := by decide +kernel
theorem dX12_changed_51 : decode cX12_changed 51 = .ok (.invokevirtual 242, 3) := by decide +kernel
theorem dX12_changed_54 : decode cX12_changed 54 = .ok (.aload_n 0, 1) := by decide +kernel
theorem dX12_changed_55 : decode cX12_changed 55 = .ok (.iconst 0, 1) := by decide +kernel
theorem dX12_changed_56 : decode cX12_changed 56 = .ok (.iload 6, 2) := by decide +kernel
theorem dX12_changed_58 : decode cX12_changed 58 = .ok (.invokevirtual 24, 3) := by decide +kernel
theorem dX12_changed_61 : decode cX12_changed 61 = .ok (.aload_n 0, 1) := by decide +kernel
theorem dX12_changed_62 : decode cX12_changed 62 = .ok (.iconst 1, 1) := by decide +kernel
theorem dX12_changed_63 : decode cX12_changed 63 = .ok (.lconst 1, 1) := by decide +kernel
theorem dX12_changed_64 : decode cX12_changed 64 = .ok (.invokevirtual 33, 3) := by decide +kernel
theorem dX12_changed_67 : decode cX12_changed 67 = .ok (.aload_n 0, 1) := by decide +kernel
theorem dX12_changed_68 : decode cX12_changed 68 = .ok (.iconst 1, 1) := by decide +kernel
theorem dX12_changed_69 : decode cX12_changed 69 = .ok (.iload 6, 2) := by decide +kernel
theorem dX12_changed_71 : decode cX12_changed 71 = .ok (.ineg, 1) := by decide +kernel
theorem dX12_changed_72 : decode cX12_changed 72 = .ok (.invokevirtual 24, 3) := by decide +kernel
theorem dX12_changed_75 : decode cX12_changed 75 = .ok (.aload_n 0, 1) := by decide +kernel
theorem dX12_changed_76 : decode cX12_changed 76 = .ok (.iconst 0, 1) := by decide +kernel
theorem dX12_changed_77 : decode cX12_changed 77 = .ok (.aload_n 0, 1) := by decide +kernel
theorem dX12_changed_78 : decode cX12_changed 78 = .ok (.getfield 77, 3) := by decide +kernel
theorem dX12_changed_81 : decode cX12_changed 81 = .ok (.iload_n 2, 1) := by decide +kernel
theorem dX12_changed_82 : decode cX12_changed 82 = .ok (.caload, 1) := by decide +kernel
theorem dX12_changed_83 : decode cX12_changed 83 = .ok (.invokevirtual 267, 3) := by decide +kernel
theorem dX12_changed_86 : decode cX12_changed 86 = .ok (.aload_n 0, 1) := by decide +kernel
theorem dX12_changed_87 : decode cX12_changed 87 = .ok (.dup, 1) := by decide +kernel
theorem dX12_changed_88 : decode cX12_changed 88 = .ok (.getfield 47, 3) := by decide +kernel
theorem dX12_changed_91 : decode cX12_changed 91 = .ok (.aload_n 0, 1) := by decide +kernel
theorem dX12_changed_92 : decode cX12_changed 92 = .ok (.getfield 1, 3) := by decide +kernel
theorem dX12_changed_95 : decode cX12_changed 95 = .ok (.iconst 2, 1) := by decide +kernel
theorem dX12_changed_96 : decode cX12_changed 96 = .ok (.iaload, 1) := by decide +kernel
theorem dX12_changed_97 : decode cX12_changed 97 = .ok (.bipush 18, 2) := by decide +kernel
theorem dX12_changed_99 : decode cX12_changed 99 = .ok (.if_icmp .le 7, 3) := by decide +kernel
theorem dX12_changed_102 : decode cX12_changed 102 = .ok (.iconst 1, 1) := by decide +kernel
theorem dX12_changed_103 : decode cX12_changed 103 = .ok (.goto 4, 3) := by decide +kernel
theorem dX12_changed_106 : decode cX12_changed 106 = .ok (.iconst 0, 1) := by decide +kernel
theorem dX12_changed_107 : decode cX12_changed 107 = .ok (.ior, 1) := by decide +kernel
theorem dX12_changed_108 : decode cX12_changed 108 = .ok (.putfield 47, 3) := by decide +kernel
theorem dX12_changed_111 : decode cX12_changed 111 = .ok (.aload_n 0, 1) := by decide +kernel
theorem dX12_changed_112 : decode cX12_changed 112 = .ok (.getfield 47, 3) := by decide +kernel
theorem dX12_changed_115 : decode cX12_changed 115 = .ok (.ifCond .eq 7, 3) := by decide +kernel
theorem dX12_changed_118 : decode cX12_changed 118 = .ok (.lconst 0, 1) := by decide +kernel
theorem dX12_changed_119 : decode cX12_changed 119 = .ok (.goto 8, 3) := by decide +kernel
theorem dX12_changed_122 : decode cX12_changed 122 = .ok (.aload_n 0, 1) := by decide +kernel
theorem dX12_changed_123 : decode cX12_changed 123 = .ok (.iconst 2, 1) := by decide +kernel
theorem dX12_changed_124 : decode cX12_changed 124 = .ok (.invokevirtual 195, 3) := by decide +kernel
theorem dX12_changed_127 : decode cX12_changed 127 = .ok (.lreturn, 1) := by decide +kernel
theorem dX12_noMoney_0 : decode cX12_noMoney 0 = .ok (.iload_n 1, 1) := by decide +kernel
theorem dX12_noMoney_1 : decode cX12_noMoney 1 = .ok (.invokestatic 292, 3) := by decide +kernel
theorem dX12_noMoney_4 : decode cX12_noMoney 4 = .ok (.ifCond .eq 10, 3) := by decide +kernel
theorem dX12_noMoney_7 : decode cX12_noMoney 7 = .ok (.iload_n 2, 1) := by decide +kernel
theorem dX12_noMoney_8 : decode cX12_noMoney 8 = .ok (.invokestatic 292, 3) := by decide +kernel
theorem dX12_noMoney_11 : decode cX12_noMoney 11 = .ok (.ifCond .ne 7, 3) := by decide +kernel
theorem dX12_noMoney_14 : decode cX12_noMoney 14 = .ok (.iconst 1, 1) := by decide +kernel
theorem dX12_noMoney_15 : decode cX12_noMoney 15 = .ok (.goto 43, 3) := by decide +kernel
theorem dX12_noMoney_18 : decode cX12_noMoney 18 = .ok (.iload_n 1, 1) := by decide +kernel
theorem dX12_noMoney_19 : decode cX12_noMoney 19 = .ok (.iload_n 2, 1) := by decide +kernel
theorem dX12_noMoney_20 : decode cX12_noMoney 20 = .ok (.if_icmp .eq 14, 3) := by decide +kernel
theorem dX12_noMoney_23 : decode cX12_noMoney 23 = .ok (.lload_n 3, 1) := by decide +kernel
theorem dX12_noMoney_24 : decode cX12_noMoney 24 = .ok (.lconst 0, 1) := by decide +kernel
theorem dX12_noMoney_25 : decode cX12_noMoney 25 = .ok (.ldc2_w 297, 3) := by decide +kernel
theorem dX12_noMoney_28 : decode cX12_noMoney 28 = .ok (.invokestatic 183, 3) := by decide +kernel
theorem dX12_noMoney_31 : decode cX12_noMoney 31 = .ok (.ifCond .ne 7, 3) := by decide +kernel
theorem dX12_noMoney_34 : decode cX12_noMoney 34 = .ok (.iconst 2, 1) := by decide +kernel
theorem dX12_noMoney_35 : decode cX12_noMoney 35 = .ok (.goto 23, 3) := by decide +kernel
theorem dX12_noMoney_38 : decode cX12_noMoney 38 = .ok (.aload_n 0, 1) := by decide +kernel
theorem dX12_noMoney_39 : decode cX12_noMoney 39 = .ok (.getfield 80, 3) := by decide +kernel
theorem dX12_noMoney_42 : decode cX12_noMoney 42 = .ok (.iconst 4, 1) := by decide +kernel
theorem dX12_noMoney_43 : decode cX12_noMoney 43 = .ok (.iload_n 1, 1) := by decide +kernel
theorem dX12_noMoney_44 : decode cX12_noMoney 44 = .ok (.imul, 1) := by decide +kernel
theorem dX12_noMoney_45 : decode cX12_noMoney 45 = .ok (.iload_n 2, 1) := by decide +kernel
theorem dX12_noMoney_46 : decode cX12_noMoney 46 = .ok (.iadd, 1) := by decide +kernel
theorem dX12_noMoney_47 : decode cX12_noMoney 47 = .ok (.laload, 1) := by decide +kernel
theorem dX12_noMoney_48 : decode cX12_noMoney 48 = .ok (.lconst 0, 1) := by decide +kernel
theorem dX12_noMoney_49 : decode cX12_noMoney 49 = .ok (.lcmp, 1) := by decide +kernel
theorem dX12_noMoney_50 : decode cX12_noMoney 50 = .ok (.ifCond .ne 7, 3) := by decide +kernel
theorem dX12_noMoney_53 : decode cX12_noMoney 53 = .ok (.iconst 3, 1) := by decide +kernel
theorem dX12_noMoney_54 : decode cX12_noMoney 54 = .ok (.goto 4, 3) := by decide +kernel
theorem dX12_noMoney_57 : decode cX12_noMoney 57 = .ok (.iconst 0, 1) := by decide +kernel
theorem dX12_noMoney_58 : decode cX12_noMoney 58 = .ok (.ireturn, 1) := by decide +kernel
theorem dX12_change_0 : decode cX12_change 0 = .ok (.aload_n 0, 1) := by decide +kernel
theorem dX12_change_1 : decode cX12_change 1 = .ok (.aload_n 0, 1) := by decide +kernel
theorem dX12_change_2 : decode cX12_change 2 = .ok (.iload_n 1, 1) := by decide +kernel
theorem dX12_change_3 : decode cX12_change 3 = .ok (.iload_n 2, 1) := by decide +kernel
theorem dX12_change_4 : decode cX12_change 4 = .ok (.lload_n 3, 1) := by decide +kernel
theorem dX12_change_5 : decode cX12_change 5 = .ok (.invokevirtual 299, 3) := by decide +kernel
theorem dX12_change_8 : decode cX12_change 8 = .ok (.invokevirtual 206, 3) := by decide +kernel
theorem dX12_change_11 : decode cX12_change 11 = .ok (.ifCond .eq 5, 3) := by decide +kernel
theorem dX12_change_14 : decode cX12_change 14 = .ok (.lconst 0, 1) := by decide +kernel
theorem dX12_change_15 : decode cX12_change 15 = .ok (.lreturn, 1) := by decide +kernel
theorem dX12_change_16 : decode cX12_change 16 = .ok (.aload_n 0, 1) := by decide +kernel
theorem dX12_change_17 : decode cX12_change 17 = .ok (.iconst 0, 1) := by decide +kernel
theorem dX12_change_18 : decode cX12_change 18 = .ok (.putfield 47, 3) := by decide +kernel
theorem dX12_change_21 : decode cX12_change 21 = .ok (.aload_n 0, 1) := by decide +kernel
theorem dX12_change_22 : decode cX12_change 22 = .ok (.iload_n 1, 1) := by decide +kernel
theorem dX12_change_23 : decode cX12_change 23 = .ok (.iload_n 2, 1) := by decide +kernel
theorem dX12_change_24 : decode cX12_change 24 = .ok (.lload_n 3, 1) := by decide +kernel
theorem dX12_change_25 : decode cX12_change 25 = .ok (.invokevirtual 303, 3) := by decide +kernel
theorem dX12_change_28 : decode cX12_change 28 = .ok (.lstore 5, 2) := by decide +kernel
theorem dX12_change_30 : decode cX12_change 30 = .ok (.aload_n 0, 1) := by decide +kernel
theorem dX12_change_31 : decode cX12_change 31 = .ok (.aload_n 0, 1) := by decide +kernel
theorem dX12_change_32 : decode cX12_change 32 = .ok (.getfield 47, 3) := by decide +kernel
theorem dX12_change_35 : decode cX12_change 35 = .ok (.ifCond .eq 7, 3) := by decide +kernel
theorem dX12_change_38 : decode cX12_change 38 = .ok (.iconst 4, 1) := by decide +kernel
theorem dX12_change_39 : decode cX12_change 39 = .ok (.goto 4, 3) := by decide +kernel
theorem dX12_change_42 : decode cX12_change 42 = .ok (.iconst 0, 1) := by decide +kernel
theorem dX12_change_43 : decode cX12_change 43 = .ok (.invokevirtual 206, 3) := by decide +kernel
theorem dX12_change_46 : decode cX12_change 46 = .ok (.ifCond .eq 7, 3) := by decide +kernel
theorem dX12_change_49 : decode cX12_change 49 = .ok (.lconst 0, 1) := by decide +kernel
theorem dX12_change_50 : decode cX12_change 50 = .ok (.goto 5, 3) := by decide +kernel
theorem dX12_change_53 : decode cX12_change 53 = .ok (.lload 5, 2) := by decide +kernel
theorem dX12_change_55 : decode cX12_change 55 = .ok (.lreturn, 1) := by decide +kernel
theorem dX12_lost_0 : decode cX12_lost 0 = .ok (.aload_n 0, 1) := by decide +kernel
theorem dX12_lost_1 : decode cX12_lost 1 = .ok (.iload_n 1, 1) := by decide +kernel
theorem dX12_lost_2 : decode cX12_lost 2 = .ok (.iload_n 2, 1) := by decide +kernel
theorem dX12_lost_3 : decode cX12_lost 3 = .ok (.lload_n 3, 1) := by decide +kernel
theorem dX12_lost_4 : decode cX12_lost 4 = .ok (.invokevirtual 299, 3) := by decide +kernel
theorem dX12_lost_7 : decode cX12_lost 7 = .ok (.istore 5, 2) := by decide +kernel
theorem dX12_lost_9 : decode cX12_lost 9 = .ok (.aload_n 0, 1) := by decide +kernel
theorem dX12_lost_10 : decode cX12_lost 10 = .ok (.iload 5, 2) := by decide +kernel
theorem dX12_lost_12 : decode cX12_lost 12 = .ok (.ifCond .le 8, 3) := by decide +kernel
theorem dX12_lost_15 : decode cX12_lost 15 = .ok (.iload 5, 2) := by decide +kernel
theorem dX12_lost_17 : decode cX12_lost 17 = .ok (.goto 23, 3) := by decide +kernel
theorem dX12_lost_20 : decode cX12_lost 20 = .ok (.aload_n 0, 1) := by decide +kernel
theorem dX12_lost_21 : decode cX12_lost 21 = .ok (.getfield 80, 3) := by decide +kernel
theorem dX12_lost_24 : decode cX12_lost 24 = .ok (.iconst 4, 1) := by decide +kernel
theorem dX12_lost_25 : decode cX12_lost 25 = .ok (.iload_n 2, 1) := by decide +kernel
theorem dX12_lost_26 : decode cX12_lost 26 = .ok (.imul, 1) := by decide +kernel
theorem dX12_lost_27 : decode cX12_lost 27 = .ok (.iload_n 1, 1) := by decide +kernel
theorem dX12_lost_28 : decode cX12_lost 28 = .ok (.iadd, 1) := by decide +kernel
theorem dX12_lost_29 : decode cX12_lost 29 = .ok (.laload, 1) := by decide +kernel
theorem dX12_lost_30 : decode cX12_lost 30 = .ok (.lconst 0, 1) := by decide +kernel
theorem dX12_lost_31 : decode cX12_lost 31 = .ok (.lcmp, 1) := by decide +kernel
theorem dX12_lost_32 : decode cX12_lost 32 = .ok (.ifCond .ne 7, 3) := by decide +kernel
theorem dX12_lost_35 : decode cX12_lost 35 = .ok (.iconst 3, 1) := by decide +kernel
theorem dX12_lost_36 : decode cX12_lost 36 = .ok (.goto 4, 3) := by decide +kernel
theorem dX12_lost_39 : decode cX12_lost 39 = .ok (.iconst 0, 1) := by decide +kernel
theorem dX12_lost_40 : decode cX12_lost 40 = .ok (.invokevirtual 206, 3) := by decide +kernel
theorem dX12_lost_43 : decode cX12_lost 43 = .ok (.ifCond .eq 5, 3) := by decide +kernel
theorem dX12_lost_46 : decode cX12_lost 46 = .ok (.lconst 0, 1) := by decide +kernel
theorem dX12_lost_47 : decode cX12_lost 47 = .ok (.lreturn, 1) := by decide +kernel
theorem dX12_lost_48 : decode cX12_lost 48 = .ok (.aload_n 0, 1) := by decide +kernel
theorem dX12_lost_49 : decode cX12_lost 49 = .ok (.iconst 0, 1) := by decide +kernel
theorem dX12_lost_50 : decode cX12_lost 50 = .ok (.putfield 47, 3) := by decide +kernel
theorem dX12_lost_53 : decode cX12_lost 53 = .ok (.aload_n 0, 1) := by decide +kernel
theorem dX12_lost_54 : decode cX12_lost 54 = .ok (.iload_n 1, 1) := by decide +kernel
theorem dX12_lost_55 : decode cX12_lost 55 = .ok (.iload_n 2, 1) := by decide +kernel
theorem dX12_lost_56 : decode cX12_lost 56 = .ok (.lload_n 3, 1) := by decide +kernel
theorem dX12_lost_57 : decode cX12_lost 57 = .ok (.invokevirtual 303, 3) := by decide +kernel
theorem dX12_lost_60 : decode cX12_lost 60 = .ok (.lstore 6, 2) := by decide +kernel
theorem dX12_lost_62 : decode cX12_lost 62 = .ok (.aload_n 0, 1) := by decide +kernel
theorem dX12_lost_63 : decode cX12_lost 63 = .ok (.aload_n 0, 1) := by decide +kernel
theorem dX12_lost_64 : decode cX12_lost 64 = .ok (.getfield 47, 3) := by decide +kernel
theorem dX12_lost_67 : decode cX12_lost 67 = .ok (.ifCond .eq 7, 3) := by decide +kernel
theorem dX12_lost_70 : decode cX12_lost 70 = .ok (.iconst 4, 1) := by decide +kernel
theorem dX12_lost_71 : decode cX12_lost 71 = .ok (.goto 4, 3) := by decide +kernel
theorem dX12_lost_74 : decode cX12_lost 74 = .ok (.iconst 0, 1) := by decide +kernel
theorem dX12_lost_75 : decode cX12_lost 75 = .ok (.invokevirtual 206, 3) := by decide +kernel
theorem dX12_lost_78 : decode cX12_lost 78 = .ok (.ifCond .eq 5, 3) := by decide +kernel
theorem dX12_lost_81 : decode cX12_lost 81 = .ok (.lconst 0, 1) := by decide +kernel
theorem dX12_lost_82 : decode cX12_lost 82 = .ok (.lreturn, 1) := by decide +kernel
theorem dX12_lost_83 : decode cX12_lost 83 = .ok (.aload_n 0, 1) := by decide +kernel
theorem dX12_lost_84 : decode cX12_lost 84 = .ok (.iload_n 2, 1) := by decide +kernel
theorem dX12_lost_85 : decode cX12_lost 85 = .ok (.iload_n 1, 1) := by decide +kernel
theorem dX12_lost_86 : decode cX12_lost 86 = .ok (.lload 6, 2) := by decide +kernel
theorem dX12_lost_88 : decode cX12_lost 88 = .ok (.invokevirtual 303, 3) := by decide +kernel
theorem dX12_lost_91 : decode cX12_lost 91 = .ok (.lstore 8, 2) := by decide +kernel
theorem dX12_lost_93 : decode cX12_lost 93 = .ok (.aload_n 0, 1) := by decide +kernel
theorem dX12_lost_94 : decode cX12_lost 94 = .ok (.aload_n 0, 1) := by decide +kernel
theorem dX12_lost_95 : decode cX12_lost 95 = .ok (.getfield 47, 3) := by decide +kernel
theorem dX12_lost_98 : decode cX12_lost 98 = .ok (.ifCond .eq 7, 3) := by decide +kernel
theorem dX12_lost_101 : decode cX12_lost 101 = .ok (.iconst 4, 1) := by decide +kernel
theorem dX12_lost_102 : decode cX12_lost 102 = .ok (.goto 4, 3) := by decide +kernel
theorem dX12_lost_105 : decode cX12_lost 105 = .ok (.iconst 0, 1) := by decide +kernel
theorem dX12_lost_106 : decode cX12_lost 106 = .ok (.invokevirtual 206, 3) := by decide +kernel
theorem dX12_lost_109 : decode cX12_lost 109 = .ok (.ifCond .eq 7, 3) := by decide +kernel
theorem dX12_lost_112 : decode cX12_lost 112 = .ok (.lconst 0, 1) := by decide +kernel
theorem dX12_lost_113 : decode cX12_lost 113 = .ok (.goto 7, 3) := by decide +kernel
theorem dX12_lost_116 : decode cX12_lost 116 = .ok (.lload_n 3, 1) := by decide +kernel
theorem dX12_lost_117 : decode cX12_lost 117 = .ok (.lload 8, 2) := by decide +kernel
theorem dX12_lost_119 : decode cX12_lost 119 = .ok (.lsub, 1) := by decide +kernel
theorem dX12_lost_120 : decode cX12_lost 120 = .ok (.lreturn, 1) := by decide +kernel
theorem dX12_isKind_0 : decode cX12_isKind 0 = .ok (.iload_n 0, 1) := by decide +kernel
theorem dX12_isKind_1 : decode cX12_isKind 1 = .ok (.i2l, 1) := by decide +kernel
theorem dX12_isKind_2 : decode cX12_isKind 2 = .ok (.lconst 0, 1) := by decide +kernel
theorem dX12_isKind_3 : decode cX12_isKind 3 = .ok (.ldc2_w 286, 3) := by decide +kernel
theorem dX12_isKind_6 : decode cX12_isKind 6 = .ok (.invokestatic 183, 3) := by decide +kernel
theorem dX12_isKind_9 : decode cX12_isKind 9 = .ok (.ireturn, 1) := by decide +kernel
theorem dX12_tells_0 : decode cX12_tells 0 = .ok (.ldc_w 307, 3) := by decide +kernel
theorem dX12_tells_3 : decode cX12_tells 3 = .ok (.iload 4, 2) := by decide +kernel
theorem dX12_tells_5 : decode cX12_tells 5 = .ok (.imul, 1) := by decide +kernel
theorem dX12_tells_6 : decode cX12_tells 6 = .ok (.iload 5, 2) := by decide +kernel
theorem dX12_tells_8 : decode cX12_tells 8 = .ok (.iadd, 1) := by decide +kernel
theorem dX12_tells_9 : decode cX12_tells 9 = .ok (.istore 7, 2) := by decide +kernel
theorem dX12_tells_11 : decode cX12_tells 11 = .ok (.iconst 0, 1) := by decide +kernel
theorem dX12_tells_12 : decode cX12_tells 12 = .ok (.istore 8, 2) := by decide +kernel
theorem dX12_tells_14 : decode cX12_tells 14 = .ok (.iload 8, 2) := by decide +kernel
theorem dX12_tells_16 : decode cX12_tells 16 = .ok (.iload_n 3, 1) := by decide +kernel
theorem dX12_tells_17 : decode cX12_tells 17 = .ok (.if_icmp .ge 18, 3) := by decide +kernel
theorem dX12_tells_20 : decode cX12_tells 20 = .ok (.aload_n 0, 1) := by decide +kernel
theorem dX12_tells_21 : decode cX12_tells 21 = .ok (.iload 8, 2) := by decide +kernel
theorem dX12_tells_23 : decode cX12_tells 23 = .ok (.iaload, 1) := by decide +kernel
theorem dX12_tells_24 : decode cX12_tells 24 = .ok (.iload 7, 2) := by decide +kernel
theorem dX12_tells_26 : decode cX12_tells 26 = .ok (.if_icmp .eq 9, 3) := by decide +kernel
theorem dX12_tells_29 : decode cX12_tells 29 = .ok (.iinc 8 1, 3) := by decide +kernel
theorem dX12_tells_32 : decode cX12_tells 32 = .ok (.goto (-18), 3) := by decide +kernel
theorem dX12_tells_35 : decode cX12_tells 35 = .ok (.aload_n 0, 1) := by decide +kernel
theorem dX12_tells_36 : decode cX12_tells 36 = .ok (.iload 8, 2) := by decide +kernel
theorem dX12_tells_38 : decode cX12_tells 38 = .ok (.iload 7, 2) := by decide +kernel
theorem dX12_tells_40 : decode cX12_tells 40 = .ok (.iastore, 1) := by decide +kernel
theorem dX12_tells_41 : decode cX12_tells 41 = .ok (.aload_n 1, 1) := by decide +kernel
theorem dX12_tells_42 : decode cX12_tells 42 = .ok (.iload 8, 2) := by decide +kernel
theorem dX12_tells_44 : decode cX12_tells 44 = .ok (.iload 6, 2) := by decide +kernel
theorem dX12_tells_46 : decode cX12_tells 46 = .ok (.iastore, 1) := by decide +kernel
theorem dX12_tells_47 : decode cX12_tells 47 = .ok (.aload_n 2, 1) := by decide +kernel
theorem dX12_tells_48 : decode cX12_tells 48 = .ok (.iload 4, 2) := by decide +kernel
theorem dX12_tells_50 : decode cX12_tells 50 = .ok (.dup2, 1) := by decide +kernel
theorem dX12_tells_51 : decode cX12_tells 51 = .ok (.iaload, 1) := by decide +kernel
theorem dX12_tells_52 : decode cX12_tells 52 = .ok (.iload 8, 2) := by decide +kernel
theorem dX12_tells_54 : decode cX12_tells 54 = .ok (.iload_n 3, 1) := by decide +kernel
theorem dX12_tells_55 : decode cX12_tells 55 = .ok (.if_icmp .ne 7, 3) := by decide +kernel
theorem dX12_tells_58 : decode cX12_tells 58 = .ok (.iconst 1, 1) := by decide +kernel
theorem dX12_tells_59 : decode cX12_tells 59 = .ok (.goto 4, 3) := by decide +kernel
theorem dX12_tells_62 : decode cX12_tells 62 = .ok (.iconst 0, 1) := by decide +kernel
theorem dX12_tells_63 : decode cX12_tells 63 = .ok (.iadd, 1) := by decide +kernel
theorem dX12_tells_64 : decode cX12_tells 64 = .ok (.iastore, 1) := by decide +kernel
theorem dX12_tells_65 : decode cX12_tells 65 = .ok (.iload 8, 2) := by decide +kernel
theorem dX12_tells_67 : decode cX12_tells 67 = .ok (.iload_n 3, 1) := by decide +kernel
theorem dX12_tells_68 : decode cX12_tells 68 = .ok (.if_icmp .ne 9, 3) := by decide +kernel
theorem dX12_tells_71 : decode cX12_tells 71 = .ok (.iload_n 3, 1) := by decide +kernel
theorem dX12_tells_72 : decode cX12_tells 72 = .ok (.iconst 1, 1) := by decide +kernel
theorem dX12_tells_73 : decode cX12_tells 73 = .ok (.iadd, 1) := by decide +kernel
theorem dX12_tells_74 : decode cX12_tells 74 = .ok (.goto 4, 3) := by decide +kernel
theorem dX12_tells_77 : decode cX12_tells 77 = .ok (.iload_n 3, 1) := by decide +kernel
theorem dX12_tells_78 : decode cX12_tells 78 = .ok (.ireturn, 1) := by decide +kernel
theorem dX12_told_0 : decode cX12_told 0 = .ok (.iconst (-1), 1) := by decide +kernel
theorem dX12_told_1 : decode cX12_told 1 = .ok (.istore 5, 2) := by decide +kernel
theorem dX12_told_3 : decode cX12_told 3 = .ok (.iconst 0, 1) := by decide +kernel
theorem dX12_told_4 : decode cX12_told 4 = .ok (.istore 6, 2) := by decide +kernel
theorem dX12_told_6 : decode cX12_told 6 = .ok (.iload 6, 2) := by decide +kernel
theorem dX12_told_8 : decode cX12_told 8 = .ok (.iload_n 2, 1) := by decide +kernel
theorem dX12_told_9 : decode cX12_told 9 = .ok (.if_icmp .ge 55, 3) := by decide +kernel
theorem dX12_told_12 : decode cX12_told 12 = .ok (.aload_n 0, 1) := by decide +kernel
theorem dX12_told_13 : decode cX12_told 13 = .ok (.iload 6, 2) := by decide +kernel
theorem dX12_told_15 : decode cX12_told 15 = .ok (.iaload, 1) := by decide +kernel
theorem dX12_told_16 : decode cX12_told 16 = .ok (.i2l, 1) := by decide +kernel
theorem dX12_told_17 : decode cX12_told 17 = .ok (.ldc_w 307, 3) := by decide +kernel
theorem dX12_told_20 : decode cX12_told 20 = .ok (.iload_n 3, 1) := by decide +kernel
theorem dX12_told_21 : decode cX12_told 21 = .ok (.imul, 1) := by decide +kernel
theorem dX12_told_22 : decode cX12_told 22 = .ok (.i2l, 1) := by decide +kernel
theorem dX12_told_23 : decode cX12_told 23 = .ok (.ldc_w 307, 3) := by decide +kernel
theorem dX12_told_26 : decode cX12_told 26 = .ok (.iload_n 3, 1) := by decide +kernel
theorem dX12_told_27 : decode cX12_told 27 = .ok (.imul, 1) := by decide +kernel
theorem dX12_told_28 : decode cX12_told 28 = .ok (.iload 4, 2) := by decide +kernel
theorem dX12_told_30 : decode cX12_told 30 = .ok (.iadd, 1) := by decide +kernel
theorem dX12_told_31 : decode cX12_told 31 = .ok (.i2l, 1) := by decide +kernel
theorem dX12_told_32 : decode cX12_told 32 = .ok (.invokestatic 183, 3) := by decide +kernel
theorem dX12_told_35 : decode cX12_told 35 = .ok (.ifCond .eq 23, 3) := by decide +kernel
theorem dX12_told_38 : decode cX12_told 38 = .ok (.iload 5, 2) := by decide +kernel
theorem dX12_told_40 : decode cX12_told 40 = .ok (.ifCond .lt 14, 3) := by decide +kernel
theorem dX12_told_43 : decode cX12_told 43 = .ok (.aload_n 0, 1) := by decide +kernel
theorem dX12_told_44 : decode cX12_told 44 = .ok (.iload 6, 2) := by decide +kernel
theorem dX12_told_46 : decode cX12_told 46 = .ok (.iaload, 1) := by decide +kernel
theorem dX12_told_47 : decode cX12_told 47 = .ok (.aload_n 0, 1) := by decide +kernel
theorem dX12_told_48 : decode cX12_told 48 = .ok (.iload 5, 2) := by decide +kernel
theorem dX12_told_50 : decode cX12_told 50 = .ok (.iaload, 1) := by decide +kernel
theorem dX12_told_51 : decode cX12_told 51 = .ok (.if_icmp .le 7, 3) := by decide +kernel
theorem dX12_told_54 : decode cX12_told 54 = .ok (.iload 6, 2) := by decide +kernel
theorem dX12_told_56 : decode cX12_told 56 = .ok (.istore 5, 2) := by decide +kernel
theorem dX12_told_58 : decode cX12_told 58 = .ok (.iinc 6 1, 3) := by decide +kernel
theorem dX12_told_61 : decode cX12_told 61 = .ok (.goto (-55), 3) := by decide +kernel
theorem dX12_told_64 : decode cX12_told 64 = .ok (.iload 5, 2) := by decide +kernel
theorem dX12_told_66 : decode cX12_told 66 = .ok (.ifCond .ge 7, 3) := by decide +kernel
theorem dX12_told_69 : decode cX12_told 69 = .ok (.iconst 0, 1) := by decide +kernel
theorem dX12_told_70 : decode cX12_told 70 = .ok (.goto 7, 3) := by decide +kernel
theorem dX12_told_73 : decode cX12_told 73 = .ok (.aload_n 1, 1) := by decide +kernel
theorem dX12_told_74 : decode cX12_told 74 = .ok (.iload 5, 2) := by decide +kernel
theorem dX12_told_76 : decode cX12_told 76 = .ok (.iaload, 1) := by decide +kernel
theorem dX12_told_77 : decode cX12_told 77 = .ok (.ireturn, 1) := by decide +kernel
theorem dX12_setTax_0 : decode cX12_setTax 0 = .ok (.aload_n 0, 1) := by decide +kernel
theorem dX12_setTax_1 : decode cX12_setTax 1 = .ok (.iload_n 1, 1) := by decide +kernel
theorem dX12_setTax_2 : decode cX12_setTax 2 = .ok (.invokestatic 308, 3) := by decide +kernel
theorem dX12_setTax_5 : decode cX12_setTax 5 = .ok (.ifCond .ne 7, 3) := by decide +kernel
theorem dX12_setTax_8 : decode cX12_setTax 8 = .ok (.iconst 1, 1) := by decide +kernel
theorem dX12_setTax_9 : decode cX12_setTax 9 = .ok (.goto 32, 3) := by decide +kernel
theorem dX12_setTax_12 : decode cX12_setTax 12 = .ok (.iload_n 2, 1) := by decide +kernel
theorem dX12_setTax_13 : decode cX12_setTax 13 = .ok (.i2l, 1) := by decide +kernel
theorem dX12_setTax_14 : decode cX12_setTax 14 = .ok (.lconst 0, 1) := by decide +kernel
theorem dX12_setTax_15 : decode cX12_setTax 15 = .ok (.ldc2_w 311, 3) := by decide +kernel
theorem dX12_setTax_18 : decode cX12_setTax 18 = .ok (.invokestatic 183, 3) := by decide +kernel
theorem dX12_setTax_21 : decode cX12_setTax 21 = .ok (.ifCond .eq 15, 3) := by decide +kernel
theorem dX12_setTax_24 : decode cX12_setTax 24 = .ok (.iload_n 3, 1) := by decide +kernel
theorem dX12_setTax_25 : decode cX12_setTax 25 = .ok (.i2l, 1) := by decide +kernel
theorem dX12_setTax_26 : decode cX12_setTax 26 = .ok (.lconst 0, 1) := by decide +kernel
theorem dX12_setTax_27 : decode cX12_setTax 27 = .ok (.ldc2_w 311, 3) := by decide +kernel
theorem dX12_setTax_30 : decode cX12_setTax 30 = .ok (.invokestatic 183, 3) := by decide +kernel
theorem dX12_setTax_33 : decode cX12_setTax 33 = .ok (.ifCond .ne 7, 3) := by decide +kernel
theorem dX12_setTax_36 : decode cX12_setTax 36 = .ok (.iconst 2, 1) := by decide +kernel
theorem dX12_setTax_37 : decode cX12_setTax 37 = .ok (.goto 4, 3) := by decide +kernel
theorem dX12_setTax_40 : decode cX12_setTax 40 = .ok (.iconst 0, 1) := by decide +kernel
theorem dX12_setTax_41 : decode cX12_setTax 41 = .ok (.invokevirtual 206, 3) := by decide +kernel
theorem dX12_setTax_44 : decode cX12_setTax 44 = .ok (.ifCond .eq 5, 3) := by decide +kernel
theorem dX12_setTax_47 : decode cX12_setTax 47 = .ok (.iconst 0, 1) := by decide +kernel
theorem dX12_setTax_48 : decode cX12_setTax 48 = .ok (.ireturn, 1) := by decide +kernel
theorem dX12_setTax_49 : decode cX12_setTax 49 = .ok (.aload_n 0, 1) := by decide +kernel
theorem dX12_setTax_50 : decode cX12_setTax 50 = .ok (.aload_n 0, 1) := by decide +kernel
theorem dX12_setTax_51 : decode cX12_setTax 51 = .ok (.getfield 87, 3) := by decide +kernel
theorem dX12_setTax_54 : decode cX12_setTax 54 = .ok (.aload_n 0, 1) := by decide +kernel
theorem dX12_setTax_55 : decode cX12_setTax 55 = .ok (.getfield 90, 3) := by decide +kernel
theorem dX12_setTax_58 : decode cX12_setTax 58 = .ok (.aload_n 0, 1) := by decide +kernel
theorem dX12_setTax_59 : decode cX12_setTax 59 = .ok (.getfield 99, 3) := by decide +kernel
theorem dX12_setTax_62 : decode cX12_setTax 62 = .ok (.aload_n 0, 1) := by decide +kernel
theorem dX12_setTax_63 : decode cX12_setTax 63 = .ok (.getfield 313, 3) := by decide +kernel
theorem dX12_setTax_66 : decode cX12_setTax 66 = .ok (.iload_n 1, 1) := by decide +kernel
theorem dX12_setTax_67 : decode cX12_setTax 67 = .ok (.iload_n 2, 1) := by decide +kernel
theorem dX12_setTax_68 : decode cX12_setTax 68 = .ok (.iload_n 3, 1) := by decide +kernel
theorem dX12_setTax_69 : decode cX12_setTax 69 = .ok (.invokestatic 316, 3) := by decide +kernel
theorem dX12_setTax_72 : decode cX12_setTax 72 = .ok (.putfield 313, 3) := by decide +kernel
theorem dX12_setTax_75 : decode cX12_setTax 75 = .ok (.aload_n 0, 1) := by decide +kernel
theorem dX12_setTax_76 : decode cX12_setTax 76 = .ok (.getfield 99, 3) := by decide +kernel
theorem dX12_setTax_79 : decode cX12_setTax 79 = .ok (.iload_n 1, 1) := by decide +kernel
theorem dX12_setTax_80 : decode cX12_setTax 80 = .ok (.iaload, 1) := by decide +kernel
theorem dX12_setTax_81 : decode cX12_setTax 81 = .ok (.ireturn, 1) := by decide +kernel
theorem dX12_taxAt_0 : decode cX12_taxAt 0 = .ok (.aload_n 0, 1) := by decide +kernel
theorem dX12_taxAt_1 : decode cX12_taxAt 1 = .ok (.getfield 87, 3) := by decide +kernel
theorem dX12_taxAt_4 : decode cX12_taxAt 4 = .ok (.aload_n 0, 1) := by decide +kernel
theorem dX12_taxAt_5 : decode cX12_taxAt 5 = .ok (.getfield 90, 3) := by decide +kernel
theorem dX12_taxAt_8 : decode cX12_taxAt 8 = .ok (.aload_n 0, 1) := by decide +kernel
theorem dX12_taxAt_9 : decode cX12_taxAt 9 = .ok (.getfield 313, 3) := by decide +kernel
theorem dX12_taxAt_12 : decode cX12_taxAt 12 = .ok (.iload_n 1, 1) := by decide +kernel
theorem dX12_taxAt_13 : decode cX12_taxAt 13 = .ok (.iload_n 2, 1) := by decide +kernel
theorem dX12_taxAt_14 : decode cX12_taxAt 14 = .ok (.invokestatic 320, 3) := by decide +kernel
theorem dX12_taxAt_17 : decode cX12_taxAt 17 = .ok (.ireturn, 1) := by decide +kernel
theorem dX12_tax_0 : decode cX12_tax 0 = .ok (.aload_n 0, 1) := by decide +kernel
theorem dX12_tax_1 : decode cX12_tax 1 = .ok (.iload_n 1, 1) := by decide +kernel
theorem dX12_tax_2 : decode cX12_tax 2 = .ok (.invokestatic 308, 3) := by decide +kernel
theorem dX12_tax_5 : decode cX12_tax 5 = .ok (.ifCond .ne 7, 3) := by decide +kernel
theorem dX12_tax_8 : decode cX12_tax 8 = .ok (.iconst 1, 1) := by decide +kernel
theorem dX12_tax_9 : decode cX12_tax 9 = .ok (.goto 20, 3) := by decide +kernel
theorem dX12_tax_12 : decode cX12_tax 12 = .ok (.iload_n 2, 1) := by decide +kernel
theorem dX12_tax_13 : decode cX12_tax 13 = .ok (.i2l, 1) := by decide +kernel
theorem dX12_tax_14 : decode cX12_tax 14 = .ok (.lconst 0, 1) := by decide +kernel
theorem dX12_tax_15 : decode cX12_tax 15 = .ok (.ldc2_w 311, 3) := by decide +kernel
theorem dX12_tax_18 : decode cX12_tax 18 = .ok (.invokestatic 183, 3) := by decide +kernel
theorem dX12_tax_21 : decode cX12_tax 21 = .ok (.ifCond .eq 7, 3) := by decide +kernel
theorem dX12_tax_24 : decode cX12_tax 24 = .ok (.iconst 0, 1) := by decide +kernel
theorem dX12_tax_25 : decode cX12_tax 25 = .ok (.goto 4, 3) := by decide +kernel
theorem dX12_tax_28 : decode cX12_tax 28 = .ok (.iconst 2, 1) := by decide +kernel
theorem dX12_tax_29 : decode cX12_tax 29 = .ok (.invokevirtual 206, 3) := by decide +kernel
theorem dX12_tax_32 : decode cX12_tax 32 = .ok (.ifCond .eq 7, 3) := by decide +kernel
theorem dX12_tax_35 : decode cX12_tax 35 = .ok (.iconst 0, 1) := by decide +kernel
theorem dX12_tax_36 : decode cX12_tax 36 = .ok (.goto 9, 3) := by decide +kernel
theorem dX12_tax_39 : decode cX12_tax 39 = .ok (.aload_n 0, 1) := by decide +kernel
theorem dX12_tax_40 : decode cX12_tax 40 = .ok (.iload_n 1, 1) := by decide +kernel
theorem dX12_tax_41 : decode cX12_tax 41 = .ok (.iload_n 2, 1) := by decide +kernel
theorem dX12_tax_42 : decode cX12_tax 42 = .ok (.invokevirtual 324, 3) := by decide +kernel
theorem dX12_tax_45 : decode cX12_tax 45 = .ok (.ireturn, 1) := by decide +kernel
theorem dX12_setDiscount_0 : decode cX12_setDiscount 0 = .ok (.aload_n 0, 1) := by decide +kernel
theorem dX12_setDiscount_1 : decode cX12_setDiscount 1 = .ok (.iload_n 1, 1) := by decide +kernel
theorem dX12_setDiscount_2 : decode cX12_setDiscount 2 = .ok (.invokestatic 308, 3) := by decide +kernel
theorem dX12_setDiscount_5 : decode cX12_setDiscount 5 = .ok (.ifCond .ne 7, 3) := by decide +kernel
theorem dX12_setDiscount_8 : decode cX12_setDiscount 8 = .ok (.iconst 1, 1) := by decide +kernel
theorem dX12_setDiscount_9 : decode cX12_setDiscount 9 = .ok (.goto 32, 3) := by decide +kernel
theorem dX12_setDiscount_12 : decode cX12_setDiscount 12 = .ok (.iload_n 2, 1) := by decide +kernel
theorem dX12_setDiscount_13 : decode cX12_setDiscount 13 = .ok (.i2l, 1) := by decide +kernel
theorem dX12_setDiscount_14 : decode cX12_setDiscount 14 = .ok (.lconst 1, 1) := by decide +kernel
theorem dX12_setDiscount_15 : decode cX12_setDiscount 15 = .ok (.ldc2_w 327, 3) := by decide +kernel
theorem dX12_setDiscount_18 : decode cX12_setDiscount 18 = .ok (.invokestatic 183, 3) := by decide +kernel
theorem dX12_setDiscount_21 : decode cX12_setDiscount 21 = .ok (.ifCond .eq 15, 3) := by decide +kernel
theorem dX12_setDiscount_24 : decode cX12_setDiscount 24 = .ok (.iload_n 3, 1) := by decide +kernel
theorem dX12_setDiscount_25 : decode cX12_setDiscount 25 = .ok (.i2l, 1) := by decide +kernel
theorem dX12_setDiscount_26 : decode cX12_setDiscount 26 = .ok (.lconst 0, 1) := by decide +kernel
theorem dX12_setDiscount_27 : decode cX12_setDiscount 27 = .ok (.ldc2_w 329, 3) := by decide +kernel
theorem dX12_setDiscount_30 : decode cX12_setDiscount 30 = .ok (.invokestatic 183, 3) := by decide +kernel
theorem dX12_setDiscount_33 : decode cX12_setDiscount 33 = .ok (.ifCond .ne 7, 3) := by decide +kernel
theorem dX12_setDiscount_36 : decode cX12_setDiscount 36 = .ok (.iconst 2, 1) := by decide +kernel
theorem dX12_setDiscount_37 : decode cX12_setDiscount 37 = .ok (.goto 4, 3) := by decide +kernel
theorem dX12_setDiscount_40 : decode cX12_setDiscount 40 = .ok (.iconst 0, 1) := by decide +kernel
theorem dX12_setDiscount_41 : decode cX12_setDiscount 41 = .ok (.invokevirtual 206, 3) := by decide +kernel
theorem dX12_setDiscount_44 : decode cX12_setDiscount 44 = .ok (.ifCond .eq 5, 3) := by decide +kernel
theorem dX12_setDiscount_47 : decode cX12_setDiscount 47 = .ok (.iconst 0, 1) := by decide +kernel
theorem dX12_setDiscount_48 : decode cX12_setDiscount 48 = .ok (.ireturn, 1) := by decide +kernel
theorem dX12_setDiscount_49 : decode cX12_setDiscount 49 = .ok (.aload_n 0, 1) := by decide +kernel
theorem dX12_setDiscount_50 : decode cX12_setDiscount 50 = .ok (.aload_n 0, 1) := by decide +kernel
theorem dX12_setDiscount_51 : decode cX12_setDiscount 51 = .ok (.getfield 93, 3) := by decide +kernel
theorem dX12_setDiscount_54 : decode cX12_setDiscount 54 = .ok (.aload_n 0, 1) := by decide +kernel
theorem dX12_setDiscount_55 : decode cX12_setDiscount 55 = .ok (.getfield 96, 3) := by decide +kernel
theorem dX12_setDiscount_58 : decode cX12_setDiscount 58 = .ok (.aload_n 0, 1) := by decide +kernel
theorem dX12_setDiscount_59 : decode cX12_setDiscount 59 = .ok (.getfield 102, 3) := by decide +kernel
theorem dX12_setDiscount_62 : decode cX12_setDiscount 62 = .ok (.aload_n 0, 1) := by decide +kernel
theorem dX12_setDiscount_63 : decode cX12_setDiscount 63 = .ok (.getfield 331, 3) := by decide +kernel
theorem dX12_setDiscount_66 : decode cX12_setDiscount 66 = .ok (.iload_n 1, 1) := by decide +kernel
theorem dX12_setDiscount_67 : decode cX12_setDiscount 67 = .ok (.iload_n 2, 1) := by decide +kernel
theorem dX12_setDiscount_68 : decode cX12_setDiscount 68 = .ok (.iload_n 3, 1) := by decide +kernel
theorem dX12_setDiscount_69 : decode cX12_setDiscount 69 = .ok (.invokestatic 316, 3) := by decide +kernel
theorem dX12_setDiscount_72 : decode cX12_setDiscount 72 = .ok (.putfield 331, 3) := by decide +kernel
theorem dX12_setDiscount_75 : decode cX12_setDiscount 75 = .ok (.aload_n 0, 1) := by decide +kernel
theorem dX12_setDiscount_76 : decode cX12_setDiscount 76 = .ok (.getfield 102, 3) := by decide +kernel
theorem dX12_setDiscount_79 : decode cX12_setDiscount 79 = .ok (.iload_n 1, 1) := by decide +kernel
theorem dX12_setDiscount_80 : decode cX12_setDiscount 80 = .ok (.iaload, 1) := by decide +kernel
theorem dX12_setDiscount_81 : decode cX12_setDiscount 81 = .ok (.ireturn, 1) := by decide +kernel
theorem dX12_isInvoice_0 : decode cX12_isInvoice 0 = .ok (.iload_n 1, 1) := by decide +kernel
theorem dX12_isInvoice_1 : decode cX12_isInvoice 1 = .ok (.i2l, 1) := by decide +kernel
theorem dX12_isInvoice_2 : decode cX12_isInvoice 2 = .ok (.lconst 0, 1) := by decide +kernel
theorem dX12_isInvoice_3 : decode cX12_isInvoice 3 = .ok (.aload_n 0, 1) := by decide +kernel
theorem dX12_isInvoice_4 : decode cX12_isInvoice 4 = .ok (.getfield 334, 3) := by decide +kernel
theorem dX12_isInvoice_7 : decode cX12_isInvoice 7 = .ok (.iconst 1, 1) := by decide +kernel
theorem dX12_isInvoice_8 : decode cX12_isInvoice 8 = .ok (.isub, 1) := by decide +kernel
theorem dX12_isInvoice_9 : decode cX12_isInvoice 9 = .ok (.i2l, 1) := by decide +kernel
theorem dX12_isInvoice_10 : decode cX12_isInvoice 10 = .ok (.invokestatic 183, 3) := by decide +kernel
theorem dX12_isInvoice_13 : decode cX12_isInvoice 13 = .ok (.ireturn, 1) := by decide +kernel
theorem dX12_open_0 : decode cX12_open 0 = .ok (.aload_n 0, 1) := by decide +kernel
theorem dX12_open_1 : decode cX12_open 1 = .ok (.iload_n 2, 1) := by decide +kernel
theorem dX12_open_2 : decode cX12_open 2 = .ok (.invokestatic 292, 3) := by decide +kernel
theorem dX12_open_5 : decode cX12_open 5 = .ok (.ifCond .ne 7, 3) := by decide +kernel
theorem dX12_open_8 : decode cX12_open 8 = .ok (.iconst 1, 1) := by decide +kernel
theorem dX12_open_9 : decode cX12_open 9 = .ok (.goto 33, 3) := by decide +kernel
theorem dX12_open_12 : decode cX12_open 12 = .ok (.iload_n 1, 1) := by decide +kernel
theorem dX12_open_13 : decode cX12_open 13 = .ok (.i2l, 1) := by decide +kernel
theorem dX12_open_14 : decode cX12_open 14 = .ok (.lconst 0, 1) := by decide +kernel
theorem dX12_open_15 : decode cX12_open 15 = .ok (.ldc2_w 311, 3) := by decide +kernel
theorem dX12_open_18 : decode cX12_open 18 = .ok (.invokestatic 183, 3) := by decide +kernel
theorem dX12_open_21 : decode cX12_open 21 = .ok (.ifCond .ne 7, 3) := by decide +kernel
theorem dX12_open_24 : decode cX12_open 24 = .ok (.iconst 2, 1) := by decide +kernel
theorem dX12_open_25 : decode cX12_open 25 = .ok (.goto 17, 3) := by decide +kernel
theorem dX12_open_28 : decode cX12_open 28 = .ok (.aload_n 0, 1) := by decide +kernel
theorem dX12_open_29 : decode cX12_open 29 = .ok (.getfield 334, 3) := by decide +kernel
theorem dX12_open_32 : decode cX12_open 32 = .ok (.bipush 20, 2) := by decide +kernel
theorem dX12_open_34 : decode cX12_open 34 = .ok (.if_icmp .ne 7, 3) := by decide +kernel
theorem dX12_open_37 : decode cX12_open 37 = .ok (.iconst 3, 1) := by decide +kernel
theorem dX12_open_38 : decode cX12_open 38 = .ok (.goto 4, 3) := by decide +kernel
theorem dX12_open_41 : decode cX12_open 41 = .ok (.iconst 0, 1) := by decide +kernel
theorem dX12_open_42 : decode cX12_open 42 = .ok (.invokevirtual 206, 3) := by decide +kernel
theorem dX12_open_45 : decode cX12_open 45 = .ok (.ifCond .eq 5, 3) := by decide +kernel
theorem dX12_open_48 : decode cX12_open 48 = .ok (.iconst 0, 1) := by decide +kernel
theorem dX12_open_49 : decode cX12_open 49 = .ok (.ireturn, 1) := by decide +kernel
theorem dX12_open_50 : decode cX12_open 50 = .ok (.aload_n 0, 1) := by decide +kernel
theorem dX12_open_51 : decode cX12_open 51 = .ok (.getfield 105, 3) := by decide +kernel
theorem dX12_open_54 : decode cX12_open 54 = .ok (.aload_n 0, 1) := by decide +kernel
theorem dX12_open_55 : decode cX12_open 55 = .ok (.getfield 334, 3) := by decide +kernel
theorem dX12_open_58 : decode cX12_open 58 = .ok (.iload_n 1, 1) := by decide +kernel
theorem dX12_open_59 : decode cX12_open 59 = .ok (.iastore, 1) := by decide +kernel
theorem dX12_open_60 : decode cX12_open 60 = .ok (.aload_n 0, 1) := by decide +kernel
theorem dX12_open_61 : decode cX12_open 61 = .ok (.getfield 108, 3) := by decide +kernel
theorem dX12_open_64 : decode cX12_open 64 = .ok (.aload_n 0, 1) := by decide +kernel
theorem dX12_open_65 : decode cX12_open 65 = .ok (.getfield 334, 3) := by decide +kernel
theorem dX12_open_68 : decode cX12_open 68 = .ok (.iload_n 2, 1) := by decide +kernel
theorem dX12_open_69 : decode cX12_open 69 = .ok (.iastore, 1) := by decide +kernel
theorem dX12_open_70 : decode cX12_open 70 = .ok (.aload_n 0, 1) := by decide +kernel
theorem dX12_open_71 : decode cX12_open 71 = .ok (.getfield 114, 3) := by decide +kernel
theorem dX12_open_74 : decode cX12_open 74 = .ok (.aload_n 0, 1) := by decide +kernel
theorem dX12_open_75 : decode cX12_open 75 = .ok (.getfield 334, 3) := by decide +kernel
theorem dX12_open_78 : decode cX12_open 78 = .ok (.iload_n 3, 1) := by decide +kernel
theorem dX12_open_79 : decode cX12_open 79 = .ok (.bastore, 1) := by decide +kernel
theorem dX12_open_80 : decode cX12_open 80 = .ok (.aload_n 0, 1) := by decide +kernel
theorem dX12_open_81 : decode cX12_open 81 = .ok (.dup, 1) := by decide +kernel
theorem dX12_open_82 : decode cX12_open 82 = .ok (.getfield 334, 3) := by decide +kernel
theorem dX12_open_85 : decode cX12_open 85 = .ok (.iconst 1, 1) := by decide +kernel
theorem dX12_open_86 : decode cX12_open 86 = .ok (.iadd, 1) := by decide +kernel
theorem dX12_open_87 : decode cX12_open 87 = .ok (.putfield 334, 3) := by decide +kernel
theorem dX12_open_90 : decode cX12_open 90 = .ok (.aload_n 0, 1) := by decide +kernel
theorem dX12_open_91 : decode cX12_open 91 = .ok (.getfield 334, 3) := by decide +kernel
theorem dX12_open_94 : decode cX12_open 94 = .ok (.iconst 1, 1) := by decide +kernel
theorem dX12_open_95 : decode cX12_open 95 = .ok (.isub, 1) := by decide +kernel
theorem dX12_open_96 : decode cX12_open 96 = .ok (.ireturn, 1) := by decide +kernel
theorem dX12_line_0 : decode cX12_line 0 = .ok (.aload_n 0, 1) := by decide +kernel
theorem dX12_line_1 : decode cX12_line 1 = .ok (.aload_n 0, 1) := by decide +kernel
theorem dX12_line_2 : decode cX12_line 2 = .ok (.iload_n 1, 1) := by decide +kernel
theorem dX12_line_3 : decode cX12_line 3 = .ok (.invokevirtual 337, 3) := by decide +kernel
theorem dX12_line_6 : decode cX12_line 6 = .ok (.ifCond .eq 10, 3) := by decide +kernel
theorem dX12_line_9 : decode cX12_line 9 = .ok (.iload_n 2, 1) := by decide +kernel
theorem dX12_line_10 : decode cX12_line 10 = .ok (.invokestatic 308, 3) := by decide +kernel
theorem dX12_line_13 : decode cX12_line 13 = .ok (.ifCond .ne 7, 3) := by decide +kernel
theorem dX12_line_16 : decode cX12_line 16 = .ok (.iconst 1, 1) := by decide +kernel
theorem dX12_line_17 : decode cX12_line 17 = .ok (.goto 61, 3) := by decide +kernel
theorem dX12_line_20 : decode cX12_line 20 = .ok (.iload_n 3, 1) := by decide +kernel
theorem dX12_line_21 : decode cX12_line 21 = .ok (.i2l, 1) := by decide +kernel
theorem dX12_line_22 : decode cX12_line 22 = .ok (.lconst 1, 1) := by decide +kernel
theorem dX12_line_23 : decode cX12_line 23 = .ok (.ldc2_w 327, 3) := by decide +kernel
theorem dX12_line_26 : decode cX12_line 26 = .ok (.invokestatic 183, 3) := by decide +kernel
theorem dX12_line_29 : decode cX12_line 29 = .ok (.ifCond .eq 16, 3) := by decide +kernel
theorem dX12_line_32 : decode cX12_line 32 = .ok (.iload 4, 2) := by decide +kernel
theorem dX12_line_34 : decode cX12_line 34 = .ok (.i2l, 1) := by decide +kernel
theorem dX12_line_35 : decode cX12_line 35 = .ok (.lconst 0, 1) := by decide +kernel
theorem dX12_line_36 : decode cX12_line 36 = .ok (.ldc2_w 340, 3) := by decide +kernel
theorem dX12_line_39 : decode cX12_line 39 = .ok (.invokestatic 183, 3) := by decide +kernel
theorem dX12_line_42 : decode cX12_line 42 = .ok (.ifCond .ne 7, 3) := by decide +kernel
theorem dX12_line_45 : decode cX12_line 45 = .ok (.iconst 2, 1) := by decide +kernel
theorem dX12_line_46 : decode cX12_line 46 = .ok (.goto 32, 3) := by decide +kernel
theorem dX12_line_49 : decode cX12_line 49 = .ok (.aload_n 0, 1) := by decide +kernel
theorem dX12_line_50 : decode cX12_line 50 = .ok (.getfield 117, 3) := by decide +kernel
theorem dX12_line_53 : decode cX12_line 53 = .ok (.iload_n 1, 1) := by decide +kernel
theorem dX12_line_54 : decode cX12_line 54 = .ok (.baload, 1) := by decide +kernel
theorem dX12_line_55 : decode cX12_line 55 = .ok (.ifCond .eq 7, 3) := by decide +kernel
theorem dX12_line_58 : decode cX12_line 58 = .ok (.iconst 3, 1) := by decide +kernel
theorem dX12_line_59 : decode cX12_line 59 = .ok (.goto 19, 3) := by decide +kernel
theorem dX12_line_62 : decode cX12_line 62 = .ok (.aload_n 0, 1) := by decide +kernel
theorem dX12_line_63 : decode cX12_line 63 = .ok (.getfield 111, 3) := by decide +kernel
theorem dX12_line_66 : decode cX12_line 66 = .ok (.iload_n 1, 1) := by decide +kernel
theorem dX12_line_67 : decode cX12_line 67 = .ok (.iaload, 1) := by decide +kernel
theorem dX12_line_68 : decode cX12_line 68 = .ok (.bipush 12, 2) := by decide +kernel
theorem dX12_line_70 : decode cX12_line 70 = .ok (.if_icmp .ne 7, 3) := by decide +kernel
theorem dX12_line_73 : decode cX12_line 73 = .ok (.iconst 4, 1) := by decide +kernel
theorem dX12_line_74 : decode cX12_line 74 = .ok (.goto 4, 3) := by decide +kernel
theorem dX12_line_77 : decode cX12_line 77 = .ok (.iconst 0, 1) := by decide +kernel
theorem dX12_line_78 : decode cX12_line 78 = .ok (.invokevirtual 206, 3) := by decide +kernel
theorem dX12_line_81 : decode cX12_line 81 = .ok (.ifCond .eq 5, 3) := by decide +kernel
theorem dX12_line_84 : decode cX12_line 84 = .ok (.iconst 0, 1) := by decide +kernel
theorem dX12_line_85 : decode cX12_line 85 = .ok (.ireturn, 1) := by decide +kernel
theorem dX12_line_86 : decode cX12_line 86 = .ok (.bipush 12, 2) := by decide +kernel
theorem dX12_line_88 : decode cX12_line 88 = .ok (.iload_n 1, 1) := by decide +kernel
theorem dX12_line_89 : decode cX12_line 89 = .ok (.imul, 1) := by decide +kernel
theorem dX12_line_90 : decode cX12_line 90 = .ok (.aload_n 0, 1) := by decide +kernel
theorem dX12_line_91 : decode cX12_line 91 = .ok (.getfield 111, 3) := by decide +kernel
theorem dX12_line_94 : decode cX12_line 94 = .ok (.iload_n 1, 1) := by decide +kernel
theorem dX12_line_95 : decode cX12_line 95 = .ok (.iaload, 1) := by decide +kernel
theorem dX12_line_96 : decode cX12_line 96 = .ok (.iadd, 1) := by decide +kernel
theorem dX12_line_97 : decode cX12_line 97 = .ok (.istore 5, 2) := by decide +kernel
theorem dX12_line_99 : decode cX12_line 99 = .ok (.aload_n 0, 1) := by decide +kernel
theorem dX12_line_100 : decode cX12_line 100 = .ok (.getfield 120, 3) := by decide +kernel
theorem dX12_line_103 : decode cX12_line 103 = .ok (.iload 5, 2) := by decide +kernel
theorem dX12_line_105 : decode cX12_line 105 = .ok (.iload 4, 2) := by decide +kernel
theorem dX12_line_107 : decode cX12_line 107 = .ok (.i2l, 1) := by decide +kernel
theorem dX12_line_108 : decode cX12_line 108 = .ok (.iload_n 3, 1) := by decide +kernel
theorem dX12_line_109 : decode cX12_line 109 = .ok (.i2l, 1) := by decide +kernel
theorem dX12_line_110 : decode cX12_line 110 = .ok (.lmul, 1) := by decide +kernel
theorem dX12_line_111 : decode cX12_line 111 = .ok (.sipush 1000, 3) := by decide +kernel
theorem dX12_line_114 : decode cX12_line 114 = .ok (.aload_n 0, 1) := by decide +kernel
theorem dX12_line_115 : decode cX12_line 115 = .ok (.getfield 93, 3) := by decide +kernel
theorem dX12_line_118 : decode cX12_line 118 = .ok (.aload_n 0, 1) := by decide +kernel
theorem dX12_line_119 : decode cX12_line 119 = .ok (.getfield 96, 3) := by decide +kernel
theorem dX12_line_122 : decode cX12_line 122 = .ok (.aload_n 0, 1) := by decide +kernel
theorem dX12_line_123 : decode cX12_line 123 = .ok (.getfield 331, 3) := by decide +kernel
theorem dX12_line_126 : decode cX12_line 126 = .ok (.iload_n 2, 1) := by decide +kernel
theorem dX12_line_127 : decode cX12_line 127 = .ok (.iload_n 3, 1) := by decide +kernel
theorem dX12_line_128 : decode cX12_line 128 = .ok (.invokestatic 320, 3) := by decide +kernel
theorem dX12_line_131 : decode cX12_line 131 = .ok (.isub, 1) := by decide +kernel
theorem dX12_line_132 : decode cX12_line 132 = .ok (.i2l, 1) := by decide +kernel
theorem dX12_line_133 : decode cX12_line 133 = .ok (.lmul, 1) := by decide +kernel
theorem dX12_line_134 : decode cX12_line 134 = .ok (.lastore, 1) := by decide +kernel
theorem dX12_line_135 : decode cX12_line 135 = .ok (.aload_n 0, 1) := by decide +kernel
theorem dX12_line_136 : decode cX12_line 136 = .ok (.getfield 123, 3) := by decide +kernel
theorem dX12_line_139 : decode cX12_line 139 = .ok (.iload 5, 2) := by decide +kernel
theorem dX12_line_141 : decode cX12_line 141 = .ok (.aload_n 0, 1) := by decide +kernel
theorem dX12_line_142 : decode cX12_line 142 = .ok (.iload_n 2, 1) := by decide +kernel
theorem dX12_line_143 : decode cX12_line 143 = .ok (.aload_n 0, 1) := by decide +kernel
theorem dX12_line_144 : decode cX12_line 144 = .ok (.getfield 105, 3) := by decide +kernel
theorem dX12_line_147 : decode cX12_line 147 = .ok (.iload_n 1, 1) := by decide +kernel
theorem dX12_line_148 : decode cX12_line 148 = .ok (.iaload, 1) := by decide +kernel
theorem dX12_line_149 : decode cX12_line 149 = .ok (.invokevirtual 324, 3) := by decide +kernel
theorem dX12_line_152 : decode cX12_line 152 = .ok (.iastore, 1) := by decide +kernel
theorem dX12_line_153 : decode cX12_line 153 = .ok (.aload_n 0, 1) := by decide +kernel
theorem dX12_line_154 : decode cX12_line 154 = .ok (.getfield 111, 3) := by decide +kernel
theorem dX12_line_157 : decode cX12_line 157 = .ok (.iload_n 1, 1) := by decide +kernel
theorem dX12_line_158 : decode cX12_line 158 = .ok (.dup2, 1) := by decide +kernel
theorem dX12_line_159 : decode cX12_line 159 = .ok (.iaload, 1) := by decide +kernel
theorem dX12_line_160 : decode cX12_line 160 = .ok (.iconst 1, 1) := by decide +kernel
theorem dX12_line_161 : decode cX12_line 161 = .ok (.iadd, 1) := by decide +kernel
theorem dX12_line_162 : decode cX12_line 162 = .ok (.iastore, 1) := by decide +kernel
theorem dX12_line_163 : decode cX12_line 163 = .ok (.aload_n 0, 1) := by decide +kernel
theorem dX12_line_164 : decode cX12_line 164 = .ok (.getfield 111, 3) := by decide +kernel
theorem dX12_line_167 : decode cX12_line 167 = .ok (.iload_n 1, 1) := by decide +kernel
theorem dX12_line_168 : decode cX12_line 168 = .ok (.iaload, 1) := by decide +kernel
theorem dX12_line_169 : decode cX12_line 169 = .ok (.iconst 1, 1) := by decide +kernel
theorem dX12_line_170 : decode cX12_line 170 = .ok (.isub, 1) := by decide +kernel
theorem dX12_line_171 : decode cX12_line 171 = .ok (.ireturn, 1) := by decide +kernel
theorem dX12_part_0 : decode cX12_part 0 = .ok (.aload_n 0, 1) := by decide +kernel
theorem dX12_part_1 : decode cX12_part 1 = .ok (.iconst 0, 1) := by decide +kernel
theorem dX12_part_2 : decode cX12_part 2 = .ok (.lload_n 1, 1) := by decide +kernel
theorem dX12_part_3 : decode cX12_part 3 = .ok (.invokevirtual 33, 3) := by decide +kernel
theorem dX12_part_6 : decode cX12_part 6 = .ok (.aload_n 0, 1) := by decide +kernel
theorem dX12_part_7 : decode cX12_part 7 = .ok (.iconst 5, 1) := by decide +kernel
theorem dX12_part_8 : decode cX12_part 8 = .ok (.iload_n 3, 1) := by decide +kernel
theorem dX12_part_9 : decode cX12_part 9 = .ok (.i2l, 1) := by decide +kernel
theorem dX12_part_10 : decode cX12_part 10 = .ok (.invokevirtual 33, 3) := by decide +kernel
theorem dX12_part_13 : decode cX12_part 13 = .ok (.aload_n 0, 1) := by decide +kernel
theorem dX12_part_14 : decode cX12_part 14 = .ok (.iconst 0, 1) := by decide +kernel
theorem dX12_part_15 : decode cX12_part 15 = .ok (.iconst 5, 1) := by decide +kernel
theorem dX12_part_16 : decode cX12_part 16 = .ok (.invokevirtual 242, 3) := by decide +kernel
theorem dX12_part_19 : decode cX12_part 19 = .ok (.aload_n 0, 1) := by decide +kernel
theorem dX12_part_20 : decode cX12_part 20 = .ok (.iconst 1, 1) := by decide +kernel
theorem dX12_part_21 : decode cX12_part 21 = .ok (.lload 4, 2) := by decide +kernel
theorem dX12_part_23 : decode cX12_part 23 = .ok (.invokevirtual 33, 3) := by decide +kernel
theorem dX12_part_26 : decode cX12_part 26 = .ok (.aload_n 0, 1) := by decide +kernel
theorem dX12_part_27 : decode cX12_part 27 = .ok (.iconst 0, 1) := by decide +kernel
theorem dX12_part_28 : decode cX12_part 28 = .ok (.aload_n 0, 1) := by decide +kernel
theorem dX12_part_29 : decode cX12_part 29 = .ok (.getfield 77, 3) := by decide +kernel
theorem dX12_part_32 : decode cX12_part 32 = .ok (.aload_n 0, 1) := by decide +kernel
theorem dX12_part_33 : decode cX12_part 33 = .ok (.getfield 108, 3) := by decide +kernel
theorem dX12_part_36 : decode cX12_part 36 = .ok (.iload 6, 2) := by decide +kernel
theorem dX12_part_38 : decode cX12_part 38 = .ok (.iaload, 1) := by decide +kernel
theorem dX12_part_39 : decode cX12_part 39 = .ok (.caload, 1) := by decide +kernel
theorem dX12_part_40 : decode cX12_part 40 = .ok (.invokevirtual 267, 3) := by decide +kernel
theorem dX12_part_43 : decode cX12_part 43 = .ok (.aload_n 0, 1) := by decide +kernel
theorem dX12_part_44 : decode cX12_part 44 = .ok (.iconst 2, 1) := by decide +kernel
theorem dX12_part_45 : decode cX12_part 45 = .ok (.invokevirtual 195, 3) := by decide +kernel
theorem dX12_part_48 : decode cX12_part 48 = .ok (.lreturn, 1) := by decide +kernel
theorem dX12_roundedNet_0 : decode cX12_roundedNet 0 = .ok (.aload_n 0, 1) := by decide +kernel
theorem dX12_roundedNet_1 : decode cX12_roundedNet 1 = .ok (.lload_n 1, 1) := by decide +kernel
theorem dX12_roundedNet_2 : decode cX12_roundedNet 2 = .ok (.iconst 1, 1) := by decide +kernel
theorem dX12_roundedNet_3 : decode cX12_roundedNet 3 = .ok (.ldc2_w 342, 3) := by decide +kernel
theorem dX12_roundedNet_6 : decode cX12_roundedNet 6 = .ok (.iload_n 3, 1) := by decide +kernel
theorem dX12_roundedNet_7 : decode cX12_roundedNet 7 = .ok (.invokevirtual 344, 3) := by decide +kernel
theorem dX12_roundedNet_10 : decode cX12_roundedNet 10 = .ok (.lreturn, 1) := by decide +kernel
theorem dX12_netOf_0 : decode cX12_netOf 0 = .ok (.lconst 0, 1) := by decide +kernel
theorem dX12_netOf_1 : decode cX12_netOf 1 = .ok (.lstore_n 2, 1) := by decide +kernel
theorem dX12_netOf_2 : decode cX12_netOf 2 = .ok (.lconst 0, 1) := by decide +kernel
theorem dX12_netOf_3 : decode cX12_netOf 3 = .ok (.lstore 4, 2) := by decide +kernel
theorem dX12_netOf_5 : decode cX12_netOf 5 = .ok (.iconst 0, 1) := by decide +kernel
theorem dX12_netOf_6 : decode cX12_netOf 6 = .ok (.istore 6, 2) := by decide +kernel
theorem dX12_netOf_8 : decode cX12_netOf 8 = .ok (.iload 6, 2) := by decide +kernel
theorem dX12_netOf_10 : decode cX12_netOf 10 = .ok (.aload_n 0, 1) := by decide +kernel
theorem dX12_netOf_11 : decode cX12_netOf 11 = .ok (.getfield 111, 3) := by decide +kernel
theorem dX12_netOf_14 : decode cX12_netOf 14 = .ok (.iload_n 1, 1) := by decide +kernel
theorem dX12_netOf_15 : decode cX12_netOf 15 = .ok (.iaload, 1) := by decide +kernel
theorem dX12_netOf_16 : decode cX12_netOf 16 = .ok (.if_icmp .ge 59, 3) := by decide +kernel
theorem dX12_netOf_19 : decode cX12_netOf 19 = .ok (.lload 4, 2) := by decide +kernel
theorem dX12_netOf_21 : decode cX12_netOf 21 = .ok (.aload_n 0, 1) := by decide +kernel
theorem dX12_netOf_22 : decode cX12_netOf 22 = .ok (.getfield 120, 3) := by decide +kernel
theorem dX12_netOf_25 : decode cX12_netOf 25 = .ok (.bipush 12, 2) := by decide +kernel
theorem dX12_netOf_27 : decode cX12_netOf 27 = .ok (.iload_n 1, 1) := by decide +kernel
theorem dX12_netOf_28 : decode cX12_netOf 28 = .ok (.imul, 1) := by decide +kernel
theorem dX12_netOf_29 : decode cX12_netOf 29 = .ok (.iload 6, 2) := by decide +kernel
theorem dX12_netOf_31 : decode cX12_netOf 31 = .ok (.iadd, 1) := by decide +kernel
theorem dX12_netOf_32 : decode cX12_netOf 32 = .ok (.laload, 1) := by decide +kernel
theorem dX12_netOf_33 : decode cX12_netOf 33 = .ok (.ladd, 1) := by decide +kernel
theorem dX12_netOf_34 : decode cX12_netOf 34 = .ok (.lstore 4, 2) := by decide +kernel
theorem dX12_netOf_36 : decode cX12_netOf 36 = .ok (.lload_n 2, 1) := by decide +kernel
theorem dX12_netOf_37 : decode cX12_netOf 37 = .ok (.aload_n 0, 1) := by decide +kernel
theorem dX12_netOf_38 : decode cX12_netOf 38 = .ok (.getfield 114, 3) := by decide +kernel
theorem dX12_netOf_41 : decode cX12_netOf 41 = .ok (.iload_n 1, 1) := by decide +kernel
theorem dX12_netOf_42 : decode cX12_netOf 42 = .ok (.baload, 1) := by decide +kernel
theorem dX12_netOf_43 : decode cX12_netOf 43 = .ok (.ifCond .eq 23, 3) := by decide +kernel
theorem dX12_netOf_46 : decode cX12_netOf 46 = .ok (.aload_n 0, 1) := by decide +kernel
theorem dX12_netOf_47 : decode cX12_netOf 47 = .ok (.aload_n 0, 1) := by decide +kernel
theorem dX12_netOf_48 : decode cX12_netOf 48 = .ok (.getfield 120, 3) := by decide +kernel
theorem dX12_netOf_51 : decode cX12_netOf 51 = .ok (.bipush 12, 2) := by decide +kernel
theorem dX12_netOf_53 : decode cX12_netOf 53 = .ok (.iload_n 1, 1) := by decide +kernel
theorem dX12_netOf_54 : decode cX12_netOf 54 = .ok (.imul, 1) := by decide +kernel
theorem dX12_netOf_55 : decode cX12_netOf 55 = .ok (.iload 6, 2) := by decide +kernel
theorem dX12_netOf_57 : decode cX12_netOf 57 = .ok (.iadd, 1) := by decide +kernel
theorem dX12_netOf_58 : decode cX12_netOf 58 = .ok (.laload, 1) := by decide +kernel
theorem dX12_netOf_59 : decode cX12_netOf 59 = .ok (.iload_n 1, 1) := by decide +kernel
theorem dX12_netOf_60 : decode cX12_netOf 60 = .ok (.invokevirtual 348, 3) := by decide +kernel
theorem dX12_netOf_63 : decode cX12_netOf 63 = .ok (.goto 4, 3) := by decide +kernel
theorem dX12_netOf_66 : decode cX12_netOf 66 = .ok (.lconst 0, 1) := by decide +kernel
theorem dX12_netOf_67 : decode cX12_netOf 67 = .ok (.ladd, 1) := by decide +kernel
theorem dX12_netOf_68 : decode cX12_netOf 68 = .ok (.lstore_n 2, 1) := by decide +kernel
theorem dX12_netOf_69 : decode cX12_netOf 69 = .ok (.iinc 6 1, 3) := by decide +kernel
theorem dX12_netOf_72 : decode cX12_netOf 72 = .ok (.goto (-64), 3) := by decide +kernel
theorem dX12_netOf_75 : decode cX12_netOf 75 = .ok (.aload_n 0, 1) := by decide +kernel
theorem dX12_netOf_76 : decode cX12_netOf 76 = .ok (.getfield 114, 3) := by decide +kernel
theorem dX12_netOf_79 : decode cX12_netOf 79 = .ok (.iload_n 1, 1) := by decide +kernel
theorem dX12_netOf_80 : decode cX12_netOf 80 = .ok (.baload, 1) := by decide +kernel
theorem dX12_netOf_81 : decode cX12_netOf 81 = .ok (.ifCond .eq 7, 3) := by decide +kernel
theorem dX12_netOf_84 : decode cX12_netOf 84 = .ok (.lload_n 2, 1) := by decide +kernel
theorem dX12_netOf_85 : decode cX12_netOf 85 = .ok (.goto 10, 3) := by decide +kernel
theorem dX12_netOf_88 : decode cX12_netOf 88 = .ok (.aload_n 0, 1) := by decide +kernel
theorem dX12_netOf_89 : decode cX12_netOf 89 = .ok (.lload 4, 2) := by decide +kernel
theorem dX12_netOf_91 : decode cX12_netOf 91 = .ok (.iload_n 1, 1) := by decide +kernel
theorem dX12_netOf_92 : decode cX12_netOf 92 = .ok (.invokevirtual 348, 3) := by decide +kernel
theorem dX12_netOf_95 : decode cX12_netOf 95 = .ok (.lreturn, 1) := by decide +kernel
theorem dX12_taxesOf_0 : decode cX12_taxesOf 0 = .ok (.lconst 0, 1) := by decide +kernel
theorem dX12_taxesOf_1 : decode cX12_taxesOf 1 = .ok (.lstore_n 2, 1) := by decide +kernel
theorem dX12_taxesOf_2 : decode cX12_taxesOf 2 = .ok (.iconst 0, 1) := by decide +kernel
theorem dX12_taxesOf_3 : decode cX12_taxesOf 3 = .ok (.istore 4, 2) := by decide +kernel
theorem dX12_taxesOf_5 : decode cX12_taxesOf 5 = .ok (.iload 4, 2) := by decide +kernel
theorem dX12_taxesOf_7 : decode cX12_taxesOf 7 = .ok (.aload_n 0, 1) := by decide +kernel
theorem dX12_taxesOf_8 : decode cX12_taxesOf 8 = .ok (.getfield 111, 3) := by decide +kernel
theorem dX12_taxesOf_11 : decode cX12_taxesOf 11 = .ok (.iload_n 1, 1) := by decide +kernel
theorem dX12_taxesOf_12 : decode cX12_taxesOf 12 = .ok (.iaload, 1) := by decide +kernel
theorem dX12_taxesOf_13 : decode cX12_taxesOf 13 = .ok (.if_icmp .ge 174, 3) := by decide +kernel
theorem dX12_taxesOf_16 : decode cX12_taxesOf 16 = .ok (.aload_n 0, 1) := by decide +kernel
theorem dX12_taxesOf_17 : decode cX12_taxesOf 17 = .ok (.getfield 123, 3) := by decide +kernel
theorem dX12_taxesOf_20 : decode cX12_taxesOf 20 = .ok (.bipush 12, 2) := by decide +kernel
theorem dX12_taxesOf_22 : decode cX12_taxesOf 22 = .ok (.iload_n 1, 1) := by decide +kernel
theorem dX12_taxesOf_23 : decode cX12_taxesOf 23 = .ok (.imul, 1) := by decide +kernel
theorem dX12_taxesOf_24 : decode cX12_taxesOf 24 = .ok (.iload 4, 2) := by decide +kernel
theorem dX12_taxesOf_26 : decode cX12_taxesOf 26 = .ok (.iadd, 1) := by decide +kernel
theorem dX12_taxesOf_27 : decode cX12_taxesOf 27 = .ok (.iaload, 1) := by decide +kernel
theorem dX12_taxesOf_28 : decode cX12_taxesOf 28 = .ok (.istore 5, 2) := by decide +kernel
theorem dX12_taxesOf_30 : decode cX12_taxesOf 30 = .ok (.aload_n 0, 1) := by decide +kernel
theorem dX12_taxesOf_31 : decode cX12_taxesOf 31 = .ok (.getfield 114, 3) := by decide +kernel
theorem dX12_taxesOf_34 : decode cX12_taxesOf 34 = .ok (.iload_n 1, 1) := by decide +kernel
theorem dX12_taxesOf_35 : decode cX12_taxesOf 35 = .ok (.baload, 1) := by decide +kernel
theorem dX12_taxesOf_36 : decode cX12_taxesOf 36 = .ok (.ifCond .eq 36, 3) := by decide +kernel
theorem dX12_taxesOf_39 : decode cX12_taxesOf 39 = .ok (.lload_n 2, 1) := by decide +kernel
theorem dX12_taxesOf_40 : decode cX12_taxesOf 40 = .ok (.aload_n 0, 1) := by decide +kernel
theorem dX12_taxesOf_41 : decode cX12_taxesOf 41 = .ok (.aload_n 0, 1) := by decide +kernel
theorem dX12_taxesOf_42 : decode cX12_taxesOf 42 = .ok (.aload_n 0, 1) := by decide +kernel
theorem dX12_taxesOf_43 : decode cX12_taxesOf 43 = .ok (.getfield 120, 3) := by decide +kernel
theorem dX12_taxesOf_46 : decode cX12_taxesOf 46 = .ok (.bipush 12, 2) := by decide +kernel
theorem dX12_taxesOf_48 : decode cX12_taxesOf 48 = .ok (.iload_n 1, 1) := by decide +kernel
theorem dX12_taxesOf_49 : decode cX12_taxesOf 49 = .ok (.imul, 1) := by decide +kernel
theorem dX12_taxesOf_50 : decode cX12_taxesOf 50 = .ok (.iload 4, 2) := by decide +kernel
theorem dX12_taxesOf_52 : decode cX12_taxesOf 52 = .ok (.iadd, 1) := by decide +kernel
theorem dX12_taxesOf_53 : decode cX12_taxesOf 53 = .ok (.laload, 1) := by decide +kernel
theorem dX12_taxesOf_54 : decode cX12_taxesOf 54 = .ok (.iload_n 1, 1) := by decide +kernel
theorem dX12_taxesOf_55 : decode cX12_taxesOf 55 = .ok (.invokevirtual 348, 3) := by decide +kernel
theorem dX12_taxesOf_58 : decode cX12_taxesOf 58 = .ok (.iload 5, 2) := by decide +kernel
theorem dX12_taxesOf_60 : decode cX12_taxesOf 60 = .ok (.ldc2_w 352, 3) := by decide +kernel
theorem dX12_taxesOf_63 : decode cX12_taxesOf 63 = .ok (.iload_n 1, 1) := by decide +kernel
theorem dX12_taxesOf_64 : decode cX12_taxesOf 64 = .ok (.invokevirtual 344, 3) := by decide +kernel
theorem dX12_taxesOf_67 : decode cX12_taxesOf 67 = .ok (.ladd, 1) := by decide +kernel
theorem dX12_taxesOf_68 : decode cX12_taxesOf 68 = .ok (.lstore_n 2, 1) := by decide +kernel
theorem dX12_taxesOf_69 : decode cX12_taxesOf 69 = .ok (.goto 112, 3) := by decide +kernel
theorem dX12_taxesOf_72 : decode cX12_taxesOf 72 = .ok (.iload 5, 2) := by decide +kernel
theorem dX12_taxesOf_74 : decode cX12_taxesOf 74 = .ok (.ifCond .le 7, 3) := by decide +kernel
theorem dX12_taxesOf_77 : decode cX12_taxesOf 77 = .ok (.iconst 1, 1) := by decide +kernel
theorem dX12_taxesOf_78 : decode cX12_taxesOf 78 = .ok (.goto 4, 3) := by decide +kernel
theorem dX12_taxesOf_81 : decode cX12_taxesOf 81 = .ok (.iconst 0, 1) := by decide +kernel
theorem dX12_taxesOf_82 : decode cX12_taxesOf 82 = .ok (.istore 6, 2) := by decide +kernel
theorem dX12_taxesOf_84 : decode cX12_taxesOf 84 = .ok (.lconst 0, 1) := by decide +kernel
theorem dX12_taxesOf_85 : decode cX12_taxesOf 85 = .ok (.lstore 7, 2) := by decide +kernel
theorem dX12_taxesOf_87 : decode cX12_taxesOf 87 = .ok (.iconst 0, 1) := by decide +kernel
theorem dX12_taxesOf_88 : decode cX12_taxesOf 88 = .ok (.istore 9, 2) := by decide +kernel
theorem dX12_taxesOf_90 : decode cX12_taxesOf 90 = .ok (.iload 9, 2) := by decide +kernel
theorem dX12_taxesOf_92 : decode cX12_taxesOf 92 = .ok (.aload_n 0, 1) := by decide +kernel
theorem dX12_taxesOf_93 : decode cX12_taxesOf 93 = .ok (.getfield 111, 3) := by decide +kernel
theorem dX12_taxesOf_96 : decode cX12_taxesOf 96 = .ok (.iload_n 1, 1) := by decide +kernel
theorem dX12_taxesOf_97 : decode cX12_taxesOf 97 = .ok (.iaload, 1) := by decide +kernel
theorem dX12_taxesOf_98 : decode cX12_taxesOf 98 = .ok (.if_icmp .ge 63, 3) := by decide +kernel
theorem dX12_taxesOf_101 : decode cX12_taxesOf 101 = .ok (.aload_n 0, 1) := by decide +kernel
theorem dX12_taxesOf_102 : decode cX12_taxesOf 102 = .ok (.getfield 123, 3) := by decide +kernel
theorem dX12_taxesOf_105 : decode cX12_taxesOf 105 = .ok (.bipush 12, 2) := by decide +kernel
theorem dX12_taxesOf_107 : decode cX12_taxesOf 107 = .ok (.iload_n 1, 1) := by decide +kernel
theorem dX12_taxesOf_108 : decode cX12_taxesOf 108 = .ok (.imul, 1) := by decide +kernel
theorem dX12_taxesOf_109 : decode cX12_taxesOf 109 = .ok (.iload 9, 2) := by decide +kernel
theorem dX12_taxesOf_111 : decode cX12_taxesOf 111 = .ok (.iadd, 1) := by decide +kernel
theorem dX12_taxesOf_112 : decode cX12_taxesOf 112 = .ok (.iaload, 1) := by decide +kernel
theorem dX12_taxesOf_113 : decode cX12_taxesOf 113 = .ok (.iload 5, 2) := by decide +kernel
theorem dX12_taxesOf_115 : decode cX12_taxesOf 115 = .ok (.if_icmp .eq 6, 3) := by decide +kernel
theorem dX12_taxesOf_118 : decode cX12_taxesOf 118 = .ok (.goto 37, 3) := by decide +kernel
theorem dX12_taxesOf_121 : decode cX12_taxesOf 121 = .ok (.iload 6, 2) := by decide +kernel
theorem dX12_taxesOf_123 : decode cX12_taxesOf 123 = .ok (.iload 9, 2) := by decide +kernel
theorem dX12_taxesOf_125 : decode cX12_taxesOf 125 = .ok (.iload 4, 2) := by decide +kernel
theorem dX12_taxesOf_127 : decode cX12_taxesOf 127 = .ok (.if_icmp .lt 7, 3) := by decide +kernel
theorem dX12_taxesOf_130 : decode cX12_taxesOf 130 = .ok (.iconst 1, 1) := by decide +kernel
theorem dX12_taxesOf_131 : decode cX12_taxesOf 131 = .ok (.goto 4, 3) := by decide +kernel
theorem dX12_taxesOf_134 : decode cX12_taxesOf 134 = .ok (.iconst 0, 1) := by decide +kernel
theorem dX12_taxesOf_135 : decode cX12_taxesOf 135 = .ok (.iand, 1) := by decide +kernel
theorem dX12_taxesOf_136 : decode cX12_taxesOf 136 = .ok (.istore 6, 2) := by decide +kernel
theorem dX12_taxesOf_138 : decode cX12_taxesOf 138 = .ok (.lload 7, 2) := by decide +kernel
theorem dX12_taxesOf_140 : decode cX12_taxesOf 140 = .ok (.aload_n 0, 1) := by decide +kernel
theorem dX12_taxesOf_141 : decode cX12_taxesOf 141 = .ok (.getfield 120, 3) := by decide +kernel
theorem dX12_taxesOf_144 : decode cX12_taxesOf 144 = .ok (.bipush 12, 2) := by decide +kernel
theorem dX12_taxesOf_146 : decode cX12_taxesOf 146 = .ok (.iload_n 1, 1) := by decide +kernel
theorem dX12_taxesOf_147 : decode cX12_taxesOf 147 = .ok (.imul, 1) := by decide +kernel
theorem dX12_taxesOf_148 : decode cX12_taxesOf 148 = .ok (.iload 9, 2) := by decide +kernel
theorem dX12_taxesOf_150 : decode cX12_taxesOf 150 = .ok (.iadd, 1) := by decide +kernel
theorem dX12_taxesOf_151 : decode cX12_taxesOf 151 = .ok (.laload, 1) := by decide +kernel
theorem dX12_taxesOf_152 : decode cX12_taxesOf 152 = .ok (.ladd, 1) := by decide +kernel
theorem dX12_taxesOf_153 : decode cX12_taxesOf 153 = .ok (.lstore 7, 2) := by decide +kernel
theorem dX12_taxesOf_155 : decode cX12_taxesOf 155 = .ok (.iinc 9 1, 3) := by decide +kernel
theorem dX12_taxesOf_158 : decode cX12_taxesOf 158 = .ok (.goto (-68), 3) := by decide +kernel
theorem dX12_taxesOf_161 : decode cX12_taxesOf 161 = .ok (.iload 6, 2) := by decide +kernel
theorem dX12_taxesOf_163 : decode cX12_taxesOf 163 = .ok (.ifCond .eq 18, 3) := by decide +kernel
theorem dX12_taxesOf_166 : decode cX12_taxesOf 166 = .ok (.lload_n 2, 1) := by decide +kernel
theorem dX12_taxesOf_167 : decode cX12_taxesOf 167 = .ok (.aload_n 0, 1) := by decide +kernel
theorem dX12_taxesOf_168 : decode cX12_taxesOf 168 = .ok (.lload 7, 2) := by decide +kernel
theorem dX12_taxesOf_170 : decode cX12_taxesOf 170 = .ok (.iload 5, 2) := by decide +kernel
theorem dX12_taxesOf_172 : decode cX12_taxesOf 172 = .ok (.ldc2_w 354, 3) := by decide +kernel
theorem dX12_taxesOf_175 : decode cX12_taxesOf 175 = .ok (.iload_n 1, 1) := by decide +kernel
theorem dX12_taxesOf_176 : decode cX12_taxesOf 176 = .ok (.invokevirtual 344, 3) := by decide +kernel
theorem dX12_taxesOf_179 : decode cX12_taxesOf 179 = .ok (.ladd, 1) := by decide +kernel
theorem dX12_taxesOf_180 : decode cX12_taxesOf 180 = .ok (.lstore_n 2, 1) := by decide +kernel
theorem dX12_taxesOf_181 : decode cX12_taxesOf 181 = .ok (.iinc 4 1, 3) := by decide +kernel
theorem dX12_taxesOf_184 : decode cX12_taxesOf 184 = .ok (.goto (-179), 3) := by decide +kernel
theorem dX12_taxesOf_187 : decode cX12_taxesOf 187 = .ok (.lload_n 2, 1) := by decide +kernel
theorem dX12_taxesOf_188 : decode cX12_taxesOf 188 = .ok (.lreturn, 1) := by decide +kernel
theorem dX12_netOfLine_0 : decode cX12_netOfLine 0 = .ok (.aload_n 0, 1) := by decide +kernel
theorem dX12_netOfLine_1 : decode cX12_netOfLine 1 = .ok (.aload_n 0, 1) := by decide +kernel
theorem dX12_netOfLine_2 : decode cX12_netOfLine 2 = .ok (.iload_n 1, 1) := by decide +kernel
theorem dX12_netOfLine_3 : decode cX12_netOfLine 3 = .ok (.invokevirtual 337, 3) := by decide +kernel
theorem dX12_netOfLine_6 : decode cX12_netOfLine 6 = .ok (.ifCond .eq 21, 3) := by decide +kernel
theorem dX12_netOfLine_9 : decode cX12_netOfLine 9 = .ok (.iload_n 2, 1) := by decide +kernel
theorem dX12_netOfLine_10 : decode cX12_netOfLine 10 = .ok (.i2l, 1) := by decide +kernel
theorem dX12_netOfLine_11 : decode cX12_netOfLine 11 = .ok (.lconst 0, 1) := by decide +kernel
theorem dX12_netOfLine_12 : decode cX12_netOfLine 12 = .ok (.aload_n 0, 1) := by decide +kernel
theorem dX12_netOfLine_13 : decode cX12_netOfLine 13 = .ok (.getfield 111, 3) := by decide +kernel
theorem dX12_netOfLine_16 : decode cX12_netOfLine 16 = .ok (.iload_n 1, 1) := by decide +kernel
theorem dX12_netOfLine_17 : decode cX12_netOfLine 17 = .ok (.iaload, 1) := by decide +kernel
theorem dX12_netOfLine_18 : decode cX12_netOfLine 18 = .ok (.iconst 1, 1) := by decide +kernel
theorem dX12_netOfLine_19 : decode cX12_netOfLine 19 = .ok (.isub, 1) := by decide +kernel
theorem dX12_netOfLine_20 : decode cX12_netOfLine 20 = .ok (.i2l, 1) := by decide +kernel
theorem dX12_netOfLine_21 : decode cX12_netOfLine 21 = .ok (.invokestatic 183, 3) := by decide +kernel
theorem dX12_netOfLine_24 : decode cX12_netOfLine 24 = .ok (.ifCond .ne 7, 3) := by decide +kernel
theorem dX12_netOfLine_27 : decode cX12_netOfLine 27 = .ok (.iconst 1, 1) := by decide +kernel
theorem dX12_netOfLine_28 : decode cX12_netOfLine 28 = .ok (.goto 4, 3) := by decide +kernel
theorem dX12_netOfLine_31 : decode cX12_netOfLine 31 = .ok (.iconst 0, 1) := by decide +kernel
theorem dX12_netOfLine_32 : decode cX12_netOfLine 32 = .ok (.invokevirtual 206, 3) := by decide +kernel
theorem dX12_netOfLine_35 : decode cX12_netOfLine 35 = .ok (.ifCond .eq 5, 3) := by decide +kernel
theorem dX12_netOfLine_38 : decode cX12_netOfLine 38 = .ok (.lconst 0, 1) := by decide +kernel
theorem dX12_netOfLine_39 : decode cX12_netOfLine 39 = .ok (.lreturn, 1) := by decide +kernel
theorem dX12_netOfLine_40 : decode cX12_netOfLine 40 = .ok (.aload_n 0, 1) := by decide +kernel
theorem dX12_netOfLine_41 : decode cX12_netOfLine 41 = .ok (.iconst 0, 1) := by decide +kernel
theorem dX12_netOfLine_42 : decode cX12_netOfLine 42 = .ok (.putfield 47, 3) := by decide +kernel
theorem dX12_netOfLine_45 : decode cX12_netOfLine 45 = .ok (.aload_n 0, 1) := by decide +kernel
theorem dX12_netOfLine_46 : decode cX12_netOfLine 46 = .ok (.aload_n 0, 1) := by decide +kernel
theorem dX12_netOfLine_47 : decode cX12_netOfLine 47 = .ok (.getfield 120, 3) := by decide +kernel
theorem dX12_netOfLine_50 : decode cX12_netOfLine 50 = .ok (.bipush 12, 2) := by decide +kernel
theorem dX12_netOfLine_52 : decode cX12_netOfLine 52 = .ok (.iload_n 1, 1) := by decide +kernel
theorem dX12_netOfLine_53 : decode cX12_netOfLine 53 = .ok (.imul, 1) := by decide +kernel
theorem dX12_netOfLine_54 : decode cX12_netOfLine 54 = .ok (.iload_n 2, 1) := by decide +kernel
theorem dX12_netOfLine_55 : decode cX12_netOfLine 55 = .ok (.iadd, 1) := by decide +kernel
theorem dX12_netOfLine_56 : decode cX12_netOfLine 56 = .ok (.laload, 1) := by decide +kernel
theorem dX12_netOfLine_57 : decode cX12_netOfLine 57 = .ok (.iload_n 1, 1) := by decide +kernel
theorem dX12_netOfLine_58 : decode cX12_netOfLine 58 = .ok (.invokevirtual 348, 3) := by decide +kernel
theorem dX12_netOfLine_61 : decode cX12_netOfLine 61 = .ok (.lstore_n 3, 1) := by decide +kernel
theorem dX12_netOfLine_62 : decode cX12_netOfLine 62 = .ok (.aload_n 0, 1) := by decide +kernel
theorem dX12_netOfLine_63 : decode cX12_netOfLine 63 = .ok (.aload_n 0, 1) := by decide +kernel
theorem dX12_netOfLine_64 : decode cX12_netOfLine 64 = .ok (.getfield 47, 3) := by decide +kernel
theorem dX12_netOfLine_67 : decode cX12_netOfLine 67 = .ok (.ifCond .eq 7, 3) := by decide +kernel
theorem dX12_netOfLine_70 : decode cX12_netOfLine 70 = .ok (.iconst 2, 1) := by decide +kernel
theorem dX12_netOfLine_71 : decode cX12_netOfLine 71 = .ok (.goto 4, 3) := by decide +kernel
theorem dX12_netOfLine_74 : decode cX12_netOfLine 74 = .ok (.iconst 0, 1) := by decide +kernel
theorem dX12_netOfLine_75 : decode cX12_netOfLine 75 = .ok (.invokevirtual 206, 3) := by decide +kernel
theorem dX12_netOfLine_78 : decode cX12_netOfLine 78 = .ok (.ifCond .eq 7, 3) := by decide +kernel
theorem dX12_netOfLine_81 : decode cX12_netOfLine 81 = .ok (.lconst 0, 1) := by decide +kernel
theorem dX12_netOfLine_82 : decode cX12_netOfLine 82 = .ok (.goto 4, 3) := by decide +kernel
theorem dX12_netOfLine_85 : decode cX12_netOfLine 85 = .ok (.lload_n 3, 1) := by decide +kernel
theorem dX12_netOfLine_86 : decode cX12_netOfLine 86 = .ok (.lreturn, 1) := by decide +kernel
theorem dX12_net_0 : decode cX12_net 0 = .ok (.aload_n 0, 1) := by decide +kernel
theorem dX12_net_1 : decode cX12_net 1 = .ok (.aload_n 0, 1) := by decide +kernel
theorem dX12_net_2 : decode cX12_net 2 = .ok (.iload_n 1, 1) := by decide +kernel
theorem dX12_net_3 : decode cX12_net 3 = .ok (.invokevirtual 337, 3) := by decide +kernel
theorem dX12_net_6 : decode cX12_net 6 = .ok (.ifCond .eq 7, 3) := by decide +kernel
theorem dX12_net_9 : decode cX12_net 9 = .ok (.iconst 0, 1) := by decide +kernel
theorem dX12_net_10 : decode cX12_net 10 = .ok (.goto 4, 3) := by decide +kernel
theorem dX12_net_13 : decode cX12_net 13 = .ok (.iconst 1, 1) := by decide +kernel
theorem dX12_net_14 : decode cX12_net 14 = .ok (.invokevirtual 206, 3) := by decide +kernel
theorem dX12_net_17 : decode cX12_net 17 = .ok (.ifCond .eq 5, 3) := by decide +kernel
theorem dX12_net_20 : decode cX12_net 20 = .ok (.lconst 0, 1) := by decide +kernel
theorem dX12_net_21 : decode cX12_net 21 = .ok (.lreturn, 1) := by decide +kernel
theorem dX12_net_22 : decode cX12_net 22 = .ok (.aload_n 0, 1) := by decide +kernel
theorem dX12_net_23 : decode cX12_net 23 = .ok (.iconst 0, 1) := by decide +kernel
theorem dX12_net_24 : decode cX12_net 24 = .ok (.putfield 47, 3) := by decide +kernel
theorem dX12_net_27 : decode cX12_net 27 = .ok (.aload_n 0, 1) := by decide +kernel
theorem dX12_net_28 : decode cX12_net 28 = .ok (.iload_n 1, 1) := by decide +kernel
theorem dX12_net_29 : decode cX12_net 29 = .ok (.invokevirtual 356, 3) := by decide +kernel
theorem dX12_net_32 : decode cX12_net 32 = .ok (.lstore_n 2, 1) := by decide +kernel
theorem dX12_net_33 : decode cX12_net 33 = .ok (.aload_n 0, 1) := by decide +kernel
theorem dX12_net_34 : decode cX12_net 34 = .ok (.aload_n 0, 1) := by decide +kernel
theorem dX12_net_35 : decode cX12_net 35 = .ok (.getfield 47, 3) := by decide +kernel
theorem dX12_net_38 : decode cX12_net 38 = .ok (.ifCond .eq 7, 3) := by decide +kernel
theorem dX12_net_41 : decode cX12_net 41 = .ok (.iconst 2, 1) := by decide +kernel
theorem dX12_net_42 : decode cX12_net 42 = .ok (.goto 4, 3) := by decide +kernel
theorem dX12_net_45 : decode cX12_net 45 = .ok (.iconst 0, 1) := by decide +kernel
theorem dX12_net_46 : decode cX12_net 46 = .ok (.invokevirtual 206, 3) := by decide +kernel
theorem dX12_net_49 : decode cX12_net 49 = .ok (.ifCond .eq 7, 3) := by decide +kernel
theorem dX12_net_52 : decode cX12_net 52 = .ok (.lconst 0, 1) := by decide +kernel
theorem dX12_net_53 : decode cX12_net 53 = .ok (.goto 4, 3) := by decide +kernel
theorem dX12_net_56 : decode cX12_net 56 = .ok (.lload_n 2, 1) := by decide +kernel
theorem dX12_net_57 : decode cX12_net 57 = .ok (.lreturn, 1) := by decide +kernel
theorem dX12_taxOf_0 : decode cX12_taxOf 0 = .ok (.aload_n 0, 1) := by decide +kernel
theorem dX12_taxOf_1 : decode cX12_taxOf 1 = .ok (.aload_n 0, 1) := by decide +kernel
theorem dX12_taxOf_2 : decode cX12_taxOf 2 = .ok (.iload_n 1, 1) := by decide +kernel
theorem dX12_taxOf_3 : decode cX12_taxOf 3 = .ok (.invokevirtual 337, 3) := by decide +kernel
theorem dX12_taxOf_6 : decode cX12_taxOf 6 = .ok (.ifCond .eq 7, 3) := by decide +kernel
theorem dX12_taxOf_9 : decode cX12_taxOf 9 = .ok (.iconst 0, 1) := by decide +kernel
theorem dX12_taxOf_10 : decode cX12_taxOf 10 = .ok (.goto 4, 3) := by decide +kernel
theorem dX12_taxOf_13 : decode cX12_taxOf 13 = .ok (.iconst 1, 1) := by decide +kernel
theorem dX12_taxOf_14 : decode cX12_taxOf 14 = .ok (.invokevirtual 206, 3) := by decide +kernel
theorem dX12_taxOf_17 : decode cX12_taxOf 17 = .ok (.ifCond .eq 5, 3) := by decide +kernel
theorem dX12_taxOf_20 : decode cX12_taxOf 20 = .ok (.lconst 0, 1) := by decide +kernel
theorem dX12_taxOf_21 : decode cX12_taxOf 21 = .ok (.lreturn, 1) := by decide +kernel
theorem dX12_taxOf_22 : decode cX12_taxOf 22 = .ok (.aload_n 0, 1) := by decide +kernel
theorem dX12_taxOf_23 : decode cX12_taxOf 23 = .ok (.iconst 0, 1) := by decide +kernel
theorem dX12_taxOf_24 : decode cX12_taxOf 24 = .ok (.putfield 47, 3) := by decide +kernel
theorem dX12_taxOf_27 : decode cX12_taxOf 27 = .ok (.aload_n 0, 1) := by decide +kernel
theorem dX12_taxOf_28 : decode cX12_taxOf 28 = .ok (.iload_n 1, 1) := by decide +kernel
theorem dX12_taxOf_29 : decode cX12_taxOf 29 = .ok (.invokevirtual 359, 3) := by decide +kernel
theorem dX12_taxOf_32 : decode cX12_taxOf 32 = .ok (.lstore_n 2, 1) := by decide +kernel
theorem dX12_taxOf_33 : decode cX12_taxOf 33 = .ok (.aload_n 0, 1) := by decide +kernel
theorem dX12_taxOf_34 : decode cX12_taxOf 34 = .ok (.aload_n 0, 1) := by decide +kernel
theorem dX12_taxOf_35 : decode cX12_taxOf 35 = .ok (.getfield 47, 3) := by decide +kernel
theorem dX12_taxOf_38 : decode cX12_taxOf 38 = .ok (.ifCond .eq 7, 3) := by decide +kernel
theorem dX12_taxOf_41 : decode cX12_taxOf 41 = .ok (.iconst 2, 1) := by decide +kernel
theorem dX12_taxOf_42 : decode cX12_taxOf 42 = .ok (.goto 4, 3) := by decide +kernel
theorem dX12_taxOf_45 : decode cX12_taxOf 45 = .ok (.iconst 0, 1) := by decide +kernel
theorem dX12_taxOf_46 : decode cX12_taxOf 46 = .ok (.invokevirtual 206, 3) := by decide +kernel
theorem dX12_taxOf_49 : decode cX12_taxOf 49 = .ok (.ifCond .eq 7, 3) := by decide +kernel
theorem dX12_taxOf_52 : decode cX12_taxOf 52 = .ok (.lconst 0, 1) := by decide +kernel
theorem dX12_taxOf_53 : decode cX12_taxOf 53 = .ok (.goto 4, 3) := by decide +kernel
theorem dX12_taxOf_56 : decode cX12_taxOf 56 = .ok (.lload_n 2, 1) := by decide +kernel
theorem dX12_taxOf_57 : decode cX12_taxOf 57 = .ok (.lreturn, 1) := by decide +kernel
theorem dX12_cash_0 : decode cX12_cash 0 = .ok (.aload_n 0, 1) := by decide +kernel
theorem dX12_cash_1 : decode cX12_cash 1 = .ok (.aload_n 0, 1) := by decide +kernel
theorem dX12_cash_2 : decode cX12_cash 2 = .ok (.iload_n 1, 1) := by decide +kernel
theorem dX12_cash_3 : decode cX12_cash 3 = .ok (.invokevirtual 337, 3) := by decide +kernel
theorem dX12_cash_6 : decode cX12_cash 6 = .ok (.ifCond .eq 7, 3) := by decide +kernel
theorem dX12_cash_9 : decode cX12_cash 9 = .ok (.iconst 0, 1) := by decide +kernel
theorem dX12_cash_10 : decode cX12_cash 10 = .ok (.goto 4, 3) := by decide +kernel
theorem dX12_cash_13 : decode cX12_cash 13 = .ok (.iconst 1, 1) := by decide +kernel
theorem dX12_cash_14 : decode cX12_cash 14 = .ok (.invokevirtual 206, 3) := by decide +kernel
theorem dX12_cash_17 : decode cX12_cash 17 = .ok (.ifCond .eq 5, 3) := by decide +kernel
theorem dX12_cash_20 : decode cX12_cash 20 = .ok (.lconst 0, 1) := by decide +kernel
theorem dX12_cash_21 : decode cX12_cash 21 = .ok (.lreturn, 1) := by decide +kernel
theorem dX12_cash_22 : decode cX12_cash 22 = .ok (.aload_n 0, 1) := by decide +kernel
theorem dX12_cash_23 : decode cX12_cash 23 = .ok (.iconst 0, 1) := by decide +kernel
theorem dX12_cash_24 : decode cX12_cash 24 = .ok (.putfield 47, 3) := by decide +kernel
theorem dX12_cash_27 : decode cX12_cash 27 = .ok (.aload_n 0, 1) := by decide +kernel
theorem dX12_cash_28 : decode cX12_cash 28 = .ok (.iload_n 1, 1) := by decide +kernel
theorem dX12_cash_29 : decode cX12_cash 29 = .ok (.invokevirtual 356, 3) := by decide +kernel
theorem dX12_cash_32 : decode cX12_cash 32 = .ok (.aload_n 0, 1) := by decide +kernel
theorem dX12_cash_33 : decode cX12_cash 33 = .ok (.iload_n 1, 1) := by decide +kernel
theorem dX12_cash_34 : decode cX12_cash 34 = .ok (.invokevirtual 359, 3) := by decide +kernel
theorem dX12_cash_37 : decode cX12_cash 37 = .ok (.ladd, 1) := by decide +kernel
theorem dX12_cash_38 : decode cX12_cash 38 = .ok (.lstore_n 2, 1) := by decide +kernel
theorem dX12_cash_39 : decode cX12_cash 39 = .ok (.aload_n 0, 1) := by decide +kernel
theorem dX12_cash_40 : decode cX12_cash 40 = .ok (.aload_n 0, 1) := by decide +kernel
theorem dX12_cash_41 : decode cX12_cash 41 = .ok (.getfield 47, 3) := by decide +kernel
theorem dX12_cash_44 : decode cX12_cash 44 = .ok (.ifCond .eq 7, 3) := by decide +kernel
theorem dX12_cash_47 : decode cX12_cash 47 = .ok (.iconst 2, 1) := by decide +kernel
theorem dX12_cash_48 : decode cX12_cash 48 = .ok (.goto 4, 3) := by decide +kernel
theorem dX12_cash_51 : decode cX12_cash 51 = .ok (.iconst 0, 1) := by decide +kernel
theorem dX12_cash_52 : decode cX12_cash 52 = .ok (.invokevirtual 206, 3) := by decide +kernel
theorem dX12_cash_55 : decode cX12_cash 55 = .ok (.ifCond .eq 5, 3) := by decide +kernel
theorem dX12_cash_58 : decode cX12_cash 58 = .ok (.lconst 0, 1) := by decide +kernel
theorem dX12_cash_59 : decode cX12_cash 59 = .ok (.lreturn, 1) := by decide +kernel
theorem dX12_cash_60 : decode cX12_cash 60 = .ok (.aload_n 0, 1) := by decide +kernel
theorem dX12_cash_61 : decode cX12_cash 61 = .ok (.getfield 74, 3) := by decide +kernel
theorem dX12_cash_64 : decode cX12_cash 64 = .ok (.aload_n 0, 1) := by decide +kernel
theorem dX12_cash_65 : decode cX12_cash 65 = .ok (.getfield 108, 3) := by decide +kernel
theorem dX12_cash_68 : decode cX12_cash 68 = .ok (.iload_n 1, 1) := by decide +kernel
theorem dX12_cash_69 : decode cX12_cash 69 = .ok (.iaload, 1) := by decide +kernel
theorem dX12_cash_70 : decode cX12_cash 70 = .ok (.iaload, 1) := by decide +kernel
theorem dX12_cash_71 : decode cX12_cash 71 = .ok (.istore 4, 2) := by decide +kernel
theorem dX12_cash_73 : decode cX12_cash 73 = .ok (.lload_n 2, 1) := by decide +kernel
theorem dX12_cash_74 : decode cX12_cash 74 = .ok (.iload 4, 2) := by decide +kernel
theorem dX12_cash_76 : decode cX12_cash 76 = .ok (.i2l, 1) := by decide +kernel
theorem dX12_cash_77 : decode cX12_cash 77 = .ok (.lrem, 1) := by decide +kernel
theorem dX12_cash_78 : decode cX12_cash 78 = .ok (.lstore 5, 2) := by decide +kernel
theorem dX12_cash_80 : decode cX12_cash 80 = .ok (.lload_n 2, 1) := by decide +kernel
theorem dX12_cash_81 : decode cX12_cash 81 = .ok (.lload 5, 2) := by decide +kernel
theorem dX12_cash_83 : decode cX12_cash 83 = .ok (.lsub, 1) := by decide +kernel
theorem dX12_cash_84 : decode cX12_cash 84 = .ok (.ldc2_w 284, 3) := by decide +kernel
theorem dX12_cash_87 : decode cX12_cash 87 = .ok (.lload 5, 2) := by decide +kernel
theorem dX12_cash_89 : decode cX12_cash 89 = .ok (.lmul, 1) := by decide +kernel
theorem dX12_cash_90 : decode cX12_cash 90 = .ok (.iload 4, 2) := by decide +kernel
theorem dX12_cash_92 : decode cX12_cash 92 = .ok (.i2l, 1) := by decide +kernel
theorem dX12_cash_93 : decode cX12_cash 93 = .ok (.lcmp, 1) := by decide +kernel
theorem dX12_cash_94 : decode cX12_cash 94 = .ok (.ifCond .lt 9, 3) := by decide +kernel
theorem dX12_cash_97 : decode cX12_cash 97 = .ok (.iload 4, 2) := by decide +kernel
theorem dX12_cash_99 : decode cX12_cash 99 = .ok (.i2l, 1) := by decide +kernel
theorem dX12_cash_100 : decode cX12_cash 100 = .ok (.goto 4, 3) := by decide +kernel
theorem dX12_cash_103 : decode cX12_cash 103 = .ok (.lconst 0, 1) := by decide +kernel
theorem dX12_cash_104 : decode cX12_cash 104 = .ok (.ladd, 1) := by decide +kernel
theorem dX12_cash_105 : decode cX12_cash 105 = .ok (.lreturn, 1) := by decide +kernel
theorem dX12_weigh_0 : decode cX12_weigh 0 = .ok (.aload_n 0, 1) := by decide +kernel
theorem dX12_weigh_1 : decode cX12_weigh 1 = .ok (.iload_n 1, 1) := by decide +kernel
theorem dX12_weigh_2 : decode cX12_weigh 2 = .ok (.i2l, 1) := by decide +kernel
theorem dX12_weigh_3 : decode cX12_weigh 3 = .ok (.lconst 0, 1) := by decide +kernel
theorem dX12_weigh_4 : decode cX12_weigh 4 = .ok (.ldc2_w 311, 3) := by decide +kernel
theorem dX12_weigh_7 : decode cX12_weigh 7 = .ok (.invokestatic 183, 3) := by decide +kernel
theorem dX12_weigh_10 : decode cX12_weigh 10 = .ok (.ifCond .ne 7, 3) := by decide +kernel
theorem dX12_weigh_13 : decode cX12_weigh 13 = .ok (.iconst 1, 1) := by decide +kernel
theorem dX12_weigh_14 : decode cX12_weigh 14 = .ok (.goto 17, 3) := by decide +kernel
theorem dX12_weigh_17 : decode cX12_weigh 17 = .ok (.aload_n 0, 1) := by decide +kernel
theorem dX12_weigh_18 : decode cX12_weigh 18 = .ok (.getfield 362, 3) := by decide +kernel
theorem dX12_weigh_21 : decode cX12_weigh 21 = .ok (.bipush 12, 2) := by decide +kernel
theorem dX12_weigh_23 : decode cX12_weigh 23 = .ok (.if_icmp .ne 7, 3) := by decide +kernel
theorem dX12_weigh_26 : decode cX12_weigh 26 = .ok (.iconst 2, 1) := by decide +kernel
theorem dX12_weigh_27 : decode cX12_weigh 27 = .ok (.goto 4, 3) := by decide +kernel
theorem dX12_weigh_30 : decode cX12_weigh 30 = .ok (.iconst 0, 1) := by decide +kernel
theorem dX12_weigh_31 : decode cX12_weigh 31 = .ok (.invokevirtual 206, 3) := by decide +kernel
theorem dX12_weigh_34 : decode cX12_weigh 34 = .ok (.ifCond .eq 5, 3) := by decide +kernel
theorem dX12_weigh_37 : decode cX12_weigh 37 = .ok (.iconst 0, 1) := by decide +kernel
theorem dX12_weigh_38 : decode cX12_weigh 38 = .ok (.ireturn, 1) := by decide +kernel
theorem dX12_weigh_39 : decode cX12_weigh 39 = .ok (.aload_n 0, 1) := by decide +kernel
theorem dX12_weigh_40 : decode cX12_weigh 40 = .ok (.getfield 126, 3) := by decide +kernel
theorem dX12_weigh_43 : decode cX12_weigh 43 = .ok (.aload_n 0, 1) := by decide +kernel
theorem dX12_weigh_44 : decode cX12_weigh 44 = .ok (.getfield 362, 3) := by decide +kernel
theorem dX12_weigh_47 : decode cX12_weigh 47 = .ok (.iload_n 1, 1) := by decide +kernel
theorem dX12_weigh_48 : decode cX12_weigh 48 = .ok (.iastore, 1) := by decide +kernel
theorem dX12_weigh_49 : decode cX12_weigh 49 = .ok (.aload_n 0, 1) := by decide +kernel
theorem dX12_weigh_50 : decode cX12_weigh 50 = .ok (.dup, 1) := by decide +kernel
theorem dX12_weigh_51 : decode cX12_weigh 51 = .ok (.getfield 362, 3) := by decide +kernel
theorem dX12_weigh_54 : decode cX12_weigh 54 = .ok (.iconst 1, 1) := by decide +kernel
theorem dX12_weigh_55 : decode cX12_weigh 55 = .ok (.iadd, 1) := by decide +kernel
theorem dX12_weigh_56 : decode cX12_weigh 56 = .ok (.putfield 362, 3) := by decide +kernel
theorem dX12_weigh_59 : decode cX12_weigh 59 = .ok (.aload_n 0, 1) := by decide +kernel
theorem dX12_weigh_60 : decode cX12_weigh 60 = .ok (.getfield 362, 3) := by decide +kernel
theorem dX12_weigh_63 : decode cX12_weigh 63 = .ok (.ireturn, 1) := by decide +kernel
theorem dX12_share_0 : decode cX12_share 0 = .ok (.iconst 0, 1) := by decide +kernel
theorem dX12_share_1 : decode cX12_share 1 = .ok (.istore 4, 2) := by decide +kernel
theorem dX12_share_3 : decode cX12_share 3 = .ok (.iconst 0, 1) := by decide +kernel
theorem dX12_share_4 : decode cX12_share 4 = .ok (.istore 5, 2) := by decide +kernel
theorem dX12_share_6 : decode cX12_share 6 = .ok (.iload 5, 2) := by decide +kernel
theorem dX12_share_8 : decode cX12_share 8 = .ok (.aload_n 0, 1) := by decide +kernel
theorem dX12_share_9 : decode cX12_share 9 = .ok (.getfield 362, 3) := by decide +kernel
theorem dX12_share_12 : decode cX12_share 12 = .ok (.if_icmp .ge 21, 3) := by decide +kernel
theorem dX12_share_15 : decode cX12_share 15 = .ok (.iload 4, 2) := by decide +kernel
theorem dX12_share_17 : decode cX12_share 17 = .ok (.aload_n 0, 1) := by decide +kernel
theorem dX12_share_18 : decode cX12_share 18 = .ok (.getfield 126, 3) := by decide +kernel
theorem dX12_share_21 : decode cX12_share 21 = .ok (.iload 5, 2) := by decide +kernel
theorem dX12_share_23 : decode cX12_share 23 = .ok (.iaload, 1) := by decide +kernel
theorem dX12_share_24 : decode cX12_share 24 = .ok (.iadd, 1) := by decide +kernel
theorem dX12_share_25 : decode cX12_share 25 = .ok (.istore 4, 2) := by decide +kernel
theorem dX12_share_27 : decode cX12_share 27 = .ok (.iinc 5 1, 3) := by decide +kernel
theorem dX12_share_30 : decode cX12_share 30 = .ok (.goto (-24), 3) := by decide +kernel
theorem dX12_share_33 : decode cX12_share 33 = .ok (.iload_n 3, 1) := by decide +kernel
theorem dX12_share_34 : decode cX12_share 34 = .ok (.bipush 108, 2) := by decide +kernel
theorem dX12_share_36 : decode cX12_share 36 = .ok (.if_icmp .eq 15, 3) := by decide +kernel
theorem dX12_share_39 : decode cX12_share 39 = .ok (.iload_n 3, 1) := by decide +kernel
theorem dX12_share_40 : decode cX12_share 40 = .ok (.bipush 102, 2) := by decide +kernel
theorem dX12_share_42 : decode cX12_share 42 = .ok (.if_icmp .eq 9, 3) := by decide +kernel
theorem dX12_share_45 : decode cX12_share 45 = .ok (.iload_n 3, 1) := by decide +kernel
theorem dX12_share_46 : decode cX12_share 46 = .ok (.bipush 98, 2) := by decide +kernel
theorem dX12_share_48 : decode cX12_share 48 = .ok (.if_icmp .ne 7, 3) := by decide +kernel
theorem dX12_share_51 : decode cX12_share 51 = .ok (.iconst 1, 1) := by decide +kernel
theorem dX12_share_52 : decode cX12_share 52 = .ok (.goto 4, 3) := by decide +kernel
theorem dX12_share_55 : decode cX12_share 55 = .ok (.iconst 0, 1) := by decide +kernel
theorem dX12_share_56 : decode cX12_share 56 = .ok (.istore 5, 2) := by decide +kernel
theorem dX12_share_58 : decode cX12_share 58 = .ok (.aload_n 0, 1) := by decide +kernel
theorem dX12_share_59 : decode cX12_share 59 = .ok (.lload_n 1, 1) := by decide +kernel
theorem dX12_share_60 : decode cX12_share 60 = .ok (.lconst 0, 1) := by decide +kernel
theorem dX12_share_61 : decode cX12_share 61 = .ok (.ldc2_w 297, 3) := by decide +kernel
theorem dX12_share_64 : decode cX12_share 64 = .ok (.invokestatic 183, 3) := by decide +kernel
theorem dX12_share_67 : decode cX12_share 67 = .ok (.ifCond .eq 8, 3) := by decide +kernel
theorem dX12_share_70 : decode cX12_share 70 = .ok (.iload 5, 2) := by decide +kernel
theorem dX12_share_72 : decode cX12_share 72 = .ok (.ifCond .ne 7, 3) := by decide +kernel
theorem dX12_share_75 : decode cX12_share 75 = .ok (.iconst 1, 1) := by decide +kernel
theorem dX12_share_76 : decode cX12_share 76 = .ok (.goto 13, 3) := by decide +kernel
theorem dX12_share_79 : decode cX12_share 79 = .ok (.iload 4, 2) := by decide +kernel
theorem dX12_share_81 : decode cX12_share 81 = .ok (.ifCond .ne 7, 3) := by decide +kernel
theorem dX12_share_84 : decode cX12_share 84 = .ok (.iconst 2, 1) := by decide +kernel
theorem dX12_share_85 : decode cX12_share 85 = .ok (.goto 4, 3) := by decide +kernel
theorem dX12_share_88 : decode cX12_share 88 = .ok (.iconst 0, 1) := by decide +kernel
theorem dX12_share_89 : decode cX12_share 89 = .ok (.invokevirtual 206, 3) := by decide +kernel
theorem dX12_share_92 : decode cX12_share 92 = .ok (.ifCond .eq 5, 3) := by decide +kernel
theorem dX12_share_95 : decode cX12_share 95 = .ok (.iconst 0, 1) := by decide +kernel
theorem dX12_share_96 : decode cX12_share 96 = .ok (.ireturn, 1) := by decide +kernel
theorem dX12_share_97 : decode cX12_share 97 = .ok (.lload_n 1, 1) := by decide +kernel
theorem dX12_share_98 : decode cX12_share 98 = .ok (.lstore 6, 2) := by decide +kernel
theorem dX12_share_100 : decode cX12_share 100 = .ok (.iconst 0, 1) := by decide +kernel
theorem dX12_share_101 : decode cX12_share 101 = .ok (.istore 8, 2) := by decide +kernel
theorem dX12_share_103 : decode cX12_share 103 = .ok (.iload 8, 2) := by decide +kernel
theorem dX12_share_105 : decode cX12_share 105 = .ok (.aload_n 0, 1) := by decide +kernel
theorem dX12_share_106 : decode cX12_share 106 = .ok (.getfield 362, 3) := by decide +kernel
theorem dX12_share_109 : decode cX12_share 109 = .ok (.if_icmp .ge 63, 3) := by decide +kernel
theorem dX12_share_112 : decode cX12_share 112 = .ok (.aload_n 0, 1) := by decide +kernel
theorem dX12_share_113 : decode cX12_share 113 = .ok (.getfield 129, 3) := by decide +kernel
theorem dX12_share_116 : decode cX12_share 116 = .ok (.iload 8, 2) := by decide +kernel
theorem dX12_share_118 : decode cX12_share 118 = .ok (.lload_n 1, 1) := by decide +kernel
theorem dX12_share_119 : decode cX12_share 119 = .ok (.aload_n 0, 1) := by decide +kernel
theorem dX12_share_120 : decode cX12_share 120 = .ok (.getfield 126, 3) := by decide +kernel
theorem dX12_share_123 : decode cX12_share 123 = .ok (.iload 8, 2) := by decide +kernel
theorem dX12_share_125 : decode cX12_share 125 = .ok (.iaload, 1) := by decide +kernel
theorem dX12_share_126 : decode cX12_share 126 = .ok (.i2l, 1) := by decide +kernel
theorem dX12_share_127 : decode cX12_share 127 = .ok (.lmul, 1) := by decide +kernel
theorem dX12_share_128 : decode cX12_share 128 = .ok (.iload 4, 2) := by decide +kernel
theorem dX12_share_130 : decode cX12_share 130 = .ok (.i2l, 1) := by decide +kernel
theorem dX12_share_131 : decode cX12_share 131 = .ok (.ldiv, 1) := by decide +kernel
theorem dX12_share_132 : decode cX12_share 132 = .ok (.lastore, 1) := by decide +kernel
theorem dX12_share_133 : decode cX12_share 133 = .ok (.aload_n 0, 1) := by decide +kernel
theorem dX12_share_134 : decode cX12_share 134 = .ok (.getfield 132, 3) := by decide +kernel
theorem dX12_share_137 : decode cX12_share 137 = .ok (.iload 8, 2) := by decide +kernel
theorem dX12_share_139 : decode cX12_share 139 = .ok (.lload_n 1, 1) := by decide +kernel
theorem dX12_share_140 : decode cX12_share 140 = .ok (.aload_n 0, 1) := by decide +kernel
theorem dX12_share_141 : decode cX12_share 141 = .ok (.getfield 126, 3) := by decide +kernel
theorem dX12_share_144 : decode cX12_share 144 = .ok (.iload 8, 2) := by decide +kernel
theorem dX12_share_146 : decode cX12_share 146 = .ok (.iaload, 1) := by decide +kernel
theorem dX12_share_147 : decode cX12_share 147 = .ok (.i2l, 1) := by decide +kernel
theorem dX12_share_148 : decode cX12_share 148 = .ok (.lmul, 1) := by decide +kernel
theorem dX12_share_149 : decode cX12_share 149 = .ok (.iload 4, 2) := by decide +kernel
theorem dX12_share_151 : decode cX12_share 151 = .ok (.i2l, 1) := by decide +kernel
theorem dX12_share_152 : decode cX12_share 152 = .ok (.lrem, 1) := by decide +kernel
theorem dX12_share_153 : decode cX12_share 153 = .ok (.lastore, 1) := by decide +kernel
theorem dX12_share_154 : decode cX12_share 154 = .ok (.lload 6, 2) := by decide +kernel
theorem dX12_share_156 : decode cX12_share 156 = .ok (.aload_n 0, 1) := by decide +kernel
theorem dX12_share_157 : decode cX12_share 157 = .ok (.getfield 129, 3) := by decide +kernel
theorem dX12_share_160 : decode cX12_share 160 = .ok (.iload 8, 2) := by decide +kernel
theorem dX12_share_162 : decode cX12_share 162 = .ok (.laload, 1) := by decide +kernel
theorem dX12_share_163 : decode cX12_share 163 = .ok (.lsub, 1) := by decide +kernel
theorem dX12_share_164 : decode cX12_share 164 = .ok (.lstore 6, 2) := by decide +kernel
theorem dX12_share_166 : decode cX12_share 166 = .ok (.iinc 8 1, 3) := by decide +kernel
theorem dX12_share_169 : decode cX12_share 169 = .ok (.goto (-66), 3) := by decide +kernel
theorem dX12_share_172 : decode cX12_share 172 = .ok (.aload_n 0, 1) := by decide +kernel
theorem dX12_share_173 : decode cX12_share 173 = .ok (.aload_n 0, 1) := by decide +kernel
theorem dX12_share_174 : decode cX12_share 174 = .ok (.getfield 362, 3) := by decide +kernel
theorem dX12_share_177 : decode cX12_share 177 = .ok (.putfield 365, 3) := by decide +kernel
theorem dX12_share_180 : decode cX12_share 180 = .ok (.aload_n 0, 1) := by decide +kernel
theorem dX12_share_181 : decode cX12_share 181 = .ok (.iconst 0, 1) := by decide +kernel
theorem dX12_share_182 : decode cX12_share 182 = .ok (.putfield 362, 3) := by decide +kernel
theorem dX12_share_185 : decode cX12_share 185 = .ok (.lconst 0, 1) := by decide +kernel
theorem dX12_share_186 : decode cX12_share 186 = .ok (.lstore 8, 2) := by decide +kernel
theorem dX12_share_188 : decode cX12_share 188 = .ok (.lload 8, 2) := by decide +kernel
theorem dX12_share_190 : decode cX12_share 190 = .ok (.lload 6, 2) := by decide +kernel
theorem dX12_share_192 : decode cX12_share 192 = .ok (.lcmp, 1) := by decide +kernel
theorem dX12_share_193 : decode cX12_share 193 = .ok (.ifCond .ge 103, 3) := by decide +kernel
theorem dX12_share_196 : decode cX12_share 196 = .ok (.iconst (-1), 1) := by decide +kernel
theorem dX12_share_197 : decode cX12_share 197 = .ok (.istore 10, 2) := by decide +kernel
theorem dX12_share_199 : decode cX12_share 199 = .ok (.iconst 0, 1) := by decide +kernel
theorem dX12_share_200 : decode cX12_share 200 = .ok (.istore 11, 2) := by decide +kernel
theorem dX12_share_202 : decode cX12_share 202 = .ok (.iload 11, 2) := by decide +kernel
theorem dX12_share_204 : decode cX12_share 204 = .ok (.aload_n 0, 1) := by decide +kernel
theorem dX12_share_205 : decode cX12_share 205 = .ok (.getfield 365, 3) := by decide +kernel
theorem dX12_share_208 : decode cX12_share 208 = .ok (.if_icmp .ge 60, 3) := by decide +kernel
theorem dX12_share_211 : decode cX12_share 211 = .ok (.aload_n 0, 1) := by decide +kernel
theorem dX12_share_212 : decode cX12_share 212 = .ok (.getfield 132, 3) := by decide +kernel
theorem dX12_share_215 : decode cX12_share 215 = .ok (.iload 11, 2) := by decide +kernel
theorem dX12_share_217 : decode cX12_share 217 = .ok (.laload, 1) := by decide +kernel
theorem dX12_share_218 : decode cX12_share 218 = .ok (.lconst 0, 1) := by decide +kernel
theorem dX12_share_219 : decode cX12_share 219 = .ok (.lcmp, 1) := by decide +kernel
theorem dX12_share_220 : decode cX12_share 220 = .ok (.ifCond .le 42, 3) := by decide +kernel
theorem dX12_share_223 : decode cX12_share 223 = .ok (.iload 10, 2) := by decide +kernel
theorem dX12_share_225 : decode cX12_share 225 = .ok (.ifCond .lt 33, 3) := by decide +kernel
theorem dX12_share_228 : decode cX12_share 228 = .ok (.iload_n 3, 1) := by decide +kernel
theorem dX12_share_229 : decode cX12_share 229 = .ok (.bipush 98, 2) := by decide +kernel
theorem dX12_share_231 : decode cX12_share 231 = .ok (.if_icmp .eq 27, 3) := by decide +kernel
theorem dX12_share_234 : decode cX12_share 234 = .ok (.iload_n 3, 1) := by decide +kernel
theorem dX12_share_235 : decode cX12_share 235 = .ok (.bipush 108, 2) := by decide +kernel
theorem dX12_share_237 : decode cX12_share 237 = .ok (.if_icmp .ne 25, 3) := by decide +kernel
theorem dX12_share_240 : decode cX12_share 240 = .ok (.aload_n 0, 1) := by decide +kernel
theorem dX12_share_241 : decode cX12_share 241 = .ok (.getfield 132, 3) := by decide +kernel
theorem dX12_share_244 : decode cX12_share 244 = .ok (.iload 11, 2) := by decide +kernel
theorem dX12_share_246 : decode cX12_share 246 = .ok (.laload, 1) := by decide +kernel
theorem dX12_share_247 : decode cX12_share 247 = .ok (.aload_n 0, 1) := by decide +kernel
theorem dX12_share_248 : decode cX12_share 248 = .ok (.getfield 132, 3) := by decide +kernel
theorem dX12_share_251 : decode cX12_share 251 = .ok (.iload 10, 2) := by decide +kernel
theorem dX12_share_253 : decode cX12_share 253 = .ok (.laload, 1) := by decide +kernel
theorem dX12_share_254 : decode cX12_share 254 = .ok (.lcmp, 1) := by decide +kernel
theorem dX12_share_255 : decode cX12_share 255 = .ok (.ifCond .le 7, 3) := by decide +kernel
theorem dX12_share_258 : decode cX12_share 258 = .ok (.iload 11, 2) := by decide +kernel
theorem dX12_share_260 : decode cX12_share 260 = .ok (.istore 10, 2) := by decide +kernel
theorem dX12_share_262 : decode cX12_share 262 = .ok (.iinc 11 1, 3) := by decide +kernel
theorem dX12_share_265 : decode cX12_share 265 = .ok (.goto (-63), 3) := by decide +kernel
theorem dX12_share_268 : decode cX12_share 268 = .ok (.aload_n 0, 1) := by decide +kernel
theorem dX12_share_269 : decode cX12_share 269 = .ok (.getfield 129, 3) := by decide +kernel
theorem dX12_share_272 : decode cX12_share 272 = .ok (.iload 10, 2) := by decide +kernel
theorem dX12_share_274 : decode cX12_share 274 = .ok (.dup2, 1) := by decide +kernel
theorem dX12_share_275 : decode cX12_share 275 = .ok (.laload, 1) := by decide +kernel
theorem dX12_share_276 : decode cX12_share 276 = .ok (.lconst 1, 1) := by decide +kernel
theorem dX12_share_277 : decode cX12_share 277 = .ok (.ladd, 1) := by decide +kernel
theorem dX12_share_278 : decode cX12_share 278 = .ok (.lastore, 1) := by decide +kernel
theorem dX12_share_279 : decode cX12_share 279 = .ok (.aload_n 0, 1) := by decide +kernel
theorem dX12_share_280 : decode cX12_share 280 = .ok (.getfield 132, 3) := by decide +kernel
theorem dX12_share_283 : decode cX12_share 283 = .ok (.iload 10, 2) := by decide +kernel
theorem dX12_share_285 : decode cX12_share 285 = .ok (.lconst 0, 1) := by decide +kernel
theorem dX12_share_286 : decode cX12_share 286 = .ok (.lastore, 1) := by decide +kernel
theorem dX12_share_287 : decode cX12_share 287 = .ok (.lload 8, 2) := by decide +kernel
theorem dX12_share_289 : decode cX12_share 289 = .ok (.lconst 1, 1) := by decide +kernel
theorem dX12_share_290 : decode cX12_share 290 = .ok (.ladd, 1) := by decide +kernel
theorem dX12_share_291 : decode cX12_share 291 = .ok (.lstore 8, 2) := by decide +kernel
theorem dX12_share_293 : decode cX12_share 293 = .ok (.goto (-105), 3) := by decide +kernel
theorem dX12_share_296 : decode cX12_share 296 = .ok (.lload 6, 2) := by decide +kernel
theorem dX12_share_298 : decode cX12_share 298 = .ok (.l2i, 1) := by decide +kernel
theorem dX12_share_299 : decode cX12_share 299 = .ok (.ireturn, 1) := by decide +kernel
theorem dX12_part__0 : decode cX12_part_ 0 = .ok (.aload_n 0, 1) := by decide +kernel
theorem dX12_part__1 : decode cX12_part_ 1 = .ok (.iload_n 1, 1) := by decide +kernel
theorem dX12_part__2 : decode cX12_part_ 2 = .ok (.i2l, 1) := by decide +kernel
theorem dX12_part__3 : decode cX12_part_ 3 = .ok (.lconst 0, 1) := by decide +kernel
theorem dX12_part__4 : decode cX12_part_ 4 = .ok (.aload_n 0, 1) := by decide +kernel
theorem dX12_part__5 : decode cX12_part_ 5 = .ok (.getfield 365, 3) := by decide +kernel
theorem dX12_part__8 : decode cX12_part_ 8 = .ok (.iconst 1, 1) := by decide +kernel
theorem dX12_part__9 : decode cX12_part_ 9 = .ok (.isub, 1) := by decide +kernel
theorem dX12_part__10 : decode cX12_part_ 10 = .ok (.i2l, 1) := by decide +kernel
theorem dX12_part__11 : decode cX12_part_ 11 = .ok (.invokestatic 183, 3) := by decide +kernel
theorem dX12_part__14 : decode cX12_part_ 14 = .ok (.ifCond .eq 7, 3) := by decide +kernel
theorem dX12_part__17 : decode cX12_part_ 17 = .ok (.iconst 0, 1) := by decide +kernel
theorem dX12_part__18 : decode cX12_part_ 18 = .ok (.goto 4, 3) := by decide +kernel
theorem dX12_part__21 : decode cX12_part_ 21 = .ok (.iconst 1, 1) := by decide +kernel
theorem dX12_part__22 : decode cX12_part_ 22 = .ok (.invokevirtual 206, 3) := by decide +kernel
theorem dX12_part__25 : decode cX12_part_ 25 = .ok (.ifCond .eq 7, 3) := by decide +kernel
theorem dX12_part__28 : decode cX12_part_ 28 = .ok (.lconst 0, 1) := by decide +kernel
theorem dX12_part__29 : decode cX12_part_ 29 = .ok (.goto 9, 3) := by decide +kernel
theorem dX12_part__32 : decode cX12_part_ 32 = .ok (.aload_n 0, 1) := by decide +kernel
theorem dX12_part__33 : decode cX12_part_ 33 = .ok (.getfield 129, 3) := by decide +kernel
theorem dX12_part__36 : decode cX12_part_ 36 = .ok (.iload_n 1, 1) := by decide +kernel
theorem dX12_part__37 : decode cX12_part_ 37 = .ok (.laload, 1) := by decide +kernel
theorem dX12_part__38 : decode cX12_part_ 38 = .ok (.lreturn, 1) := by decide +kernel
theorem dX12_interest_0 : decode cX12_interest 0 = .ok (.iload 5, 2) := by decide +kernel
theorem dX12_interest_2 : decode cX12_interest 2 = .ok (.sipush 360, 3) := by decide +kernel
theorem dX12_interest_5 : decode cX12_interest 5 = .ok (.if_icmp .eq 19, 3) := by decide +kernel
theorem dX12_interest_8 : decode cX12_interest 8 = .ok (.iload 5, 2) := by decide +kernel
theorem dX12_interest_10 : decode cX12_interest 10 = .ok (.sipush 365, 3) := by decide +kernel
theorem dX12_interest_13 : decode cX12_interest 13 = .ok (.if_icmp .eq 11, 3) := by decide +kernel
theorem dX12_interest_16 : decode cX12_interest 16 = .ok (.iload 5, 2) := by decide +kernel
theorem dX12_interest_18 : decode cX12_interest 18 = .ok (.sipush 366, 3) := by decide +kernel
theorem dX12_interest_21 : decode cX12_interest 21 = .ok (.if_icmp .ne 7, 3) := by decide +kernel
theorem dX12_interest_24 : decode cX12_interest 24 = .ok (.iconst 1, 1) := by decide +kernel
theorem dX12_interest_25 : decode cX12_interest 25 = .ok (.goto 4, 3) := by decide +kernel
theorem dX12_interest_28 : decode cX12_interest 28 = .ok (.iconst 0, 1) := by decide +kernel
theorem dX12_interest_29 : decode cX12_interest 29 = .ok (.istore 7, 2) := by decide +kernel
theorem dX12_interest_31 : decode cX12_interest 31 = .ok (.aload_n 0, 1) := by decide +kernel
theorem dX12_interest_32 : decode cX12_interest 32 = .ok (.lload_n 1, 1) := by decide +kernel
theorem dX12_interest_33 : decode cX12_interest 33 = .ok (.lconst 0, 1) := by decide +kernel
theorem dX12_interest_34 : decode cX12_interest 34 = .ok (.ldc2_w 297, 3) := by decide +kernel
theorem dX12_interest_37 : decode cX12_interest 37 = .ok (.invokestatic 183, 3) := by decide +kernel
theorem dX12_interest_40 : decode cX12_interest 40 = .ok (.ifCond .eq 45, 3) := by decide +kernel
theorem dX12_interest_43 : decode cX12_interest 43 = .ok (.iload_n 3, 1) := by decide +kernel
theorem dX12_interest_44 : decode cX12_interest 44 = .ok (.i2l, 1) := by decide +kernel
theorem dX12_interest_45 : decode cX12_interest 45 = .ok (.lconst 0, 1) := by decide +kernel
theorem dX12_interest_46 : decode cX12_interest 46 = .ok (.ldc2_w 311, 3) := by decide +kernel
theorem dX12_interest_49 : decode cX12_interest 49 = .ok (.invokestatic 183, 3) := by decide +kernel
theorem dX12_interest_52 : decode cX12_interest 52 = .ok (.ifCond .eq 33, 3) := by decide +kernel
theorem dX12_interest_55 : decode cX12_interest 55 = .ok (.iload 4, 2) := by decide +kernel
theorem dX12_interest_57 : decode cX12_interest 57 = .ok (.i2l, 1) := by decide +kernel
theorem dX12_interest_58 : decode cX12_interest 58 = .ok (.lconst 0, 1) := by decide +kernel
theorem dX12_interest_59 : decode cX12_interest 59 = .ok (.ldc2_w 311, 3) := by decide +kernel
theorem dX12_interest_62 : decode cX12_interest 62 = .ok (.invokestatic 183, 3) := by decide +kernel
theorem dX12_interest_65 : decode cX12_interest 65 = .ok (.ifCond .eq 20, 3) := by decide +kernel
theorem dX12_interest_68 : decode cX12_interest 68 = .ok (.iload 7, 2) := by decide +kernel
theorem dX12_interest_70 : decode cX12_interest 70 = .ok (.ifCond .eq 15, 3) := by decide +kernel
theorem dX12_interest_73 : decode cX12_interest 73 = .ok (.iload 6, 2) := by decide +kernel
theorem dX12_interest_75 : decode cX12_interest 75 = .ok (.invokestatic 271, 3) := by decide +kernel
theorem dX12_interest_78 : decode cX12_interest 78 = .ok (.ifCond .eq 7, 3) := by decide +kernel
theorem dX12_interest_81 : decode cX12_interest 81 = .ok (.iconst 0, 1) := by decide +kernel
theorem dX12_interest_82 : decode cX12_interest 82 = .ok (.goto 4, 3) := by decide +kernel
theorem dX12_interest_85 : decode cX12_interest 85 = .ok (.iconst 1, 1) := by decide +kernel
theorem dX12_interest_86 : decode cX12_interest 86 = .ok (.invokevirtual 206, 3) := by decide +kernel
theorem dX12_interest_89 : decode cX12_interest 89 = .ok (.ifCond .eq 5, 3) := by decide +kernel
theorem dX12_interest_92 : decode cX12_interest 92 = .ok (.lconst 0, 1) := by decide +kernel
theorem dX12_interest_93 : decode cX12_interest 93 = .ok (.lreturn, 1) := by decide +kernel
theorem dX12_interest_94 : decode cX12_interest 94 = .ok (.aload_n 0, 1) := by decide +kernel
theorem dX12_interest_95 : decode cX12_interest 95 = .ok (.iconst 0, 1) := by decide +kernel
theorem dX12_interest_96 : decode cX12_interest 96 = .ok (.putfield 47, 3) := by decide +kernel
theorem dX12_interest_99 : decode cX12_interest 99 = .ok (.aload_n 0, 1) := by decide +kernel
theorem dX12_interest_100 : decode cX12_interest 100 = .ok (.iconst 0, 1) := by decide +kernel
theorem dX12_interest_101 : decode cX12_interest 101 = .ok (.lload_n 1, 1) := by decide +kernel
theorem dX12_interest_102 : decode cX12_interest 102 = .ok (.invokevirtual 33, 3) := by decide +kernel
theorem dX12_interest_105 : decode cX12_interest 105 = .ok (.aload_n 0, 1) := by decide +kernel
theorem dX12_interest_106 : decode cX12_interest 106 = .ok (.iconst 5, 1) := by decide +kernel
theorem dX12_interest_107 : decode cX12_interest 107 = .ok (.iload_n 3, 1) := by decide +kernel
theorem dX12_interest_108 : decode cX12_interest 108 = .ok (.i2l, 1) := by decide +kernel
theorem dX12_interest_109 : decode cX12_interest 109 = .ok (.iload 4, 2) := by decide +kernel
theorem dX12_interest_111 : decode cX12_interest 111 = .ok (.i2l, 1) := by decide +kernel
theorem dX12_interest_112 : decode cX12_interest 112 = .ok (.lmul, 1) := by decide +kernel
theorem dX12_interest_113 : decode cX12_interest 113 = .ok (.invokevirtual 33, 3) := by decide +kernel
theorem dX12_interest_116 : decode cX12_interest 116 = .ok (.aload_n 0, 1) := by decide +kernel
theorem dX12_interest_117 : decode cX12_interest 117 = .ok (.iconst 0, 1) := by decide +kernel
theorem dX12_interest_118 : decode cX12_interest 118 = .ok (.iconst 5, 1) := by decide +kernel
theorem dX12_interest_119 : decode cX12_interest 119 = .ok (.invokevirtual 242, 3) := by decide +kernel
theorem dX12_interest_122 : decode cX12_interest 122 = .ok (.aload_n 0, 1) := by decide +kernel
theorem dX12_interest_123 : decode cX12_interest 123 = .ok (.iconst 1, 1) := by decide +kernel
theorem dX12_interest_124 : decode cX12_interest 124 = .ok (.ldc2_w 352, 3) := by decide +kernel
theorem dX12_interest_127 : decode cX12_interest 127 = .ok (.iload 5, 2) := by decide +kernel
theorem dX12_interest_129 : decode cX12_interest 129 = .ok (.i2l, 1) := by decide +kernel
theorem dX12_interest_130 : decode cX12_interest 130 = .ok (.lmul, 1) := by decide +kernel
theorem dX12_interest_131 : decode cX12_interest 131 = .ok (.invokevirtual 33, 3) := by decide +kernel
theorem dX12_interest_134 : decode cX12_interest 134 = .ok (.aload_n 0, 1) := by decide +kernel
theorem dX12_interest_135 : decode cX12_interest 135 = .ok (.iconst 0, 1) := by decide +kernel
theorem dX12_interest_136 : decode cX12_interest 136 = .ok (.iload 6, 2) := by decide +kernel
theorem dX12_interest_138 : decode cX12_interest 138 = .ok (.invokevirtual 267, 3) := by decide +kernel
theorem dX12_interest_141 : decode cX12_interest 141 = .ok (.aload_n 0, 1) := by decide +kernel
theorem dX12_interest_142 : decode cX12_interest 142 = .ok (.aload_n 0, 1) := by decide +kernel
theorem dX12_interest_143 : decode cX12_interest 143 = .ok (.getfield 47, 3) := by decide +kernel
theorem dX12_interest_146 : decode cX12_interest 146 = .ok (.ifCond .eq 7, 3) := by decide +kernel
theorem dX12_interest_149 : decode cX12_interest 149 = .ok (.iconst 2, 1) := by decide +kernel
theorem dX12_interest_150 : decode cX12_interest 150 = .ok (.goto 4, 3) := by decide +kernel
theorem dX12_interest_153 : decode cX12_interest 153 = .ok (.iconst 0, 1) := by decide +kernel
theorem dX12_interest_154 : decode cX12_interest 154 = .ok (.invokevirtual 206, 3) := by decide +kernel
theorem dX12_interest_157 : decode cX12_interest 157 = .ok (.ifCond .eq 7, 3) := by decide +kernel
theorem dX12_interest_160 : decode cX12_interest 160 = .ok (.lconst 0, 1) := by decide +kernel
theorem dX12_interest_161 : decode cX12_interest 161 = .ok (.goto 8, 3) := by decide +kernel
theorem dX12_interest_164 : decode cX12_interest 164 = .ok (.aload_n 0, 1) := by decide +kernel
theorem dX12_interest_165 : decode cX12_interest 165 = .ok (.iconst 2, 1) := by decide +kernel
theorem dX12_interest_166 : decode cX12_interest 166 = .ok (.invokevirtual 195, 3) := by decide +kernel
theorem dX12_interest_169 : decode cX12_interest 169 = .ok (.lreturn, 1) := by decide +kernel
theorem dX12_month_0 : decode cX12_month 0 = .ok (.lload_n 0, 1) := by decide +kernel
theorem dX12_month_1 : decode cX12_month 1 = .ok (.iload_n 2, 1) := by decide +kernel
theorem dX12_month_2 : decode cX12_month 2 = .ok (.i2l, 1) := by decide +kernel
theorem dX12_month_3 : decode cX12_month 3 = .ok (.lmul, 1) := by decide +kernel
theorem dX12_month_4 : decode cX12_month 4 = .ok (.lstore_n 3, 1) := by decide +kernel
theorem dX12_month_5 : decode cX12_month 5 = .ok (.lload_n 3, 1) := by decide +kernel
theorem dX12_month_6 : decode cX12_month 6 = .ok (.ldc2_w 368, 3) := by decide +kernel
theorem dX12_month_9 : decode cX12_month 9 = .ok (.ldiv, 1) := by decide +kernel
theorem dX12_month_10 : decode cX12_month 10 = .ok (.lstore 5, 2) := by decide +kernel
theorem dX12_month_12 : decode cX12_month 12 = .ok (.lload_n 3, 1) := by decide +kernel
theorem dX12_month_13 : decode cX12_month 13 = .ok (.ldc2_w 368, 3) := by decide +kernel
theorem dX12_month_16 : decode cX12_month 16 = .ok (.lrem, 1) := by decide +kernel
theorem dX12_month_17 : decode cX12_month 17 = .ok (.lstore 7, 2) := by decide +kernel
theorem dX12_month_19 : decode cX12_month 19 = .ok (.lload 5, 2) := by decide +kernel
theorem dX12_month_21 : decode cX12_month 21 = .ok (.lload 7, 2) := by decide +kernel
theorem dX12_month_23 : decode cX12_month 23 = .ok (.ldc2_w 370, 3) := by decide +kernel
theorem dX12_month_26 : decode cX12_month 26 = .ok (.lcmp, 1) := by decide +kernel
theorem dX12_month_27 : decode cX12_month 27 = .ok (.ifCond .gt 23, 3) := by decide +kernel
theorem dX12_month_30 : decode cX12_month 30 = .ok (.lload 7, 2) := by decide +kernel
theorem dX12_month_32 : decode cX12_month 32 = .ok (.ldc2_w 370, 3) := by decide +kernel
theorem dX12_month_35 : decode cX12_month 35 = .ok (.lcmp, 1) := by decide +kernel
theorem dX12_month_36 : decode cX12_month 36 = .ok (.ifCond .ne 18, 3) := by decide +kernel
theorem dX12_month_39 : decode cX12_month 39 = .ok (.lload 5, 2) := by decide +kernel
theorem dX12_month_41 : decode cX12_month 41 = .ok (.ldc2_w 284, 3) := by decide +kernel
theorem dX12_month_44 : decode cX12_month 44 = .ok (.lrem, 1) := by decide +kernel
theorem dX12_month_45 : decode cX12_month 45 = .ok (.lconst 1, 1) := by decide +kernel
theorem dX12_month_46 : decode cX12_month 46 = .ok (.lcmp, 1) := by decide +kernel
theorem dX12_month_47 : decode cX12_month 47 = .ok (.ifCond .ne 7, 3) := by decide +kernel
theorem dX12_month_50 : decode cX12_month 50 = .ok (.lconst 1, 1) := by decide +kernel
theorem dX12_month_51 : decode cX12_month 51 = .ok (.goto 4, 3) := by decide +kernel
theorem dX12_month_54 : decode cX12_month 54 = .ok (.lconst 0, 1) := by decide +kernel
theorem dX12_month_55 : decode cX12_month 55 = .ok (.ladd, 1) := by decide +kernel
theorem dX12_month_56 : decode cX12_month 56 = .ok (.lreturn, 1) := by decide +kernel
theorem dX12_lend_0 : decode cX12_lend 0 = .ok (.lload_n 1, 1) := by decide +kernel
theorem dX12_lend_1 : decode cX12_lend 1 = .ok (.lconst 1, 1) := by decide +kernel
theorem dX12_lend_2 : decode cX12_lend 2 = .ok (.ldc2_w 297, 3) := by decide +kernel
theorem dX12_lend_5 : decode cX12_lend 5 = .ok (.invokestatic 183, 3) := by decide +kernel
theorem dX12_lend_8 : decode cX12_lend 8 = .ok (.ifCond .eq 31, 3) := by decide +kernel
theorem dX12_lend_11 : decode cX12_lend 11 = .ok (.iload_n 3, 1) := by decide +kernel
theorem dX12_lend_12 : decode cX12_lend 12 = .ok (.i2l, 1) := by decide +kernel
theorem dX12_lend_13 : decode cX12_lend 13 = .ok (.lconst 0, 1) := by decide +kernel
theorem dX12_lend_14 : decode cX12_lend 14 = .ok (.ldc2_w 311, 3) := by decide +kernel
theorem dX12_lend_17 : decode cX12_lend 17 = .ok (.invokestatic 183, 3) := by decide +kernel
theorem dX12_lend_20 : decode cX12_lend 20 = .ok (.ifCond .eq 19, 3) := by decide +kernel
theorem dX12_lend_23 : decode cX12_lend 23 = .ok (.lload 4, 2) := by decide +kernel
theorem dX12_lend_25 : decode cX12_lend 25 = .ok (.lconst 1, 1) := by decide +kernel
theorem dX12_lend_26 : decode cX12_lend 26 = .ok (.ldc2_w 297, 3) := by decide +kernel
theorem dX12_lend_29 : decode cX12_lend 29 = .ok (.invokestatic 183, 3) := by decide +kernel
theorem dX12_lend_32 : decode cX12_lend 32 = .ok (.ifCond .eq 7, 3) := by decide +kernel
theorem dX12_lend_35 : decode cX12_lend 35 = .ok (.iconst 1, 1) := by decide +kernel
theorem dX12_lend_36 : decode cX12_lend 36 = .ok (.goto 4, 3) := by decide +kernel
theorem dX12_lend_39 : decode cX12_lend 39 = .ok (.iconst 0, 1) := by decide +kernel
theorem dX12_lend_40 : decode cX12_lend 40 = .ok (.istore 6, 2) := by decide +kernel
theorem dX12_lend_42 : decode cX12_lend 42 = .ok (.aload_n 0, 1) := by decide +kernel
theorem dX12_lend_43 : decode cX12_lend 43 = .ok (.iload 6, 2) := by decide +kernel
theorem dX12_lend_45 : decode cX12_lend 45 = .ok (.ifCond .ne 7, 3) := by decide +kernel
theorem dX12_lend_48 : decode cX12_lend 48 = .ok (.iconst 1, 1) := by decide +kernel
theorem dX12_lend_49 : decode cX12_lend 49 = .ok (.goto 19, 3) := by decide +kernel
theorem dX12_lend_52 : decode cX12_lend 52 = .ok (.lload_n 1, 1) := by decide +kernel
theorem dX12_lend_53 : decode cX12_lend 53 = .ok (.iload_n 3, 1) := by decide +kernel
theorem dX12_lend_54 : decode cX12_lend 54 = .ok (.invokestatic 372, 3) := by decide +kernel
theorem dX12_lend_57 : decode cX12_lend 57 = .ok (.lload 4, 2) := by decide +kernel
theorem dX12_lend_59 : decode cX12_lend 59 = .ok (.lcmp, 1) := by decide +kernel
theorem dX12_lend_60 : decode cX12_lend 60 = .ok (.ifCond .lt 7, 3) := by decide +kernel
theorem dX12_lend_63 : decode cX12_lend 63 = .ok (.iconst 2, 1) := by decide +kernel
theorem dX12_lend_64 : decode cX12_lend 64 = .ok (.goto 4, 3) := by decide +kernel
theorem dX12_lend_67 : decode cX12_lend 67 = .ok (.iconst 0, 1) := by decide +kernel
theorem dX12_lend_68 : decode cX12_lend 68 = .ok (.invokevirtual 206, 3) := by decide +kernel
theorem dX12_lend_71 : decode cX12_lend 71 = .ok (.ifCond .eq 5, 3) := by decide +kernel
theorem dX12_lend_74 : decode cX12_lend 74 = .ok (.iconst 0, 1) := by decide +kernel
theorem dX12_lend_75 : decode cX12_lend 75 = .ok (.ireturn, 1) := by decide +kernel
theorem dX12_lend_76 : decode cX12_lend 76 = .ok (.lload_n 1, 1) := by decide +kernel
theorem dX12_lend_77 : decode cX12_lend 77 = .ok (.lstore 7, 2) := by decide +kernel
theorem dX12_lend_79 : decode cX12_lend 79 = .ok (.iconst 0, 1) := by decide +kernel
theorem dX12_lend_80 : decode cX12_lend 80 = .ok (.istore 9, 2) := by decide +kernel
theorem dX12_lend_82 : decode cX12_lend 82 = .ok (.lload 7, 2) := by decide +kernel
theorem dX12_lend_84 : decode cX12_lend 84 = .ok (.lconst 0, 1) := by decide +kernel
theorem dX12_lend_85 : decode cX12_lend 85 = .ok (.lcmp, 1) := by decide +kernel
theorem dX12_lend_86 : decode cX12_lend 86 = .ok (.ifCond .le 88, 3) := by decide +kernel
theorem dX12_lend_89 : decode cX12_lend 89 = .ok (.iload 9, 2) := by decide +kernel
theorem dX12_lend_91 : decode cX12_lend 91 = .ok (.bipush 120, 2) := by decide +kernel
theorem dX12_lend_93 : decode cX12_lend 93 = .ok (.if_icmp .ge 81, 3) := by decide +kernel
theorem dX12_lend_96 : decode cX12_lend 96 = .ok (.aload_n 0, 1) := by decide +kernel
theorem dX12_lend_97 : decode cX12_lend 97 = .ok (.getfield 144, 3) := by decide +kernel
theorem dX12_lend_100 : decode cX12_lend 100 = .ok (.iload 9, 2) := by decide +kernel
theorem dX12_lend_102 : decode cX12_lend 102 = .ok (.lload 7, 2) := by decide +kernel
theorem dX12_lend_104 : decode cX12_lend 104 = .ok (.iload_n 3, 1) := by decide +kernel
theorem dX12_lend_105 : decode cX12_lend 105 = .ok (.invokestatic 372, 3) := by decide +kernel
theorem dX12_lend_108 : decode cX12_lend 108 = .ok (.lastore, 1) := by decide +kernel
theorem dX12_lend_109 : decode cX12_lend 109 = .ok (.aload_n 0, 1) := by decide +kernel
theorem dX12_lend_110 : decode cX12_lend 110 = .ok (.getfield 147, 3) := by decide +kernel
theorem dX12_lend_113 : decode cX12_lend 113 = .ok (.iload 9, 2) := by decide +kernel
theorem dX12_lend_115 : decode cX12_lend 115 = .ok (.lload 7, 2) := by decide +kernel
theorem dX12_lend_117 : decode cX12_lend 117 = .ok (.aload_n 0, 1) := by decide +kernel
theorem dX12_lend_118 : decode cX12_lend 118 = .ok (.getfield 144, 3) := by decide +kernel
theorem dX12_lend_121 : decode cX12_lend 121 = .ok (.iload 9, 2) := by decide +kernel
theorem dX12_lend_123 : decode cX12_lend 123 = .ok (.laload, 1) := by decide +kernel
theorem dX12_lend_124 : decode cX12_lend 124 = .ok (.ladd, 1) := by decide +kernel
theorem dX12_lend_125 : decode cX12_lend 125 = .ok (.lload 4, 2) := by decide +kernel
theorem dX12_lend_127 : decode cX12_lend 127 = .ok (.lcmp, 1) := by decide +kernel
theorem dX12_lend_128 : decode cX12_lend 128 = .ok (.ifCond .gt 8, 3) := by decide +kernel
theorem dX12_lend_131 : decode cX12_lend 131 = .ok (.lload 7, 2) := by decide +kernel
theorem dX12_lend_133 : decode cX12_lend 133 = .ok (.goto 13, 3) := by decide +kernel
theorem dX12_lend_136 : decode cX12_lend 136 = .ok (.lload 4, 2) := by decide +kernel
theorem dX12_lend_138 : decode cX12_lend 138 = .ok (.aload_n 0, 1) := by decide +kernel
theorem dX12_lend_139 : decode cX12_lend 139 = .ok (.getfield 144, 3) := by decide +kernel
theorem dX12_lend_142 : decode cX12_lend 142 = .ok (.iload 9, 2) := by decide +kernel
theorem dX12_lend_144 : decode cX12_lend 144 = .ok (.laload, 1) := by decide +kernel
theorem dX12_lend_145 : decode cX12_lend 145 = .ok (.lsub, 1) := by decide +kernel
theorem dX12_lend_146 : decode cX12_lend 146 = .ok (.lastore, 1) := by decide +kernel
theorem dX12_lend_147 : decode cX12_lend 147 = .ok (.lload 7, 2) := by decide +kernel
theorem dX12_lend_149 : decode cX12_lend 149 = .ok (.aload_n 0, 1) := by decide +kernel
theorem dX12_lend_150 : decode cX12_lend 150 = .ok (.getfield 147, 3) := by decide +kernel
theorem dX12_lend_153 : decode cX12_lend 153 = .ok (.iload 9, 2) := by decide +kernel
theorem dX12_lend_155 : decode cX12_lend 155 = .ok (.laload, 1) := by decide +kernel
theorem dX12_lend_156 : decode cX12_lend 156 = .ok (.lsub, 1) := by decide +kernel
theorem dX12_lend_157 : decode cX12_lend 157 = .ok (.lstore 7, 2) := by decide +kernel
theorem dX12_lend_159 : decode cX12_lend 159 = .ok (.aload_n 0, 1) := by decide +kernel
theorem dX12_lend_160 : decode cX12_lend 160 = .ok (.getfield 150, 3) := by decide +kernel
theorem dX12_lend_163 : decode cX12_lend 163 = .ok (.iload 9, 2) := by decide +kernel
theorem dX12_lend_165 : decode cX12_lend 165 = .ok (.lload 7, 2) := by decide +kernel
theorem dX12_lend_167 : decode cX12_lend 167 = .ok (.lastore, 1) := by decide +kernel
theorem dX12_lend_168 : decode cX12_lend 168 = .ok (.iinc 9 1, 3) := by decide +kernel
theorem dX12_lend_171 : decode cX12_lend 171 = .ok (.goto (-89), 3) := by decide +kernel
theorem dX12_lend_174 : decode cX12_lend 174 = .ok (.aload_n 0, 1) := by decide +kernel
theorem dX12_lend_175 : decode cX12_lend 175 = .ok (.lload 7, 2) := by decide +kernel
theorem dX12_lend_177 : decode cX12_lend 177 = .ok (.lconst 0, 1) := by decide +kernel
theorem dX12_lend_178 : decode cX12_lend 178 = .ok (.lcmp, 1) := by decide +kernel
theorem dX12_lend_179 : decode cX12_lend 179 = .ok (.ifCond .le 7, 3) := by decide +kernel
theorem dX12_lend_182 : decode cX12_lend 182 = .ok (.iconst 3, 1) := by decide +kernel
theorem dX12_lend_183 : decode cX12_lend 183 = .ok (.goto 4, 3) := by decide +kernel
theorem dX12_lend_186 : decode cX12_lend 186 = .ok (.iconst 0, 1) := by decide +kernel
theorem dX12_lend_187 : decode cX12_lend 187 = .ok (.invokevirtual 206, 3) := by decide +kernel
theorem dX12_lend_190 : decode cX12_lend 190 = .ok (.ifCond .eq 5, 3) := by decide +kernel
theorem dX12_lend_193 : decode cX12_lend 193 = .ok (.iconst 0, 1) := by decide +kernel
theorem dX12_lend_194 : decode cX12_lend 194 = .ok (.ireturn, 1) := by decide +kernel
theorem dX12_lend_195 : decode cX12_lend 195 = .ok (.aload_n 0, 1) := by decide +kernel
theorem dX12_lend_196 : decode cX12_lend 196 = .ok (.iload 9, 2) := by decide +kernel
theorem dX12_lend_198 : decode cX12_lend 198 = .ok (.putfield 375, 3) := by decide +kernel
theorem dX12_lend_201 : decode cX12_lend 201 = .ok (.iconst 0, 1) := by decide +kernel
theorem dX12_lend_202 : decode cX12_lend 202 = .ok (.istore 10, 2) := by decide +kernel
theorem dX12_lend_204 : decode cX12_lend 204 = .ok (.iload 10, 2) := by decide +kernel
theorem dX12_lend_206 : decode cX12_lend 206 = .ok (.iload 9, 2) := by decide +kernel
theorem dX12_lend_208 : decode cX12_lend 208 = .ok (.if_icmp .ge 51, 3) := by decide +kernel
theorem dX12_lend_211 : decode cX12_lend 211 = .ok (.aload_n 0, 1) := by decide +kernel
theorem dX12_lend_212 : decode cX12_lend 212 = .ok (.getfield 135, 3) := by decide +kernel
theorem dX12_lend_215 : decode cX12_lend 215 = .ok (.iload 10, 2) := by decide +kernel
theorem dX12_lend_217 : decode cX12_lend 217 = .ok (.aload_n 0, 1) := by decide +kernel
theorem dX12_lend_218 : decode cX12_lend 218 = .ok (.getfield 144, 3) := by decide +kernel
theorem dX12_lend_221 : decode cX12_lend 221 = .ok (.iload 10, 2) := by decide +kernel
theorem dX12_lend_223 : decode cX12_lend 223 = .ok (.laload, 1) := by decide +kernel
theorem dX12_lend_224 : decode cX12_lend 224 = .ok (.lastore, 1) := by decide +kernel
theorem dX12_lend_225 : decode cX12_lend 225 = .ok (.aload_n 0, 1) := by decide +kernel
theorem dX12_lend_226 : decode cX12_lend 226 = .ok (.getfield 138, 3) := by decide +kernel
theorem dX12_lend_229 : decode cX12_lend 229 = .ok (.iload 10, 2) := by decide +kernel
theorem dX12_lend_231 : decode cX12_lend 231 = .ok (.aload_n 0, 1) := by decide +kernel
theorem dX12_lend_232 : decode cX12_lend 232 = .ok (.getfield 147, 3) := by decide +kernel
theorem dX12_lend_235 : decode cX12_lend 235 = .ok (.iload 10, 2) := by decide +kernel
theorem dX12_lend_237 : decode cX12_lend 237 = .ok (.laload, 1) := by decide +kernel
theorem dX12_lend_238 : decode cX12_lend 238 = .ok (.lastore, 1) := by decide +kernel
theorem dX12_lend_239 : decode cX12_lend 239 = .ok (.aload_n 0, 1) := by decide +kernel
theorem dX12_lend_240 : decode cX12_lend 240 = .ok (.getfield 141, 3) := by decide +kernel
theorem dX12_lend_243 : decode cX12_lend 243 = .ok (.iload 10, 2) := by decide +kernel
theorem dX12_lend_245 : decode cX12_lend 245 = .ok (.aload_n 0, 1) := by decide +kernel
theorem dX12_lend_246 : decode cX12_lend 246 = .ok (.getfield 150, 3) := by decide +kernel
theorem dX12_lend_249 : decode cX12_lend 249 = .ok (.iload 10, 2) := by decide +kernel
theorem dX12_lend_251 : decode cX12_lend 251 = .ok (.laload, 1) := by decide +kernel
theorem dX12_lend_252 : decode cX12_lend 252 = .ok (.lastore, 1) := by decide +kernel
theorem dX12_lend_253 : decode cX12_lend 253 = .ok (.iinc 10 1, 3) := by decide +kernel
theorem dX12_lend_256 : decode cX12_lend 256 = .ok (.goto (-52), 3) := by decide +kernel
theorem dX12_lend_259 : decode cX12_lend 259 = .ok (.iload 9, 2) := by decide +kernel
theorem dX12_lend_261 : decode cX12_lend 261 = .ok (.ireturn, 1) := by decide +kernel
theorem dX12_instalment_0 : decode cX12_instalment 0 = .ok (.iload_n 2, 1) := by decide +kernel
theorem dX12_instalment_1 : decode cX12_instalment 1 = .ok (.bipush 105, 2) := by decide +kernel
theorem dX12_instalment_3 : decode cX12_instalment 3 = .ok (.if_icmp .eq 21, 3) := by decide +kernel
theorem dX12_instalment_6 : decode cX12_instalment 6 = .ok (.iload_n 2, 1) := by decide +kernel
theorem dX12_instalment_7 : decode cX12_instalment 7 = .ok (.bipush 112, 2) := by decide +kernel
theorem dX12_instalment_9 : decode cX12_instalment 9 = .ok (.if_icmp .eq 15, 3) := by decide +kernel
theorem dX12_instalment_12 : decode cX12_instalment 12 = .ok (.iload_n 2, 1) := by decide +kernel
theorem dX12_instalment_13 : decode cX12_instalment 13 = .ok (.bipush 111, 2) := by decide +kernel
theorem dX12_instalment_15 : decode cX12_instalment 15 = .ok (.if_icmp .eq 9, 3) := by decide +kernel
theorem dX12_instalment_18 : decode cX12_instalment 18 = .ok (.iload_n 2, 1) := by decide +kernel
theorem dX12_instalment_19 : decode cX12_instalment 19 = .ok (.bipush 115, 2) := by decide +kernel
theorem dX12_instalment_21 : decode cX12_instalment 21 = .ok (.if_icmp .ne 7, 3) := by decide +kernel
theorem dX12_instalment_24 : decode cX12_instalment 24 = .ok (.iconst 1, 1) := by decide +kernel
theorem dX12_instalment_25 : decode cX12_instalment 25 = .ok (.goto 4, 3) := by decide +kernel
theorem dX12_instalment_28 : decode cX12_instalment 28 = .ok (.iconst 0, 1) := by decide +kernel
theorem dX12_instalment_29 : decode cX12_instalment 29 = .ok (.istore_n 3, 1) := by decide +kernel
theorem dX12_instalment_30 : decode cX12_instalment 30 = .ok (.aload_n 0, 1) := by decide +kernel
theorem dX12_instalment_31 : decode cX12_instalment 31 = .ok (.iload_n 3, 1) := by decide +kernel
theorem dX12_instalment_32 : decode cX12_instalment 32 = .ok (.ifCond .ne 7, 3) := by decide +kernel
theorem dX12_instalment_35 : decode cX12_instalment 35 = .ok (.iconst 1, 1) := by decide +kernel
theorem dX12_instalment_36 : decode cX12_instalment 36 = .ok (.goto 24, 3) := by decide +kernel
theorem dX12_instalment_39 : decode cX12_instalment 39 = .ok (.iload_n 1, 1) := by decide +kernel
theorem dX12_instalment_40 : decode cX12_instalment 40 = .ok (.i2l, 1) := by decide +kernel
theorem dX12_instalment_41 : decode cX12_instalment 41 = .ok (.lconst 0, 1) := by decide +kernel
theorem dX12_instalment_42 : decode cX12_instalment 42 = .ok (.aload_n 0, 1) := by decide +kernel
theorem dX12_instalment_43 : decode cX12_instalment 43 = .ok (.getfield 375, 3) := by decide +kernel
theorem dX12_instalment_46 : decode cX12_instalment 46 = .ok (.iconst 1, 1) := by decide +kernel
theorem dX12_instalment_47 : decode cX12_instalment 47 = .ok (.isub, 1) := by decide +kernel
theorem dX12_instalment_48 : decode cX12_instalment 48 = .ok (.i2l, 1) := by decide +kernel
theorem dX12_instalment_49 : decode cX12_instalment 49 = .ok (.invokestatic 183, 3) := by decide +kernel
theorem dX12_instalment_52 : decode cX12_instalment 52 = .ok (.ifCond .eq 7, 3) := by decide +kernel
theorem dX12_instalment_55 : decode cX12_instalment 55 = .ok (.iconst 0, 1) := by decide +kernel
theorem dX12_instalment_56 : decode cX12_instalment 56 = .ok (.goto 4, 3) := by decide +kernel
theorem dX12_instalment_59 : decode cX12_instalment 59 = .ok (.iconst 2, 1) := by decide +kernel
theorem dX12_instalment_60 : decode cX12_instalment 60 = .ok (.invokevirtual 206, 3) := by decide +kernel
theorem dX12_instalment_63 : decode cX12_instalment 63 = .ok (.ifCond .eq 5, 3) := by decide +kernel
theorem dX12_instalment_66 : decode cX12_instalment 66 = .ok (.lconst 0, 1) := by decide +kernel
theorem dX12_instalment_67 : decode cX12_instalment 67 = .ok (.lreturn, 1) := by decide +kernel
theorem dX12_instalment_68 : decode cX12_instalment 68 = .ok (.iload_n 2, 1) := by decide +kernel
theorem dX12_instalment_69 : decode cX12_instalment 69 = .ok (.bipush 105, 2) := by decide +kernel
theorem dX12_instalment_71 : decode cX12_instalment 71 = .ok (.if_icmp .ne 12, 3) := by decide +kernel
theorem dX12_instalment_74 : decode cX12_instalment 74 = .ok (.aload_n 0, 1) := by decide +kernel
theorem dX12_instalment_75 : decode cX12_instalment 75 = .ok (.getfield 135, 3) := by decide +kernel
theorem dX12_instalment_78 : decode cX12_instalment 78 = .ok (.iload_n 1, 1) := by decide +kernel
theorem dX12_instalment_79 : decode cX12_instalment 79 = .ok (.laload, 1) := by decide +kernel
theorem dX12_instalment_80 : decode cX12_instalment 80 = .ok (.goto 46, 3) := by decide +kernel
theorem dX12_instalment_83 : decode cX12_instalment 83 = .ok (.iload_n 2, 1) := by decide +kernel
theorem dX12_instalment_84 : decode cX12_instalment 84 = .ok (.bipush 112, 2) := by decide +kernel
theorem dX12_instalment_86 : decode cX12_instalment 86 = .ok (.if_icmp .ne 12, 3) := by decide +kernel
theorem dX12_instalment_89 : decode cX12_instalment 89 = .ok (.aload_n 0, 1) := by decide +kernel
theorem dX12_instalment_90 : decode cX12_instalment 90 = .ok (.getfield 138, 3) := by decide +kernel
theorem dX12_instalment_93 : decode cX12_instalment 93 = .ok (.iload_n 1, 1) := by decide +kernel
theorem dX12_instalment_94 : decode cX12_instalment 94 = .ok (.laload, 1) := by decide +kernel
theorem dX12_instalment_95 : decode cX12_instalment 95 = .ok (.goto 31, 3) := by decide +kernel
theorem dX12_instalment_98 : decode cX12_instalment 98 = .ok (.iload_n 2, 1) := by decide +kernel
theorem dX12_instalment_99 : decode cX12_instalment 99 = .ok (.bipush 111, 2) := by decide +kernel
theorem dX12_instalment_101 : decode cX12_instalment 101 = .ok (.if_icmp .ne 12, 3) := by decide +kernel
theorem dX12_instalment_104 : decode cX12_instalment 104 = .ok (.aload_n 0, 1) := by decide +kernel
theorem dX12_instalment_105 : decode cX12_instalment 105 = .ok (.getfield 141, 3) := by decide +kernel
theorem dX12_instalment_108 : decode cX12_instalment 108 = .ok (.iload_n 1, 1) := by decide +kernel
theorem dX12_instalment_109 : decode cX12_instalment 109 = .ok (.laload, 1) := by decide +kernel
theorem dX12_instalment_110 : decode cX12_instalment 110 = .ok (.goto 16, 3) := by decide +kernel
theorem dX12_instalment_113 : decode cX12_instalment 113 = .ok (.aload_n 0, 1) := by decide +kernel
theorem dX12_instalment_114 : decode cX12_instalment 114 = .ok (.getfield 135, 3) := by decide +kernel
theorem dX12_instalment_117 : decode cX12_instalment 117 = .ok (.iload_n 1, 1) := by decide +kernel
theorem dX12_instalment_118 : decode cX12_instalment 118 = .ok (.laload, 1) := by decide +kernel
theorem dX12_instalment_119 : decode cX12_instalment 119 = .ok (.aload_n 0, 1) := by decide +kernel
theorem dX12_instalment_120 : decode cX12_instalment 120 = .ok (.getfield 138, 3) := by decide +kernel
theorem dX12_instalment_123 : decode cX12_instalment 123 = .ok (.iload_n 1, 1) := by decide +kernel
theorem dX12_instalment_124 : decode cX12_instalment 124 = .ok (.laload, 1) := by decide +kernel
theorem dX12_instalment_125 : decode cX12_instalment 125 = .ok (.ladd, 1) := by decide +kernel
theorem dX12_instalment_126 : decode cX12_instalment 126 = .ok (.lreturn, 1) := by decide +kernel
theorem dX12_isAccount_0 : decode cX12_isAccount 0 = .ok (.iload_n 0, 1) := by decide +kernel
theorem dX12_isAccount_1 : decode cX12_isAccount 1 = .ok (.i2l, 1) := by decide +kernel
theorem dX12_isAccount_2 : decode cX12_isAccount 2 = .ok (.lconst 0, 1) := by decide +kernel
theorem dX12_isAccount_3 : decode cX12_isAccount 3 = .ok (.ldc2_w 378, 3) := by decide +kernel
theorem dX12_isAccount_6 : decode cX12_isAccount 6 = .ok (.invokestatic 183, 3) := by decide +kernel
theorem dX12_isAccount_9 : decode cX12_isAccount 9 = .ok (.ireturn, 1) := by decide +kernel
theorem dX12_notes_0 : decode cX12_notes 0 = .ok (.aload_n 0, 1) := by decide +kernel
theorem dX12_notes_1 : decode cX12_notes 1 = .ok (.getfield 169, 3) := by decide +kernel
theorem dX12_notes_4 : decode cX12_notes 4 = .ok (.aload_n 0, 1) := by decide +kernel
theorem dX12_notes_5 : decode cX12_notes 5 = .ok (.getfield 380, 3) := by decide +kernel
theorem dX12_notes_8 : decode cX12_notes 8 = .ok (.aload_n 0, 1) := by decide +kernel
theorem dX12_notes_9 : decode cX12_notes 9 = .ok (.getfield 383, 3) := by decide +kernel
theorem dX12_notes_12 : decode cX12_notes 12 = .ok (.iastore, 1) := by decide +kernel
theorem dX12_notes_13 : decode cX12_notes 13 = .ok (.aload_n 0, 1) := by decide +kernel
theorem dX12_notes_14 : decode cX12_notes 14 = .ok (.getfield 172, 3) := by decide +kernel
theorem dX12_notes_17 : decode cX12_notes 17 = .ok (.aload_n 0, 1) := by decide +kernel
theorem dX12_notes_18 : decode cX12_notes 18 = .ok (.getfield 380, 3) := by decide +kernel
theorem dX12_notes_21 : decode cX12_notes 21 = .ok (.iload_n 1, 1) := by decide +kernel
theorem dX12_notes_22 : decode cX12_notes 22 = .ok (.iastore, 1) := by decide +kernel
theorem dX12_notes_23 : decode cX12_notes 23 = .ok (.aload_n 0, 1) := by decide +kernel
theorem dX12_notes_24 : decode cX12_notes 24 = .ok (.getfield 175, 3) := by decide +kernel
theorem dX12_notes_27 : decode cX12_notes 27 = .ok (.aload_n 0, 1) := by decide +kernel
theorem dX12_notes_28 : decode cX12_notes 28 = .ok (.getfield 380, 3) := by decide +kernel
theorem dX12_notes_31 : decode cX12_notes 31 = .ok (.iload_n 2, 1) := by decide +kernel
theorem dX12_notes_32 : decode cX12_notes 32 = .ok (.iastore, 1) := by decide +kernel
theorem dX12_notes_33 : decode cX12_notes 33 = .ok (.aload_n 0, 1) := by decide +kernel
theorem dX12_notes_34 : decode cX12_notes 34 = .ok (.dup, 1) := by decide +kernel
theorem dX12_notes_35 : decode cX12_notes 35 = .ok (.getfield 380, 3) := by decide +kernel
theorem dX12_notes_38 : decode cX12_notes 38 = .ok (.iconst 1, 1) := by decide +kernel
theorem dX12_notes_39 : decode cX12_notes 39 = .ok (.iadd, 1) := by decide +kernel
theorem dX12_notes_40 : decode cX12_notes 40 = .ok (.putfield 380, 3) := by decide +kernel
theorem dX12_notes_43 : decode cX12_notes 43 = .ok (.return_, 1) := by decide +kernel
theorem dX12_enters_0 : decode cX12_enters 0 = .ok (.aload_n 0, 1) := by decide +kernel
theorem dX12_enters_1 : decode cX12_enters 1 = .ok (.getfield 153, 3) := by decide +kernel
theorem dX12_enters_4 : decode cX12_enters 4 = .ok (.aload_n 0, 1) := by decide +kernel
theorem dX12_enters_5 : decode cX12_enters 5 = .ok (.getfield 383, 3) := by decide +kernel
theorem dX12_enters_8 : decode cX12_enters 8 = .ok (.iload_n 1, 1) := by decide +kernel
theorem dX12_enters_9 : decode cX12_enters 9 = .ok (.iastore, 1) := by decide +kernel
theorem dX12_enters_10 : decode cX12_enters 10 = .ok (.aload_n 0, 1) := by decide +kernel
theorem dX12_enters_11 : decode cX12_enters 11 = .ok (.getfield 156, 3) := by decide +kernel
theorem dX12_enters_14 : decode cX12_enters 14 = .ok (.aload_n 0, 1) := by decide +kernel
theorem dX12_enters_15 : decode cX12_enters 15 = .ok (.getfield 383, 3) := by decide +kernel
theorem dX12_enters_18 : decode cX12_enters 18 = .ok (.iload_n 2, 1) := by decide +kernel
theorem dX12_enters_19 : decode cX12_enters 19 = .ok (.iastore, 1) := by decide +kernel
theorem dX12_enters_20 : decode cX12_enters 20 = .ok (.aload_n 0, 1) := by decide +kernel
theorem dX12_enters_21 : decode cX12_enters 21 = .ok (.getfield 159, 3) := by decide +kernel
theorem dX12_enters_24 : decode cX12_enters 24 = .ok (.aload_n 0, 1) := by decide +kernel
theorem dX12_enters_25 : decode cX12_enters 25 = .ok (.getfield 383, 3) := by decide +kernel
theorem dX12_enters_28 : decode cX12_enters 28 = .ok (.iload_n 3, 1) := by decide +kernel
theorem dX12_enters_29 : decode cX12_enters 29 = .ok (.iastore, 1) := by decide +kernel
theorem dX12_enters_30 : decode cX12_enters 30 = .ok (.aload_n 0, 1) := by decide +kernel
theorem dX12_enters_31 : decode cX12_enters 31 = .ok (.getfield 162, 3) := by decide +kernel
theorem dX12_enters_34 : decode cX12_enters 34 = .ok (.aload_n 0, 1) := by decide +kernel
theorem dX12_enters_35 : decode cX12_enters 35 = .ok (.getfield 383, 3) := by decide +kernel
theorem dX12_enters_38 : decode cX12_enters 38 = .ok (.lload 4, 2) := by decide +kernel
theorem dX12_enters_40 : decode cX12_enters 40 = .ok (.lastore, 1) := by decide +kernel
theorem dX12_enters_41 : decode cX12_enters 41 = .ok (.aload_n 0, 1) := by decide +kernel
theorem dX12_enters_42 : decode cX12_enters 42 = .ok (.dup, 1) := by decide +kernel
theorem dX12_enters_43 : decode cX12_enters 43 = .ok (.getfield 383, 3) := by decide +kernel
theorem dX12_enters_46 : decode cX12_enters 46 = .ok (.iconst 1, 1) := by decide +kernel
theorem dX12_enters_47 : decode cX12_enters 47 = .ok (.iadd, 1) := by decide +kernel
theorem dX12_enters_48 : decode cX12_enters 48 = .ok (.putfield 383, 3) := by decide +kernel
theorem dX12_enters_51 : decode cX12_enters 51 = .ok (.return_, 1) := by decide +kernel
theorem dX12_post_0 : decode cX12_post 0 = .ok (.iload_n 1, 1) := by decide +kernel
theorem dX12_post_1 : decode cX12_post 1 = .ok (.i2l, 1) := by decide +kernel
theorem dX12_post_2 : decode cX12_post 2 = .ok (.lconst 0, 1) := by decide +kernel
theorem dX12_post_3 : decode cX12_post 3 = .ok (.ldc2_w 311, 3) := by decide +kernel
theorem dX12_post_6 : decode cX12_post 6 = .ok (.invokestatic 183, 3) := by decide +kernel
theorem dX12_post_9 : decode cX12_post 9 = .ok (.ifCond .eq 24, 3) := by decide +kernel
theorem dX12_post_12 : decode cX12_post 12 = .ok (.lload 4, 2) := by decide +kernel
theorem dX12_post_14 : decode cX12_post 14 = .ok (.lconst 1, 1) := by decide +kernel
theorem dX12_post_15 : decode cX12_post 15 = .ok (.ldc2_w 297, 3) := by decide +kernel
theorem dX12_post_18 : decode cX12_post 18 = .ok (.invokestatic 183, 3) := by decide +kernel
theorem dX12_post_21 : decode cX12_post 21 = .ok (.ifCond .eq 12, 3) := by decide +kernel
theorem dX12_post_24 : decode cX12_post 24 = .ok (.iload_n 2, 1) := by decide +kernel
theorem dX12_post_25 : decode cX12_post 25 = .ok (.iload_n 3, 1) := by decide +kernel
theorem dX12_post_26 : decode cX12_post 26 = .ok (.if_icmp .eq 7, 3) := by decide +kernel
theorem dX12_post_29 : decode cX12_post 29 = .ok (.iconst 1, 1) := by decide +kernel
theorem dX12_post_30 : decode cX12_post 30 = .ok (.goto 4, 3) := by decide +kernel
theorem dX12_post_33 : decode cX12_post 33 = .ok (.iconst 0, 1) := by decide +kernel
theorem dX12_post_34 : decode cX12_post 34 = .ok (.istore 6, 2) := by decide +kernel
theorem dX12_post_36 : decode cX12_post 36 = .ok (.aload_n 0, 1) := by decide +kernel
theorem dX12_post_37 : decode cX12_post 37 = .ok (.iload_n 2, 1) := by decide +kernel
theorem dX12_post_38 : decode cX12_post 38 = .ok (.invokestatic 386, 3) := by decide +kernel
theorem dX12_post_41 : decode cX12_post 41 = .ok (.ifCond .eq 10, 3) := by decide +kernel
theorem dX12_post_44 : decode cX12_post 44 = .ok (.iload_n 3, 1) := by decide +kernel
theorem dX12_post_45 : decode cX12_post 45 = .ok (.invokestatic 386, 3) := by decide +kernel
theorem dX12_post_48 : decode cX12_post 48 = .ok (.ifCond .ne 7, 3) := by decide +kernel
theorem dX12_post_51 : decode cX12_post 51 = .ok (.iconst 1, 1) := by decide +kernel
theorem dX12_post_52 : decode cX12_post 52 = .ok (.goto 39, 3) := by decide +kernel
theorem dX12_post_55 : decode cX12_post 55 = .ok (.iload 6, 2) := by decide +kernel
theorem dX12_post_57 : decode cX12_post 57 = .ok (.ifCond .ne 7, 3) := by decide +kernel
theorem dX12_post_60 : decode cX12_post 60 = .ok (.iconst 2, 1) := by decide +kernel
theorem dX12_post_61 : decode cX12_post 61 = .ok (.goto 30, 3) := by decide +kernel
theorem dX12_post_64 : decode cX12_post 64 = .ok (.iload_n 1, 1) := by decide +kernel
theorem dX12_post_65 : decode cX12_post 65 = .ok (.aload_n 0, 1) := by decide +kernel
theorem dX12_post_66 : decode cX12_post 66 = .ok (.getfield 165, 3) := by decide +kernel
theorem dX12_post_69 : decode cX12_post 69 = .ok (.if_icmp .gt 7, 3) := by decide +kernel
theorem dX12_post_72 : decode cX12_post 72 = .ok (.iconst 3, 1) := by decide +kernel
theorem dX12_post_73 : decode cX12_post 73 = .ok (.goto 18, 3) := by decide +kernel
theorem dX12_post_76 : decode cX12_post 76 = .ok (.aload_n 0, 1) := by decide +kernel
theorem dX12_post_77 : decode cX12_post 77 = .ok (.getfield 383, 3) := by decide +kernel
theorem dX12_post_80 : decode cX12_post 80 = .ok (.sipush 200, 3) := by decide +kernel
theorem dX12_post_83 : decode cX12_post 83 = .ok (.if_icmp .ne 7, 3) := by decide +kernel
theorem dX12_post_86 : decode cX12_post 86 = .ok (.iconst 4, 1) := by decide +kernel
theorem dX12_post_87 : decode cX12_post 87 = .ok (.goto 4, 3) := by decide +kernel
theorem dX12_post_90 : decode cX12_post 90 = .ok (.iconst 0, 1) := by decide +kernel
theorem dX12_post_91 : decode cX12_post 91 = .ok (.invokevirtual 206, 3) := by decide +kernel
theorem dX12_post_94 : decode cX12_post 94 = .ok (.ifCond .eq 5, 3) := by decide +kernel
theorem dX12_post_97 : decode cX12_post 97 = .ok (.iconst 0, 1) := by decide +kernel
theorem dX12_post_98 : decode cX12_post 98 = .ok (.ireturn, 1) := by decide +kernel
theorem dX12_post_99 : decode cX12_post 99 = .ok (.aload_n 0, 1) := by decide +kernel
theorem dX12_post_100 : decode cX12_post 100 = .ok (.iload_n 1, 1) := by decide +kernel
theorem dX12_post_101 : decode cX12_post 101 = .ok (.iconst (-1), 1) := by decide +kernel
theorem dX12_post_102 : decode cX12_post 102 = .ok (.invokevirtual 389, 3) := by decide +kernel
theorem dX12_post_105 : decode cX12_post 105 = .ok (.aload_n 0, 1) := by decide +kernel
theorem dX12_post_106 : decode cX12_post 106 = .ok (.iload_n 1, 1) := by decide +kernel
theorem dX12_post_107 : decode cX12_post 107 = .ok (.iload_n 2, 1) := by decide +kernel
theorem dX12_post_108 : decode cX12_post 108 = .ok (.iload_n 3, 1) := by decide +kernel
theorem dX12_post_109 : decode cX12_post 109 = .ok (.lload 4, 2) := by decide +kernel
theorem dX12_post_111 : decode cX12_post 111 = .ok (.invokevirtual 392, 3) := by decide +kernel
theorem dX12_post_114 : decode cX12_post 114 = .ok (.aload_n 0, 1) := by decide +kernel
theorem dX12_post_115 : decode cX12_post 115 = .ok (.getfield 383, 3) := by decide +kernel
theorem dX12_post_118 : decode cX12_post 118 = .ok (.ireturn, 1) := by decide +kernel
theorem dX12_book_0 : decode cX12_book 0 = .ok (.aload_n 0, 1) := by decide +kernel
theorem dX12_book_1 : decode cX12_book 1 = .ok (.aload_n 0, 1) := by decide +kernel
theorem dX12_book_2 : decode cX12_book 2 = .ok (.iload_n 1, 1) := by decide +kernel
theorem dX12_book_3 : decode cX12_book 3 = .ok (.invokevirtual 337, 3) := by decide +kernel
theorem dX12_book_6 : decode cX12_book 6 = .ok (.ifCond .ne 7, 3) := by decide +kernel
theorem dX12_book_9 : decode cX12_book 9 = .ok (.iconst 1, 1) := by decide +kernel
theorem dX12_book_10 : decode cX12_book 10 = .ok (.goto 61, 3) := by decide +kernel
theorem dX12_book_13 : decode cX12_book 13 = .ok (.aload_n 0, 1) := by decide +kernel
theorem dX12_book_14 : decode cX12_book 14 = .ok (.getfield 117, 3) := by decide +kernel
theorem dX12_book_17 : decode cX12_book 17 = .ok (.iload_n 1, 1) := by decide +kernel
theorem dX12_book_18 : decode cX12_book 18 = .ok (.baload, 1) := by decide +kernel
theorem dX12_book_19 : decode cX12_book 19 = .ok (.ifCond .ne 16, 3) := by decide +kernel
theorem dX12_book_22 : decode cX12_book 22 = .ok (.aload_n 0, 1) := by decide +kernel
theorem dX12_book_23 : decode cX12_book 23 = .ok (.getfield 105, 3) := by decide +kernel
theorem dX12_book_26 : decode cX12_book 26 = .ok (.iload_n 1, 1) := by decide +kernel
theorem dX12_book_27 : decode cX12_book 27 = .ok (.iaload, 1) := by decide +kernel
theorem dX12_book_28 : decode cX12_book 28 = .ok (.aload_n 0, 1) := by decide +kernel
theorem dX12_book_29 : decode cX12_book 29 = .ok (.getfield 165, 3) := by decide +kernel
theorem dX12_book_32 : decode cX12_book 32 = .ok (.if_icmp .gt 7, 3) := by decide +kernel
theorem dX12_book_35 : decode cX12_book 35 = .ok (.iconst 2, 1) := by decide +kernel
theorem dX12_book_36 : decode cX12_book 36 = .ok (.goto 35, 3) := by decide +kernel
theorem dX12_book_39 : decode cX12_book 39 = .ok (.aload_n 0, 1) := by decide +kernel
theorem dX12_book_40 : decode cX12_book 40 = .ok (.getfield 108, 3) := by decide +kernel
theorem dX12_book_43 : decode cX12_book 43 = .ok (.iload_n 1, 1) := by decide +kernel
theorem dX12_book_44 : decode cX12_book 44 = .ok (.iaload, 1) := by decide +kernel
theorem dX12_book_45 : decode cX12_book 45 = .ok (.ifCond .le 25, 3) := by decide +kernel
theorem dX12_book_48 : decode cX12_book 48 = .ok (.aload_n 0, 1) := by decide +kernel
theorem dX12_book_49 : decode cX12_book 49 = .ok (.getfield 80, 3) := by decide +kernel
theorem dX12_book_52 : decode cX12_book 52 = .ok (.iconst 4, 1) := by decide +kernel
theorem dX12_book_53 : decode cX12_book 53 = .ok (.aload_n 0, 1) := by decide +kernel
theorem dX12_book_54 : decode cX12_book 54 = .ok (.getfield 108, 3) := by decide +kernel
theorem dX12_book_57 : decode cX12_book 57 = .ok (.iload_n 1, 1) := by decide +kernel
theorem dX12_book_58 : decode cX12_book 58 = .ok (.iaload, 1) := by decide +kernel
theorem dX12_book_59 : decode cX12_book 59 = .ok (.imul, 1) := by decide +kernel
theorem dX12_book_60 : decode cX12_book 60 = .ok (.laload, 1) := by decide +kernel
theorem dX12_book_61 : decode cX12_book 61 = .ok (.lconst 0, 1) := by decide +kernel
theorem dX12_book_62 : decode cX12_book 62 = .ok (.lcmp, 1) := by decide +kernel
theorem dX12_book_63 : decode cX12_book 63 = .ok (.ifCond .ne 7, 3) := by decide +kernel
theorem dX12_book_66 : decode cX12_book 66 = .ok (.iconst 3, 1) := by decide +kernel
theorem dX12_book_67 : decode cX12_book 67 = .ok (.goto 4, 3) := by decide +kernel
theorem dX12_book_70 : decode cX12_book 70 = .ok (.iconst 0, 1) := by decide +kernel
theorem dX12_book_71 : decode cX12_book 71 = .ok (.invokevirtual 206, 3) := by decide +kernel
theorem dX12_book_74 : decode cX12_book 74 = .ok (.ifCond .eq 5, 3) := by decide +kernel
theorem dX12_book_77 : decode cX12_book 77 = .ok (.iconst 0, 1) := by decide +kernel
theorem dX12_book_78 : decode cX12_book 78 = .ok (.ireturn, 1) := by decide +kernel
theorem dX12_book_79 : decode cX12_book 79 = .ok (.aload_n 0, 1) := by decide +kernel
theorem dX12_book_80 : decode cX12_book 80 = .ok (.iconst 0, 1) := by decide +kernel
theorem dX12_book_81 : decode cX12_book 81 = .ok (.putfield 47, 3) := by decide +kernel
theorem dX12_book_84 : decode cX12_book 84 = .ok (.aload_n 0, 1) := by decide +kernel
theorem dX12_book_85 : decode cX12_book 85 = .ok (.iload_n 1, 1) := by decide +kernel
theorem dX12_book_86 : decode cX12_book 86 = .ok (.invokevirtual 356, 3) := by decide +kernel
theorem dX12_book_89 : decode cX12_book 89 = .ok (.lstore_n 2, 1) := by decide +kernel
theorem dX12_book_90 : decode cX12_book 90 = .ok (.lload_n 2, 1) := by decide +kernel
theorem dX12_book_91 : decode cX12_book 91 = .ok (.aload_n 0, 1) := by decide +kernel
theorem dX12_book_92 : decode cX12_book 92 = .ok (.iload_n 1, 1) := by decide +kernel
theorem dX12_book_93 : decode cX12_book 93 = .ok (.invokevirtual 359, 3) := by decide +kernel
theorem dX12_book_96 : decode cX12_book 96 = .ok (.ladd, 1) := by decide +kernel
theorem dX12_book_97 : decode cX12_book 97 = .ok (.lstore 4, 2) := by decide +kernel
theorem dX12_book_99 : decode cX12_book 99 = .ok (.aload_n 0, 1) := by decide +kernel
theorem dX12_book_100 : decode cX12_book 100 = .ok (.getfield 108, 3) := by decide +kernel
theorem dX12_book_103 : decode cX12_book 103 = .ok (.iload_n 1, 1) := by decide +kernel
theorem dX12_book_104 : decode cX12_book 104 = .ok (.iaload, 1) := by decide +kernel
theorem dX12_book_105 : decode cX12_book 105 = .ok (.ifCond .le 31, 3) := by decide +kernel
theorem dX12_book_108 : decode cX12_book 108 = .ok (.aload_n 0, 1) := by decide +kernel
theorem dX12_book_109 : decode cX12_book 109 = .ok (.aload_n 0, 1) := by decide +kernel
theorem dX12_book_110 : decode cX12_book 110 = .ok (.getfield 108, 3) := by decide +kernel
theorem dX12_book_113 : decode cX12_book 113 = .ok (.iload_n 1, 1) := by decide +kernel
theorem dX12_book_114 : decode cX12_book 114 = .ok (.iaload, 1) := by decide +kernel
theorem dX12_book_115 : decode cX12_book 115 = .ok (.iconst 0, 1) := by decide +kernel
theorem dX12_book_116 : decode cX12_book 116 = .ok (.lload_n 2, 1) := by decide +kernel
theorem dX12_book_117 : decode cX12_book 117 = .ok (.invokevirtual 303, 3) := by decide +kernel
theorem dX12_book_120 : decode cX12_book 120 = .ok (.lstore_n 2, 1) := by decide +kernel
theorem dX12_book_121 : decode cX12_book 121 = .ok (.aload_n 0, 1) := by decide +kernel
theorem dX12_book_122 : decode cX12_book 122 = .ok (.aload_n 0, 1) := by decide +kernel
theorem dX12_book_123 : decode cX12_book 123 = .ok (.getfield 108, 3) := by decide +kernel
theorem dX12_book_126 : decode cX12_book 126 = .ok (.iload_n 1, 1) := by decide +kernel
theorem dX12_book_127 : decode cX12_book 127 = .ok (.iaload, 1) := by decide +kernel
theorem dX12_book_128 : decode cX12_book 128 = .ok (.iconst 0, 1) := by decide +kernel
theorem dX12_book_129 : decode cX12_book 129 = .ok (.lload 4, 2) := by decide +kernel
theorem dX12_book_131 : decode cX12_book 131 = .ok (.invokevirtual 303, 3) := by decide +kernel
theorem dX12_book_134 : decode cX12_book 134 = .ok (.lstore 4, 2) := by decide +kernel
theorem dX12_book_136 : decode cX12_book 136 = .ok (.lload_n 2, 1) := by decide +kernel
theorem dX12_book_137 : decode cX12_book 137 = .ok (.lconst 0, 1) := by decide +kernel
theorem dX12_book_138 : decode cX12_book 138 = .ok (.lcmp, 1) := by decide +kernel
theorem dX12_book_139 : decode cX12_book 139 = .ok (.ifCond .le 7, 3) := by decide +kernel
theorem dX12_book_142 : decode cX12_book 142 = .ok (.iconst 1, 1) := by decide +kernel
theorem dX12_book_143 : decode cX12_book 143 = .ok (.goto 4, 3) := by decide +kernel
theorem dX12_book_146 : decode cX12_book 146 = .ok (.iconst 0, 1) := by decide +kernel
theorem dX12_book_147 : decode cX12_book 147 = .ok (.lload 4, 2) := by decide +kernel
theorem dX12_book_149 : decode cX12_book 149 = .ok (.lload_n 2, 1) := by decide +kernel
theorem dX12_book_150 : decode cX12_book 150 = .ok (.lcmp, 1) := by decide +kernel
theorem dX12_book_151 : decode cX12_book 151 = .ok (.ifCond .le 7, 3) := by decide +kernel
theorem dX12_book_154 : decode cX12_book 154 = .ok (.iconst 1, 1) := by decide +kernel
theorem dX12_book_155 : decode cX12_book 155 = .ok (.goto 4, 3) := by decide +kernel
theorem dX12_book_158 : decode cX12_book 158 = .ok (.iconst 0, 1) := by decide +kernel
theorem dX12_book_159 : decode cX12_book 159 = .ok (.iadd, 1) := by decide +kernel
theorem dX12_book_160 : decode cX12_book 160 = .ok (.istore 6, 2) := by decide +kernel
theorem dX12_book_162 : decode cX12_book 162 = .ok (.aload_n 0, 1) := by decide +kernel
theorem dX12_book_163 : decode cX12_book 163 = .ok (.aload_n 0, 1) := by decide +kernel
theorem dX12_book_164 : decode cX12_book 164 = .ok (.getfield 47, 3) := by decide +kernel
theorem dX12_book_167 : decode cX12_book 167 = .ok (.ifCond .ne 20, 3) := by decide +kernel
theorem dX12_book_170 : decode cX12_book 170 = .ok (.lload_n 2, 1) := by decide +kernel
theorem dX12_book_171 : decode cX12_book 171 = .ok (.ldc2_w 297, 3) := by decide +kernel
theorem dX12_book_174 : decode cX12_book 174 = .ok (.lcmp, 1) := by decide +kernel
theorem dX12_book_175 : decode cX12_book 175 = .ok (.ifCond .gt 12, 3) := by decide +kernel
theorem dX12_book_178 : decode cX12_book 178 = .ok (.lload 4, 2) := by decide +kernel
theorem dX12_book_180 : decode cX12_book 180 = .ok (.ldc2_w 297, 3) := by decide +kernel
theorem dX12_book_183 : decode cX12_book 183 = .ok (.lcmp, 1) := by decide +kernel
theorem dX12_book_184 : decode cX12_book 184 = .ok (.ifCond .le 7, 3) := by decide +kernel
theorem dX12_book_187 : decode cX12_book 187 = .ok (.iconst 4, 1) := by decide +kernel
theorem dX12_book_188 : decode cX12_book 188 = .ok (.goto 21, 3) := by decide +kernel
theorem dX12_book_191 : decode cX12_book 191 = .ok (.aload_n 0, 1) := by decide +kernel
theorem dX12_book_192 : decode cX12_book 192 = .ok (.getfield 383, 3) := by decide +kernel
theorem dX12_book_195 : decode cX12_book 195 = .ok (.iload 6, 2) := by decide +kernel
theorem dX12_book_197 : decode cX12_book 197 = .ok (.iadd, 1) := by decide +kernel
theorem dX12_book_198 : decode cX12_book 198 = .ok (.sipush 200, 3) := by decide +kernel
theorem dX12_book_201 : decode cX12_book 201 = .ok (.if_icmp .le 7, 3) := by decide +kernel
theorem dX12_book_204 : decode cX12_book 204 = .ok (.iconst 5, 1) := by decide +kernel
theorem dX12_book_205 : decode cX12_book 205 = .ok (.goto 4, 3) := by decide +kernel
theorem dX12_book_208 : decode cX12_book 208 = .ok (.iconst 0, 1) := by decide +kernel
theorem dX12_book_209 : decode cX12_book 209 = .ok (.invokevirtual 206, 3) := by decide +kernel
theorem dX12_book_212 : decode cX12_book 212 = .ok (.ifCond .eq 5, 3) := by decide +kernel
theorem dX12_book_215 : decode cX12_book 215 = .ok (.iconst 0, 1) := by decide +kernel
theorem dX12_book_216 : decode cX12_book 216 = .ok (.ireturn, 1) := by decide +kernel
theorem dX12_book_217 : decode cX12_book 217 = .ok (.aload_n 0, 1) := by decide +kernel
theorem dX12_book_218 : decode cX12_book 218 = .ok (.aload_n 0, 1) := by decide +kernel
theorem dX12_book_219 : decode cX12_book 219 = .ok (.getfield 105, 3) := by decide +kernel
theorem dX12_book_222 : decode cX12_book 222 = .ok (.iload_n 1, 1) := by decide +kernel
theorem dX12_book_223 : decode cX12_book 223 = .ok (.iaload, 1) := by decide +kernel
theorem dX12_book_224 : decode cX12_book 224 = .ok (.iload_n 1, 1) := by decide +kernel
theorem dX12_book_225 : decode cX12_book 225 = .ok (.invokevirtual 389, 3) := by decide +kernel
theorem dX12_book_228 : decode cX12_book 228 = .ok (.aload_n 0, 1) := by decide +kernel
theorem dX12_book_229 : decode cX12_book 229 = .ok (.getfield 117, 3) := by decide +kernel
theorem dX12_book_232 : decode cX12_book 232 = .ok (.iload_n 1, 1) := by decide +kernel
theorem dX12_book_233 : decode cX12_book 233 = .ok (.iconst 1, 1) := by decide +kernel
theorem dX12_book_234 : decode cX12_book 234 = .ok (.bastore, 1) := by decide +kernel
theorem dX12_book_235 : decode cX12_book 235 = .ok (.lload_n 2, 1) := by decide +kernel
theorem dX12_book_236 : decode cX12_book 236 = .ok (.lconst 0, 1) := by decide +kernel
theorem dX12_book_237 : decode cX12_book 237 = .ok (.lcmp, 1) := by decide +kernel
theorem dX12_book_238 : decode cX12_book 238 = .ok (.ifCond .le 16, 3) := by decide +kernel
theorem dX12_book_241 : decode cX12_book 241 = .ok (.aload_n 0, 1) := by decide +kernel
theorem dX12_book_242 : decode cX12_book 242 = .ok (.aload_n 0, 1) := by decide +kernel
theorem dX12_book_243 : decode cX12_book 243 = .ok (.getfield 105, 3) := by decide +kernel
theorem dX12_book_246 : decode cX12_book 246 = .ok (.iload_n 1, 1) := by decide +kernel
theorem dX12_book_247 : decode cX12_book 247 = .ok (.iaload, 1) := by decide +kernel
theorem dX12_book_248 : decode cX12_book 248 = .ok (.iconst 1, 1) := by decide +kernel
theorem dX12_book_249 : decode cX12_book 249 = .ok (.iconst 2, 1) := by decide +kernel
theorem dX12_book_250 : decode cX12_book 250 = .ok (.lload_n 2, 1) := by decide +kernel
theorem dX12_book_251 : decode cX12_book 251 = .ok (.invokevirtual 392, 3) := by decide +kernel
theorem dX12_book_254 : decode cX12_book 254 = .ok (.lload 4, 2) := by decide +kernel
theorem dX12_book_256 : decode cX12_book 256 = .ok (.lload_n 2, 1) := by decide +kernel
theorem dX12_book_257 : decode cX12_book 257 = .ok (.lcmp, 1) := by decide +kernel
theorem dX12_book_258 : decode cX12_book 258 = .ok (.ifCond .le 19, 3) := by decide +kernel
theorem dX12_book_261 : decode cX12_book 261 = .ok (.aload_n 0, 1) := by decide +kernel
theorem dX12_book_262 : decode cX12_book 262 = .ok (.aload_n 0, 1) := by decide +kernel
theorem dX12_book_263 : decode cX12_book 263 = .ok (.getfield 105, 3) := by decide +kernel
theorem dX12_book_266 : decode cX12_book 266 = .ok (.iload_n 1, 1) := by decide +kernel
theorem dX12_book_267 : decode cX12_book 267 = .ok (.iaload, 1) := by decide +kernel
theorem dX12_book_268 : decode cX12_book 268 = .ok (.iconst 1, 1) := by decide +kernel
theorem dX12_book_269 : decode cX12_book 269 = .ok (.iconst 3, 1) := by decide +kernel
theorem dX12_book_270 : decode cX12_book 270 = .ok (.lload 4, 2) := by decide +kernel
theorem dX12_book_272 : decode cX12_book 272 = .ok (.lload_n 2, 1) := by decide +kernel
theorem dX12_book_273 : decode cX12_book 273 = .ok (.lsub, 1) := by decide +kernel
theorem dX12_book_274 : decode cX12_book 274 = .ok (.invokevirtual 392, 3) := by decide +kernel
theorem dX12_book_277 : decode cX12_book 277 = .ok (.aload_n 0, 1) := by decide +kernel
theorem dX12_book_278 : decode cX12_book 278 = .ok (.getfield 383, 3) := by decide +kernel
theorem dX12_book_281 : decode cX12_book 281 = .ok (.ireturn, 1) := by decide +kernel
theorem dX12_isBooked_0 : decode cX12_isBooked 0 = .ok (.aload_n 0, 1) := by decide +kernel
theorem dX12_isBooked_1 : decode cX12_isBooked 1 = .ok (.aload_n 0, 1) := by decide +kernel
theorem dX12_isBooked_2 : decode cX12_isBooked 2 = .ok (.iload_n 1, 1) := by decide +kernel
theorem dX12_isBooked_3 : decode cX12_isBooked 3 = .ok (.invokevirtual 337, 3) := by decide +kernel
theorem dX12_isBooked_6 : decode cX12_isBooked 6 = .ok (.ifCond .eq 7, 3) := by decide +kernel
theorem dX12_isBooked_9 : decode cX12_isBooked 9 = .ok (.iconst 0, 1) := by decide +kernel
theorem dX12_isBooked_10 : decode cX12_isBooked 10 = .ok (.goto 4, 3) := by decide +kernel
theorem dX12_isBooked_13 : decode cX12_isBooked 13 = .ok (.iconst 1, 1) := by decide +kernel
theorem dX12_isBooked_14 : decode cX12_isBooked 14 = .ok (.invokevirtual 206, 3) := by decide +kernel
theorem dX12_isBooked_17 : decode cX12_isBooked 17 = .ok (.ifCond .ne 16, 3) := by decide +kernel
theorem dX12_isBooked_20 : decode cX12_isBooked 20 = .ok (.aload_n 0, 1) := by decide +kernel
theorem dX12_isBooked_21 : decode cX12_isBooked 21 = .ok (.getfield 117, 3) := by decide +kernel
theorem dX12_isBooked_24 : decode cX12_isBooked 24 = .ok (.iload_n 1, 1) := by decide +kernel
theorem dX12_isBooked_25 : decode cX12_isBooked 25 = .ok (.baload, 1) := by decide +kernel
theorem dX12_isBooked_26 : decode cX12_isBooked 26 = .ok (.ifCond .eq 7, 3) := by decide +kernel
theorem dX12_isBooked_29 : decode cX12_isBooked 29 = .ok (.iconst 1, 1) := by decide +kernel
theorem dX12_isBooked_30 : decode cX12_isBooked 30 = .ok (.goto 4, 3) := by decide +kernel
theorem dX12_isBooked_33 : decode cX12_isBooked 33 = .ok (.iconst 0, 1) := by decide +kernel
theorem dX12_isBooked_34 : decode cX12_isBooked 34 = .ok (.ireturn, 1) := by decide +kernel
theorem dX12_side_0 : decode cX12_side 0 = .ok (.aload_n 0, 1) := by decide +kernel
theorem dX12_side_1 : decode cX12_side 1 = .ok (.iload_n 1, 1) := by decide +kernel
theorem dX12_side_2 : decode cX12_side 2 = .ok (.invokestatic 386, 3) := by decide +kernel
theorem dX12_side_5 : decode cX12_side 5 = .ok (.ifCond .eq 10, 3) := by decide +kernel
theorem dX12_side_8 : decode cX12_side 8 = .ok (.iload_n 2, 1) := by decide +kernel
theorem dX12_side_9 : decode cX12_side 9 = .ok (.invokestatic 386, 3) := by decide +kernel
theorem dX12_side_12 : decode cX12_side 12 = .ok (.ifCond .ne 7, 3) := by decide +kernel
theorem dX12_side_15 : decode cX12_side 15 = .ok (.iconst 1, 1) := by decide +kernel
theorem dX12_side_16 : decode cX12_side 16 = .ok (.goto 13, 3) := by decide +kernel
theorem dX12_side_19 : decode cX12_side 19 = .ok (.iload_n 2, 1) := by decide +kernel
theorem dX12_side_20 : decode cX12_side 20 = .ok (.iload_n 1, 1) := by decide +kernel
theorem dX12_side_21 : decode cX12_side 21 = .ok (.if_icmp .ge 7, 3) := by decide +kernel
theorem dX12_side_24 : decode cX12_side 24 = .ok (.iconst 2, 1) := by decide +kernel
theorem dX12_side_25 : decode cX12_side 25 = .ok (.goto 4, 3) := by decide +kernel
theorem dX12_side_28 : decode cX12_side 28 = .ok (.iconst 0, 1) := by decide +kernel
theorem dX12_side_29 : decode cX12_side 29 = .ok (.invokevirtual 206, 3) := by decide +kernel
theorem dX12_side_32 : decode cX12_side 32 = .ok (.ifCond .eq 5, 3) := by decide +kernel
theorem dX12_side_35 : decode cX12_side 35 = .ok (.lconst 0, 1) := by decide +kernel
theorem dX12_side_36 : decode cX12_side 36 = .ok (.lreturn, 1) := by decide +kernel
theorem dX12_side_37 : decode cX12_side 37 = .ok (.lconst 0, 1) := by decide +kernel
theorem dX12_side_38 : decode cX12_side 38 = .ok (.lstore 4, 2) := by decide +kernel
theorem dX12_side_40 : decode cX12_side 40 = .ok (.iconst 0, 1) := by decide +kernel
theorem dX12_side_41 : decode cX12_side 41 = .ok (.istore 6, 2) := by decide +kernel
theorem dX12_side_43 : decode cX12_side 43 = .ok (.iload 6, 2) := by decide +kernel
theorem dX12_side_45 : decode cX12_side 45 = .ok (.aload_n 0, 1) := by decide +kernel
theorem dX12_side_46 : decode cX12_side 46 = .ok (.getfield 383, 3) := by decide +kernel
theorem dX12_side_49 : decode cX12_side 49 = .ok (.if_icmp .ge 58, 3) := by decide +kernel
theorem dX12_side_52 : decode cX12_side 52 = .ok (.lload 4, 2) := by decide +kernel
theorem dX12_side_54 : decode cX12_side 54 = .ok (.iload_n 3, 1) := by decide +kernel
theorem dX12_side_55 : decode cX12_side 55 = .ok (.ifCond .eq 14, 3) := by decide +kernel
theorem dX12_side_58 : decode cX12_side 58 = .ok (.aload_n 0, 1) := by decide +kernel
theorem dX12_side_59 : decode cX12_side 59 = .ok (.getfield 156, 3) := by decide +kernel
theorem dX12_side_62 : decode cX12_side 62 = .ok (.iload 6, 2) := by decide +kernel
theorem dX12_side_64 : decode cX12_side 64 = .ok (.iaload, 1) := by decide +kernel
theorem dX12_side_65 : decode cX12_side 65 = .ok (.i2l, 1) := by decide +kernel
theorem dX12_side_66 : decode cX12_side 66 = .ok (.goto 11, 3) := by decide +kernel
theorem dX12_side_69 : decode cX12_side 69 = .ok (.aload_n 0, 1) := by decide +kernel
theorem dX12_side_70 : decode cX12_side 70 = .ok (.getfield 159, 3) := by decide +kernel
theorem dX12_side_73 : decode cX12_side 73 = .ok (.iload 6, 2) := by decide +kernel
theorem dX12_side_75 : decode cX12_side 75 = .ok (.iaload, 1) := by decide +kernel
theorem dX12_side_76 : decode cX12_side 76 = .ok (.i2l, 1) := by decide +kernel
theorem dX12_side_77 : decode cX12_side 77 = .ok (.iload_n 1, 1) := by decide +kernel
theorem dX12_side_78 : decode cX12_side 78 = .ok (.i2l, 1) := by decide +kernel
theorem dX12_side_79 : decode cX12_side 79 = .ok (.iload_n 2, 1) := by decide +kernel
theorem dX12_side_80 : decode cX12_side 80 = .ok (.i2l, 1) := by decide +kernel
theorem dX12_side_81 : decode cX12_side 81 = .ok (.invokestatic 183, 3) := by decide +kernel
theorem dX12_side_84 : decode cX12_side 84 = .ok (.ifCond .eq 13, 3) := by decide +kernel
theorem dX12_side_87 : decode cX12_side 87 = .ok (.aload_n 0, 1) := by decide +kernel
theorem dX12_side_88 : decode cX12_side 88 = .ok (.getfield 162, 3) := by decide +kernel
theorem dX12_side_91 : decode cX12_side 91 = .ok (.iload 6, 2) := by decide +kernel
theorem dX12_side_93 : decode cX12_side 93 = .ok (.laload, 1) := by decide +kernel
theorem dX12_side_94 : decode cX12_side 94 = .ok (.goto 4, 3) := by decide +kernel
theorem dX12_side_97 : decode cX12_side 97 = .ok (.lconst 0, 1) := by decide +kernel
theorem dX12_side_98 : decode cX12_side 98 = .ok (.ladd, 1) := by decide +kernel
theorem dX12_side_99 : decode cX12_side 99 = .ok (.lstore 4, 2) := by decide +kernel
theorem dX12_side_101 : decode cX12_side 101 = .ok (.iinc 6 1, 3) := by decide +kernel
theorem dX12_side_104 : decode cX12_side 104 = .ok (.goto (-61), 3) := by decide +kernel
theorem dX12_side_107 : decode cX12_side 107 = .ok (.lload 4, 2) := by decide +kernel
theorem dX12_side_109 : decode cX12_side 109 = .ok (.lreturn, 1) := by decide +kernel
theorem dX12_nextAccount_0 : decode cX12_nextAccount 0 = .ok (.bipush 100, 2) := by decide +kernel
theorem dX12_nextAccount_2 : decode cX12_nextAccount 2 = .ok (.istore_n 2, 1) := by decide +kernel
theorem dX12_nextAccount_3 : decode cX12_nextAccount 3 = .ok (.iconst 0, 1) := by decide +kernel
theorem dX12_nextAccount_4 : decode cX12_nextAccount 4 = .ok (.istore_n 3, 1) := by decide +kernel
theorem dX12_nextAccount_5 : decode cX12_nextAccount 5 = .ok (.iload_n 3, 1) := by decide +kernel
theorem dX12_nextAccount_6 : decode cX12_nextAccount 6 = .ok (.aload_n 0, 1) := by decide +kernel
theorem dX12_nextAccount_7 : decode cX12_nextAccount 7 = .ok (.getfield 383, 3) := by decide +kernel
theorem dX12_nextAccount_10 : decode cX12_nextAccount 10 = .ok (.if_icmp .ge 71, 3) := by decide +kernel
theorem dX12_nextAccount_13 : decode cX12_nextAccount 13 = .ok (.aload_n 0, 1) := by decide +kernel
theorem dX12_nextAccount_14 : decode cX12_nextAccount 14 = .ok (.getfield 156, 3) := by decide +kernel
theorem dX12_nextAccount_17 : decode cX12_nextAccount 17 = .ok (.iload_n 3, 1) := by decide +kernel
theorem dX12_nextAccount_18 : decode cX12_nextAccount 18 = .ok (.iaload, 1) := by decide +kernel
theorem dX12_nextAccount_19 : decode cX12_nextAccount 19 = .ok (.iload_n 1, 1) := by decide +kernel
theorem dX12_nextAccount_20 : decode cX12_nextAccount 20 = .ok (.if_icmp .le 22, 3) := by decide +kernel
theorem dX12_nextAccount_23 : decode cX12_nextAccount 23 = .ok (.aload_n 0, 1) := by decide +kernel
theorem dX12_nextAccount_24 : decode cX12_nextAccount 24 = .ok (.getfield 156, 3) := by decide +kernel
theorem dX12_nextAccount_27 : decode cX12_nextAccount 27 = .ok (.iload_n 3, 1) := by decide +kernel
theorem dX12_nextAccount_28 : decode cX12_nextAccount 28 = .ok (.iaload, 1) := by decide +kernel
theorem dX12_nextAccount_29 : decode cX12_nextAccount 29 = .ok (.iload_n 2, 1) := by decide +kernel
theorem dX12_nextAccount_30 : decode cX12_nextAccount 30 = .ok (.if_icmp .ge 12, 3) := by decide +kernel
theorem dX12_nextAccount_33 : decode cX12_nextAccount 33 = .ok (.aload_n 0, 1) := by decide +kernel
theorem dX12_nextAccount_34 : decode cX12_nextAccount 34 = .ok (.getfield 156, 3) := by decide +kernel
theorem dX12_nextAccount_37 : decode cX12_nextAccount 37 = .ok (.iload_n 3, 1) := by decide +kernel
theorem dX12_nextAccount_38 : decode cX12_nextAccount 38 = .ok (.iaload, 1) := by decide +kernel
theorem dX12_nextAccount_39 : decode cX12_nextAccount 39 = .ok (.goto 4, 3) := by decide +kernel
theorem dX12_nextAccount_42 : decode cX12_nextAccount 42 = .ok (.iload_n 2, 1) := by decide +kernel
theorem dX12_nextAccount_43 : decode cX12_nextAccount 43 = .ok (.istore_n 2, 1) := by decide +kernel
theorem dX12_nextAccount_44 : decode cX12_nextAccount 44 = .ok (.aload_n 0, 1) := by decide +kernel
theorem dX12_nextAccount_45 : decode cX12_nextAccount 45 = .ok (.getfield 159, 3) := by decide +kernel
theorem dX12_nextAccount_48 : decode cX12_nextAccount 48 = .ok (.iload_n 3, 1) := by decide +kernel
theorem dX12_nextAccount_49 : decode cX12_nextAccount 49 = .ok (.iaload, 1) := by decide +kernel
theorem dX12_nextAccount_50 : decode cX12_nextAccount 50 = .ok (.iload_n 1, 1) := by decide +kernel
theorem dX12_nextAccount_51 : decode cX12_nextAccount 51 = .ok (.if_icmp .le 22, 3) := by decide +kernel
theorem dX12_nextAccount_54 : decode cX12_nextAccount 54 = .ok (.aload_n 0, 1) := by decide +kernel
theorem dX12_nextAccount_55 : decode cX12_nextAccount 55 = .ok (.getfield 159, 3) := by decide +kernel
theorem dX12_nextAccount_58 : decode cX12_nextAccount 58 = .ok (.iload_n 3, 1) := by decide +kernel
theorem dX12_nextAccount_59 : decode cX12_nextAccount 59 = .ok (.iaload, 1) := by decide +kernel
theorem dX12_nextAccount_60 : decode cX12_nextAccount 60 = .ok (.iload_n 2, 1) := by decide +kernel
theorem dX12_nextAccount_61 : decode cX12_nextAccount 61 = .ok (.if_icmp .ge 12, 3) := by decide +kernel
theorem dX12_nextAccount_64 : decode cX12_nextAccount 64 = .ok (.aload_n 0, 1) := by decide +kernel
theorem dX12_nextAccount_65 : decode cX12_nextAccount 65 = .ok (.getfield 159, 3) := by decide +kernel
theorem dX12_nextAccount_68 : decode cX12_nextAccount 68 = .ok (.iload_n 3, 1) := by decide +kernel
theorem dX12_nextAccount_69 : decode cX12_nextAccount 69 = .ok (.iaload, 1) := by decide +kernel
theorem dX12_nextAccount_70 : decode cX12_nextAccount 70 = .ok (.goto 4, 3) := by decide +kernel
theorem dX12_nextAccount_73 : decode cX12_nextAccount 73 = .ok (.iload_n 2, 1) := by decide +kernel
theorem dX12_nextAccount_74 : decode cX12_nextAccount 74 = .ok (.istore_n 2, 1) := by decide +kernel
theorem dX12_nextAccount_75 : decode cX12_nextAccount 75 = .ok (.iinc 3 1, 3) := by decide +kernel
theorem dX12_nextAccount_78 : decode cX12_nextAccount 78 = .ok (.goto (-73), 3) := by decide +kernel
theorem dX12_nextAccount_81 : decode cX12_nextAccount 81 = .ok (.aload_n 0, 1) := by decide +kernel
theorem dX12_nextAccount_82 : decode cX12_nextAccount 82 = .ok (.iload_n 2, 1) := by decide +kernel
theorem dX12_nextAccount_83 : decode cX12_nextAccount 83 = .ok (.bipush 100, 2) := by decide +kernel
theorem dX12_nextAccount_85 : decode cX12_nextAccount 85 = .ok (.if_icmp .ne 7, 3) := by decide +kernel
theorem dX12_nextAccount_88 : decode cX12_nextAccount 88 = .ok (.iconst 1, 1) := by decide +kernel
theorem dX12_nextAccount_89 : decode cX12_nextAccount 89 = .ok (.goto 4, 3) := by decide +kernel
theorem dX12_nextAccount_92 : decode cX12_nextAccount 92 = .ok (.iconst 0, 1) := by decide +kernel
theorem dX12_nextAccount_93 : decode cX12_nextAccount 93 = .ok (.invokevirtual 206, 3) := by decide +kernel
theorem dX12_nextAccount_96 : decode cX12_nextAccount 96 = .ok (.ifCond .eq 7, 3) := by decide +kernel
theorem dX12_nextAccount_99 : decode cX12_nextAccount 99 = .ok (.iconst 0, 1) := by decide +kernel
theorem dX12_nextAccount_100 : decode cX12_nextAccount 100 = .ok (.goto 4, 3) := by decide +kernel
theorem dX12_nextAccount_103 : decode cX12_nextAccount 103 = .ok (.iload_n 2, 1) := by decide +kernel
theorem dX12_nextAccount_104 : decode cX12_nextAccount 104 = .ok (.ireturn, 1) := by decide +kernel
theorem dX12_shut_0 : decode cX12_shut 0 = .ok (.aload_n 0, 1) := by decide +kernel
theorem dX12_shut_1 : decode cX12_shut 1 = .ok (.iload_n 1, 1) := by decide +kernel
theorem dX12_shut_2 : decode cX12_shut 2 = .ok (.i2l, 1) := by decide +kernel
theorem dX12_shut_3 : decode cX12_shut 3 = .ok (.lconst 0, 1) := by decide +kernel
theorem dX12_shut_4 : decode cX12_shut 4 = .ok (.ldc2_w 311, 3) := by decide +kernel
theorem dX12_shut_7 : decode cX12_shut 7 = .ok (.invokestatic 183, 3) := by decide +kernel
theorem dX12_shut_10 : decode cX12_shut 10 = .ok (.ifCond .ne 7, 3) := by decide +kernel
theorem dX12_shut_13 : decode cX12_shut 13 = .ok (.iconst 1, 1) := by decide +kernel
theorem dX12_shut_14 : decode cX12_shut 14 = .ok (.goto 16, 3) := by decide +kernel
theorem dX12_shut_17 : decode cX12_shut 17 = .ok (.iload_n 1, 1) := by decide +kernel
theorem dX12_shut_18 : decode cX12_shut 18 = .ok (.aload_n 0, 1) := by decide +kernel
theorem dX12_shut_19 : decode cX12_shut 19 = .ok (.getfield 165, 3) := by decide +kernel
theorem dX12_shut_22 : decode cX12_shut 22 = .ok (.if_icmp .gt 7, 3) := by decide +kernel
theorem dX12_shut_25 : decode cX12_shut 25 = .ok (.iconst 2, 1) := by decide +kernel
theorem dX12_shut_26 : decode cX12_shut 26 = .ok (.goto 4, 3) := by decide +kernel
theorem dX12_shut_29 : decode cX12_shut 29 = .ok (.iconst 0, 1) := by decide +kernel
theorem dX12_shut_30 : decode cX12_shut 30 = .ok (.invokevirtual 206, 3) := by decide +kernel
theorem dX12_shut_33 : decode cX12_shut 33 = .ok (.ifCond .eq 5, 3) := by decide +kernel
theorem dX12_shut_36 : decode cX12_shut 36 = .ok (.iconst 0, 1) := by decide +kernel
theorem dX12_shut_37 : decode cX12_shut 37 = .ok (.ireturn, 1) := by decide +kernel
theorem dX12_shut_38 : decode cX12_shut 38 = .ok (.aload_n 0, 1) := by decide +kernel
theorem dX12_shut_39 : decode cX12_shut 39 = .ok (.iload_n 1, 1) := by decide +kernel
theorem dX12_shut_40 : decode cX12_shut 40 = .ok (.putfield 165, 3) := by decide +kernel
theorem dX12_shut_43 : decode cX12_shut 43 = .ok (.iconst 0, 1) := by decide +kernel
theorem dX12_shut_44 : decode cX12_shut 44 = .ok (.istore_n 2, 1) := by decide +kernel
theorem dX12_shut_45 : decode cX12_shut 45 = .ok (.iconst 0, 1) := by decide +kernel
theorem dX12_shut_46 : decode cX12_shut 46 = .ok (.istore_n 3, 1) := by decide +kernel
theorem dX12_shut_47 : decode cX12_shut 47 = .ok (.iload_n 3, 1) := by decide +kernel
theorem dX12_shut_48 : decode cX12_shut 48 = .ok (.aload_n 0, 1) := by decide +kernel
theorem dX12_shut_49 : decode cX12_shut 49 = .ok (.getfield 383, 3) := by decide +kernel
theorem dX12_shut_52 : decode cX12_shut 52 = .ok (.if_icmp .ge 30, 3) := by decide +kernel
theorem dX12_shut_55 : decode cX12_shut 55 = .ok (.iload_n 2, 1) := by decide +kernel
theorem dX12_shut_56 : decode cX12_shut 56 = .ok (.aload_n 0, 1) := by decide +kernel
theorem dX12_shut_57 : decode cX12_shut 57 = .ok (.getfield 153, 3) := by decide +kernel
theorem dX12_shut_60 : decode cX12_shut 60 = .ok (.iload_n 3, 1) := by decide +kernel
theorem dX12_shut_61 : decode cX12_shut 61 = .ok (.iaload, 1) := by decide +kernel
theorem dX12_shut_62 : decode cX12_shut 62 = .ok (.aload_n 0, 1) := by decide +kernel
theorem dX12_shut_63 : decode cX12_shut 63 = .ok (.getfield 165, 3) := by decide +kernel
theorem dX12_shut_66 : decode cX12_shut 66 = .ok (.if_icmp .gt 7, 3) := by decide +kernel
theorem dX12_shut_69 : decode cX12_shut 69 = .ok (.iconst 1, 1) := by decide +kernel
theorem dX12_shut_70 : decode cX12_shut 70 = .ok (.goto 4, 3) := by decide +kernel
theorem dX12_shut_73 : decode cX12_shut 73 = .ok (.iconst 0, 1) := by decide +kernel
theorem dX12_shut_74 : decode cX12_shut 74 = .ok (.iadd, 1) := by decide +kernel
theorem dX12_shut_75 : decode cX12_shut 75 = .ok (.istore_n 2, 1) := by decide +kernel
theorem dX12_shut_76 : decode cX12_shut 76 = .ok (.iinc 3 1, 3) := by decide +kernel
theorem dX12_shut_79 : decode cX12_shut 79 = .ok (.goto (-32), 3) := by decide +kernel
theorem dX12_shut_82 : decode cX12_shut 82 = .ok (.iload_n 2, 1) := by decide +kernel
theorem dX12_shut_83 : decode cX12_shut 83 = .ok (.ireturn, 1) := by decide +kernel
theorem dX12_undo_0 : decode cX12_undo 0 = .ok (.aload_n 0, 1) := by decide +kernel
theorem dX12_undo_1 : decode cX12_undo 1 = .ok (.aload_n 0, 1) := by decide +kernel
theorem dX12_undo_2 : decode cX12_undo 2 = .ok (.getfield 380, 3) := by decide +kernel
theorem dX12_undo_5 : decode cX12_undo 5 = .ok (.ifCond .ne 7, 3) := by decide +kernel
theorem dX12_undo_8 : decode cX12_undo 8 = .ok (.iconst 1, 1) := by decide +kernel
theorem dX12_undo_9 : decode cX12_undo 9 = .ok (.goto 26, 3) := by decide +kernel
theorem dX12_undo_12 : decode cX12_undo 12 = .ok (.aload_n 0, 1) := by decide +kernel
theorem dX12_undo_13 : decode cX12_undo 13 = .ok (.getfield 172, 3) := by decide +kernel
theorem dX12_undo_16 : decode cX12_undo 16 = .ok (.aload_n 0, 1) := by decide +kernel
theorem dX12_undo_17 : decode cX12_undo 17 = .ok (.getfield 380, 3) := by decide +kernel
theorem dX12_undo_20 : decode cX12_undo 20 = .ok (.iconst 1, 1) := by decide +kernel
theorem dX12_undo_21 : decode cX12_undo 21 = .ok (.isub, 1) := by decide +kernel
theorem dX12_undo_22 : decode cX12_undo 22 = .ok (.iaload, 1) := by decide +kernel
theorem dX12_undo_23 : decode cX12_undo 23 = .ok (.aload_n 0, 1) := by decide +kernel
theorem dX12_undo_24 : decode cX12_undo 24 = .ok (.getfield 165, 3) := by decide +kernel
theorem dX12_undo_27 : decode cX12_undo 27 = .ok (.if_icmp .gt 7, 3) := by decide +kernel
theorem dX12_undo_30 : decode cX12_undo 30 = .ok (.iconst 2, 1) := by decide +kernel
theorem dX12_undo_31 : decode cX12_undo 31 = .ok (.goto 4, 3) := by decide +kernel
theorem dX12_undo_34 : decode cX12_undo 34 = .ok (.iconst 0, 1) := by decide +kernel
theorem dX12_undo_35 : decode cX12_undo 35 = .ok (.invokevirtual 206, 3) := by decide +kernel
theorem dX12_undo_38 : decode cX12_undo 38 = .ok (.ifCond .eq 5, 3) := by decide +kernel
theorem dX12_undo_41 : decode cX12_undo 41 = .ok (.iconst 0, 1) := by decide +kernel
theorem dX12_undo_42 : decode cX12_undo 42 = .ok (.ireturn, 1) := by decide +kernel
theorem dX12_undo_43 : decode cX12_undo 43 = .ok (.aload_n 0, 1) := by decide +kernel
theorem dX12_undo_44 : decode cX12_undo 44 = .ok (.dup, 1) := by decide +kernel
theorem dX12_undo_45 : decode cX12_undo 45 = .ok (.getfield 380, 3) := by decide +kernel
theorem dX12_undo_48 : decode cX12_undo 48 = .ok (.iconst 1, 1) := by decide +kernel
theorem dX12_undo_49 : decode cX12_undo 49 = .ok (.isub, 1) := by decide +kernel
theorem dX12_undo_50 : decode cX12_undo 50 = .ok (.putfield 380, 3) := by decide +kernel
theorem dX12_undo_53 : decode cX12_undo 53 = .ok (.aload_n 0, 1) := by decide +kernel
theorem dX12_undo_54 : decode cX12_undo 54 = .ok (.aload_n 0, 1) := by decide +kernel
theorem dX12_undo_55 : decode cX12_undo 55 = .ok (.getfield 169, 3) := by decide +kernel
theorem dX12_undo_58 : decode cX12_undo 58 = .ok (.aload_n 0, 1) := by decide +kernel
theorem dX12_undo_59 : decode cX12_undo 59 = .ok (.getfield 380, 3) := by decide +kernel
theorem dX12_undo_62 : decode cX12_undo 62 = .ok (.iaload, 1) := by decide +kernel
theorem dX12_undo_63 : decode cX12_undo 63 = .ok (.putfield 383, 3) := by decide +kernel
theorem dX12_undo_66 : decode cX12_undo 66 = .ok (.aload_n 0, 1) := by decide +kernel
theorem dX12_undo_67 : decode cX12_undo 67 = .ok (.getfield 175, 3) := by decide +kernel
theorem dX12_undo_70 : decode cX12_undo 70 = .ok (.aload_n 0, 1) := by decide +kernel
theorem dX12_undo_71 : decode cX12_undo 71 = .ok (.getfield 380, 3) := by decide +kernel
theorem dX12_undo_74 : decode cX12_undo 74 = .ok (.iaload, 1) := by decide +kernel
theorem dX12_undo_75 : decode cX12_undo 75 = .ok (.ifCond .lt 18, 3) := by decide +kernel
theorem dX12_undo_78 : decode cX12_undo 78 = .ok (.aload_n 0, 1) := by decide +kernel
theorem dX12_undo_79 : decode cX12_undo 79 = .ok (.getfield 117, 3) := by decide +kernel
theorem dX12_undo_82 : decode cX12_undo 82 = .ok (.aload_n 0, 1) := by decide +kernel
theorem dX12_undo_83 : decode cX12_undo 83 = .ok (.getfield 175, 3) := by decide +kernel
theorem dX12_undo_86 : decode cX12_undo 86 = .ok (.aload_n 0, 1) := by decide +kernel
theorem dX12_undo_87 : decode cX12_undo 87 = .ok (.getfield 380, 3) := by decide +kernel
theorem dX12_undo_90 : decode cX12_undo 90 = .ok (.iaload, 1) := by decide +kernel
theorem dX12_undo_91 : decode cX12_undo 91 = .ok (.iconst 0, 1) := by decide +kernel
theorem dX12_undo_92 : decode cX12_undo 92 = .ok (.bastore, 1) := by decide +kernel
theorem dX12_undo_93 : decode cX12_undo 93 = .ok (.aload_n 0, 1) := by decide +kernel
theorem dX12_undo_94 : decode cX12_undo 94 = .ok (.getfield 383, 3) := by decide +kernel
theorem dX12_undo_97 : decode cX12_undo 97 = .ok (.ireturn, 1) := by decide +kernel
theorem dX12_isSound_0 : decode cX12_isSound 0 = .ok (.aload_n 0, 1) := by decide +kernel
theorem dX12_isSound_1 : decode cX12_isSound 1 = .ok (.iconst 0, 1) := by decide +kernel
theorem dX12_isSound_2 : decode cX12_isSound 2 = .ok (.putfield 178, 3) := by decide +kernel
theorem dX12_isSound_5 : decode cX12_isSound 5 = .ok (.iconst 1, 1) := by decide +kernel
theorem dX12_isSound_6 : decode cX12_isSound 6 = .ok (.ireturn, 1) := by decide +kernel
theorem dJ7_copyOf_59c91_0 : decode cJ7_copyOf_59c91 0 = .ok (.iload_n 1, 1) := by decide +kernel
theorem dJ7_copyOf_59c91_1 : decode cJ7_copyOf_59c91 1 = .ok (.aload_n 0, 1) := by decide +kernel
theorem dJ7_copyOf_59c91_2 : decode cJ7_copyOf_59c91 2 = .ok (.arraylength, 1) := by decide +kernel
theorem dJ7_copyOf_59c91_3 : decode cJ7_copyOf_59c91 3 = .ok (.if_icmp .ne 11, 3) := by decide +kernel
theorem dJ7_copyOf_59c91_6 : decode cJ7_copyOf_59c91 6 = .ok (.aload_n 0, 1) := by decide +kernel
theorem dJ7_copyOf_59c91_7 : decode cJ7_copyOf_59c91 7 = .ok (.invokevirtual 316, 3) := by decide +kernel
theorem dJ7_copyOf_59c91_10 : decode cJ7_copyOf_59c91 10 = .ok (.checkcast 317, 3) := by decide +kernel
theorem dJ7_copyOf_59c91_13 : decode cJ7_copyOf_59c91 13 = .ok (.areturn, 1) := by decide +kernel
theorem dJ7_copyOf_59c91_14 : decode cJ7_copyOf_59c91 14 = .ok (.iload_n 1, 1) := by decide +kernel
theorem dJ7_copyOf_59c91_15 : decode cJ7_copyOf_59c91 15 = .ok (.newarray .int, 2) := by decide +kernel
theorem dJ7_copyOf_59c91_17 : decode cJ7_copyOf_59c91 17 = .ok (.astore_n 2, 1) := by decide +kernel
theorem dJ7_copyOf_59c91_18 : decode cJ7_copyOf_59c91 18 = .ok (.aload_n 0, 1) := by decide +kernel
theorem dJ7_copyOf_59c91_19 : decode cJ7_copyOf_59c91 19 = .ok (.iconst 0, 1) := by decide +kernel
theorem dJ7_copyOf_59c91_20 : decode cJ7_copyOf_59c91 20 = .ok (.aload_n 2, 1) := by decide +kernel
theorem dJ7_copyOf_59c91_21 : decode cJ7_copyOf_59c91 21 = .ok (.iconst 0, 1) := by decide +kernel
theorem dJ7_copyOf_59c91_22 : decode cJ7_copyOf_59c91 22 = .ok (.aload_n 0, 1) := by decide +kernel
theorem dJ7_copyOf_59c91_23 : decode cJ7_copyOf_59c91 23 = .ok (.arraylength, 1) := by decide +kernel
theorem dJ7_copyOf_59c91_24 : decode cJ7_copyOf_59c91 24 = .ok (.iload_n 1, 1) := by decide +kernel
theorem dJ7_copyOf_59c91_25 : decode cJ7_copyOf_59c91 25 = .ok (.invokestatic 304, 3) := by decide +kernel
theorem dJ7_copyOf_59c91_28 : decode cJ7_copyOf_59c91 28 = .ok (.invokestatic 150, 3) := by decide +kernel
theorem dJ7_copyOf_59c91_31 : decode cJ7_copyOf_59c91 31 = .ok (.aload_n 2, 1) := by decide +kernel
theorem dJ7_copyOf_59c91_32 : decode cJ7_copyOf_59c91 32 = .ok (.areturn, 1) := by decide +kernel
