theorem dX0_init_0 : decode cX0_init 0 = .ok (.aload_n 0, 1) := by decide +kernel
theorem dX0_init_1 : decode cX0_init 1 = .ok (.invokespecial 3, 3) := by decide +kernel
theorem dX0_init_4 : decode cX0_init 4 = .ok (.return_, 1) := by decide +kernel
theorem dX0_becomeLike_0 : decode cX0_becomeLike 0 = .ok (.aload_n 0, 1) := by decide +kernel
theorem dX0_becomeLike_1 : decode cX0_becomeLike 1 = .ok (.aload_n 1, 1) := by decide +kernel
theorem dX0_becomeLike_2 : decode cX0_becomeLike 2 = .ok (.getfield 9, 3) := by decide +kernel
theorem dX0_becomeLike_5 : decode cX0_becomeLike 5 = .ok (.putfield 9, 3) := by decide +kernel
theorem dX0_becomeLike_8 : decode cX0_becomeLike 8 = .ok (.aload_n 0, 1) := by decide +kernel
theorem dX0_becomeLike_9 : decode cX0_becomeLike 9 = .ok (.aload_n 1, 1) := by decide +kernel
theorem dX0_becomeLike_10 : decode cX0_becomeLike 10 = .ok (.getfield 15, 3) := by decide +kernel
theorem dX0_becomeLike_13 : decode cX0_becomeLike 13 = .ok (.putfield 15, 3) := by decide +kernel
theorem dX0_becomeLike_16 : decode cX0_becomeLike 16 = .ok (.aload_n 0, 1) := by decide +kernel
theorem dX0_becomeLike_17 : decode cX0_becomeLike 17 = .ok (.aload_n 1, 1) := by decide +kernel
theorem dX0_becomeLike_18 : decode cX0_becomeLike 18 = .ok (.getfield 18, 3) := by decide +kernel
theorem dX0_becomeLike_21 : decode cX0_becomeLike 21 = .ok (.putfield 18, 3) := by decide +kernel
theorem dX0_becomeLike_24 : decode cX0_becomeLike 24 = .ok (.aload_n 0, 1) := by decide +kernel
theorem dX0_becomeLike_25 : decode cX0_becomeLike 25 = .ok (.aload_n 1, 1) := by decide +kernel
theorem dX0_becomeLike_26 : decode cX0_becomeLike 26 = .ok (.getfield 21, 3) := by decide +kernel
theorem dX0_becomeLike_29 : decode cX0_becomeLike 29 = .ok (.putfield 21, 3) := by decide +kernel
theorem dX0_becomeLike_32 : decode cX0_becomeLike 32 = .ok (.return_, 1) := by decide +kernel
theorem dX0_leadsTo_0 : decode cX0_leadsTo 0 = .ok (.iload_n 2, 1) := by decide +kernel
theorem dX0_leadsTo_1 : decode cX0_leadsTo 1 = .ok (.ifCond .gt 6, 3) := by decide +kernel
theorem dX0_leadsTo_4 : decode cX0_leadsTo 4 = .ok (.bipush (-9), 2) := by decide +kernel
theorem dX0_leadsTo_6 : decode cX0_leadsTo 6 = .ok (.ireturn, 1) := by decide +kernel
theorem dX0_leadsTo_7 : decode cX0_leadsTo 7 = .ok (.aload_n 0, 1) := by decide +kernel
theorem dX0_leadsTo_8 : decode cX0_leadsTo 8 = .ok (.getfield 9, 3) := by decide +kernel
theorem dX0_leadsTo_11 : decode cX0_leadsTo 11 = .ok (.iconst 2, 1) := by decide +kernel
theorem dX0_leadsTo_12 : decode cX0_leadsTo 12 = .ok (.if_icmp .ne 12, 3) := by decide +kernel
theorem dX0_leadsTo_15 : decode cX0_leadsTo 15 = .ok (.iload_n 1, 1) := by decide +kernel
theorem dX0_leadsTo_16 : decode cX0_leadsTo 16 = .ok (.iconst 3, 1) := by decide +kernel
theorem dX0_leadsTo_17 : decode cX0_leadsTo 17 = .ok (.irem, 1) := by decide +kernel
theorem dX0_leadsTo_18 : decode cX0_leadsTo 18 = .ok (.ifCond .eq 6, 3) := by decide +kernel
theorem dX0_leadsTo_21 : decode cX0_leadsTo 21 = .ok (.bipush (-9), 2) := by decide +kernel
theorem dX0_leadsTo_23 : decode cX0_leadsTo 23 = .ok (.ireturn, 1) := by decide +kernel
theorem dX0_leadsTo_24 : decode cX0_leadsTo 24 = .ok (.aload_n 0, 1) := by decide +kernel
theorem dX0_leadsTo_25 : decode cX0_leadsTo 25 = .ok (.getfield 9, 3) := by decide +kernel
theorem dX0_leadsTo_28 : decode cX0_leadsTo 28 = .ok (.ifCond .ne 7, 3) := by decide +kernel
theorem dX0_leadsTo_31 : decode cX0_leadsTo 31 = .ok (.iload_n 1, 1) := by decide +kernel
theorem dX0_leadsTo_32 : decode cX0_leadsTo 32 = .ok (.goto 12, 3) := by decide +kernel
theorem dX0_leadsTo_35 : decode cX0_leadsTo 35 = .ok (.iload_n 1, 1) := by decide +kernel
theorem dX0_leadsTo_36 : decode cX0_leadsTo 36 = .ok (.bipush 12, 2) := by decide +kernel
theorem dX0_leadsTo_38 : decode cX0_leadsTo 38 = .ok (.iadd, 1) := by decide +kernel
theorem dX0_leadsTo_39 : decode cX0_leadsTo 39 = .ok (.iconst 1, 1) := by decide +kernel
theorem dX0_leadsTo_40 : decode cX0_leadsTo 40 = .ok (.isub, 1) := by decide +kernel
theorem dX0_leadsTo_41 : decode cX0_leadsTo 41 = .ok (.bipush 12, 2) := by decide +kernel
theorem dX0_leadsTo_43 : decode cX0_leadsTo 43 = .ok (.irem, 1) := by decide +kernel
theorem dX0_leadsTo_44 : decode cX0_leadsTo 44 = .ok (.istore_n 3, 1) := by decide +kernel
theorem dX0_leadsTo_45 : decode cX0_leadsTo 45 = .ok (.aload_n 0, 1) := by decide +kernel
theorem dX0_leadsTo_46 : decode cX0_leadsTo 46 = .ok (.getfield 18, 3) := by decide +kernel
theorem dX0_leadsTo_49 : decode cX0_leadsTo 49 = .ok (.aload_n 0, 1) := by decide +kernel
theorem dX0_leadsTo_50 : decode cX0_leadsTo 50 = .ok (.getfield 21, 3) := by decide +kernel
theorem dX0_leadsTo_53 : decode cX0_leadsTo 53 = .ok (.iload_n 3, 1) := by decide +kernel
theorem dX0_leadsTo_54 : decode cX0_leadsTo 54 = .ok (.imul, 1) := by decide +kernel
theorem dX0_leadsTo_55 : decode cX0_leadsTo 55 = .ok (.iadd, 1) := by decide +kernel
theorem dX0_leadsTo_56 : decode cX0_leadsTo 56 = .ok (.iload_n 2, 1) := by decide +kernel
theorem dX0_leadsTo_57 : decode cX0_leadsTo 57 = .ok (.irem, 1) := by decide +kernel
theorem dX0_leadsTo_58 : decode cX0_leadsTo 58 = .ok (.ireturn, 1) := by decide +kernel
theorem dX1_init_0 : decode cX1_init 0 = .ok (.aload_n 0, 1) := by decide +kernel
theorem dX1_init_1 : decode cX1_init 1 = .ok (.invokespecial 3, 3) := by decide +kernel
theorem dX1_init_4 : decode cX1_init 4 = .ok (.aload_n 0, 1) := by decide +kernel
theorem dX1_init_5 : decode cX1_init 5 = .ok (.bipush 60, 2) := by decide +kernel
theorem dX1_init_7 : decode cX1_init 7 = .ok (.newarray .int, 2) := by decide +kernel
theorem dX1_init_9 : decode cX1_init 9 = .ok (.putfield 9, 3) := by decide +kernel
theorem dX1_init_12 : decode cX1_init 12 = .ok (.aload_n 0, 1) := by decide +kernel
theorem dX1_init_13 : decode cX1_init 13 = .ok (.iconst (-1), 1) := by decide +kernel
theorem dX1_init_14 : decode cX1_init 14 = .ok (.putfield 15, 3) := by decide +kernel
theorem dX1_init_17 : decode cX1_init 17 = .ok (.return_, 1) := by decide +kernel
theorem dX1_hasNothing_0 : decode cX1_hasNothing 0 = .ok (.aload_n 0, 1) := by decide +kernel
theorem dX1_hasNothing_1 : decode cX1_hasNothing 1 = .ok (.getfield 15, 3) := by decide +kernel
theorem dX1_hasNothing_4 : decode cX1_hasNothing 4 = .ok (.iconst (-1), 1) := by decide +kernel
theorem dX1_hasNothing_5 : decode cX1_hasNothing 5 = .ok (.if_icmp .ne 7, 3) := by decide +kernel
theorem dX1_hasNothing_8 : decode cX1_hasNothing 8 = .ok (.iconst 1, 1) := by decide +kernel
theorem dX1_hasNothing_9 : decode cX1_hasNothing 9 = .ok (.goto 4, 3) := by decide +kernel
theorem dX1_hasNothing_12 : decode cX1_hasNothing 12 = .ok (.iconst 0, 1) := by decide +kernel
theorem dX1_hasNothing_13 : decode cX1_hasNothing 13 = .ok (.ireturn, 1) := by decide +kernel
theorem dX1_empty_0 : decode cX1_empty 0 = .ok (.aload_n 0, 1) := by decide +kernel
theorem dX1_empty_1 : decode cX1_empty 1 = .ok (.iconst (-1), 1) := by decide +kernel
theorem dX1_empty_2 : decode cX1_empty 2 = .ok (.putfield 15, 3) := by decide +kernel
theorem dX1_empty_5 : decode cX1_empty 5 = .ok (.return_, 1) := by decide +kernel
theorem dX1_begin_0 : decode cX1_begin 0 = .ok (.aload_n 0, 1) := by decide +kernel
theorem dX1_begin_1 : decode cX1_begin 1 = .ok (.getfield 9, 3) := by decide +kernel
theorem dX1_begin_4 : decode cX1_begin 4 = .ok (.iconst 0, 1) := by decide +kernel
theorem dX1_begin_5 : decode cX1_begin 5 = .ok (.invokestatic 19, 3) := by decide +kernel
theorem dX1_begin_8 : decode cX1_begin 8 = .ok (.aload_n 0, 1) := by decide +kernel
theorem dX1_begin_9 : decode cX1_begin 9 = .ok (.iload_n 1, 1) := by decide +kernel
theorem dX1_begin_10 : decode cX1_begin 10 = .ok (.putfield 25, 3) := by decide +kernel
theorem dX1_begin_13 : decode cX1_begin 13 = .ok (.aload_n 0, 1) := by decide +kernel
theorem dX1_begin_14 : decode cX1_begin 14 = .ok (.iload_n 2, 1) := by decide +kernel
theorem dX1_begin_15 : decode cX1_begin 15 = .ok (.putfield 15, 3) := by decide +kernel
theorem dX1_begin_18 : decode cX1_begin 18 = .ok (.return_, 1) := by decide +kernel
theorem dX1_hasCells_0 : decode cX1_hasCells 0 = .ok (.iload_n 1, 1) := by decide +kernel
theorem dX1_hasCells_1 : decode cX1_hasCells 1 = .ok (.ifCond .lt 29, 3) := by decide +kernel
theorem dX1_hasCells_4 : decode cX1_hasCells 4 = .ok (.iload_n 1, 1) := by decide +kernel
theorem dX1_hasCells_5 : decode cX1_hasCells 5 = .ok (.aload_n 0, 1) := by decide +kernel
theorem dX1_hasCells_6 : decode cX1_hasCells 6 = .ok (.getfield 15, 3) := by decide +kernel
theorem dX1_hasCells_9 : decode cX1_hasCells 9 = .ok (.if_icmp .gt 21, 3) := by decide +kernel
theorem dX1_hasCells_12 : decode cX1_hasCells 12 = .ok (.iload_n 2, 1) := by decide +kernel
theorem dX1_hasCells_13 : decode cX1_hasCells 13 = .ok (.ifCond .lt 17, 3) := by decide +kernel
theorem dX1_hasCells_16 : decode cX1_hasCells 16 = .ok (.iload_n 2, 1) := by decide +kernel
theorem dX1_hasCells_17 : decode cX1_hasCells 17 = .ok (.aload_n 0, 1) := by decide +kernel
theorem dX1_hasCells_18 : decode cX1_hasCells 18 = .ok (.getfield 15, 3) := by decide +kernel
theorem dX1_hasCells_21 : decode cX1_hasCells 21 = .ok (.iload_n 1, 1) := by decide +kernel
theorem dX1_hasCells_22 : decode cX1_hasCells 22 = .ok (.isub, 1) := by decide +kernel
theorem dX1_hasCells_23 : decode cX1_hasCells 23 = .ok (.if_icmp .gt 7, 3) := by decide +kernel
theorem dX1_hasCells_26 : decode cX1_hasCells 26 = .ok (.iconst 1, 1) := by decide +kernel
theorem dX1_hasCells_27 : decode cX1_hasCells 27 = .ok (.goto 4, 3) := by decide +kernel
theorem dX1_hasCells_30 : decode cX1_hasCells 30 = .ok (.iconst 0, 1) := by decide +kernel
theorem dX1_hasCells_31 : decode cX1_hasCells 31 = .ok (.ireturn, 1) := by decide +kernel
theorem dX1_faultOfTaking_0 : decode cX1_faultOfTaking 0 = .ok (.aload_n 0, 1) := by decide +kernel
theorem dX1_faultOfTaking_1 : decode cX1_faultOfTaking 1 = .ok (.invokevirtual 28, 3) := by decide +kernel
theorem dX1_faultOfTaking_4 : decode cX1_faultOfTaking 4 = .ok (.ifCond .eq 5, 3) := by decide +kernel
theorem dX1_faultOfTaking_7 : decode cX1_faultOfTaking 7 = .ok (.iconst 1, 1) := by decide +kernel
theorem dX1_faultOfTaking_8 : decode cX1_faultOfTaking 8 = .ok (.ireturn, 1) := by decide +kernel
theorem dX1_faultOfTaking_9 : decode cX1_faultOfTaking 9 = .ok (.aload_n 0, 1) := by decide +kernel
theorem dX1_faultOfTaking_10 : decode cX1_faultOfTaking 10 = .ok (.getfield 25, 3) := by decide +kernel
theorem dX1_faultOfTaking_13 : decode cX1_faultOfTaking 13 = .ok (.iload_n 1, 1) := by decide +kernel
theorem dX1_faultOfTaking_14 : decode cX1_faultOfTaking 14 = .ok (.if_icmp .eq 5, 3) := by decide +kernel
theorem dX1_faultOfTaking_17 : decode cX1_faultOfTaking 17 = .ok (.iconst 2, 1) := by decide +kernel
theorem dX1_faultOfTaking_18 : decode cX1_faultOfTaking 18 = .ok (.ireturn, 1) := by decide +kernel
theorem dX1_faultOfTaking_19 : decode cX1_faultOfTaking 19 = .ok (.iload_n 3, 1) := by decide +kernel
theorem dX1_faultOfTaking_20 : decode cX1_faultOfTaking 20 = .ok (.ifCond .ge 5, 3) := by decide +kernel
theorem dX1_faultOfTaking_23 : decode cX1_faultOfTaking 23 = .ok (.iconst 4, 1) := by decide +kernel
theorem dX1_faultOfTaking_24 : decode cX1_faultOfTaking 24 = .ok (.ireturn, 1) := by decide +kernel
theorem dX1_faultOfTaking_25 : decode cX1_faultOfTaking 25 = .ok (.aload_n 0, 1) := by decide +kernel
theorem dX1_faultOfTaking_26 : decode cX1_faultOfTaking 26 = .ok (.iload_n 2, 1) := by decide +kernel
theorem dX1_faultOfTaking_27 : decode cX1_faultOfTaking 27 = .ok (.iload_n 3, 1) := by decide +kernel
theorem dX1_faultOfTaking_28 : decode cX1_faultOfTaking 28 = .ok (.invokevirtual 32, 3) := by decide +kernel
theorem dX1_faultOfTaking_31 : decode cX1_faultOfTaking 31 = .ok (.ifCond .eq 7, 3) := by decide +kernel
theorem dX1_faultOfTaking_34 : decode cX1_faultOfTaking 34 = .ok (.iconst 0, 1) := by decide +kernel
theorem dX1_faultOfTaking_35 : decode cX1_faultOfTaking 35 = .ok (.goto 4, 3) := by decide +kernel
theorem dX1_faultOfTaking_38 : decode cX1_faultOfTaking 38 = .ok (.iconst 3, 1) := by decide +kernel
theorem dX1_faultOfTaking_39 : decode cX1_faultOfTaking 39 = .ok (.ireturn, 1) := by decide +kernel
theorem dX2_init_0 : decode cX2_init 0 = .ok (.aload_n 0, 1) := by decide +kernel
theorem dX2_init_1 : decode cX2_init 1 = .ok (.invokespecial 3, 3) := by decide +kernel
theorem dX2_init_4 : decode cX2_init 4 = .ok (.aload_n 0, 1) := by decide +kernel
theorem dX2_init_5 : decode cX2_init 5 = .ok (.bipush 8, 2) := by decide +kernel
theorem dX2_init_7 : decode cX2_init 7 = .ok (.anewarray 11, 3) := by decide +kernel
theorem dX2_init_10 : decode cX2_init 10 = .ok (.putfield 13, 3) := by decide +kernel
theorem dX2_init_13 : decode cX2_init 13 = .ok (.iconst 0, 1) := by decide +kernel
theorem dX2_init_14 : decode cX2_init 14 = .ok (.istore_n 1, 1) := by decide +kernel
theorem dX2_init_15 : decode cX2_init 15 = .ok (.iload_n 1, 1) := by decide +kernel
theorem dX2_init_16 : decode cX2_init 16 = .ok (.bipush 8, 2) := by decide +kernel
theorem dX2_init_18 : decode cX2_init 18 = .ok (.if_icmp .ge 22, 3) := by decide +kernel
theorem dX2_init_21 : decode cX2_init 21 = .ok (.aload_n 0, 1) := by decide +kernel
theorem dX2_init_22 : decode cX2_init 22 = .ok (.getfield 13, 3) := by decide +kernel
theorem dX2_init_25 : decode cX2_init 25 = .ok (.iload_n 1, 1) := by decide +kernel
theorem dX2_init_26 : decode cX2_init 26 = .ok (.new 11, 3) := by decide +kernel
theorem dX2_init_29 : decode cX2_init 29 = .ok (.dup, 1) := by decide +kernel
theorem dX2_init_30 : decode cX2_init 30 = .ok (.invokespecial 17, 3) := by decide +kernel
theorem dX2_init_33 : decode cX2_init 33 = .ok (.aastore, 1) := by decide +kernel
theorem dX2_init_34 : decode cX2_init 34 = .ok (.iinc 1 1, 3) := by decide +kernel
theorem dX2_init_37 : decode cX2_init 37 = .ok (.goto (-22), 3) := by decide +kernel
theorem dX2_init_40 : decode cX2_init 40 = .ok (.aload_n 0, 1) := by decide +kernel
theorem dX2_init_41 : decode cX2_init 41 = .ok (.new 11, 3) := by decide +kernel
theorem dX2_init_44 : decode cX2_init 44 = .ok (.dup, 1) := by decide +kernel
theorem dX2_init_45 : decode cX2_init 45 = .ok (.invokespecial 17, 3) := by decide +kernel
theorem dX2_init_48 : decode cX2_init 48 = .ok (.putfield 18, 3) := by decide +kernel
theorem dX2_init_51 : decode cX2_init 51 = .ok (.aload_n 0, 1) := by decide +kernel
theorem dX2_init_52 : decode cX2_init 52 = .ok (.bipush 8, 2) := by decide +kernel
theorem dX2_init_54 : decode cX2_init 54 = .ok (.newarray .int, 2) := by decide +kernel
theorem dX2_init_56 : decode cX2_init 56 = .ok (.putfield 22, 3) := by decide +kernel
theorem dX2_init_59 : decode cX2_init 59 = .ok (.aload_n 0, 1) := by decide +kernel
theorem dX2_init_60 : decode cX2_init 60 = .ok (.bipush 8, 2) := by decide +kernel
theorem dX2_init_62 : decode cX2_init 62 = .ok (.newarray .int, 2) := by decide +kernel
theorem dX2_init_64 : decode cX2_init 64 = .ok (.putfield 26, 3) := by decide +kernel
theorem dX2_init_67 : decode cX2_init 67 = .ok (.aload_n 0, 1) := by decide +kernel
theorem dX2_init_68 : decode cX2_init 68 = .ok (.bipush 8, 2) := by decide +kernel
theorem dX2_init_70 : decode cX2_init 70 = .ok (.newarray .int, 2) := by decide +kernel
theorem dX2_init_72 : decode cX2_init 72 = .ok (.putfield 29, 3) := by decide +kernel
theorem dX2_init_75 : decode cX2_init 75 = .ok (.aload_n 0, 1) := by decide +kernel
theorem dX2_init_76 : decode cX2_init 76 = .ok (.iconst 4, 1) := by decide +kernel
theorem dX2_init_77 : decode cX2_init 77 = .ok (.anewarray 32, 3) := by decide +kernel
theorem dX2_init_80 : decode cX2_init 80 = .ok (.putfield 34, 3) := by decide +kernel
theorem dX2_init_83 : decode cX2_init 83 = .ok (.iconst 0, 1) := by decide +kernel
theorem dX2_init_84 : decode cX2_init 84 = .ok (.istore_n 1, 1) := by decide +kernel
theorem dX2_init_85 : decode cX2_init 85 = .ok (.iload_n 1, 1) := by decide +kernel
theorem dX2_init_86 : decode cX2_init 86 = .ok (.iconst 4, 1) := by decide +kernel
theorem dX2_init_87 : decode cX2_init 87 = .ok (.if_icmp .ge 22, 3) := by decide +kernel
theorem dX2_init_90 : decode cX2_init 90 = .ok (.aload_n 0, 1) := by decide +kernel
theorem dX2_init_91 : decode cX2_init 91 = .ok (.getfield 34, 3) := by decide +kernel
theorem dX2_init_94 : decode cX2_init 94 = .ok (.iload_n 1, 1) := by decide +kernel
theorem dX2_init_95 : decode cX2_init 95 = .ok (.new 32, 3) := by decide +kernel
theorem dX2_init_98 : decode cX2_init 98 = .ok (.dup, 1) := by decide +kernel
theorem dX2_init_99 : decode cX2_init 99 = .ok (.invokespecial 38, 3) := by decide +kernel
theorem dX2_init_102 : decode cX2_init 102 = .ok (.aastore, 1) := by decide +kernel
theorem dX2_init_103 : decode cX2_init 103 = .ok (.iinc 1 1, 3) := by decide +kernel
theorem dX2_init_106 : decode cX2_init 106 = .ok (.goto (-21), 3) := by decide +kernel
theorem dX2_init_109 : decode cX2_init 109 = .ok (.aload_n 0, 1) := by decide +kernel
theorem dX2_init_110 : decode cX2_init 110 = .ok (.bipush 25, 2) := by decide +kernel
theorem dX2_init_112 : decode cX2_init 112 = .ok (.newarray .int, 2) := by decide +kernel
theorem dX2_init_114 : decode cX2_init 114 = .ok (.putfield 39, 3) := by decide +kernel
theorem dX2_init_117 : decode cX2_init 117 = .ok (.aload_n 0, 1) := by decide +kernel
theorem dX2_init_118 : decode cX2_init 118 = .ok (.bipush 6, 2) := by decide +kernel
theorem dX2_init_120 : decode cX2_init 120 = .ok (.newarray .long, 2) := by decide +kernel
theorem dX2_init_122 : decode cX2_init 122 = .ok (.putfield 42, 3) := by decide +kernel
theorem dX2_init_125 : decode cX2_init 125 = .ok (.aload_n 0, 1) := by decide +kernel
theorem dX2_init_126 : decode cX2_init 126 = .ok (.bipush 6, 2) := by decide +kernel
theorem dX2_init_128 : decode cX2_init 128 = .ok (.newarray .long, 2) := by decide +kernel
theorem dX2_init_130 : decode cX2_init 130 = .ok (.putfield 46, 3) := by decide +kernel
theorem dX2_init_133 : decode cX2_init 133 = .ok (.return_, 1) := by decide +kernel
theorem dX2_house_0 : decode cX2_house 0 = .ok (.aload_n 0, 1) := by decide +kernel
theorem dX2_house_1 : decode cX2_house 1 = .ok (.iconst 0, 1) := by decide +kernel
theorem dX2_house_2 : decode cX2_house 2 = .ok (.putfield 49, 3) := by decide +kernel
theorem dX2_house_5 : decode cX2_house 5 = .ok (.iload_n 1, 1) := by decide +kernel
theorem dX2_house_6 : decode cX2_house 6 = .ok (.invokestatic 53, 3) := by decide +kernel
theorem dX2_house_9 : decode cX2_house 9 = .ok (.ifCond .ne 5, 3) := by decide +kernel
theorem dX2_house_12 : decode cX2_house 12 = .ok (.iconst (-1), 1) := by decide +kernel
theorem dX2_house_13 : decode cX2_house 13 = .ok (.ireturn, 1) := by decide +kernel
theorem dX2_house_14 : decode cX2_house 14 = .ok (.iload_n 2, 1) := by decide +kernel
theorem dX2_house_15 : decode cX2_house 15 = .ok (.invokestatic 57, 3) := by decide +kernel
theorem dX2_house_18 : decode cX2_house 18 = .ok (.ifCond .ne 6, 3) := by decide +kernel
theorem dX2_house_21 : decode cX2_house 21 = .ok (.bipush (-2), 2) := by decide +kernel
theorem dX2_house_23 : decode cX2_house 23 = .ok (.ireturn, 1) := by decide +kernel
theorem dX2_house_24 : decode cX2_house 24 = .ok (.aload_n 0, 1) := by decide +kernel
theorem dX2_house_25 : decode cX2_house 25 = .ok (.getfield 34, 3) := by decide +kernel
theorem dX2_house_28 : decode cX2_house 28 = .ok (.iload_n 1, 1) := by decide +kernel
theorem dX2_house_29 : decode cX2_house 29 = .ok (.aaload, 1) := by decide +kernel
theorem dX2_house_30 : decode cX2_house 30 = .ok (.astore 5, 2) := by decide +kernel
theorem dX2_house_32 : decode cX2_house 32 = .ok (.aload 5, 2) := by decide +kernel
theorem dX2_house_34 : decode cX2_house 34 = .ok (.iload_n 2, 1) := by decide +kernel
theorem dX2_house_35 : decode cX2_house 35 = .ok (.iload_n 3, 1) := by decide +kernel
theorem dX2_house_36 : decode cX2_house 36 = .ok (.iload 4, 2) := by decide +kernel
theorem dX2_house_38 : decode cX2_house 38 = .ok (.invokevirtual 60, 3) := by decide +kernel
theorem dX2_house_41 : decode cX2_house 41 = .ok (.istore 6, 2) := by decide +kernel
theorem dX2_house_43 : decode cX2_house 43 = .ok (.iload 6, 2) := by decide +kernel
theorem dX2_house_45 : decode cX2_house 45 = .ok (.ifCond .eq 10, 3) := by decide +kernel
theorem dX2_house_48 : decode cX2_house 48 = .ok (.aload_n 0, 1) := by decide +kernel
theorem dX2_house_49 : decode cX2_house 49 = .ok (.iload 6, 2) := by decide +kernel
theorem dX2_house_51 : decode cX2_house 51 = .ok (.invokevirtual 64, 3) := by decide +kernel
theorem dX2_house_54 : decode cX2_house 54 = .ok (.ireturn, 1) := by decide +kernel
theorem dX2_house_55 : decode cX2_house 55 = .ok (.aload 5, 2) := by decide +kernel
theorem dX2_house_57 : decode cX2_house 57 = .ok (.iload_n 3, 1) := by decide +kernel
theorem dX2_house_58 : decode cX2_house 58 = .ok (.iload 4, 2) := by decide +kernel
theorem dX2_house_60 : decode cX2_house 60 = .ok (.invokestatic 68, 3) := by decide +kernel
theorem dX2_house_63 : decode cX2_house 63 = .ok (.istore 7, 2) := by decide +kernel
theorem dX2_house_65 : decode cX2_house 65 = .ok (.iload 7, 2) := by decide +kernel
theorem dX2_house_67 : decode cX2_house 67 = .ok (.bipush (-9), 2) := by decide +kernel
theorem dX2_house_69 : decode cX2_house 69 = .ok (.if_icmp .eq 9, 3) := by decide +kernel
theorem dX2_house_72 : decode cX2_house 72 = .ok (.bipush (-100), 2) := by decide +kernel
theorem dX2_house_74 : decode cX2_house 74 = .ok (.iload 7, 2) := by decide +kernel
theorem dX2_house_76 : decode cX2_house 76 = .ok (.isub, 1) := by decide +kernel
theorem dX2_house_77 : decode cX2_house 77 = .ok (.ireturn, 1) := by decide +kernel
theorem dX2_house_78 : decode cX2_house 78 = .ok (.aload_n 0, 1) := by decide +kernel
theorem dX2_house_79 : decode cX2_house 79 = .ok (.aload 5, 2) := by decide +kernel
theorem dX2_house_81 : decode cX2_house 81 = .ok (.iload_n 3, 1) := by decide +kernel
theorem dX2_house_82 : decode cX2_house 82 = .ok (.iload 4, 2) := by decide +kernel
theorem dX2_house_84 : decode cX2_house 84 = .ok (.invokevirtual 72, 3) := by decide +kernel
theorem dX2_house_87 : decode cX2_house 87 = .ok (.aload_n 0, 1) := by decide +kernel
theorem dX2_house_88 : decode cX2_house 88 = .ok (.getfield 76, 3) := by decide +kernel
theorem dX2_house_91 : decode cX2_house 91 = .ok (.ireturn, 1) := by decide +kernel
theorem dX2_ofDoor_0 : decode cX2_ofDoor 0 = .ok (.aload_n 0, 1) := by decide +kernel
theorem dX2_ofDoor_1 : decode cX2_ofDoor 1 = .ok (.iload_n 1, 1) := by decide +kernel
theorem dX2_ofDoor_2 : decode cX2_ofDoor 2 = .ok (.invokevirtual 79, 3) := by decide +kernel
theorem dX2_ofDoor_5 : decode cX2_ofDoor 5 = .ok (.ifCond .ne 5, 3) := by decide +kernel
theorem dX2_ofDoor_8 : decode cX2_ofDoor 8 = .ok (.iconst (-1), 1) := by decide +kernel
theorem dX2_ofDoor_9 : decode cX2_ofDoor 9 = .ok (.ireturn, 1) := by decide +kernel
theorem dX2_ofDoor_10 : decode cX2_ofDoor 10 = .ok (.iload_n 2, 1) := by decide +kernel
theorem dX2_ofDoor_11 : decode cX2_ofDoor 11 = .ok (.tableswitch 69 0 3 #[29, 39, 49, 59], 29) := by decide +kernel
theorem dX2_ofDoor_40 : decode cX2_ofDoor 40 = .ok (.aload_n 0, 1) := by decide +kernel
theorem dX2_ofDoor_41 : decode cX2_ofDoor 41 = .ok (.getfield 13, 3) := by decide +kernel
theorem dX2_ofDoor_44 : decode cX2_ofDoor 44 = .ok (.iload_n 1, 1) := by decide +kernel
theorem dX2_ofDoor_45 : decode cX2_ofDoor 45 = .ok (.aaload, 1) := by decide +kernel
theorem dX2_ofDoor_46 : decode cX2_ofDoor 46 = .ok (.getfield 82, 3) := by decide +kernel
theorem dX2_ofDoor_49 : decode cX2_ofDoor 49 = .ok (.ireturn, 1) := by decide +kernel
theorem dX2_ofDoor_50 : decode cX2_ofDoor 50 = .ok (.aload_n 0, 1) := by decide +kernel
theorem dX2_ofDoor_51 : decode cX2_ofDoor 51 = .ok (.getfield 13, 3) := by decide +kernel
theorem dX2_ofDoor_54 : decode cX2_ofDoor 54 = .ok (.iload_n 1, 1) := by decide +kernel
theorem dX2_ofDoor_55 : decode cX2_ofDoor 55 = .ok (.aaload, 1) := by decide +kernel
theorem dX2_ofDoor_56 : decode cX2_ofDoor 56 = .ok (.getfield 85, 3) := by decide +kernel
theorem dX2_ofDoor_59 : decode cX2_ofDoor 59 = .ok (.ireturn, 1) := by decide +kernel
theorem dX2_ofDoor_60 : decode cX2_ofDoor 60 = .ok (.aload_n 0, 1) := by decide +kernel
theorem dX2_ofDoor_61 : decode cX2_ofDoor 61 = .ok (.getfield 13, 3) := by decide +kernel
theorem dX2_ofDoor_64 : decode cX2_ofDoor 64 = .ok (.iload_n 1, 1) := by decide +kernel
theorem dX2_ofDoor_65 : decode cX2_ofDoor 65 = .ok (.aaload, 1) := by decide +kernel
theorem dX2_ofDoor_66 : decode cX2_ofDoor 66 = .ok (.getfield 88, 3) := by decide +kernel
theorem dX2_ofDoor_69 : decode cX2_ofDoor 69 = .ok (.ireturn, 1) := by decide +kernel
theorem dX2_ofDoor_70 : decode cX2_ofDoor 70 = .ok (.aload_n 0, 1) := by decide +kernel
theorem dX2_ofDoor_71 : decode cX2_ofDoor 71 = .ok (.getfield 13, 3) := by decide +kernel
theorem dX2_ofDoor_74 : decode cX2_ofDoor 74 = .ok (.iload_n 1, 1) := by decide +kernel
theorem dX2_ofDoor_75 : decode cX2_ofDoor 75 = .ok (.aaload, 1) := by decide +kernel
theorem dX2_ofDoor_76 : decode cX2_ofDoor 76 = .ok (.getfield 91, 3) := by decide +kernel
theorem dX2_ofDoor_79 : decode cX2_ofDoor 79 = .ok (.ireturn, 1) := by decide +kernel
theorem dX2_ofDoor_80 : decode cX2_ofDoor 80 = .ok (.bipush (-2), 2) := by decide +kernel
theorem dX2_ofDoor_82 : decode cX2_ofDoor 82 = .ok (.ireturn, 1) := by decide +kernel
theorem dX2_leads_0 : decode cX2_leads 0 = .ok (.aload_n 0, 1) := by decide +kernel
theorem dX2_leads_1 : decode cX2_leads 1 = .ok (.iload_n 1, 1) := by decide +kernel
theorem dX2_leads_2 : decode cX2_leads 2 = .ok (.invokevirtual 79, 3) := by decide +kernel
theorem dX2_leads_5 : decode cX2_leads 5 = .ok (.ifCond .ne 5, 3) := by decide +kernel
theorem dX2_leads_8 : decode cX2_leads 8 = .ok (.iconst (-1), 1) := by decide +kernel
theorem dX2_leads_9 : decode cX2_leads 9 = .ok (.ireturn, 1) := by decide +kernel
theorem dX2_leads_10 : decode cX2_leads 10 = .ok (.iload_n 2, 1) := by decide +kernel
theorem dX2_leads_11 : decode cX2_leads 11 = .ok (.invokestatic 94, 3) := by decide +kernel
theorem dX2_leads_14 : decode cX2_leads 14 = .ok (.ifCond .ne 6, 3) := by decide +kernel
theorem dX2_leads_17 : decode cX2_leads 17 = .ok (.bipush (-2), 2) := by decide +kernel
theorem dX2_leads_19 : decode cX2_leads 19 = .ok (.ireturn, 1) := by decide +kernel
theorem dX2_leads_20 : decode cX2_leads 20 = .ok (.aload_n 0, 1) := by decide +kernel
theorem dX2_leads_21 : decode cX2_leads 21 = .ok (.getfield 13, 3) := by decide +kernel
theorem dX2_leads_24 : decode cX2_leads 24 = .ok (.iload_n 1, 1) := by decide +kernel
theorem dX2_leads_25 : decode cX2_leads 25 = .ok (.aaload, 1) := by decide +kernel
theorem dX2_leads_26 : decode cX2_leads 26 = .ok (.iload_n 2, 1) := by decide +kernel
theorem dX2_leads_27 : decode cX2_leads 27 = .ok (.aload_n 0, 1) := by decide +kernel
theorem dX2_leads_28 : decode cX2_leads 28 = .ok (.getfield 97, 3) := by decide +kernel
theorem dX2_leads_31 : decode cX2_leads 31 = .ok (.invokevirtual 100, 3) := by decide +kernel
theorem dX2_leads_34 : decode cX2_leads 34 = .ok (.ireturn, 1) := by decide +kernel
theorem dX2_step_0 : decode cX2_step 0 = .ok (.aload_n 0, 1) := by decide +kernel
theorem dX2_step_1 : decode cX2_step 1 = .ok (.iload_n 1, 1) := by decide +kernel
theorem dX2_step_2 : decode cX2_step 2 = .ok (.invokevirtual 79, 3) := by decide +kernel
theorem dX2_step_5 : decode cX2_step 5 = .ok (.ifCond .ne 5, 3) := by decide +kernel
theorem dX2_step_8 : decode cX2_step 8 = .ok (.iconst (-1), 1) := by decide +kernel
theorem dX2_step_9 : decode cX2_step 9 = .ok (.ireturn, 1) := by decide +kernel
theorem dX2_step_10 : decode cX2_step 10 = .ok (.iload_n 2, 1) := by decide +kernel
theorem dX2_step_11 : decode cX2_step 11 = .ok (.ifCond .lt 8, 3) := by decide +kernel
theorem dX2_step_14 : decode cX2_step 14 = .ok (.iload_n 2, 1) := by decide +kernel
theorem dX2_step_15 : decode cX2_step 15 = .ok (.iconst 5, 1) := by decide +kernel
theorem dX2_step_16 : decode cX2_step 16 = .ok (.if_icmp .le 6, 3) := by decide +kernel
theorem dX2_step_19 : decode cX2_step 19 = .ok (.bipush (-2), 2) := by decide +kernel
theorem dX2_step_21 : decode cX2_step 21 = .ok (.ireturn, 1) := by decide +kernel
theorem dX2_step_22 : decode cX2_step 22 = .ok (.aload_n 0, 1) := by decide +kernel
theorem dX2_step_23 : decode cX2_step 23 = .ok (.getfield 13, 3) := by decide +kernel
theorem dX2_step_26 : decode cX2_step 26 = .ok (.iload_n 1, 1) := by decide +kernel
theorem dX2_step_27 : decode cX2_step 27 = .ok (.aaload, 1) := by decide +kernel
theorem dX2_step_28 : decode cX2_step 28 = .ok (.getfield 91, 3) := by decide +kernel
theorem dX2_step_31 : decode cX2_step 31 = .ok (.istore_n 3, 1) := by decide +kernel
theorem dX2_step_32 : decode cX2_step 32 = .ok (.aload_n 0, 1) := by decide +kernel
theorem dX2_step_33 : decode cX2_step 33 = .ok (.getfield 13, 3) := by decide +kernel
theorem dX2_step_36 : decode cX2_step 36 = .ok (.iload_n 1, 1) := by decide +kernel
theorem dX2_step_37 : decode cX2_step 37 = .ok (.aaload, 1) := by decide +kernel
theorem dX2_step_38 : decode cX2_step 38 = .ok (.iload_n 2, 1) := by decide +kernel
theorem dX2_step_39 : decode cX2_step 39 = .ok (.putfield 91, 3) := by decide +kernel
theorem dX2_step_42 : decode cX2_step 42 = .ok (.iload_n 3, 1) := by decide +kernel
theorem dX2_step_43 : decode cX2_step 43 = .ok (.ireturn, 1) := by decide +kernel
theorem dX2_turn_0 : decode cX2_turn 0 = .ok (.aload_n 0, 1) := by decide +kernel
theorem dX2_turn_1 : decode cX2_turn 1 = .ok (.iload_n 1, 1) := by decide +kernel
theorem dX2_turn_2 : decode cX2_turn 2 = .ok (.invokevirtual 79, 3) := by decide +kernel
theorem dX2_turn_5 : decode cX2_turn 5 = .ok (.ifCond .eq 11, 3) := by decide +kernel
theorem dX2_turn_8 : decode cX2_turn 8 = .ok (.aload_n 0, 1) := by decide +kernel
theorem dX2_turn_9 : decode cX2_turn 9 = .ok (.iload_n 2, 1) := by decide +kernel
theorem dX2_turn_10 : decode cX2_turn 10 = .ok (.invokevirtual 104, 3) := by decide +kernel
theorem dX2_turn_13 : decode cX2_turn 13 = .ok (.ifCond .ne 5, 3) := by decide +kernel
theorem dX2_turn_16 : decode cX2_turn 16 = .ok (.iconst (-1), 1) := by decide +kernel
theorem dX2_turn_17 : decode cX2_turn 17 = .ok (.ireturn, 1) := by decide +kernel
theorem dX2_turn_18 : decode cX2_turn 18 = .ok (.aload_n 0, 1) := by decide +kernel
theorem dX2_turn_19 : decode cX2_turn 19 = .ok (.getfield 13, 3) := by decide +kernel
theorem dX2_turn_22 : decode cX2_turn 22 = .ok (.iload_n 1, 1) := by decide +kernel
theorem dX2_turn_23 : decode cX2_turn 23 = .ok (.aaload, 1) := by decide +kernel
theorem dX2_turn_24 : decode cX2_turn 24 = .ok (.getfield 88, 3) := by decide +kernel
theorem dX2_turn_27 : decode cX2_turn 27 = .ok (.istore_n 3, 1) := by decide +kernel
theorem dX2_turn_28 : decode cX2_turn 28 = .ok (.aload_n 0, 1) := by decide +kernel
theorem dX2_turn_29 : decode cX2_turn 29 = .ok (.getfield 13, 3) := by decide +kernel
theorem dX2_turn_32 : decode cX2_turn 32 = .ok (.iload_n 1, 1) := by decide +kernel
theorem dX2_turn_33 : decode cX2_turn 33 = .ok (.aaload, 1) := by decide +kernel
theorem dX2_turn_34 : decode cX2_turn 34 = .ok (.iload_n 2, 1) := by decide +kernel
theorem dX2_turn_35 : decode cX2_turn 35 = .ok (.putfield 88, 3) := by decide +kernel
theorem dX2_turn_38 : decode cX2_turn 38 = .ok (.iload_n 3, 1) := by decide +kernel
theorem dX2_turn_39 : decode cX2_turn 39 = .ok (.ireturn, 1) := by decide +kernel
theorem dX2_walk_0 : decode cX2_walk 0 = .ok (.aload_n 0, 1) := by decide +kernel
theorem dX2_walk_1 : decode cX2_walk 1 = .ok (.iconst 0, 1) := by decide +kernel
theorem dX2_walk_2 : decode cX2_walk 2 = .ok (.putfield 49, 3) := by decide +kernel
theorem dX2_walk_5 : decode cX2_walk 5 = .ok (.aload_n 0, 1) := by decide +kernel
theorem dX2_walk_6 : decode cX2_walk 6 = .ok (.iload_n 1, 1) := by decide +kernel
theorem dX2_walk_7 : decode cX2_walk 7 = .ok (.invokevirtual 104, 3) := by decide +kernel
theorem dX2_walk_10 : decode cX2_walk 10 = .ok (.ifCond .eq 10, 3) := by decide +kernel
theorem dX2_walk_13 : decode cX2_walk 13 = .ok (.iload_n 3, 1) := by decide +kernel
theorem dX2_walk_14 : decode cX2_walk 14 = .ok (.invokestatic 53, 3) := by decide +kernel
theorem dX2_walk_17 : decode cX2_walk 17 = .ok (.ifCond .ne 5, 3) := by decide +kernel
theorem dX2_walk_20 : decode cX2_walk 20 = .ok (.iconst (-1), 1) := by decide +kernel
theorem dX2_walk_21 : decode cX2_walk 21 = .ok (.ireturn, 1) := by decide +kernel
theorem dX2_walk_22 : decode cX2_walk 22 = .ok (.iload_n 2, 1) := by decide +kernel
theorem dX2_walk_23 : decode cX2_walk 23 = .ok (.invokestatic 94, 3) := by decide +kernel
theorem dX2_walk_26 : decode cX2_walk 26 = .ok (.ifCond .eq 11, 3) := by decide +kernel
theorem dX2_walk_29 : decode cX2_walk 29 = .ok (.iload 4, 2) := by decide +kernel
theorem dX2_walk_31 : decode cX2_walk 31 = .ok (.invokestatic 57, 3) := by decide +kernel
theorem dX2_walk_34 : decode cX2_walk 34 = .ok (.ifCond .ne 6, 3) := by decide +kernel
theorem dX2_walk_37 : decode cX2_walk 37 = .ok (.bipush (-2), 2) := by decide +kernel
theorem dX2_walk_39 : decode cX2_walk 39 = .ok (.ireturn, 1) := by decide +kernel
theorem dX2_walk_40 : decode cX2_walk 40 = .ok (.iload 6, 2) := by decide +kernel
theorem dX2_walk_42 : decode cX2_walk 42 = .ok (.ifCond .lt 21, 3) := by decide +kernel
theorem dX2_walk_45 : decode cX2_walk 45 = .ok (.iload 6, 2) := by decide +kernel
theorem dX2_walk_47 : decode cX2_walk 47 = .ok (.bipush 40, 2) := by decide +kernel
theorem dX2_walk_49 : decode cX2_walk 49 = .ok (.if_icmp .gt 14, 3) := by decide +kernel
theorem dX2_walk_52 : decode cX2_walk 52 = .ok (.iload 7, 2) := by decide +kernel
theorem dX2_walk_54 : decode cX2_walk 54 = .ok (.ifCond .lt 9, 3) := by decide +kernel
theorem dX2_walk_57 : decode cX2_walk 57 = .ok (.iload 7, 2) := by decide +kernel
theorem dX2_walk_59 : decode cX2_walk 59 = .ok (.iconst 4, 1) := by decide +kernel
theorem dX2_walk_60 : decode cX2_walk 60 = .ok (.if_icmp .le 6, 3) := by decide +kernel
theorem dX2_walk_63 : decode cX2_walk 63 = .ok (.bipush (-2), 2) := by decide +kernel
theorem dX2_walk_65 : decode cX2_walk 65 = .ok (.ireturn, 1) := by decide +kernel
theorem dX2_walk_66 : decode cX2_walk 66 = .ok (.aload_n 0, 1) := by decide +kernel
theorem dX2_walk_67 : decode cX2_walk 67 = .ok (.getfield 34, 3) := by decide +kernel
theorem dX2_walk_70 : decode cX2_walk 70 = .ok (.iload_n 3, 1) := by decide +kernel
theorem dX2_walk_71 : decode cX2_walk 71 = .ok (.aaload, 1) := by decide +kernel
theorem dX2_walk_72 : decode cX2_walk 72 = .ok (.astore 8, 2) := by decide +kernel
theorem dX2_walk_74 : decode cX2_walk 74 = .ok (.aload 8, 2) := by decide +kernel
theorem dX2_walk_76 : decode cX2_walk 76 = .ok (.iload 4, 2) := by decide +kernel
theorem dX2_walk_78 : decode cX2_walk 78 = .ok (.iload 5, 2) := by decide +kernel
theorem dX2_walk_80 : decode cX2_walk 80 = .ok (.iload 6, 2) := by decide +kernel
theorem dX2_walk_82 : decode cX2_walk 82 = .ok (.invokevirtual 60, 3) := by decide +kernel
theorem dX2_walk_85 : decode cX2_walk 85 = .ok (.istore 9, 2) := by decide +kernel
theorem dX2_walk_87 : decode cX2_walk 87 = .ok (.iload 9, 2) := by decide +kernel
theorem dX2_walk_89 : decode cX2_walk 89 = .ok (.ifCond .eq 10, 3) := by decide +kernel
theorem dX2_walk_92 : decode cX2_walk 92 = .ok (.aload_n 0, 1) := by decide +kernel
theorem dX2_walk_93 : decode cX2_walk 93 = .ok (.iload 9, 2) := by decide +kernel
theorem dX2_walk_95 : decode cX2_walk 95 = .ok (.invokevirtual 64, 3) := by decide +kernel
theorem dX2_walk_98 : decode cX2_walk 98 = .ok (.ireturn, 1) := by decide +kernel
theorem dX2_walk_99 : decode cX2_walk 99 = .ok (.aload_n 0, 1) := by decide +kernel
theorem dX2_walk_100 : decode cX2_walk 100 = .ok (.aload 8, 2) := by decide +kernel
theorem dX2_walk_102 : decode cX2_walk 102 = .ok (.iload 5, 2) := by decide +kernel
theorem dX2_walk_104 : decode cX2_walk 104 = .ok (.iload 6, 2) := by decide +kernel
theorem dX2_walk_106 : decode cX2_walk 106 = .ok (.invokevirtual 107, 3) := by decide +kernel
theorem dX2_walk_109 : decode cX2_walk 109 = .ok (.ifCond .ne 6, 3) := by decide +kernel
theorem dX2_walk_112 : decode cX2_walk 112 = .ok (.bipush (-2), 2) := by decide +kernel
theorem dX2_walk_114 : decode cX2_walk 114 = .ok (.ireturn, 1) := by decide +kernel
theorem dX2_walk_115 : decode cX2_walk 115 = .ok (.aload_n 0, 1) := by decide +kernel
theorem dX2_walk_116 : decode cX2_walk 116 = .ok (.iload_n 1, 1) := by decide +kernel
theorem dX2_walk_117 : decode cX2_walk 117 = .ok (.iload_n 2, 1) := by decide +kernel
theorem dX2_walk_118 : decode cX2_walk 118 = .ok (.aload 8, 2) := by decide +kernel
theorem dX2_walk_120 : decode cX2_walk 120 = .ok (.iload 5, 2) := by decide +kernel
theorem dX2_walk_122 : decode cX2_walk 122 = .ok (.iload 6, 2) := by decide +kernel
theorem dX2_walk_124 : decode cX2_walk 124 = .ok (.iload 7, 2) := by decide +kernel
theorem dX2_walk_126 : decode cX2_walk 126 = .ok (.invokevirtual 111, 3) := by decide +kernel
theorem dX2_walk_129 : decode cX2_walk 129 = .ok (.ireturn, 1) := by decide +kernel
theorem dX2_soonest_0 : decode cX2_soonest 0 = .ok (.aload_n 0, 1) := by decide +kernel
theorem dX2_soonest_1 : decode cX2_soonest 1 = .ok (.iload_n 1, 1) := by decide +kernel
theorem dX2_soonest_2 : decode cX2_soonest 2 = .ok (.invokevirtual 104, 3) := by decide +kernel
theorem dX2_soonest_5 : decode cX2_soonest 5 = .ok (.ifCond .eq 11, 3) := by decide +kernel
theorem dX2_soonest_8 : decode cX2_soonest 8 = .ok (.aload_n 0, 1) := by decide +kernel
theorem dX2_soonest_9 : decode cX2_soonest 9 = .ok (.iload_n 2, 1) := by decide +kernel
theorem dX2_soonest_10 : decode cX2_soonest 10 = .ok (.invokevirtual 104, 3) := by decide +kernel
theorem dX2_soonest_13 : decode cX2_soonest 13 = .ok (.ifCond .ne 5, 3) := by decide +kernel
theorem dX2_soonest_16 : decode cX2_soonest 16 = .ok (.iconst (-1), 1) := by decide +kernel
theorem dX2_soonest_17 : decode cX2_soonest 17 = .ok (.ireturn, 1) := by decide +kernel
theorem dX2_soonest_18 : decode cX2_soonest 18 = .ok (.iload_n 3, 1) := by decide +kernel
theorem dX2_soonest_19 : decode cX2_soonest 19 = .ok (.invokestatic 94, 3) := by decide +kernel
theorem dX2_soonest_22 : decode cX2_soonest 22 = .ok (.ifCond .eq 16, 3) := by decide +kernel
theorem dX2_soonest_25 : decode cX2_soonest 25 = .ok (.iload 4, 2) := by decide +kernel
theorem dX2_soonest_27 : decode cX2_soonest 27 = .ok (.iconst (-1), 1) := by decide +kernel
theorem dX2_soonest_28 : decode cX2_soonest 28 = .ok (.if_icmp .lt 10, 3) := by decide +kernel
theorem dX2_soonest_31 : decode cX2_soonest 31 = .ok (.iload 4, 2) := by decide +kernel
theorem dX2_soonest_33 : decode cX2_soonest 33 = .ok (.bipush 24, 2) := by decide +kernel
theorem dX2_soonest_35 : decode cX2_soonest 35 = .ok (.if_icmp .lt 6, 3) := by decide +kernel
theorem dX2_soonest_38 : decode cX2_soonest 38 = .ok (.bipush (-2), 2) := by decide +kernel
theorem dX2_soonest_40 : decode cX2_soonest 40 = .ok (.ireturn, 1) := by decide +kernel
theorem dX2_soonest_41 : decode cX2_soonest 41 = .ok (.aload_n 0, 1) := by decide +kernel
theorem dX2_soonest_42 : decode cX2_soonest 42 = .ok (.iload_n 1, 1) := by decide +kernel
theorem dX2_soonest_43 : decode cX2_soonest 43 = .ok (.iload_n 2, 1) := by decide +kernel
theorem dX2_soonest_44 : decode cX2_soonest 44 = .ok (.iload_n 3, 1) := by decide +kernel
theorem dX2_soonest_45 : decode cX2_soonest 45 = .ok (.bipush (-9), 2) := by decide +kernel
theorem dX2_soonest_47 : decode cX2_soonest 47 = .ok (.invokevirtual 115, 3) := by decide +kernel
theorem dX2_soonest_50 : decode cX2_soonest 50 = .ok (.istore 5, 2) := by decide +kernel
theorem dX2_soonest_52 : decode cX2_soonest 52 = .ok (.iload 4, 2) := by decide +kernel
theorem dX2_soonest_54 : decode cX2_soonest 54 = .ok (.iconst (-1), 1) := by decide +kernel
theorem dX2_soonest_55 : decode cX2_soonest 55 = .ok (.if_icmp .ne 6, 3) := by decide +kernel
theorem dX2_soonest_58 : decode cX2_soonest 58 = .ok (.iload 5, 2) := by decide +kernel
theorem dX2_soonest_60 : decode cX2_soonest 60 = .ok (.ireturn, 1) := by decide +kernel
theorem dX2_soonest_61 : decode cX2_soonest 61 = .ok (.iload 4, 2) := by decide +kernel
theorem dX2_soonest_63 : decode cX2_soonest 63 = .ok (.iload 5, 2) := by decide +kernel
theorem dX2_soonest_65 : decode cX2_soonest 65 = .ok (.if_icmp .lt 6, 3) := by decide +kernel
theorem dX2_soonest_68 : decode cX2_soonest 68 = .ok (.bipush (-9), 2) := by decide +kernel
theorem dX2_soonest_70 : decode cX2_soonest 70 = .ok (.ireturn, 1) := by decide +kernel
theorem dX2_soonest_71 : decode cX2_soonest 71 = .ok (.aload_n 0, 1) := by decide +kernel
theorem dX2_soonest_72 : decode cX2_soonest 72 = .ok (.iload_n 1, 1) := by decide +kernel
theorem dX2_soonest_73 : decode cX2_soonest 73 = .ok (.iload_n 2, 1) := by decide +kernel
theorem dX2_soonest_74 : decode cX2_soonest 74 = .ok (.iload_n 3, 1) := by decide +kernel
theorem dX2_soonest_75 : decode cX2_soonest 75 = .ok (.iload 5, 2) := by decide +kernel
theorem dX2_soonest_77 : decode cX2_soonest 77 = .ok (.iload 4, 2) := by decide +kernel
theorem dX2_soonest_79 : decode cX2_soonest 79 = .ok (.invokevirtual 119, 3) := by decide +kernel
theorem dX2_soonest_82 : decode cX2_soonest 82 = .ok (.ireturn, 1) := by decide +kernel
theorem dX2_errands_0 : decode cX2_errands 0 = .ok (.aload_n 0, 1) := by decide +kernel
theorem dX2_errands_1 : decode cX2_errands 1 = .ok (.iload_n 1, 1) := by decide +kernel
theorem dX2_errands_2 : decode cX2_errands 2 = .ok (.invokevirtual 104, 3) := by decide +kernel
theorem dX2_errands_5 : decode cX2_errands 5 = .ok (.ifCond .ne 5, 3) := by decide +kernel
theorem dX2_errands_8 : decode cX2_errands 8 = .ok (.iconst (-1), 1) := by decide +kernel
theorem dX2_errands_9 : decode cX2_errands 9 = .ok (.ireturn, 1) := by decide +kernel
theorem dX2_errands_10 : decode cX2_errands 10 = .ok (.iload_n 2, 1) := by decide +kernel
theorem dX2_errands_11 : decode cX2_errands 11 = .ok (.ifCond .lt 18, 3) := by decide +kernel
theorem dX2_errands_14 : decode cX2_errands 14 = .ok (.iload_n 2, 1) := by decide +kernel
theorem dX2_errands_15 : decode cX2_errands 15 = .ok (.aload_n 0, 1) := by decide +kernel
theorem dX2_errands_16 : decode cX2_errands 16 = .ok (.invokevirtual 123, 3) := by decide +kernel
theorem dX2_errands_19 : decode cX2_errands 19 = .ok (.if_icmp .gt 10, 3) := by decide +kernel
theorem dX2_errands_22 : decode cX2_errands 22 = .ok (.iload_n 3, 1) := by decide +kernel
theorem dX2_errands_23 : decode cX2_errands 23 = .ok (.invokestatic 94, 3) := by decide +kernel
theorem dX2_errands_26 : decode cX2_errands 26 = .ok (.ifCond .ne 6, 3) := by decide +kernel
theorem dX2_errands_29 : decode cX2_errands 29 = .ok (.bipush (-2), 2) := by decide +kernel
theorem dX2_errands_31 : decode cX2_errands 31 = .ok (.ireturn, 1) := by decide +kernel
theorem dX2_errands_32 : decode cX2_errands 32 = .ok (.aload_n 0, 1) := by decide +kernel
theorem dX2_errands_33 : decode cX2_errands 33 = .ok (.iload_n 1, 1) := by decide +kernel
theorem dX2_errands_34 : decode cX2_errands 34 = .ok (.iload_n 2, 1) := by decide +kernel
theorem dX2_errands_35 : decode cX2_errands 35 = .ok (.iload_n 3, 1) := by decide +kernel
theorem dX2_errands_36 : decode cX2_errands 36 = .ok (.invokevirtual 127, 3) := by decide +kernel
theorem dX2_errands_39 : decode cX2_errands 39 = .ok (.ireturn, 1) := by decide +kernel
theorem dX2_meet_0 : decode cX2_meet 0 = .ok (.aload_n 0, 1) := by decide +kernel
theorem dX2_meet_1 : decode cX2_meet 1 = .ok (.iload_n 1, 1) := by decide +kernel
theorem dX2_meet_2 : decode cX2_meet 2 = .ok (.invokevirtual 104, 3) := by decide +kernel
theorem dX2_meet_5 : decode cX2_meet 5 = .ok (.ifCond .eq 11, 3) := by decide +kernel
theorem dX2_meet_8 : decode cX2_meet 8 = .ok (.aload_n 0, 1) := by decide +kernel
theorem dX2_meet_9 : decode cX2_meet 9 = .ok (.iload_n 2, 1) := by decide +kernel
theorem dX2_meet_10 : decode cX2_meet 10 = .ok (.invokevirtual 104, 3) := by decide +kernel
theorem dX2_meet_13 : decode cX2_meet 13 = .ok (.ifCond .ne 5, 3) := by decide +kernel
theorem dX2_meet_16 : decode cX2_meet 16 = .ok (.iconst (-1), 1) := by decide +kernel
theorem dX2_meet_17 : decode cX2_meet 17 = .ok (.ireturn, 1) := by decide +kernel
theorem dX2_meet_18 : decode cX2_meet 18 = .ok (.iload_n 3, 1) := by decide +kernel
theorem dX2_meet_19 : decode cX2_meet 19 = .ok (.invokestatic 94, 3) := by decide +kernel
theorem dX2_meet_22 : decode cX2_meet 22 = .ok (.ifCond .ne 6, 3) := by decide +kernel
theorem dX2_meet_25 : decode cX2_meet 25 = .ok (.bipush (-2), 2) := by decide +kernel
theorem dX2_meet_27 : decode cX2_meet 27 = .ok (.ireturn, 1) := by decide +kernel
theorem dX2_meet_28 : decode cX2_meet 28 = .ok (.iconst 1, 1) := by decide +kernel
theorem dX2_meet_29 : decode cX2_meet 29 = .ok (.iload_n 1, 1) := by decide +kernel
theorem dX2_meet_30 : decode cX2_meet 30 = .ok (.ishl, 1) := by decide +kernel
theorem dX2_meet_31 : decode cX2_meet 31 = .ok (.istore 4, 2) := by decide +kernel
theorem dX2_meet_33 : decode cX2_meet 33 = .ok (.iconst 1, 1) := by decide +kernel
theorem dX2_meet_34 : decode cX2_meet 34 = .ok (.iload_n 2, 1) := by decide +kernel
theorem dX2_meet_35 : decode cX2_meet 35 = .ok (.ishl, 1) := by decide +kernel
theorem dX2_meet_36 : decode cX2_meet 36 = .ok (.istore 5, 2) := by decide +kernel
theorem dX2_meet_38 : decode cX2_meet 38 = .ok (.iconst 0, 1) := by decide +kernel
theorem dX2_meet_39 : decode cX2_meet 39 = .ok (.istore 6, 2) := by decide +kernel
theorem dX2_meet_41 : decode cX2_meet 41 = .ok (.iload 6, 2) := by decide +kernel
theorem dX2_meet_43 : decode cX2_meet 43 = .ok (.bipush 24, 2) := by decide +kernel
theorem dX2_meet_45 : decode cX2_meet 45 = .ok (.if_icmp .gt 53, 3) := by decide +kernel
theorem dX2_meet_48 : decode cX2_meet 48 = .ok (.iload 4, 2) := by decide +kernel
theorem dX2_meet_50 : decode cX2_meet 50 = .ok (.iload 5, 2) := by decide +kernel
theorem dX2_meet_52 : decode cX2_meet 52 = .ok (.iand, 1) := by decide +kernel
theorem dX2_meet_53 : decode cX2_meet 53 = .ok (.ifCond .eq 6, 3) := by decide +kernel
theorem dX2_meet_56 : decode cX2_meet 56 = .ok (.iload 6, 2) := by decide +kernel
theorem dX2_meet_58 : decode cX2_meet 58 = .ok (.ireturn, 1) := by decide +kernel
theorem dX2_meet_59 : decode cX2_meet 59 = .ok (.iload_n 3, 1) := by decide +kernel
theorem dX2_meet_60 : decode cX2_meet 60 = .ok (.iload 6, 2) := by decide +kernel
theorem dX2_meet_62 : decode cX2_meet 62 = .ok (.iadd, 1) := by decide +kernel
theorem dX2_meet_63 : decode cX2_meet 63 = .ok (.bipush 12, 2) := by decide +kernel
theorem dX2_meet_65 : decode cX2_meet 65 = .ok (.irem, 1) := by decide +kernel
theorem dX2_meet_66 : decode cX2_meet 66 = .ok (.istore 7, 2) := by decide +kernel
theorem dX2_meet_68 : decode cX2_meet 68 = .ok (.aload_n 0, 1) := by decide +kernel
theorem dX2_meet_69 : decode cX2_meet 69 = .ok (.iload 4, 2) := by decide +kernel
theorem dX2_meet_71 : decode cX2_meet 71 = .ok (.iload 7, 2) := by decide +kernel
theorem dX2_meet_73 : decode cX2_meet 73 = .ok (.bipush (-9), 2) := by decide +kernel
theorem dX2_meet_75 : decode cX2_meet 75 = .ok (.invokevirtual 130, 3) := by decide +kernel
theorem dX2_meet_78 : decode cX2_meet 78 = .ok (.istore 4, 2) := by decide +kernel
theorem dX2_meet_80 : decode cX2_meet 80 = .ok (.aload_n 0, 1) := by decide +kernel
theorem dX2_meet_81 : decode cX2_meet 81 = .ok (.iload 5, 2) := by decide +kernel
theorem dX2_meet_83 : decode cX2_meet 83 = .ok (.iload 7, 2) := by decide +kernel
theorem dX2_meet_85 : decode cX2_meet 85 = .ok (.bipush (-9), 2) := by decide +kernel
theorem dX2_meet_87 : decode cX2_meet 87 = .ok (.invokevirtual 130, 3) := by decide +kernel
theorem dX2_meet_90 : decode cX2_meet 90 = .ok (.istore 5, 2) := by decide +kernel
theorem dX2_meet_92 : decode cX2_meet 92 = .ok (.iinc 6 1, 3) := by decide +kernel
theorem dX2_meet_95 : decode cX2_meet 95 = .ok (.goto (-54), 3) := by decide +kernel
theorem dX2_meet_98 : decode cX2_meet 98 = .ok (.bipush (-9), 2) := by decide +kernel
theorem dX2_meet_100 : decode cX2_meet 100 = .ok (.ireturn, 1) := by decide +kernel
theorem dX2_cut_0 : decode cX2_cut 0 = .ok (.aload_n 0, 1) := by decide +kernel
theorem dX2_cut_1 : decode cX2_cut 1 = .ok (.iload_n 1, 1) := by decide +kernel
theorem dX2_cut_2 : decode cX2_cut 2 = .ok (.invokevirtual 104, 3) := by decide +kernel
theorem dX2_cut_5 : decode cX2_cut 5 = .ok (.ifCond .eq 11, 3) := by decide +kernel
theorem dX2_cut_8 : decode cX2_cut 8 = .ok (.aload_n 0, 1) := by decide +kernel
theorem dX2_cut_9 : decode cX2_cut 9 = .ok (.iload_n 2, 1) := by decide +kernel
theorem dX2_cut_10 : decode cX2_cut 10 = .ok (.invokevirtual 104, 3) := by decide +kernel
theorem dX2_cut_13 : decode cX2_cut 13 = .ok (.ifCond .ne 5, 3) := by decide +kernel
theorem dX2_cut_16 : decode cX2_cut 16 = .ok (.iconst (-1), 1) := by decide +kernel
theorem dX2_cut_17 : decode cX2_cut 17 = .ok (.ireturn, 1) := by decide +kernel
theorem dX2_cut_18 : decode cX2_cut 18 = .ok (.iload_n 3, 1) := by decide +kernel
theorem dX2_cut_19 : decode cX2_cut 19 = .ok (.invokestatic 94, 3) := by decide +kernel
theorem dX2_cut_22 : decode cX2_cut 22 = .ok (.ifCond .ne 6, 3) := by decide +kernel
theorem dX2_cut_25 : decode cX2_cut 25 = .ok (.bipush (-2), 2) := by decide +kernel
theorem dX2_cut_27 : decode cX2_cut 27 = .ok (.ireturn, 1) := by decide +kernel
theorem dX2_cut_28 : decode cX2_cut 28 = .ok (.aload_n 0, 1) := by decide +kernel
theorem dX2_cut_29 : decode cX2_cut 29 = .ok (.iload_n 1, 1) := by decide +kernel
theorem dX2_cut_30 : decode cX2_cut 30 = .ok (.iload_n 2, 1) := by decide +kernel
theorem dX2_cut_31 : decode cX2_cut 31 = .ok (.iload_n 3, 1) := by decide +kernel
theorem dX2_cut_32 : decode cX2_cut 32 = .ok (.bipush (-9), 2) := by decide +kernel
theorem dX2_cut_34 : decode cX2_cut 34 = .ok (.invokevirtual 115, 3) := by decide +kernel
theorem dX2_cut_37 : decode cX2_cut 37 = .ok (.bipush (-9), 2) := by decide +kernel
theorem dX2_cut_39 : decode cX2_cut 39 = .ok (.if_icmp .ne 6, 3) := by decide +kernel
theorem dX2_cut_42 : decode cX2_cut 42 = .ok (.bipush (-9), 2) := by decide +kernel
theorem dX2_cut_44 : decode cX2_cut 44 = .ok (.ireturn, 1) := by decide +kernel
theorem dX2_cut_45 : decode cX2_cut 45 = .ok (.iconst 0, 1) := by decide +kernel
theorem dX2_cut_46 : decode cX2_cut 46 = .ok (.istore 4, 2) := by decide +kernel
theorem dX2_cut_48 : decode cX2_cut 48 = .ok (.iload 4, 2) := by decide +kernel
theorem dX2_cut_50 : decode cX2_cut 50 = .ok (.aload_n 0, 1) := by decide +kernel
theorem dX2_cut_51 : decode cX2_cut 51 = .ok (.getfield 76, 3) := by decide +kernel
theorem dX2_cut_54 : decode cX2_cut 54 = .ok (.if_icmp .ge 26, 3) := by decide +kernel
theorem dX2_cut_57 : decode cX2_cut 57 = .ok (.aload_n 0, 1) := by decide +kernel
theorem dX2_cut_58 : decode cX2_cut 58 = .ok (.iload_n 1, 1) := by decide +kernel
theorem dX2_cut_59 : decode cX2_cut 59 = .ok (.iload_n 2, 1) := by decide +kernel
theorem dX2_cut_60 : decode cX2_cut 60 = .ok (.iload_n 3, 1) := by decide +kernel
theorem dX2_cut_61 : decode cX2_cut 61 = .ok (.iload 4, 2) := by decide +kernel
theorem dX2_cut_63 : decode cX2_cut 63 = .ok (.invokevirtual 115, 3) := by decide +kernel
theorem dX2_cut_66 : decode cX2_cut 66 = .ok (.bipush (-9), 2) := by decide +kernel
theorem dX2_cut_68 : decode cX2_cut 68 = .ok (.if_icmp .ne 6, 3) := by decide +kernel
theorem dX2_cut_71 : decode cX2_cut 71 = .ok (.iload 4, 2) := by decide +kernel
theorem dX2_cut_73 : decode cX2_cut 73 = .ok (.ireturn, 1) := by decide +kernel
theorem dX2_cut_74 : decode cX2_cut 74 = .ok (.iinc 4 1, 3) := by decide +kernel
theorem dX2_cut_77 : decode cX2_cut 77 = .ok (.goto (-29), 3) := by decide +kernel
theorem dX2_cut_80 : decode cX2_cut 80 = .ok (.bipush (-9), 2) := by decide +kernel
theorem dX2_cut_82 : decode cX2_cut 82 = .ok (.ireturn, 1) := by decide +kernel
theorem dX2_reach_0 : decode cX2_reach 0 = .ok (.aload_n 0, 1) := by decide +kernel
theorem dX2_reach_1 : decode cX2_reach 1 = .ok (.getfield 97, 3) := by decide +kernel
theorem dX2_reach_4 : decode cX2_reach 4 = .ok (.ifCond .ne 6, 3) := by decide +kernel
theorem dX2_reach_7 : decode cX2_reach 7 = .ok (.bipush (-3), 2) := by decide +kernel
theorem dX2_reach_9 : decode cX2_reach 9 = .ok (.ireturn, 1) := by decide +kernel
theorem dX2_reach_10 : decode cX2_reach 10 = .ok (.iload_n 1, 1) := by decide +kernel
theorem dX2_reach_11 : decode cX2_reach 11 = .ok (.invokestatic 94, 3) := by decide +kernel
theorem dX2_reach_14 : decode cX2_reach 14 = .ok (.ifCond .ne 6, 3) := by decide +kernel
theorem dX2_reach_17 : decode cX2_reach 17 = .ok (.bipush (-2), 2) := by decide +kernel
theorem dX2_reach_19 : decode cX2_reach 19 = .ok (.ireturn, 1) := by decide +kernel
theorem dX2_reach_20 : decode cX2_reach 20 = .ok (.iconst 0, 1) := by decide +kernel
theorem dX2_reach_21 : decode cX2_reach 21 = .ok (.istore_n 2, 1) := by decide +kernel
theorem dX2_reach_22 : decode cX2_reach 22 = .ok (.iconst 0, 1) := by decide +kernel
theorem dX2_reach_23 : decode cX2_reach 23 = .ok (.istore_n 3, 1) := by decide +kernel
theorem dX2_reach_24 : decode cX2_reach 24 = .ok (.iload_n 3, 1) := by decide +kernel
theorem dX2_reach_25 : decode cX2_reach 25 = .ok (.aload_n 0, 1) := by decide +kernel
theorem dX2_reach_26 : decode cX2_reach 26 = .ok (.getfield 97, 3) := by decide +kernel
theorem dX2_reach_29 : decode cX2_reach 29 = .ok (.if_icmp .ge 28, 3) := by decide +kernel
theorem dX2_reach_32 : decode cX2_reach 32 = .ok (.aload_n 0, 1) := by decide +kernel
theorem dX2_reach_33 : decode cX2_reach 33 = .ok (.iload_n 3, 1) := by decide +kernel
theorem dX2_reach_34 : decode cX2_reach 34 = .ok (.iload_n 1, 1) := by decide +kernel
theorem dX2_reach_35 : decode cX2_reach 35 = .ok (.invokevirtual 133, 3) := by decide +kernel
theorem dX2_reach_38 : decode cX2_reach 38 = .ok (.aload_n 0, 1) := by decide +kernel
theorem dX2_reach_39 : decode cX2_reach 39 = .ok (.invokevirtual 123, 3) := by decide +kernel
theorem dX2_reach_42 : decode cX2_reach 42 = .ok (.if_icmp .ne 9, 3) := by decide +kernel
theorem dX2_reach_45 : decode cX2_reach 45 = .ok (.iload_n 2, 1) := by decide +kernel
theorem dX2_reach_46 : decode cX2_reach 46 = .ok (.iconst 1, 1) := by decide +kernel
theorem dX2_reach_47 : decode cX2_reach 47 = .ok (.iload_n 3, 1) := by decide +kernel
theorem dX2_reach_48 : decode cX2_reach 48 = .ok (.ishl, 1) := by decide +kernel
theorem dX2_reach_49 : decode cX2_reach 49 = .ok (.ior, 1) := by decide +kernel
theorem dX2_reach_50 : decode cX2_reach 50 = .ok (.istore_n 2, 1) := by decide +kernel
theorem dX2_reach_51 : decode cX2_reach 51 = .ok (.iinc 3 1, 3) := by decide +kernel
theorem dX2_reach_54 : decode cX2_reach 54 = .ok (.goto (-30), 3) := by decide +kernel
theorem dX2_reach_57 : decode cX2_reach 57 = .ok (.iload_n 2, 1) := by decide +kernel
theorem dX2_reach_58 : decode cX2_reach 58 = .ok (.ireturn, 1) := by decide +kernel
theorem dX2_reading_0 : decode cX2_reading 0 = .ok (.aload_n 0, 1) := by decide +kernel
theorem dX2_reading_1 : decode cX2_reading 1 = .ok (.iload_n 1, 1) := by decide +kernel
theorem dX2_reading_2 : decode cX2_reading 2 = .ok (.invokevirtual 79, 3) := by decide +kernel
theorem dX2_reading_5 : decode cX2_reading 5 = .ok (.ifCond .eq 17, 3) := by decide +kernel
theorem dX2_reading_8 : decode cX2_reading 8 = .ok (.aload_n 0, 1) := by decide +kernel
theorem dX2_reading_9 : decode cX2_reading 9 = .ok (.iload_n 3, 1) := by decide +kernel
theorem dX2_reading_10 : decode cX2_reading 10 = .ok (.invokevirtual 104, 3) := by decide +kernel
theorem dX2_reading_13 : decode cX2_reading 13 = .ok (.ifCond .ne 11, 3) := by decide +kernel
theorem dX2_reading_16 : decode cX2_reading 16 = .ok (.iload_n 3, 1) := by decide +kernel
theorem dX2_reading_17 : decode cX2_reading 17 = .ok (.bipush (-9), 2) := by decide +kernel
theorem dX2_reading_19 : decode cX2_reading 19 = .ok (.if_icmp .eq 5, 3) := by decide +kernel
theorem dX2_reading_22 : decode cX2_reading 22 = .ok (.iconst (-1), 1) := by decide +kernel
theorem dX2_reading_23 : decode cX2_reading 23 = .ok (.ireturn, 1) := by decide +kernel
theorem dX2_reading_24 : decode cX2_reading 24 = .ok (.iload_n 2, 1) := by decide +kernel
theorem dX2_reading_25 : decode cX2_reading 25 = .ok (.invokestatic 94, 3) := by decide +kernel
theorem dX2_reading_28 : decode cX2_reading 28 = .ok (.ifCond .ne 6, 3) := by decide +kernel
theorem dX2_reading_31 : decode cX2_reading 31 = .ok (.bipush (-2), 2) := by decide +kernel
theorem dX2_reading_33 : decode cX2_reading 33 = .ok (.ireturn, 1) := by decide +kernel
theorem dX2_reading_34 : decode cX2_reading 34 = .ok (.aload_n 0, 1) := by decide +kernel
theorem dX2_reading_35 : decode cX2_reading 35 = .ok (.getfield 136, 3) := by decide +kernel
theorem dX2_reading_38 : decode cX2_reading 38 = .ok (.bipush 8, 2) := by decide +kernel
theorem dX2_reading_40 : decode cX2_reading 40 = .ok (.if_icmp .lt 6, 3) := by decide +kernel
theorem dX2_reading_43 : decode cX2_reading 43 = .ok (.bipush (-4), 2) := by decide +kernel
theorem dX2_reading_45 : decode cX2_reading 45 = .ok (.ireturn, 1) := by decide +kernel
theorem dX2_reading_46 : decode cX2_reading 46 = .ok (.aload_n 0, 1) := by decide +kernel
theorem dX2_reading_47 : decode cX2_reading 47 = .ok (.getfield 22, 3) := by decide +kernel
theorem dX2_reading_50 : decode cX2_reading 50 = .ok (.aload_n 0, 1) := by decide +kernel
theorem dX2_reading_51 : decode cX2_reading 51 = .ok (.getfield 136, 3) := by decide +kernel
theorem dX2_reading_54 : decode cX2_reading 54 = .ok (.iload_n 1, 1) := by decide +kernel
theorem dX2_reading_55 : decode cX2_reading 55 = .ok (.iastore, 1) := by decide +kernel
theorem dX2_reading_56 : decode cX2_reading 56 = .ok (.aload_n 0, 1) := by decide +kernel
theorem dX2_reading_57 : decode cX2_reading 57 = .ok (.getfield 26, 3) := by decide +kernel
theorem dX2_reading_60 : decode cX2_reading 60 = .ok (.aload_n 0, 1) := by decide +kernel
theorem dX2_reading_61 : decode cX2_reading 61 = .ok (.getfield 136, 3) := by decide +kernel
theorem dX2_reading_64 : decode cX2_reading 64 = .ok (.iload_n 2, 1) := by decide +kernel
theorem dX2_reading_65 : decode cX2_reading 65 = .ok (.iastore, 1) := by decide +kernel
theorem dX2_reading_66 : decode cX2_reading 66 = .ok (.aload_n 0, 1) := by decide +kernel
theorem dX2_reading_67 : decode cX2_reading 67 = .ok (.getfield 29, 3) := by decide +kernel
theorem dX2_reading_70 : decode cX2_reading 70 = .ok (.aload_n 0, 1) := by decide +kernel
theorem dX2_reading_71 : decode cX2_reading 71 = .ok (.getfield 136, 3) := by decide +kernel
theorem dX2_reading_74 : decode cX2_reading 74 = .ok (.iload_n 3, 1) := by decide +kernel
theorem dX2_reading_75 : decode cX2_reading 75 = .ok (.iastore, 1) := by decide +kernel
theorem dX2_reading_76 : decode cX2_reading 76 = .ok (.aload_n 0, 1) := by decide +kernel
theorem dX2_reading_77 : decode cX2_reading 77 = .ok (.dup, 1) := by decide +kernel
theorem dX2_reading_78 : decode cX2_reading 78 = .ok (.getfield 136, 3) := by decide +kernel
theorem dX2_reading_81 : decode cX2_reading 81 = .ok (.iconst 1, 1) := by decide +kernel
theorem dX2_reading_82 : decode cX2_reading 82 = .ok (.iadd, 1) := by decide +kernel
theorem dX2_reading_83 : decode cX2_reading 83 = .ok (.putfield 136, 3) := by decide +kernel
theorem dX2_reading_86 : decode cX2_reading 86 = .ok (.aload_n 0, 1) := by decide +kernel
theorem dX2_reading_87 : decode cX2_reading 87 = .ok (.getfield 136, 3) := by decide +kernel
theorem dX2_reading_90 : decode cX2_reading 90 = .ok (.iconst 1, 1) := by decide +kernel
theorem dX2_reading_91 : decode cX2_reading 91 = .ok (.isub, 1) := by decide +kernel
theorem dX2_reading_92 : decode cX2_reading 92 = .ok (.ireturn, 1) := by decide +kernel
theorem dX2_back_0 : decode cX2_back 0 = .ok (.iload_n 1, 1) := by decide +kernel
theorem dX2_back_1 : decode cX2_back 1 = .ok (.ifCond .lt 11, 3) := by decide +kernel
theorem dX2_back_4 : decode cX2_back 4 = .ok (.iload_n 1, 1) := by decide +kernel
theorem dX2_back_5 : decode cX2_back 5 = .ok (.aload_n 0, 1) := by decide +kernel
theorem dX2_back_6 : decode cX2_back 6 = .ok (.getfield 136, 3) := by decide +kernel
theorem dX2_back_9 : decode cX2_back 9 = .ok (.if_icmp .le 6, 3) := by decide +kernel
theorem dX2_back_12 : decode cX2_back 12 = .ok (.bipush (-2), 2) := by decide +kernel
theorem dX2_back_14 : decode cX2_back 14 = .ok (.ireturn, 1) := by decide +kernel
theorem dX2_back_15 : decode cX2_back 15 = .ok (.aload_n 0, 1) := by decide +kernel
theorem dX2_back_16 : decode cX2_back 16 = .ok (.dup, 1) := by decide +kernel
theorem dX2_back_17 : decode cX2_back 17 = .ok (.getfield 136, 3) := by decide +kernel
theorem dX2_back_20 : decode cX2_back 20 = .ok (.iload_n 1, 1) := by decide +kernel
theorem dX2_back_21 : decode cX2_back 21 = .ok (.isub, 1) := by decide +kernel
theorem dX2_back_22 : decode cX2_back 22 = .ok (.putfield 136, 3) := by decide +kernel
theorem dX2_back_25 : decode cX2_back 25 = .ok (.aload_n 0, 1) := by decide +kernel
theorem dX2_back_26 : decode cX2_back 26 = .ok (.getfield 136, 3) := by decide +kernel
theorem dX2_back_29 : decode cX2_back 29 = .ok (.ireturn, 1) := by decide +kernel
theorem dX2_steps_0 : decode cX2_steps 0 = .ok (.aload_n 0, 1) := by decide +kernel
theorem dX2_steps_1 : decode cX2_steps 1 = .ok (.iload_n 1, 1) := by decide +kernel
theorem dX2_steps_2 : decode cX2_steps 2 = .ok (.invokevirtual 79, 3) := by decide +kernel
theorem dX2_steps_5 : decode cX2_steps 5 = .ok (.ifCond .ne 5, 3) := by decide +kernel
theorem dX2_steps_8 : decode cX2_steps 8 = .ok (.iconst (-1), 1) := by decide +kernel
theorem dX2_steps_9 : decode cX2_steps 9 = .ok (.ireturn, 1) := by decide +kernel
theorem dX2_steps_10 : decode cX2_steps 10 = .ok (.iconst 0, 1) := by decide +kernel
theorem dX2_steps_11 : decode cX2_steps 11 = .ok (.istore_n 2, 1) := by decide +kernel
theorem dX2_steps_12 : decode cX2_steps 12 = .ok (.aload_n 0, 1) := by decide +kernel
theorem dX2_steps_13 : decode cX2_steps 13 = .ok (.getfield 18, 3) := by decide +kernel
theorem dX2_steps_16 : decode cX2_steps 16 = .ok (.aload_n 0, 1) := by decide +kernel
theorem dX2_steps_17 : decode cX2_steps 17 = .ok (.getfield 13, 3) := by decide +kernel
theorem dX2_steps_20 : decode cX2_steps 20 = .ok (.iload_n 1, 1) := by decide +kernel
theorem dX2_steps_21 : decode cX2_steps 21 = .ok (.aaload, 1) := by decide +kernel
theorem dX2_steps_22 : decode cX2_steps 22 = .ok (.invokevirtual 139, 3) := by decide +kernel
theorem dX2_steps_25 : decode cX2_steps 25 = .ok (.iconst 0, 1) := by decide +kernel
theorem dX2_steps_26 : decode cX2_steps 26 = .ok (.istore_n 3, 1) := by decide +kernel
theorem dX2_steps_27 : decode cX2_steps 27 = .ok (.iload_n 3, 1) := by decide +kernel
theorem dX2_steps_28 : decode cX2_steps 28 = .ok (.iconst 5, 1) := by decide +kernel
theorem dX2_steps_29 : decode cX2_steps 29 = .ok (.if_icmp .gt 31, 3) := by decide +kernel
theorem dX2_steps_32 : decode cX2_steps 32 = .ok (.aload_n 0, 1) := by decide +kernel
theorem dX2_steps_33 : decode cX2_steps 33 = .ok (.getfield 18, 3) := by decide +kernel
theorem dX2_steps_36 : decode cX2_steps 36 = .ok (.iload_n 3, 1) := by decide +kernel
theorem dX2_steps_37 : decode cX2_steps 37 = .ok (.putfield 91, 3) := by decide +kernel
theorem dX2_steps_40 : decode cX2_steps 40 = .ok (.aload_n 0, 1) := by decide +kernel
theorem dX2_steps_41 : decode cX2_steps 41 = .ok (.iload_n 1, 1) := by decide +kernel
theorem dX2_steps_42 : decode cX2_steps 42 = .ok (.invokevirtual 143, 3) := by decide +kernel
theorem dX2_steps_45 : decode cX2_steps 45 = .ok (.ifCond .eq 9, 3) := by decide +kernel
theorem dX2_steps_48 : decode cX2_steps 48 = .ok (.iload_n 2, 1) := by decide +kernel
theorem dX2_steps_49 : decode cX2_steps 49 = .ok (.iconst 1, 1) := by decide +kernel
theorem dX2_steps_50 : decode cX2_steps 50 = .ok (.iload_n 3, 1) := by decide +kernel
theorem dX2_steps_51 : decode cX2_steps 51 = .ok (.ishl, 1) := by decide +kernel
theorem dX2_steps_52 : decode cX2_steps 52 = .ok (.ior, 1) := by decide +kernel
theorem dX2_steps_53 : decode cX2_steps 53 = .ok (.istore_n 2, 1) := by decide +kernel
theorem dX2_steps_54 : decode cX2_steps 54 = .ok (.iinc 3 1, 3) := by decide +kernel
theorem dX2_steps_57 : decode cX2_steps 57 = .ok (.goto (-30), 3) := by decide +kernel
theorem dX2_steps_60 : decode cX2_steps 60 = .ok (.iload_n 2, 1) := by decide +kernel
theorem dX2_steps_61 : decode cX2_steps 61 = .ok (.ireturn, 1) := by decide +kernel
theorem dX2_targets_0 : decode cX2_targets 0 = .ok (.aload_n 0, 1) := by decide +kernel
theorem dX2_targets_1 : decode cX2_targets 1 = .ok (.iload_n 1, 1) := by decide +kernel
theorem dX2_targets_2 : decode cX2_targets 2 = .ok (.invokevirtual 79, 3) := by decide +kernel
theorem dX2_targets_5 : decode cX2_targets 5 = .ok (.ifCond .ne 5, 3) := by decide +kernel
theorem dX2_targets_8 : decode cX2_targets 8 = .ok (.iconst (-1), 1) := by decide +kernel
theorem dX2_targets_9 : decode cX2_targets 9 = .ok (.ireturn, 1) := by decide +kernel
theorem dX2_targets_10 : decode cX2_targets 10 = .ok (.iconst 0, 1) := by decide +kernel
theorem dX2_targets_11 : decode cX2_targets 11 = .ok (.istore_n 2, 1) := by decide +kernel
theorem dX2_targets_12 : decode cX2_targets 12 = .ok (.aload_n 0, 1) := by decide +kernel
theorem dX2_targets_13 : decode cX2_targets 13 = .ok (.getfield 18, 3) := by decide +kernel
theorem dX2_targets_16 : decode cX2_targets 16 = .ok (.aload_n 0, 1) := by decide +kernel
theorem dX2_targets_17 : decode cX2_targets 17 = .ok (.getfield 13, 3) := by decide +kernel
theorem dX2_targets_20 : decode cX2_targets 20 = .ok (.iload_n 1, 1) := by decide +kernel
theorem dX2_targets_21 : decode cX2_targets 21 = .ok (.aaload, 1) := by decide +kernel
theorem dX2_targets_22 : decode cX2_targets 22 = .ok (.invokevirtual 139, 3) := by decide +kernel
theorem dX2_targets_25 : decode cX2_targets 25 = .ok (.iconst 0, 1) := by decide +kernel
theorem dX2_targets_26 : decode cX2_targets 26 = .ok (.istore_n 3, 1) := by decide +kernel
theorem dX2_targets_27 : decode cX2_targets 27 = .ok (.iload_n 3, 1) := by decide +kernel
theorem dX2_targets_28 : decode cX2_targets 28 = .ok (.aload_n 0, 1) := by decide +kernel
theorem dX2_targets_29 : decode cX2_targets 29 = .ok (.getfield 97, 3) := by decide +kernel
theorem dX2_targets_32 : decode cX2_targets 32 = .ok (.if_icmp .ge 31, 3) := by decide +kernel
theorem dX2_targets_35 : decode cX2_targets 35 = .ok (.aload_n 0, 1) := by decide +kernel
theorem dX2_targets_36 : decode cX2_targets 36 = .ok (.getfield 18, 3) := by decide +kernel
theorem dX2_targets_39 : decode cX2_targets 39 = .ok (.iload_n 3, 1) := by decide +kernel
theorem dX2_targets_40 : decode cX2_targets 40 = .ok (.putfield 88, 3) := by decide +kernel
theorem dX2_targets_43 : decode cX2_targets 43 = .ok (.aload_n 0, 1) := by decide +kernel
theorem dX2_targets_44 : decode cX2_targets 44 = .ok (.iload_n 1, 1) := by decide +kernel
theorem dX2_targets_45 : decode cX2_targets 45 = .ok (.invokevirtual 143, 3) := by decide +kernel
theorem dX2_targets_48 : decode cX2_targets 48 = .ok (.ifCond .eq 9, 3) := by decide +kernel
theorem dX2_targets_51 : decode cX2_targets 51 = .ok (.iload_n 2, 1) := by decide +kernel
theorem dX2_targets_52 : decode cX2_targets 52 = .ok (.iconst 1, 1) := by decide +kernel
theorem dX2_targets_53 : decode cX2_targets 53 = .ok (.iload_n 3, 1) := by decide +kernel
theorem dX2_targets_54 : decode cX2_targets 54 = .ok (.ishl, 1) := by decide +kernel
theorem dX2_targets_55 : decode cX2_targets 55 = .ok (.ior, 1) := by decide +kernel
theorem dX2_targets_56 : decode cX2_targets 56 = .ok (.istore_n 2, 1) := by decide +kernel
theorem dX2_targets_57 : decode cX2_targets 57 = .ok (.iinc 3 1, 3) := by decide +kernel
theorem dX2_targets_60 : decode cX2_targets 60 = .ok (.goto (-33), 3) := by decide +kernel
theorem dX2_targets_63 : decode cX2_targets 63 = .ok (.iload_n 2, 1) := by decide +kernel
theorem dX2_targets_64 : decode cX2_targets 64 = .ok (.ireturn, 1) := by decide +kernel
theorem dX2_kinds_0 : decode cX2_kinds 0 = .ok (.aload_n 0, 1) := by decide +kernel
theorem dX2_kinds_1 : decode cX2_kinds 1 = .ok (.iload_n 1, 1) := by decide +kernel
theorem dX2_kinds_2 : decode cX2_kinds 2 = .ok (.invokevirtual 79, 3) := by decide +kernel
theorem dX2_kinds_5 : decode cX2_kinds 5 = .ok (.ifCond .ne 5, 3) := by decide +kernel
theorem dX2_kinds_8 : decode cX2_kinds 8 = .ok (.iconst (-1), 1) := by decide +kernel
theorem dX2_kinds_9 : decode cX2_kinds 9 = .ok (.ireturn, 1) := by decide +kernel
theorem dX2_kinds_10 : decode cX2_kinds 10 = .ok (.iconst 0, 1) := by decide +kernel
theorem dX2_kinds_11 : decode cX2_kinds 11 = .ok (.istore_n 2, 1) := by decide +kernel
theorem dX2_kinds_12 : decode cX2_kinds 12 = .ok (.aload_n 0, 1) := by decide +kernel
theorem dX2_kinds_13 : decode cX2_kinds 13 = .ok (.getfield 18, 3) := by decide +kernel
theorem dX2_kinds_16 : decode cX2_kinds 16 = .ok (.aload_n 0, 1) := by decide +kernel
theorem dX2_kinds_17 : decode cX2_kinds 17 = .ok (.getfield 13, 3) := by decide +kernel
theorem dX2_kinds_20 : decode cX2_kinds 20 = .ok (.iload_n 1, 1) := by decide +kernel
theorem dX2_kinds_21 : decode cX2_kinds 21 = .ok (.aaload, 1) := by decide +kernel
theorem dX2_kinds_22 : decode cX2_kinds 22 = .ok (.invokevirtual 139, 3) := by decide +kernel
theorem dX2_kinds_25 : decode cX2_kinds 25 = .ok (.iconst 0, 1) := by decide +kernel
theorem dX2_kinds_26 : decode cX2_kinds 26 = .ok (.istore_n 3, 1) := by decide +kernel
theorem dX2_kinds_27 : decode cX2_kinds 27 = .ok (.iload_n 3, 1) := by decide +kernel
theorem dX2_kinds_28 : decode cX2_kinds 28 = .ok (.iconst 3, 1) := by decide +kernel
theorem dX2_kinds_29 : decode cX2_kinds 29 = .ok (.if_icmp .ge 31, 3) := by decide +kernel
theorem dX2_kinds_32 : decode cX2_kinds 32 = .ok (.aload_n 0, 1) := by decide +kernel
theorem dX2_kinds_33 : decode cX2_kinds 33 = .ok (.getfield 18, 3) := by decide +kernel
theorem dX2_kinds_36 : decode cX2_kinds 36 = .ok (.iload_n 3, 1) := by decide +kernel
theorem dX2_kinds_37 : decode cX2_kinds 37 = .ok (.putfield 82, 3) := by decide +kernel
theorem dX2_kinds_40 : decode cX2_kinds 40 = .ok (.aload_n 0, 1) := by decide +kernel
theorem dX2_kinds_41 : decode cX2_kinds 41 = .ok (.iload_n 1, 1) := by decide +kernel
theorem dX2_kinds_42 : decode cX2_kinds 42 = .ok (.invokevirtual 143, 3) := by decide +kernel
theorem dX2_kinds_45 : decode cX2_kinds 45 = .ok (.ifCond .eq 9, 3) := by decide +kernel
theorem dX2_kinds_48 : decode cX2_kinds 48 = .ok (.iload_n 2, 1) := by decide +kernel
theorem dX2_kinds_49 : decode cX2_kinds 49 = .ok (.iconst 1, 1) := by decide +kernel
theorem dX2_kinds_50 : decode cX2_kinds 50 = .ok (.iload_n 3, 1) := by decide +kernel
theorem dX2_kinds_51 : decode cX2_kinds 51 = .ok (.ishl, 1) := by decide +kernel
theorem dX2_kinds_52 : decode cX2_kinds 52 = .ok (.ior, 1) := by decide +kernel
theorem dX2_kinds_53 : decode cX2_kinds 53 = .ok (.istore_n 2, 1) := by decide +kernel
theorem dX2_kinds_54 : decode cX2_kinds 54 = .ok (.iinc 3 1, 3) := by decide +kernel
theorem dX2_kinds_57 : decode cX2_kinds 57 = .ok (.goto (-30), 3) := by decide +kernel
theorem dX2_kinds_60 : decode cX2_kinds 60 = .ok (.iload_n 2, 1) := by decide +kernel
theorem dX2_kinds_61 : decode cX2_kinds 61 = .ok (.ireturn, 1) := by decide +kernel
theorem dX2_odds_0 : decode cX2_odds 0 = .ok (.aload_n 0, 1) := by decide +kernel
theorem dX2_odds_1 : decode cX2_odds 1 = .ok (.iload_n 1, 1) := by decide +kernel
theorem dX2_odds_2 : decode cX2_odds 2 = .ok (.invokevirtual 104, 3) := by decide +kernel
theorem dX2_odds_5 : decode cX2_odds 5 = .ok (.ifCond .eq 11, 3) := by decide +kernel
theorem dX2_odds_8 : decode cX2_odds 8 = .ok (.aload_n 0, 1) := by decide +kernel
theorem dX2_odds_9 : decode cX2_odds 9 = .ok (.iload_n 2, 1) := by decide +kernel
theorem dX2_odds_10 : decode cX2_odds 10 = .ok (.invokevirtual 104, 3) := by decide +kernel
theorem dX2_odds_13 : decode cX2_odds 13 = .ok (.ifCond .ne 7, 3) := by decide +kernel
theorem dX2_odds_16 : decode cX2_odds 16 = .ok (.ldc2_w 146, 3) := by decide +kernel
theorem dX2_odds_19 : decode cX2_odds 19 = .ok (.lreturn, 1) := by decide +kernel
theorem dX2_odds_20 : decode cX2_odds 20 = .ok (.iload_n 3, 1) := by decide +kernel
theorem dX2_odds_21 : decode cX2_odds 21 = .ok (.ifCond .lt 20, 3) := by decide +kernel
theorem dX2_odds_24 : decode cX2_odds 24 = .ok (.iload_n 3, 1) := by decide +kernel
theorem dX2_odds_25 : decode cX2_odds 25 = .ok (.bipush 24, 2) := by decide +kernel
theorem dX2_odds_27 : decode cX2_odds 27 = .ok (.if_icmp .gt 14, 3) := by decide +kernel
theorem dX2_odds_30 : decode cX2_odds 30 = .ok (.iload 4, 2) := by decide +kernel
theorem dX2_odds_32 : decode cX2_odds 32 = .ok (.ifCond .lt 9, 3) := by decide +kernel
theorem dX2_odds_35 : decode cX2_odds 35 = .ok (.iload 4, 2) := by decide +kernel
theorem dX2_odds_37 : decode cX2_odds 37 = .ok (.iconst 1, 1) := by decide +kernel
theorem dX2_odds_38 : decode cX2_odds 38 = .ok (.if_icmp .le 7, 3) := by decide +kernel
theorem dX2_odds_41 : decode cX2_odds 41 = .ok (.ldc2_w 146, 3) := by decide +kernel
theorem dX2_odds_44 : decode cX2_odds 44 = .ok (.lreturn, 1) := by decide +kernel
theorem dX2_odds_45 : decode cX2_odds 45 = .ok (.iconst 0, 1) := by decide +kernel
theorem dX2_odds_46 : decode cX2_odds 46 = .ok (.istore 5, 2) := by decide +kernel
theorem dX2_odds_48 : decode cX2_odds 48 = .ok (.iconst 0, 1) := by decide +kernel
theorem dX2_odds_49 : decode cX2_odds 49 = .ok (.istore 6, 2) := by decide +kernel
theorem dX2_odds_51 : decode cX2_odds 51 = .ok (.iload 6, 2) := by decide +kernel
theorem dX2_odds_53 : decode cX2_odds 53 = .ok (.bipush 12, 2) := by decide +kernel
theorem dX2_odds_55 : decode cX2_odds 55 = .ok (.if_icmp .ge 37, 3) := by decide +kernel
theorem dX2_odds_58 : decode cX2_odds 58 = .ok (.aload_n 0, 1) := by decide +kernel
theorem dX2_odds_59 : decode cX2_odds 59 = .ok (.iload_n 1, 1) := by decide +kernel
theorem dX2_odds_60 : decode cX2_odds 60 = .ok (.iload_n 2, 1) := by decide +kernel
theorem dX2_odds_61 : decode cX2_odds 61 = .ok (.iload 6, 2) := by decide +kernel
theorem dX2_odds_63 : decode cX2_odds 63 = .ok (.bipush (-9), 2) := by decide +kernel
theorem dX2_odds_65 : decode cX2_odds 65 = .ok (.invokevirtual 115, 3) := by decide +kernel
theorem dX2_odds_68 : decode cX2_odds 68 = .ok (.istore 7, 2) := by decide +kernel
theorem dX2_odds_70 : decode cX2_odds 70 = .ok (.iload 7, 2) := by decide +kernel
theorem dX2_odds_72 : decode cX2_odds 72 = .ok (.bipush (-9), 2) := by decide +kernel
theorem dX2_odds_74 : decode cX2_odds 74 = .ok (.if_icmp .eq 12, 3) := by decide +kernel
theorem dX2_odds_77 : decode cX2_odds 77 = .ok (.iload 7, 2) := by decide +kernel
theorem dX2_odds_79 : decode cX2_odds 79 = .ok (.iload_n 3, 1) := by decide +kernel
theorem dX2_odds_80 : decode cX2_odds 80 = .ok (.if_icmp .gt 6, 3) := by decide +kernel
theorem dX2_odds_83 : decode cX2_odds 83 = .ok (.iinc 5 1, 3) := by decide +kernel
theorem dX2_odds_86 : decode cX2_odds 86 = .ok (.iinc 6 1, 3) := by decide +kernel
theorem dX2_odds_89 : decode cX2_odds 89 = .ok (.goto (-38), 3) := by decide +kernel
theorem dX2_odds_92 : decode cX2_odds 92 = .ok (.iload 5, 2) := by decide +kernel
theorem dX2_odds_94 : decode cX2_odds 94 = .ok (.invokestatic 148, 3) := by decide +kernel
theorem dX2_odds_97 : decode cX2_odds 97 = .ok (.istore 6, 2) := by decide +kernel
theorem dX2_odds_99 : decode cX2_odds 99 = .ok (.iload 4, 2) := by decide +kernel
theorem dX2_odds_101 : decode cX2_odds 101 = .ok (.ifCond .ne 8, 3) := by decide +kernel
theorem dX2_odds_104 : decode cX2_odds 104 = .ok (.iload 5, 2) := by decide +kernel
theorem dX2_odds_106 : decode cX2_odds 106 = .ok (.goto 5, 3) := by decide +kernel
theorem dX2_odds_109 : decode cX2_odds 109 = .ok (.bipush 12, 2) := by decide +kernel
theorem dX2_odds_111 : decode cX2_odds 111 = .ok (.iload 6, 2) := by decide +kernel
theorem dX2_odds_113 : decode cX2_odds 113 = .ok (.idiv, 1) := by decide +kernel
theorem dX2_odds_114 : decode cX2_odds 114 = .ok (.i2l, 1) := by decide +kernel
theorem dX2_odds_115 : decode cX2_odds 115 = .ok (.lreturn, 1) := by decide +kernel
theorem dX2_sheet_0 : decode cX2_sheet 0 = .ok (.aload_n 0, 1) := by decide +kernel
theorem dX2_sheet_1 : decode cX2_sheet 1 = .ok (.iconst 0, 1) := by decide +kernel
theorem dX2_sheet_2 : decode cX2_sheet 2 = .ok (.putfield 49, 3) := by decide +kernel
theorem dX2_sheet_5 : decode cX2_sheet 5 = .ok (.iload_n 1, 1) := by decide +kernel
theorem dX2_sheet_6 : decode cX2_sheet 6 = .ok (.invokestatic 53, 3) := by decide +kernel
theorem dX2_sheet_9 : decode cX2_sheet 9 = .ok (.ifCond .ne 5, 3) := by decide +kernel
theorem dX2_sheet_12 : decode cX2_sheet 12 = .ok (.iconst (-1), 1) := by decide +kernel
theorem dX2_sheet_13 : decode cX2_sheet 13 = .ok (.ireturn, 1) := by decide +kernel
theorem dX2_sheet_14 : decode cX2_sheet 14 = .ok (.iload_n 2, 1) := by decide +kernel
theorem dX2_sheet_15 : decode cX2_sheet 15 = .ok (.invokestatic 57, 3) := by decide +kernel
theorem dX2_sheet_18 : decode cX2_sheet 18 = .ok (.ifCond .eq 9, 3) := by decide +kernel
theorem dX2_sheet_21 : decode cX2_sheet 21 = .ok (.iload_n 3, 1) := by decide +kernel
theorem dX2_sheet_22 : decode cX2_sheet 22 = .ok (.bipush 60, 2) := by decide +kernel
theorem dX2_sheet_24 : decode cX2_sheet 24 = .ok (.if_icmp .le 6, 3) := by decide +kernel
theorem dX2_sheet_27 : decode cX2_sheet 27 = .ok (.bipush (-2), 2) := by decide +kernel
theorem dX2_sheet_29 : decode cX2_sheet 29 = .ok (.ireturn, 1) := by decide +kernel
theorem dX2_sheet_30 : decode cX2_sheet 30 = .ok (.iload_n 3, 1) := by decide +kernel
theorem dX2_sheet_31 : decode cX2_sheet 31 = .ok (.ifCond .ge 9, 3) := by decide +kernel
theorem dX2_sheet_34 : decode cX2_sheet 34 = .ok (.aload_n 0, 1) := by decide +kernel
theorem dX2_sheet_35 : decode cX2_sheet 35 = .ok (.iconst 4, 1) := by decide +kernel
theorem dX2_sheet_36 : decode cX2_sheet 36 = .ok (.invokevirtual 64, 3) := by decide +kernel
theorem dX2_sheet_39 : decode cX2_sheet 39 = .ok (.ireturn, 1) := by decide +kernel
theorem dX2_sheet_40 : decode cX2_sheet 40 = .ok (.aload_n 0, 1) := by decide +kernel
theorem dX2_sheet_41 : decode cX2_sheet 41 = .ok (.getfield 34, 3) := by decide +kernel
theorem dX2_sheet_44 : decode cX2_sheet 44 = .ok (.iload_n 1, 1) := by decide +kernel
theorem dX2_sheet_45 : decode cX2_sheet 45 = .ok (.aaload, 1) := by decide +kernel
theorem dX2_sheet_46 : decode cX2_sheet 46 = .ok (.iload_n 2, 1) := by decide +kernel
theorem dX2_sheet_47 : decode cX2_sheet 47 = .ok (.iload_n 3, 1) := by decide +kernel
theorem dX2_sheet_48 : decode cX2_sheet 48 = .ok (.invokevirtual 151, 3) := by decide +kernel
theorem dX2_sheet_51 : decode cX2_sheet 51 = .ok (.iconst 1, 1) := by decide +kernel
theorem dX2_sheet_52 : decode cX2_sheet 52 = .ok (.ireturn, 1) := by decide +kernel
theorem dX2_lose_0 : decode cX2_lose 0 = .ok (.iload_n 1, 1) := by decide +kernel
theorem dX2_lose_1 : decode cX2_lose 1 = .ok (.invokestatic 53, 3) := by decide +kernel
theorem dX2_lose_4 : decode cX2_lose 4 = .ok (.ifCond .ne 5, 3) := by decide +kernel
theorem dX2_lose_7 : decode cX2_lose 7 = .ok (.iconst (-1), 1) := by decide +kernel
theorem dX2_lose_8 : decode cX2_lose 8 = .ok (.ireturn, 1) := by decide +kernel
theorem dX2_lose_9 : decode cX2_lose 9 = .ok (.aload_n 0, 1) := by decide +kernel
theorem dX2_lose_10 : decode cX2_lose 10 = .ok (.getfield 34, 3) := by decide +kernel
theorem dX2_lose_13 : decode cX2_lose 13 = .ok (.iload_n 1, 1) := by decide +kernel
theorem dX2_lose_14 : decode cX2_lose 14 = .ok (.aaload, 1) := by decide +kernel
theorem dX2_lose_15 : decode cX2_lose 15 = .ok (.invokevirtual 155, 3) := by decide +kernel
theorem dX2_lose_18 : decode cX2_lose 18 = .ok (.ifCond .eq 5, 3) := by decide +kernel
theorem dX2_lose_21 : decode cX2_lose 21 = .ok (.iconst 0, 1) := by decide +kernel
theorem dX2_lose_22 : decode cX2_lose 22 = .ok (.ireturn, 1) := by decide +kernel
theorem dX2_lose_23 : decode cX2_lose 23 = .ok (.aload_n 0, 1) := by decide +kernel
theorem dX2_lose_24 : decode cX2_lose 24 = .ok (.getfield 34, 3) := by decide +kernel
theorem dX2_lose_27 : decode cX2_lose 27 = .ok (.iload_n 1, 1) := by decide +kernel
theorem dX2_lose_28 : decode cX2_lose 28 = .ok (.aaload, 1) := by decide +kernel
theorem dX2_lose_29 : decode cX2_lose 29 = .ok (.invokevirtual 159, 3) := by decide +kernel
theorem dX2_lose_32 : decode cX2_lose 32 = .ok (.iconst 1, 1) := by decide +kernel
theorem dX2_lose_33 : decode cX2_lose 33 = .ok (.ireturn, 1) := by decide +kernel
theorem dX2_put_0 : decode cX2_put 0 = .ok (.aload_n 0, 1) := by decide +kernel
theorem dX2_put_1 : decode cX2_put 1 = .ok (.iconst 0, 1) := by decide +kernel
theorem dX2_put_2 : decode cX2_put 2 = .ok (.putfield 49, 3) := by decide +kernel
theorem dX2_put_5 : decode cX2_put 5 = .ok (.iload_n 1, 1) := by decide +kernel
theorem dX2_put_6 : decode cX2_put 6 = .ok (.invokestatic 53, 3) := by decide +kernel
theorem dX2_put_9 : decode cX2_put 9 = .ok (.ifCond .ne 5, 3) := by decide +kernel
theorem dX2_put_12 : decode cX2_put 12 = .ok (.iconst (-1), 1) := by decide +kernel
theorem dX2_put_13 : decode cX2_put 13 = .ok (.ireturn, 1) := by decide +kernel
theorem dX2_put_14 : decode cX2_put 14 = .ok (.aload_n 0, 1) := by decide +kernel
theorem dX2_put_15 : decode cX2_put 15 = .ok (.getfield 34, 3) := by decide +kernel
theorem dX2_put_18 : decode cX2_put 18 = .ok (.iload_n 1, 1) := by decide +kernel
theorem dX2_put_19 : decode cX2_put 19 = .ok (.aaload, 1) := by decide +kernel
theorem dX2_put_20 : decode cX2_put 20 = .ok (.astore 4, 2) := by decide +kernel
theorem dX2_put_22 : decode cX2_put 22 = .ok (.aload 4, 2) := by decide +kernel
theorem dX2_put_24 : decode cX2_put 24 = .ok (.aload 4, 2) := by decide +kernel
theorem dX2_put_26 : decode cX2_put 26 = .ok (.getfield 162, 3) := by decide +kernel
theorem dX2_put_29 : decode cX2_put 29 = .ok (.iload_n 2, 1) := by decide +kernel
theorem dX2_put_30 : decode cX2_put 30 = .ok (.iconst 1, 1) := by decide +kernel
theorem dX2_put_31 : decode cX2_put 31 = .ok (.invokevirtual 60, 3) := by decide +kernel
theorem dX2_put_34 : decode cX2_put 34 = .ok (.istore 5, 2) := by decide +kernel
theorem dX2_put_36 : decode cX2_put 36 = .ok (.iload 5, 2) := by decide +kernel
theorem dX2_put_38 : decode cX2_put 38 = .ok (.ifCond .eq 10, 3) := by decide +kernel
theorem dX2_put_41 : decode cX2_put 41 = .ok (.aload_n 0, 1) := by decide +kernel
theorem dX2_put_42 : decode cX2_put 42 = .ok (.iload 5, 2) := by decide +kernel
theorem dX2_put_44 : decode cX2_put 44 = .ok (.invokevirtual 64, 3) := by decide +kernel
theorem dX2_put_47 : decode cX2_put 47 = .ok (.ireturn, 1) := by decide +kernel
theorem dX2_put_48 : decode cX2_put 48 = .ok (.aload 4, 2) := by decide +kernel
theorem dX2_put_50 : decode cX2_put 50 = .ok (.getfield 165, 3) := by decide +kernel
theorem dX2_put_53 : decode cX2_put 53 = .ok (.iload_n 2, 1) := by decide +kernel
theorem dX2_put_54 : decode cX2_put 54 = .ok (.iload_n 3, 1) := by decide +kernel
theorem dX2_put_55 : decode cX2_put 55 = .ok (.aload 4, 2) := by decide +kernel
theorem dX2_put_57 : decode cX2_put 57 = .ok (.getfield 162, 3) := by decide +kernel
theorem dX2_put_60 : decode cX2_put 60 = .ok (.invokestatic 168, 3) := by decide +kernel
theorem dX2_put_63 : decode cX2_put 63 = .ok (.iastore, 1) := by decide +kernel
theorem dX2_put_64 : decode cX2_put 64 = .ok (.iconst 1, 1) := by decide +kernel
theorem dX2_put_65 : decode cX2_put 65 = .ok (.ireturn, 1) := by decide +kernel
theorem dX2_cell_0 : decode cX2_cell 0 = .ok (.aload_n 0, 1) := by decide +kernel
theorem dX2_cell_1 : decode cX2_cell 1 = .ok (.iconst 0, 1) := by decide +kernel
theorem dX2_cell_2 : decode cX2_cell 2 = .ok (.putfield 49, 3) := by decide +kernel
theorem dX2_cell_5 : decode cX2_cell 5 = .ok (.iload_n 1, 1) := by decide +kernel
theorem dX2_cell_6 : decode cX2_cell 6 = .ok (.invokestatic 53, 3) := by decide +kernel
theorem dX2_cell_9 : decode cX2_cell 9 = .ok (.ifCond .eq 10, 3) := by decide +kernel
theorem dX2_cell_12 : decode cX2_cell 12 = .ok (.iload_n 3, 1) := by decide +kernel
theorem dX2_cell_13 : decode cX2_cell 13 = .ok (.invokestatic 57, 3) := by decide +kernel
theorem dX2_cell_16 : decode cX2_cell 16 = .ok (.ifCond .ne 7, 3) := by decide +kernel
theorem dX2_cell_19 : decode cX2_cell 19 = .ok (.ldc2_w 146, 3) := by decide +kernel
theorem dX2_cell_22 : decode cX2_cell 22 = .ok (.lreturn, 1) := by decide +kernel
theorem dX2_cell_23 : decode cX2_cell 23 = .ok (.aload_n 0, 1) := by decide +kernel
theorem dX2_cell_24 : decode cX2_cell 24 = .ok (.aload_n 0, 1) := by decide +kernel
theorem dX2_cell_25 : decode cX2_cell 25 = .ok (.getfield 34, 3) := by decide +kernel
theorem dX2_cell_28 : decode cX2_cell 28 = .ok (.iload_n 1, 1) := by decide +kernel
theorem dX2_cell_29 : decode cX2_cell 29 = .ok (.aaload, 1) := by decide +kernel
theorem dX2_cell_30 : decode cX2_cell 30 = .ok (.iload_n 3, 1) := by decide +kernel
theorem dX2_cell_31 : decode cX2_cell 31 = .ok (.iload_n 2, 1) := by decide +kernel
theorem dX2_cell_32 : decode cX2_cell 32 = .ok (.iconst 1, 1) := by decide +kernel
theorem dX2_cell_33 : decode cX2_cell 33 = .ok (.invokevirtual 60, 3) := by decide +kernel
theorem dX2_cell_36 : decode cX2_cell 36 = .ok (.putfield 49, 3) := by decide +kernel
theorem dX2_cell_39 : decode cX2_cell 39 = .ok (.aload_n 0, 1) := by decide +kernel
theorem dX2_cell_40 : decode cX2_cell 40 = .ok (.getfield 49, 3) := by decide +kernel
theorem dX2_cell_43 : decode cX2_cell 43 = .ok (.ifCond .eq 9, 3) := by decide +kernel
theorem dX2_cell_46 : decode cX2_cell 46 = .ok (.ldc2_w 146, 3) := by decide +kernel
theorem dX2_cell_49 : decode cX2_cell 49 = .ok (.goto 15, 3) := by decide +kernel
theorem dX2_cell_52 : decode cX2_cell 52 = .ok (.aload_n 0, 1) := by decide +kernel
theorem dX2_cell_53 : decode cX2_cell 53 = .ok (.getfield 34, 3) := by decide +kernel
theorem dX2_cell_56 : decode cX2_cell 56 = .ok (.iload_n 1, 1) := by decide +kernel
theorem dX2_cell_57 : decode cX2_cell 57 = .ok (.aaload, 1) := by decide +kernel
theorem dX2_cell_58 : decode cX2_cell 58 = .ok (.getfield 165, 3) := by decide +kernel
theorem dX2_cell_61 : decode cX2_cell 61 = .ok (.iload_n 2, 1) := by decide +kernel
theorem dX2_cell_62 : decode cX2_cell 62 = .ok (.iaload, 1) := by decide +kernel
theorem dX2_cell_63 : decode cX2_cell 63 = .ok (.i2l, 1) := by decide +kernel
theorem dX2_cell_64 : decode cX2_cell 64 = .ok (.lreturn, 1) := by decide +kernel
theorem dX2_copy_0 : decode cX2_copy 0 = .ok (.aload_n 0, 1) := by decide +kernel
theorem dX2_copy_1 : decode cX2_copy 1 = .ok (.iconst 0, 1) := by decide +kernel
theorem dX2_copy_2 : decode cX2_copy 2 = .ok (.putfield 49, 3) := by decide +kernel
theorem dX2_copy_5 : decode cX2_copy 5 = .ok (.iload_n 1, 1) := by decide +kernel
theorem dX2_copy_6 : decode cX2_copy 6 = .ok (.invokestatic 53, 3) := by decide +kernel
theorem dX2_copy_9 : decode cX2_copy 9 = .ok (.ifCond .eq 10, 3) := by decide +kernel
theorem dX2_copy_12 : decode cX2_copy 12 = .ok (.iload_n 3, 1) := by decide +kernel
theorem dX2_copy_13 : decode cX2_copy 13 = .ok (.invokestatic 53, 3) := by decide +kernel
theorem dX2_copy_16 : decode cX2_copy 16 = .ok (.ifCond .ne 5, 3) := by decide +kernel
theorem dX2_copy_19 : decode cX2_copy 19 = .ok (.iconst (-1), 1) := by decide +kernel
theorem dX2_copy_20 : decode cX2_copy 20 = .ok (.ireturn, 1) := by decide +kernel
theorem dX2_copy_21 : decode cX2_copy 21 = .ok (.aload_n 0, 1) := by decide +kernel
theorem dX2_copy_22 : decode cX2_copy 22 = .ok (.getfield 34, 3) := by decide +kernel
theorem dX2_copy_25 : decode cX2_copy 25 = .ok (.iload_n 1, 1) := by decide +kernel
theorem dX2_copy_26 : decode cX2_copy 26 = .ok (.aaload, 1) := by decide +kernel
theorem dX2_copy_27 : decode cX2_copy 27 = .ok (.astore 6, 2) := by decide +kernel
theorem dX2_copy_29 : decode cX2_copy 29 = .ok (.aload_n 0, 1) := by decide +kernel
theorem dX2_copy_30 : decode cX2_copy 30 = .ok (.getfield 34, 3) := by decide +kernel
theorem dX2_copy_33 : decode cX2_copy 33 = .ok (.iload_n 3, 1) := by decide +kernel
theorem dX2_copy_34 : decode cX2_copy 34 = .ok (.aaload, 1) := by decide +kernel
theorem dX2_copy_35 : decode cX2_copy 35 = .ok (.astore 7, 2) := by decide +kernel
theorem dX2_copy_37 : decode cX2_copy 37 = .ok (.aload 6, 2) := by decide +kernel
theorem dX2_copy_39 : decode cX2_copy 39 = .ok (.invokevirtual 155, 3) := by decide +kernel
theorem dX2_copy_42 : decode cX2_copy 42 = .ok (.ifCond .ne 11, 3) := by decide +kernel
theorem dX2_copy_45 : decode cX2_copy 45 = .ok (.aload 7, 2) := by decide +kernel
theorem dX2_copy_47 : decode cX2_copy 47 = .ok (.invokevirtual 155, 3) := by decide +kernel
theorem dX2_copy_50 : decode cX2_copy 50 = .ok (.ifCond .eq 9, 3) := by decide +kernel
theorem dX2_copy_53 : decode cX2_copy 53 = .ok (.aload_n 0, 1) := by decide +kernel
theorem dX2_copy_54 : decode cX2_copy 54 = .ok (.iconst 1, 1) := by decide +kernel
theorem dX2_copy_55 : decode cX2_copy 55 = .ok (.invokevirtual 64, 3) := by decide +kernel
theorem dX2_copy_58 : decode cX2_copy 58 = .ok (.ireturn, 1) := by decide +kernel
theorem dX2_copy_59 : decode cX2_copy 59 = .ok (.aload 6, 2) := by decide +kernel
theorem dX2_copy_61 : decode cX2_copy 61 = .ok (.getfield 162, 3) := by decide +kernel
theorem dX2_copy_64 : decode cX2_copy 64 = .ok (.aload 7, 2) := by decide +kernel
theorem dX2_copy_66 : decode cX2_copy 66 = .ok (.getfield 162, 3) := by decide +kernel
theorem dX2_copy_69 : decode cX2_copy 69 = .ok (.if_icmp .eq 9, 3) := by decide +kernel
theorem dX2_copy_72 : decode cX2_copy 72 = .ok (.aload_n 0, 1) := by decide +kernel
theorem dX2_copy_73 : decode cX2_copy 73 = .ok (.iconst 2, 1) := by decide +kernel
theorem dX2_copy_74 : decode cX2_copy 74 = .ok (.invokevirtual 64, 3) := by decide +kernel
theorem dX2_copy_77 : decode cX2_copy 77 = .ok (.ireturn, 1) := by decide +kernel
theorem dX2_copy_78 : decode cX2_copy 78 = .ok (.aload 6, 2) := by decide +kernel
theorem dX2_copy_80 : decode cX2_copy 80 = .ok (.iload_n 2, 1) := by decide +kernel
theorem dX2_copy_81 : decode cX2_copy 81 = .ok (.iload 5, 2) := by decide +kernel
theorem dX2_copy_83 : decode cX2_copy 83 = .ok (.invokevirtual 171, 3) := by decide +kernel
theorem dX2_copy_86 : decode cX2_copy 86 = .ok (.ifCond .eq 15, 3) := by decide +kernel
theorem dX2_copy_89 : decode cX2_copy 89 = .ok (.aload 7, 2) := by decide +kernel
theorem dX2_copy_91 : decode cX2_copy 91 = .ok (.iload 4, 2) := by decide +kernel
theorem dX2_copy_93 : decode cX2_copy 93 = .ok (.iload 5, 2) := by decide +kernel
theorem dX2_copy_95 : decode cX2_copy 95 = .ok (.invokevirtual 171, 3) := by decide +kernel
theorem dX2_copy_98 : decode cX2_copy 98 = .ok (.ifCond .ne 9, 3) := by decide +kernel
theorem dX2_copy_101 : decode cX2_copy 101 = .ok (.aload_n 0, 1) := by decide +kernel
theorem dX2_copy_102 : decode cX2_copy 102 = .ok (.iconst 3, 1) := by decide +kernel
theorem dX2_copy_103 : decode cX2_copy 103 = .ok (.invokevirtual 64, 3) := by decide +kernel
theorem dX2_copy_106 : decode cX2_copy 106 = .ok (.ireturn, 1) := by decide +kernel
theorem dX2_copy_107 : decode cX2_copy 107 = .ok (.aload 6, 2) := by decide +kernel
theorem dX2_copy_109 : decode cX2_copy 109 = .ok (.getfield 165, 3) := by decide +kernel
theorem dX2_copy_112 : decode cX2_copy 112 = .ok (.iload_n 2, 1) := by decide +kernel
theorem dX2_copy_113 : decode cX2_copy 113 = .ok (.aload 7, 2) := by decide +kernel
theorem dX2_copy_115 : decode cX2_copy 115 = .ok (.getfield 165, 3) := by decide +kernel
theorem dX2_copy_118 : decode cX2_copy 118 = .ok (.iload 4, 2) := by decide +kernel
theorem dX2_copy_120 : decode cX2_copy 120 = .ok (.iload 5, 2) := by decide +kernel
theorem dX2_copy_122 : decode cX2_copy 122 = .ok (.invokestatic 175, 3) := by decide +kernel
theorem dX2_copy_125 : decode cX2_copy 125 = .ok (.iload 5, 2) := by decide +kernel
theorem dX2_copy_127 : decode cX2_copy 127 = .ok (.ireturn, 1) := by decide +kernel
theorem dX2_tell_0 : decode cX2_tell 0 = .ok (.aload_n 0, 1) := by decide +kernel
theorem dX2_tell_1 : decode cX2_tell 1 = .ok (.iload_n 1, 1) := by decide +kernel
theorem dX2_tell_2 : decode cX2_tell 2 = .ok (.invokevirtual 79, 3) := by decide +kernel
theorem dX2_tell_5 : decode cX2_tell 5 = .ok (.ifCond .ne 5, 3) := by decide +kernel
theorem dX2_tell_8 : decode cX2_tell 8 = .ok (.iconst (-1), 1) := by decide +kernel
theorem dX2_tell_9 : decode cX2_tell 9 = .ok (.ireturn, 1) := by decide +kernel
theorem dX2_tell_10 : decode cX2_tell 10 = .ok (.aload_n 0, 1) := by decide +kernel
theorem dX2_tell_11 : decode cX2_tell 11 = .ok (.getfield 13, 3) := by decide +kernel
theorem dX2_tell_14 : decode cX2_tell 14 = .ok (.iload_n 1, 1) := by decide +kernel
theorem dX2_tell_15 : decode cX2_tell 15 = .ok (.aaload, 1) := by decide +kernel
theorem dX2_tell_16 : decode cX2_tell 16 = .ok (.getfield 82, 3) := by decide +kernel
theorem dX2_tell_19 : decode cX2_tell 19 = .ok (.lookupswitch 47 #[(1, 25), (2, 36)], 25) := by decide +kernel
theorem dX2_tell_44 : decode cX2_tell 44 = .ok (.aload_n 0, 1) := by decide +kernel
theorem dX2_tell_45 : decode cX2_tell 45 = .ok (.aload_n 0, 1) := by decide +kernel
theorem dX2_tell_46 : decode cX2_tell 46 = .ok (.getfield 13, 3) := by decide +kernel
theorem dX2_tell_49 : decode cX2_tell 49 = .ok (.iload_n 1, 1) := by decide +kernel
theorem dX2_tell_50 : decode cX2_tell 50 = .ok (.aaload, 1) := by decide +kernel
theorem dX2_tell_51 : decode cX2_tell 51 = .ok (.invokevirtual 181, 3) := by decide +kernel
theorem dX2_tell_54 : decode cX2_tell 54 = .ok (.ireturn, 1) := by decide +kernel
theorem dX2_tell_55 : decode cX2_tell 55 = .ok (.aload_n 0, 1) := by decide +kernel
theorem dX2_tell_56 : decode cX2_tell 56 = .ok (.aload_n 0, 1) := by decide +kernel
theorem dX2_tell_57 : decode cX2_tell 57 = .ok (.getfield 13, 3) := by decide +kernel
theorem dX2_tell_60 : decode cX2_tell 60 = .ok (.iload_n 1, 1) := by decide +kernel
theorem dX2_tell_61 : decode cX2_tell 61 = .ok (.aaload, 1) := by decide +kernel
theorem dX2_tell_62 : decode cX2_tell 62 = .ok (.invokevirtual 185, 3) := by decide +kernel
theorem dX2_tell_65 : decode cX2_tell 65 = .ok (.ireturn, 1) := by decide +kernel
theorem dX2_tell_66 : decode cX2_tell 66 = .ok (.aload_n 0, 1) := by decide +kernel
theorem dX2_tell_67 : decode cX2_tell 67 = .ok (.aload_n 0, 1) := by decide +kernel
theorem dX2_tell_68 : decode cX2_tell 68 = .ok (.getfield 13, 3) := by decide +kernel
theorem dX2_tell_71 : decode cX2_tell 71 = .ok (.iload_n 1, 1) := by decide +kernel
theorem dX2_tell_72 : decode cX2_tell 72 = .ok (.aaload, 1) := by decide +kernel
theorem dX2_tell_73 : decode cX2_tell 73 = .ok (.invokevirtual 188, 3) := by decide +kernel
theorem dX2_tell_76 : decode cX2_tell 76 = .ok (.ireturn, 1) := by decide +kernel
theorem dX2_knock_0 : decode cX2_knock 0 = .ok (.aload_n 0, 1) := by decide +kernel
theorem dX2_knock_1 : decode cX2_knock 1 = .ok (.iload_n 1, 1) := by decide +kernel
theorem dX2_knock_2 : decode cX2_knock 2 = .ok (.invokevirtual 79, 3) := by decide +kernel
theorem dX2_knock_5 : decode cX2_knock 5 = .ok (.ifCond .ne 5, 3) := by decide +kernel
theorem dX2_knock_8 : decode cX2_knock 8 = .ok (.iconst (-1), 1) := by decide +kernel
theorem dX2_knock_9 : decode cX2_knock 9 = .ok (.ireturn, 1) := by decide +kernel
theorem dX2_knock_10 : decode cX2_knock 10 = .ok (.aload_n 0, 1) := by decide +kernel
theorem dX2_knock_11 : decode cX2_knock 11 = .ok (.getfield 13, 3) := by decide +kernel
theorem dX2_knock_14 : decode cX2_knock 14 = .ok (.iload_n 1, 1) := by decide +kernel
theorem dX2_knock_15 : decode cX2_knock 15 = .ok (.aaload, 1) := by decide +kernel
theorem dX2_knock_16 : decode cX2_knock 16 = .ok (.getfield 82, 3) := by decide +kernel
theorem dX2_knock_19 : decode cX2_knock 19 = .ok (.iconst 2, 1) := by decide +kernel
theorem dX2_knock_20 : decode cX2_knock 20 = .ok (.if_icmp .ne 7, 3) := by decide +kernel
theorem dX2_knock_23 : decode cX2_knock 23 = .ok (.iconst 1, 1) := by decide +kernel
theorem dX2_knock_24 : decode cX2_knock 24 = .ok (.goto 4, 3) := by decide +kernel
theorem dX2_knock_27 : decode cX2_knock 27 = .ok (.iconst 0, 1) := by decide +kernel
theorem dX2_knock_28 : decode cX2_knock 28 = .ok (.istore_n 2, 1) := by decide +kernel
theorem dX2_knock_29 : decode cX2_knock 29 = .ok (.aload_n 0, 1) := by decide +kernel
theorem dX2_knock_30 : decode cX2_knock 30 = .ok (.iload_n 2, 1) := by decide +kernel
theorem dX2_knock_31 : decode cX2_knock 31 = .ok (.ifCond .eq 7, 3) := by decide +kernel
theorem dX2_knock_34 : decode cX2_knock 34 = .ok (.iconst 5, 1) := by decide +kernel
theorem dX2_knock_35 : decode cX2_knock 35 = .ok (.goto 4, 3) := by decide +kernel
theorem dX2_knock_38 : decode cX2_knock 38 = .ok (.iconst 4, 1) := by decide +kernel
theorem dX2_knock_39 : decode cX2_knock 39 = .ok (.invokevirtual 191, 3) := by decide +kernel
theorem dX2_knock_42 : decode cX2_knock 42 = .ok (.iload_n 2, 1) := by decide +kernel
theorem dX2_knock_43 : decode cX2_knock 43 = .ok (.ifCond .eq 8, 3) := by decide +kernel
theorem dX2_knock_46 : decode cX2_knock 46 = .ok (.bipush 60, 2) := by decide +kernel
theorem dX2_knock_48 : decode cX2_knock 48 = .ok (.goto 4, 3) := by decide +kernel
theorem dX2_knock_51 : decode cX2_knock 51 = .ok (.iload_n 1, 1) := by decide +kernel
theorem dX2_knock_52 : decode cX2_knock 52 = .ok (.ireturn, 1) := by decide +kernel
theorem dX2_as_0 : decode cX2_as 0 = .ok (.aload_n 0, 1) := by decide +kernel
theorem dX2_as_1 : decode cX2_as 1 = .ok (.iconst 0, 1) := by decide +kernel
theorem dX2_as_2 : decode cX2_as 2 = .ok (.putfield 49, 3) := by decide +kernel
theorem dX2_as_5 : decode cX2_as 5 = .ok (.aload_n 0, 1) := by decide +kernel
theorem dX2_as_6 : decode cX2_as 6 = .ok (.iload_n 1, 1) := by decide +kernel
theorem dX2_as_7 : decode cX2_as 7 = .ok (.invokevirtual 79, 3) := by decide +kernel
theorem dX2_as_10 : decode cX2_as 10 = .ok (.ifCond .ne 5, 3) := by decide +kernel
theorem dX2_as_13 : decode cX2_as 13 = .ok (.iconst (-1), 1) := by decide +kernel
theorem dX2_as_14 : decode cX2_as 14 = .ok (.ireturn, 1) := by decide +kernel
theorem dX2_as_15 : decode cX2_as 15 = .ok (.iload_n 2, 1) := by decide +kernel
theorem dX2_as_16 : decode cX2_as 16 = .ok (.ifCond .lt 8, 3) := by decide +kernel
theorem dX2_as_19 : decode cX2_as 19 = .ok (.iload_n 2, 1) := by decide +kernel
theorem dX2_as_20 : decode cX2_as 20 = .ok (.iconst 3, 1) := by decide +kernel
theorem dX2_as_21 : decode cX2_as 21 = .ok (.if_icmp .lt 6, 3) := by decide +kernel
theorem dX2_as_24 : decode cX2_as 24 = .ok (.bipush (-2), 2) := by decide +kernel
theorem dX2_as_26 : decode cX2_as 26 = .ok (.ireturn, 1) := by decide +kernel
theorem dX2_as_27 : decode cX2_as 27 = .ok (.aload_n 0, 1) := by decide +kernel
theorem dX2_as_28 : decode cX2_as 28 = .ok (.getfield 13, 3) := by decide +kernel
theorem dX2_as_31 : decode cX2_as 31 = .ok (.iload_n 1, 1) := by decide +kernel
theorem dX2_as_32 : decode cX2_as 32 = .ok (.aaload, 1) := by decide +kernel
theorem dX2_as_33 : decode cX2_as 33 = .ok (.getfield 82, 3) := by decide +kernel
theorem dX2_as_36 : decode cX2_as 36 = .ok (.iload_n 2, 1) := by decide +kernel
theorem dX2_as_37 : decode cX2_as 37 = .ok (.if_icmp .lt 7, 3) := by decide +kernel
theorem dX2_as_40 : decode cX2_as 40 = .ok (.iconst 1, 1) := by decide +kernel
theorem dX2_as_41 : decode cX2_as 41 = .ok (.goto 8, 3) := by decide +kernel
theorem dX2_as_44 : decode cX2_as 44 = .ok (.aload_n 0, 1) := by decide +kernel
theorem dX2_as_45 : decode cX2_as 45 = .ok (.iconst 2, 1) := by decide +kernel
theorem dX2_as_46 : decode cX2_as 46 = .ok (.invokevirtual 64, 3) := by decide +kernel
theorem dX2_as_49 : decode cX2_as 49 = .ok (.ireturn, 1) := by decide +kernel
theorem dX2_trace_0 : decode cX2_trace 0 = .ok (.aload_n 0, 1) := by decide +kernel
theorem dX2_trace_1 : decode cX2_trace 1 = .ok (.getfield 195, 3) := by decide +kernel
theorem dX2_trace_4 : decode cX2_trace 4 = .ok (.ireturn, 1) := by decide +kernel
theorem dX2_fault_0 : decode cX2_fault 0 = .ok (.aload_n 0, 1) := by decide +kernel
theorem dX2_fault_1 : decode cX2_fault 1 = .ok (.getfield 49, 3) := by decide +kernel
theorem dX2_fault_4 : decode cX2_fault 4 = .ok (.ireturn, 1) := by decide +kernel
theorem dX2_many_0 : decode cX2_many 0 = .ok (.iload_n 1, 1) := by decide +kernel
theorem dX2_many_1 : decode cX2_many 1 = .ok (.tableswitch 42 0 2 #[27, 32, 37], 27) := by decide +kernel
theorem dX2_many_28 : decode cX2_many 28 = .ok (.aload_n 0, 1) := by decide +kernel
theorem dX2_many_29 : decode cX2_many 29 = .ok (.getfield 76, 3) := by decide +kernel
theorem dX2_many_32 : decode cX2_many 32 = .ok (.ireturn, 1) := by decide +kernel
theorem dX2_many_33 : decode cX2_many 33 = .ok (.aload_n 0, 1) := by decide +kernel
theorem dX2_many_34 : decode cX2_many 34 = .ok (.getfield 97, 3) := by decide +kernel
theorem dX2_many_37 : decode cX2_many 37 = .ok (.ireturn, 1) := by decide +kernel
theorem dX2_many_38 : decode cX2_many 38 = .ok (.aload_n 0, 1) := by decide +kernel
theorem dX2_many_39 : decode cX2_many 39 = .ok (.getfield 136, 3) := by decide +kernel
theorem dX2_many_42 : decode cX2_many 42 = .ok (.ireturn, 1) := by decide +kernel
theorem dX2_many_43 : decode cX2_many 43 = .ok (.bipush (-2), 2) := by decide +kernel
theorem dX2_many_45 : decode cX2_many 45 = .ok (.ireturn, 1) := by decide +kernel
theorem dX2_isRoom_0 : decode cX2_isRoom 0 = .ok (.iload_n 1, 1) := by decide +kernel
theorem dX2_isRoom_1 : decode cX2_isRoom 1 = .ok (.ifCond .lt 15, 3) := by decide +kernel
theorem dX2_isRoom_4 : decode cX2_isRoom 4 = .ok (.iload_n 1, 1) := by decide +kernel
theorem dX2_isRoom_5 : decode cX2_isRoom 5 = .ok (.aload_n 0, 1) := by decide +kernel
theorem dX2_isRoom_6 : decode cX2_isRoom 6 = .ok (.getfield 97, 3) := by decide +kernel
theorem dX2_isRoom_9 : decode cX2_isRoom 9 = .ok (.if_icmp .ge 7, 3) := by decide +kernel
theorem dX2_isRoom_12 : decode cX2_isRoom 12 = .ok (.iconst 1, 1) := by decide +kernel
theorem dX2_isRoom_13 : decode cX2_isRoom 13 = .ok (.goto 4, 3) := by decide +kernel
theorem dX2_isRoom_16 : decode cX2_isRoom 16 = .ok (.iconst 0, 1) := by decide +kernel
theorem dX2_isRoom_17 : decode cX2_isRoom 17 = .ok (.ireturn, 1) := by decide +kernel
theorem dX2_isDoor_0 : decode cX2_isDoor 0 = .ok (.iload_n 1, 1) := by decide +kernel
theorem dX2_isDoor_1 : decode cX2_isDoor 1 = .ok (.ifCond .lt 15, 3) := by decide +kernel
theorem dX2_isDoor_4 : decode cX2_isDoor 4 = .ok (.iload_n 1, 1) := by decide +kernel
theorem dX2_isDoor_5 : decode cX2_isDoor 5 = .ok (.aload_n 0, 1) := by decide +kernel
theorem dX2_isDoor_6 : decode cX2_isDoor 6 = .ok (.getfield 76, 3) := by decide +kernel
theorem dX2_isDoor_9 : decode cX2_isDoor 9 = .ok (.if_icmp .ge 7, 3) := by decide +kernel
theorem dX2_isDoor_12 : decode cX2_isDoor 12 = .ok (.iconst 1, 1) := by decide +kernel
theorem dX2_isDoor_13 : decode cX2_isDoor 13 = .ok (.goto 4, 3) := by decide +kernel
theorem dX2_isDoor_16 : decode cX2_isDoor 16 = .ok (.iconst 0, 1) := by decide +kernel
theorem dX2_isDoor_17 : decode cX2_isDoor 17 = .ok (.ireturn, 1) := by decide +kernel
theorem dX2_isHour_0 : decode cX2_isHour 0 = .ok (.iload_n 0, 1) := by decide +kernel
theorem dX2_isHour_1 : decode cX2_isHour 1 = .ok (.ifCond .lt 13, 3) := by decide +kernel
theorem dX2_isHour_4 : decode cX2_isHour 4 = .ok (.iload_n 0, 1) := by decide +kernel
theorem dX2_isHour_5 : decode cX2_isHour 5 = .ok (.bipush 12, 2) := by decide +kernel
theorem dX2_isHour_7 : decode cX2_isHour 7 = .ok (.if_icmp .ge 7, 3) := by decide +kernel
theorem dX2_isHour_10 : decode cX2_isHour 10 = .ok (.iconst 1, 1) := by decide +kernel
theorem dX2_isHour_11 : decode cX2_isHour 11 = .ok (.goto 4, 3) := by decide +kernel
theorem dX2_isHour_14 : decode cX2_isHour 14 = .ok (.iconst 0, 1) := by decide +kernel
theorem dX2_isHour_15 : decode cX2_isHour 15 = .ok (.ireturn, 1) := by decide +kernel
theorem dX2_isSheet_0 : decode cX2_isSheet 0 = .ok (.iload_n 0, 1) := by decide +kernel
theorem dX2_isSheet_1 : decode cX2_isSheet 1 = .ok (.ifCond .lt 12, 3) := by decide +kernel
theorem dX2_isSheet_4 : decode cX2_isSheet 4 = .ok (.iload_n 0, 1) := by decide +kernel
theorem dX2_isSheet_5 : decode cX2_isSheet 5 = .ok (.iconst 4, 1) := by decide +kernel
theorem dX2_isSheet_6 : decode cX2_isSheet 6 = .ok (.if_icmp .ge 7, 3) := by decide +kernel
theorem dX2_isSheet_9 : decode cX2_isSheet 9 = .ok (.iconst 1, 1) := by decide +kernel
theorem dX2_isSheet_10 : decode cX2_isSheet 10 = .ok (.goto 4, 3) := by decide +kernel
theorem dX2_isSheet_13 : decode cX2_isSheet 13 = .ok (.iconst 0, 1) := by decide +kernel
theorem dX2_isSheet_14 : decode cX2_isSheet 14 = .ok (.ireturn, 1) := by decide +kernel
theorem dX2_isLane_0 : decode cX2_isLane 0 = .ok (.iload_n 0, 1) := by decide +kernel
theorem dX2_isLane_1 : decode cX2_isLane 1 = .ok (.ifCond .lt 12, 3) := by decide +kernel
theorem dX2_isLane_4 : decode cX2_isLane 4 = .ok (.iload_n 0, 1) := by decide +kernel
theorem dX2_isLane_5 : decode cX2_isLane 5 = .ok (.iconst 3, 1) := by decide +kernel
theorem dX2_isLane_6 : decode cX2_isLane 6 = .ok (.if_icmp .ge 7, 3) := by decide +kernel
theorem dX2_isLane_9 : decode cX2_isLane 9 = .ok (.iconst 1, 1) := by decide +kernel
theorem dX2_isLane_10 : decode cX2_isLane 10 = .ok (.goto 4, 3) := by decide +kernel
theorem dX2_isLane_13 : decode cX2_isLane 13 = .ok (.iconst 0, 1) := by decide +kernel
theorem dX2_isLane_14 : decode cX2_isLane 14 = .ok (.ireturn, 1) := by decide +kernel
theorem dX2_allRooms_0 : decode cX2_allRooms 0 = .ok (.iconst 1, 1) := by decide +kernel
theorem dX2_allRooms_1 : decode cX2_allRooms 1 = .ok (.aload_n 0, 1) := by decide +kernel
theorem dX2_allRooms_2 : decode cX2_allRooms 2 = .ok (.getfield 97, 3) := by decide +kernel
theorem dX2_allRooms_5 : decode cX2_allRooms 5 = .ok (.ishl, 1) := by decide +kernel
theorem dX2_allRooms_6 : decode cX2_allRooms 6 = .ok (.iconst 1, 1) := by decide +kernel
theorem dX2_allRooms_7 : decode cX2_allRooms 7 = .ok (.isub, 1) := by decide +kernel
theorem dX2_allRooms_8 : decode cX2_allRooms 8 = .ok (.ireturn, 1) := by decide +kernel
theorem dX2_faulted_0 : decode cX2_faulted 0 = .ok (.aload_n 0, 1) := by decide +kernel
theorem dX2_faulted_1 : decode cX2_faulted 1 = .ok (.iload_n 1, 1) := by decide +kernel
theorem dX2_faulted_2 : decode cX2_faulted 2 = .ok (.putfield 49, 3) := by decide +kernel
theorem dX2_faulted_5 : decode cX2_faulted 5 = .ok (.bipush (-10), 2) := by decide +kernel
theorem dX2_faulted_7 : decode cX2_faulted 7 = .ok (.iload_n 1, 1) := by decide +kernel
theorem dX2_faulted_8 : decode cX2_faulted 8 = .ok (.isub, 1) := by decide +kernel
theorem dX2_faulted_9 : decode cX2_faulted 9 = .ok (.ireturn, 1) := by decide +kernel
theorem dX2_firstFault_0 : decode cX2_firstFault 0 = .ok (.iconst 0, 1) := by decide +kernel
theorem dX2_firstFault_1 : decode cX2_firstFault 1 = .ok (.istore_n 3, 1) := by decide +kernel
theorem dX2_firstFault_2 : decode cX2_firstFault 2 = .ok (.iconst 0, 1) := by decide +kernel
theorem dX2_firstFault_3 : decode cX2_firstFault 3 = .ok (.istore 4, 2) := by decide +kernel
theorem dX2_firstFault_5 : decode cX2_firstFault 5 = .ok (.iload 4, 2) := by decide +kernel
theorem dX2_firstFault_7 : decode cX2_firstFault 7 = .ok (.iload_n 2, 1) := by decide +kernel
theorem dX2_firstFault_8 : decode cX2_firstFault 8 = .ok (.if_icmp .ge 46, 3) := by decide +kernel
theorem dX2_firstFault_11 : decode cX2_firstFault 11 = .ok (.aload_n 0, 1) := by decide +kernel
theorem dX2_firstFault_12 : decode cX2_firstFault 12 = .ok (.getfield 165, 3) := by decide +kernel
theorem dX2_firstFault_15 : decode cX2_firstFault 15 = .ok (.iload_n 1, 1) := by decide +kernel
theorem dX2_firstFault_16 : decode cX2_firstFault 16 = .ok (.iload 4, 2) := by decide +kernel
theorem dX2_firstFault_18 : decode cX2_firstFault 18 = .ok (.iadd, 1) := by decide +kernel
theorem dX2_firstFault_19 : decode cX2_firstFault 19 = .ok (.iaload, 1) := by decide +kernel
theorem dX2_firstFault_20 : decode cX2_firstFault 20 = .ok (.istore 5, 2) := by decide +kernel
theorem dX2_firstFault_22 : decode cX2_firstFault 22 = .ok (.iload 4, 2) := by decide +kernel
theorem dX2_firstFault_24 : decode cX2_firstFault 24 = .ok (.iload 5, 2) := by decide +kernel
theorem dX2_firstFault_26 : decode cX2_firstFault 26 = .ok (.iload_n 3, 1) := by decide +kernel
theorem dX2_firstFault_27 : decode cX2_firstFault 27 = .ok (.invokestatic 198, 3) := by decide +kernel
theorem dX2_firstFault_30 : decode cX2_firstFault 30 = .ok (.ifCond .ne 6, 3) := by decide +kernel
theorem dX2_firstFault_33 : decode cX2_firstFault 33 = .ok (.iload 4, 2) := by decide +kernel
theorem dX2_firstFault_35 : decode cX2_firstFault 35 = .ok (.ireturn, 1) := by decide +kernel
theorem dX2_firstFault_36 : decode cX2_firstFault 36 = .ok (.iload 4, 2) := by decide +kernel
theorem dX2_firstFault_38 : decode cX2_firstFault 38 = .ok (.iconst 1, 1) := by decide +kernel
theorem dX2_firstFault_39 : decode cX2_firstFault 39 = .ok (.if_icmp .ne 9, 3) := by decide +kernel
theorem dX2_firstFault_42 : decode cX2_firstFault 42 = .ok (.iload 5, 2) := by decide +kernel
theorem dX2_firstFault_44 : decode cX2_firstFault 44 = .ok (.bipush 48, 2) := by decide +kernel
theorem dX2_firstFault_46 : decode cX2_firstFault 46 = .ok (.isub, 1) := by decide +kernel
theorem dX2_firstFault_47 : decode cX2_firstFault 47 = .ok (.istore_n 3, 1) := by decide +kernel
theorem dX2_firstFault_48 : decode cX2_firstFault 48 = .ok (.iinc 4 1, 3) := by decide +kernel
theorem dX2_firstFault_51 : decode cX2_firstFault 51 = .ok (.goto (-46), 3) := by decide +kernel
theorem dX2_firstFault_54 : decode cX2_firstFault 54 = .ok (.iload_n 2, 1) := by decide +kernel
theorem dX2_firstFault_55 : decode cX2_firstFault 55 = .ok (.iconst 2, 1) := by decide +kernel
theorem dX2_firstFault_56 : decode cX2_firstFault 56 = .ok (.if_icmp .le 15, 3) := by decide +kernel
theorem dX2_firstFault_59 : decode cX2_firstFault 59 = .ok (.iload_n 2, 1) := by decide +kernel
theorem dX2_firstFault_60 : decode cX2_firstFault 60 = .ok (.iconst 2, 1) := by decide +kernel
theorem dX2_firstFault_61 : decode cX2_firstFault 61 = .ok (.isub, 1) := by decide +kernel
theorem dX2_firstFault_62 : decode cX2_firstFault 62 = .ok (.iconst 5, 1) := by decide +kernel
theorem dX2_firstFault_63 : decode cX2_firstFault 63 = .ok (.irem, 1) := by decide +kernel
theorem dX2_firstFault_64 : decode cX2_firstFault 64 = .ok (.ifCond .ne 7, 3) := by decide +kernel
theorem dX2_firstFault_67 : decode cX2_firstFault 67 = .ok (.iconst 1, 1) := by decide +kernel
theorem dX2_firstFault_68 : decode cX2_firstFault 68 = .ok (.goto 4, 3) := by decide +kernel
theorem dX2_firstFault_71 : decode cX2_firstFault 71 = .ok (.iconst 0, 1) := by decide +kernel
theorem dX2_firstFault_72 : decode cX2_firstFault 72 = .ok (.istore 4, 2) := by decide +kernel
theorem dX2_firstFault_74 : decode cX2_firstFault 74 = .ok (.iload 4, 2) := by decide +kernel
theorem dX2_firstFault_76 : decode cX2_firstFault 76 = .ok (.ifCond .eq 8, 3) := by decide +kernel
theorem dX2_firstFault_79 : decode cX2_firstFault 79 = .ok (.bipush (-9), 2) := by decide +kernel
theorem dX2_firstFault_81 : decode cX2_firstFault 81 = .ok (.goto 4, 3) := by decide +kernel
theorem dX2_firstFault_84 : decode cX2_firstFault 84 = .ok (.iload_n 2, 1) := by decide +kernel
theorem dX2_firstFault_85 : decode cX2_firstFault 85 = .ok (.ireturn, 1) := by decide +kernel
theorem dX2_goesOn_0 : decode cX2_goesOn 0 = .ok (.iload_n 0, 1) := by decide +kernel
theorem dX2_goesOn_1 : decode cX2_goesOn 1 = .ok (.ifCond .ne 15, 3) := by decide +kernel
theorem dX2_goesOn_4 : decode cX2_goesOn 4 = .ok (.iload_n 1, 1) := by decide +kernel
theorem dX2_goesOn_5 : decode cX2_goesOn 5 = .ok (.bipush 100, 2) := by decide +kernel
theorem dX2_goesOn_7 : decode cX2_goesOn 7 = .ok (.if_icmp .ne 7, 3) := by decide +kernel
theorem dX2_goesOn_10 : decode cX2_goesOn 10 = .ok (.iconst 1, 1) := by decide +kernel
theorem dX2_goesOn_11 : decode cX2_goesOn 11 = .ok (.goto 4, 3) := by decide +kernel
theorem dX2_goesOn_14 : decode cX2_goesOn 14 = .ok (.iconst 0, 1) := by decide +kernel
theorem dX2_goesOn_15 : decode cX2_goesOn 15 = .ok (.ireturn, 1) := by decide +kernel
theorem dX2_goesOn_16 : decode cX2_goesOn 16 = .ok (.iload_n 0, 1) := by decide +kernel
theorem dX2_goesOn_17 : decode cX2_goesOn 17 = .ok (.iconst 1, 1) := by decide +kernel
theorem dX2_goesOn_18 : decode cX2_goesOn 18 = .ok (.if_icmp .ne 21, 3) := by decide +kernel
theorem dX2_goesOn_21 : decode cX2_goesOn 21 = .ok (.iload_n 1, 1) := by decide +kernel
theorem dX2_goesOn_22 : decode cX2_goesOn 22 = .ok (.bipush 50, 2) := by decide +kernel
theorem dX2_goesOn_24 : decode cX2_goesOn 24 = .ok (.if_icmp .lt 13, 3) := by decide +kernel
theorem dX2_goesOn_27 : decode cX2_goesOn 27 = .ok (.iload_n 1, 1) := by decide +kernel
theorem dX2_goesOn_28 : decode cX2_goesOn 28 = .ok (.bipush 54, 2) := by decide +kernel
theorem dX2_goesOn_30 : decode cX2_goesOn 30 = .ok (.if_icmp .gt 7, 3) := by decide +kernel
theorem dX2_goesOn_33 : decode cX2_goesOn 33 = .ok (.iconst 1, 1) := by decide +kernel
theorem dX2_goesOn_34 : decode cX2_goesOn 34 = .ok (.goto 4, 3) := by decide +kernel
theorem dX2_goesOn_37 : decode cX2_goesOn 37 = .ok (.iconst 0, 1) := by decide +kernel
theorem dX2_goesOn_38 : decode cX2_goesOn 38 = .ok (.ireturn, 1) := by decide +kernel
theorem dX2_goesOn_39 : decode cX2_goesOn 39 = .ok (.iload_n 0, 1) := by decide +kernel
theorem dX2_goesOn_40 : decode cX2_goesOn 40 = .ok (.bipush 42, 2) := by decide +kernel
theorem dX2_goesOn_42 : decode cX2_goesOn 42 = .ok (.if_icmp .lt 5, 3) := by decide +kernel
theorem dX2_goesOn_45 : decode cX2_goesOn 45 = .ok (.iconst 0, 1) := by decide +kernel
theorem dX2_goesOn_46 : decode cX2_goesOn 46 = .ok (.ireturn, 1) := by decide +kernel
theorem dX2_goesOn_47 : decode cX2_goesOn 47 = .ok (.iload_n 0, 1) := by decide +kernel
theorem dX2_goesOn_48 : decode cX2_goesOn 48 = .ok (.iconst 2, 1) := by decide +kernel
theorem dX2_goesOn_49 : decode cX2_goesOn 49 = .ok (.isub, 1) := by decide +kernel
theorem dX2_goesOn_50 : decode cX2_goesOn 50 = .ok (.iconst 5, 1) := by decide +kernel
theorem dX2_goesOn_51 : decode cX2_goesOn 51 = .ok (.irem, 1) := by decide +kernel
theorem dX2_goesOn_52 : decode cX2_goesOn 52 = .ok (.tableswitch 90 0 4 #[36, 48, 90, 90, 72], 36) := by decide +kernel
theorem dX2_goesOn_88 : decode cX2_goesOn 88 = .ok (.iload_n 1, 1) := by decide +kernel
theorem dX2_goesOn_89 : decode cX2_goesOn 89 = .ok (.bipush 59, 2) := by decide +kernel
theorem dX2_goesOn_91 : decode cX2_goesOn 91 = .ok (.if_icmp .ne 7, 3) := by decide +kernel
theorem dX2_goesOn_94 : decode cX2_goesOn 94 = .ok (.iconst 1, 1) := by decide +kernel
theorem dX2_goesOn_95 : decode cX2_goesOn 95 = .ok (.goto 4, 3) := by decide +kernel
theorem dX2_goesOn_98 : decode cX2_goesOn 98 = .ok (.iconst 0, 1) := by decide +kernel
theorem dX2_goesOn_99 : decode cX2_goesOn 99 = .ok (.ireturn, 1) := by decide +kernel
theorem dX2_goesOn_100 : decode cX2_goesOn 100 = .ok (.iload_n 1, 1) := by decide +kernel
theorem dX2_goesOn_101 : decode cX2_goesOn 101 = .ok (.bipush 112, 2) := by decide +kernel
theorem dX2_goesOn_103 : decode cX2_goesOn 103 = .ok (.if_icmp .eq 15, 3) := by decide +kernel
theorem dX2_goesOn_106 : decode cX2_goesOn 106 = .ok (.iload_n 1, 1) := by decide +kernel
theorem dX2_goesOn_107 : decode cX2_goesOn 107 = .ok (.bipush 108, 2) := by decide +kernel
theorem dX2_goesOn_109 : decode cX2_goesOn 109 = .ok (.if_icmp .eq 9, 3) := by decide +kernel
theorem dX2_goesOn_112 : decode cX2_goesOn 112 = .ok (.iload_n 1, 1) := by decide +kernel
theorem dX2_goesOn_113 : decode cX2_goesOn 113 = .ok (.bipush 99, 2) := by decide +kernel
theorem dX2_goesOn_115 : decode cX2_goesOn 115 = .ok (.if_icmp .ne 7, 3) := by decide +kernel
theorem dX2_goesOn_118 : decode cX2_goesOn 118 = .ok (.iconst 1, 1) := by decide +kernel
theorem dX2_goesOn_119 : decode cX2_goesOn 119 = .ok (.goto 4, 3) := by decide +kernel
theorem dX2_goesOn_122 : decode cX2_goesOn 122 = .ok (.iconst 0, 1) := by decide +kernel
theorem dX2_goesOn_123 : decode cX2_goesOn 123 = .ok (.ireturn, 1) := by decide +kernel
theorem dX2_goesOn_124 : decode cX2_goesOn 124 = .ok (.iload_n 1, 1) := by decide +kernel
theorem dX2_goesOn_125 : decode cX2_goesOn 125 = .ok (.bipush 48, 2) := by decide +kernel
theorem dX2_goesOn_127 : decode cX2_goesOn 127 = .ok (.if_icmp .lt 13, 3) := by decide +kernel
theorem dX2_goesOn_130 : decode cX2_goesOn 130 = .ok (.iload_n 1, 1) := by decide +kernel
theorem dX2_goesOn_131 : decode cX2_goesOn 131 = .ok (.bipush 53, 2) := by decide +kernel
theorem dX2_goesOn_133 : decode cX2_goesOn 133 = .ok (.if_icmp .gt 7, 3) := by decide +kernel
theorem dX2_goesOn_136 : decode cX2_goesOn 136 = .ok (.iconst 1, 1) := by decide +kernel
theorem dX2_goesOn_137 : decode cX2_goesOn 137 = .ok (.goto 4, 3) := by decide +kernel
theorem dX2_goesOn_140 : decode cX2_goesOn 140 = .ok (.iconst 0, 1) := by decide +kernel
theorem dX2_goesOn_141 : decode cX2_goesOn 141 = .ok (.ireturn, 1) := by decide +kernel
theorem dX2_goesOn_142 : decode cX2_goesOn 142 = .ok (.iload_n 1, 1) := by decide +kernel
theorem dX2_goesOn_143 : decode cX2_goesOn 143 = .ok (.bipush 48, 2) := by decide +kernel
theorem dX2_goesOn_145 : decode cX2_goesOn 145 = .ok (.if_icmp .lt 15, 3) := by decide +kernel
theorem dX2_goesOn_148 : decode cX2_goesOn 148 = .ok (.iload_n 1, 1) := by decide +kernel
theorem dX2_goesOn_149 : decode cX2_goesOn 149 = .ok (.bipush 48, 2) := by decide +kernel
theorem dX2_goesOn_151 : decode cX2_goesOn 151 = .ok (.iload_n 2, 1) := by decide +kernel
theorem dX2_goesOn_152 : decode cX2_goesOn 152 = .ok (.iadd, 1) := by decide +kernel
theorem dX2_goesOn_153 : decode cX2_goesOn 153 = .ok (.if_icmp .ge 7, 3) := by decide +kernel
theorem dX2_goesOn_156 : decode cX2_goesOn 156 = .ok (.iconst 1, 1) := by decide +kernel
theorem dX2_goesOn_157 : decode cX2_goesOn 157 = .ok (.goto 4, 3) := by decide +kernel
theorem dX2_goesOn_160 : decode cX2_goesOn 160 = .ok (.iconst 0, 1) := by decide +kernel
theorem dX2_goesOn_161 : decode cX2_goesOn 161 = .ok (.ireturn, 1) := by decide +kernel
theorem dX2_build_0 : decode cX2_build 0 = .ok (.aload_n 0, 1) := by decide +kernel
theorem dX2_build_1 : decode cX2_build 1 = .ok (.aload_n 1, 1) := by decide +kernel
theorem dX2_build_2 : decode cX2_build 2 = .ok (.getfield 165, 3) := by decide +kernel
theorem dX2_build_5 : decode cX2_build 5 = .ok (.iload_n 2, 1) := by decide +kernel
theorem dX2_build_6 : decode cX2_build 6 = .ok (.iconst 1, 1) := by decide +kernel
theorem dX2_build_7 : decode cX2_build 7 = .ok (.iadd, 1) := by decide +kernel
theorem dX2_build_8 : decode cX2_build 8 = .ok (.iaload, 1) := by decide +kernel
theorem dX2_build_9 : decode cX2_build 9 = .ok (.bipush 48, 2) := by decide +kernel
theorem dX2_build_11 : decode cX2_build 11 = .ok (.isub, 1) := by decide +kernel
theorem dX2_build_12 : decode cX2_build 12 = .ok (.putfield 97, 3) := by decide +kernel
theorem dX2_build_15 : decode cX2_build 15 = .ok (.aload_n 0, 1) := by decide +kernel
theorem dX2_build_16 : decode cX2_build 16 = .ok (.iload_n 3, 1) := by decide +kernel
theorem dX2_build_17 : decode cX2_build 17 = .ok (.iconst 2, 1) := by decide +kernel
theorem dX2_build_18 : decode cX2_build 18 = .ok (.isub, 1) := by decide +kernel
theorem dX2_build_19 : decode cX2_build 19 = .ok (.iconst 5, 1) := by decide +kernel
theorem dX2_build_20 : decode cX2_build 20 = .ok (.idiv, 1) := by decide +kernel
theorem dX2_build_21 : decode cX2_build 21 = .ok (.putfield 76, 3) := by decide +kernel
theorem dX2_build_24 : decode cX2_build 24 = .ok (.aload_n 0, 1) := by decide +kernel
theorem dX2_build_25 : decode cX2_build 25 = .ok (.iconst 0, 1) := by decide +kernel
theorem dX2_build_26 : decode cX2_build 26 = .ok (.putfield 136, 3) := by decide +kernel
theorem dX2_build_29 : decode cX2_build 29 = .ok (.iconst 0, 1) := by decide +kernel
theorem dX2_build_30 : decode cX2_build 30 = .ok (.istore 4, 2) := by decide +kernel
theorem dX2_build_32 : decode cX2_build 32 = .ok (.iload 4, 2) := by decide +kernel
theorem dX2_build_34 : decode cX2_build 34 = .ok (.aload_n 0, 1) := by decide +kernel
theorem dX2_build_35 : decode cX2_build 35 = .ok (.getfield 76, 3) := by decide +kernel
theorem dX2_build_38 : decode cX2_build 38 = .ok (.if_icmp .ge 107, 3) := by decide +kernel
theorem dX2_build_41 : decode cX2_build 41 = .ok (.iload_n 2, 1) := by decide +kernel
theorem dX2_build_42 : decode cX2_build 42 = .ok (.iconst 2, 1) := by decide +kernel
theorem dX2_build_43 : decode cX2_build 43 = .ok (.iadd, 1) := by decide +kernel
theorem dX2_build_44 : decode cX2_build 44 = .ok (.iload 4, 2) := by decide +kernel
theorem dX2_build_46 : decode cX2_build 46 = .ok (.iconst 5, 1) := by decide +kernel
theorem dX2_build_47 : decode cX2_build 47 = .ok (.imul, 1) := by decide +kernel
theorem dX2_build_48 : decode cX2_build 48 = .ok (.iadd, 1) := by decide +kernel
theorem dX2_build_49 : decode cX2_build 49 = .ok (.istore 5, 2) := by decide +kernel
theorem dX2_build_51 : decode cX2_build 51 = .ok (.aload_n 0, 1) := by decide +kernel
theorem dX2_build_52 : decode cX2_build 52 = .ok (.getfield 13, 3) := by decide +kernel
theorem dX2_build_55 : decode cX2_build 55 = .ok (.iload 4, 2) := by decide +kernel
theorem dX2_build_57 : decode cX2_build 57 = .ok (.aaload, 1) := by decide +kernel
theorem dX2_build_58 : decode cX2_build 58 = .ok (.aload_n 1, 1) := by decide +kernel
theorem dX2_build_59 : decode cX2_build 59 = .ok (.getfield 165, 3) := by decide +kernel
theorem dX2_build_62 : decode cX2_build 62 = .ok (.iload 5, 2) := by decide +kernel
theorem dX2_build_64 : decode cX2_build 64 = .ok (.iconst 1, 1) := by decide +kernel
theorem dX2_build_65 : decode cX2_build 65 = .ok (.iadd, 1) := by decide +kernel
theorem dX2_build_66 : decode cX2_build 66 = .ok (.iaload, 1) := by decide +kernel
theorem dX2_build_67 : decode cX2_build 67 = .ok (.invokestatic 202, 3) := by decide +kernel
theorem dX2_build_70 : decode cX2_build 70 = .ok (.putfield 82, 3) := by decide +kernel
theorem dX2_build_73 : decode cX2_build 73 = .ok (.aload_n 0, 1) := by decide +kernel
theorem dX2_build_74 : decode cX2_build 74 = .ok (.getfield 13, 3) := by decide +kernel
theorem dX2_build_77 : decode cX2_build 77 = .ok (.iload 4, 2) := by decide +kernel
theorem dX2_build_79 : decode cX2_build 79 = .ok (.aaload, 1) := by decide +kernel
theorem dX2_build_80 : decode cX2_build 80 = .ok (.aload_n 1, 1) := by decide +kernel
theorem dX2_build_81 : decode cX2_build 81 = .ok (.getfield 165, 3) := by decide +kernel
theorem dX2_build_84 : decode cX2_build 84 = .ok (.iload 5, 2) := by decide +kernel
theorem dX2_build_86 : decode cX2_build 86 = .ok (.iconst 2, 1) := by decide +kernel
theorem dX2_build_87 : decode cX2_build 87 = .ok (.iadd, 1) := by decide +kernel
theorem dX2_build_88 : decode cX2_build 88 = .ok (.iaload, 1) := by decide +kernel
theorem dX2_build_89 : decode cX2_build 89 = .ok (.bipush 48, 2) := by decide +kernel
theorem dX2_build_91 : decode cX2_build 91 = .ok (.isub, 1) := by decide +kernel
theorem dX2_build_92 : decode cX2_build 92 = .ok (.putfield 85, 3) := by decide +kernel
theorem dX2_build_95 : decode cX2_build 95 = .ok (.aload_n 0, 1) := by decide +kernel
theorem dX2_build_96 : decode cX2_build 96 = .ok (.getfield 13, 3) := by decide +kernel
theorem dX2_build_99 : decode cX2_build 99 = .ok (.iload 4, 2) := by decide +kernel
theorem dX2_build_101 : decode cX2_build 101 = .ok (.aaload, 1) := by decide +kernel
theorem dX2_build_102 : decode cX2_build 102 = .ok (.aload_n 1, 1) := by decide +kernel
theorem dX2_build_103 : decode cX2_build 103 = .ok (.getfield 165, 3) := by decide +kernel
theorem dX2_build_106 : decode cX2_build 106 = .ok (.iload 5, 2) := by decide +kernel
theorem dX2_build_108 : decode cX2_build 108 = .ok (.iconst 3, 1) := by decide +kernel
theorem dX2_build_109 : decode cX2_build 109 = .ok (.iadd, 1) := by decide +kernel
theorem dX2_build_110 : decode cX2_build 110 = .ok (.iaload, 1) := by decide +kernel
theorem dX2_build_111 : decode cX2_build 111 = .ok (.bipush 48, 2) := by decide +kernel
theorem dX2_build_113 : decode cX2_build 113 = .ok (.isub, 1) := by decide +kernel
theorem dX2_build_114 : decode cX2_build 114 = .ok (.putfield 88, 3) := by decide +kernel
theorem dX2_build_117 : decode cX2_build 117 = .ok (.aload_n 0, 1) := by decide +kernel
theorem dX2_build_118 : decode cX2_build 118 = .ok (.getfield 13, 3) := by decide +kernel
theorem dX2_build_121 : decode cX2_build 121 = .ok (.iload 4, 2) := by decide +kernel
theorem dX2_build_123 : decode cX2_build 123 = .ok (.aaload, 1) := by decide +kernel
theorem dX2_build_124 : decode cX2_build 124 = .ok (.aload_n 1, 1) := by decide +kernel
theorem dX2_build_125 : decode cX2_build 125 = .ok (.getfield 165, 3) := by decide +kernel
theorem dX2_build_128 : decode cX2_build 128 = .ok (.iload 5, 2) := by decide +kernel
theorem dX2_build_130 : decode cX2_build 130 = .ok (.iconst 4, 1) := by decide +kernel
theorem dX2_build_131 : decode cX2_build 131 = .ok (.iadd, 1) := by decide +kernel
theorem dX2_build_132 : decode cX2_build 132 = .ok (.iaload, 1) := by decide +kernel
theorem dX2_build_133 : decode cX2_build 133 = .ok (.bipush 48, 2) := by decide +kernel
theorem dX2_build_135 : decode cX2_build 135 = .ok (.isub, 1) := by decide +kernel
theorem dX2_build_136 : decode cX2_build 136 = .ok (.putfield 91, 3) := by decide +kernel
theorem dX2_build_139 : decode cX2_build 139 = .ok (.iinc 4 1, 3) := by decide +kernel
theorem dX2_build_142 : decode cX2_build 142 = .ok (.goto (-110), 3) := by decide +kernel
theorem dX2_build_145 : decode cX2_build 145 = .ok (.return_, 1) := by decide +kernel
theorem dX2_kindOfLetter_0 : decode cX2_kindOfLetter 0 = .ok (.iload_n 0, 1) := by decide +kernel
theorem dX2_kindOfLetter_1 : decode cX2_kindOfLetter 1 = .ok (.bipush 99, 2) := by decide +kernel
theorem dX2_kindOfLetter_3 : decode cX2_kindOfLetter 3 = .ok (.if_icmp .ne 5, 3) := by decide +kernel
theorem dX2_kindOfLetter_6 : decode cX2_kindOfLetter 6 = .ok (.iconst 2, 1) := by decide +kernel
theorem dX2_kindOfLetter_7 : decode cX2_kindOfLetter 7 = .ok (.ireturn, 1) := by decide +kernel
theorem dX2_kindOfLetter_8 : decode cX2_kindOfLetter 8 = .ok (.iload_n 0, 1) := by decide +kernel
theorem dX2_kindOfLetter_9 : decode cX2_kindOfLetter 9 = .ok (.bipush 108, 2) := by decide +kernel
theorem dX2_kindOfLetter_11 : decode cX2_kindOfLetter 11 = .ok (.if_icmp .ne 7, 3) := by decide +kernel
theorem dX2_kindOfLetter_14 : decode cX2_kindOfLetter 14 = .ok (.iconst 1, 1) := by decide +kernel
theorem dX2_kindOfLetter_15 : decode cX2_kindOfLetter 15 = .ok (.goto 4, 3) := by decide +kernel
theorem dX2_kindOfLetter_18 : decode cX2_kindOfLetter 18 = .ok (.iconst 0, 1) := by decide +kernel
theorem dX2_kindOfLetter_19 : decode cX2_kindOfLetter 19 = .ok (.ireturn, 1) := by decide +kernel
theorem dX2_areActs_0 : decode cX2_areActs 0 = .ok (.iconst 0, 1) := by decide +kernel
theorem dX2_areActs_1 : decode cX2_areActs 1 = .ok (.istore 4, 2) := by decide +kernel
theorem dX2_areActs_3 : decode cX2_areActs 3 = .ok (.iload 4, 2) := by decide +kernel
theorem dX2_areActs_5 : decode cX2_areActs 5 = .ok (.iload_n 3, 1) := by decide +kernel
theorem dX2_areActs_6 : decode cX2_areActs 6 = .ok (.if_icmp .ge 36, 3) := by decide +kernel
theorem dX2_areActs_9 : decode cX2_areActs 9 = .ok (.aload_n 1, 1) := by decide +kernel
theorem dX2_areActs_10 : decode cX2_areActs 10 = .ok (.getfield 165, 3) := by decide +kernel
theorem dX2_areActs_13 : decode cX2_areActs 13 = .ok (.iload_n 2, 1) := by decide +kernel
theorem dX2_areActs_14 : decode cX2_areActs 14 = .ok (.iload 4, 2) := by decide +kernel
theorem dX2_areActs_16 : decode cX2_areActs 16 = .ok (.iadd, 1) := by decide +kernel
theorem dX2_areActs_17 : decode cX2_areActs 17 = .ok (.iaload, 1) := by decide +kernel
theorem dX2_areActs_18 : decode cX2_areActs 18 = .ok (.istore 5, 2) := by decide +kernel
theorem dX2_areActs_20 : decode cX2_areActs 20 = .ok (.iload 5, 2) := by decide +kernel
theorem dX2_areActs_22 : decode cX2_areActs 22 = .ok (.ifCond .lt 12, 3) := by decide +kernel
theorem dX2_areActs_25 : decode cX2_areActs 25 = .ok (.iload 5, 2) := by decide +kernel
theorem dX2_areActs_27 : decode cX2_areActs 27 = .ok (.aload_n 0, 1) := by decide +kernel
theorem dX2_areActs_28 : decode cX2_areActs 28 = .ok (.getfield 76, 3) := by decide +kernel
theorem dX2_areActs_31 : decode cX2_areActs 31 = .ok (.if_icmp .le 5, 3) := by decide +kernel
theorem dX2_areActs_34 : decode cX2_areActs 34 = .ok (.iconst 0, 1) := by decide +kernel
theorem dX2_areActs_35 : decode cX2_areActs 35 = .ok (.ireturn, 1) := by decide +kernel
theorem dX2_areActs_36 : decode cX2_areActs 36 = .ok (.iinc 4 1, 3) := by decide +kernel
theorem dX2_areActs_39 : decode cX2_areActs 39 = .ok (.goto (-36), 3) := by decide +kernel
theorem dX2_areActs_42 : decode cX2_areActs 42 = .ok (.iconst 1, 1) := by decide +kernel
theorem dX2_areActs_43 : decode cX2_areActs 43 = .ok (.ireturn, 1) := by decide +kernel
theorem dX2_roomAfter_0 : decode cX2_roomAfter 0 = .ok (.iload_n 1, 1) := by decide +kernel
theorem dX2_roomAfter_1 : decode cX2_roomAfter 1 = .ok (.aload_n 0, 1) := by decide +kernel
theorem dX2_roomAfter_2 : decode cX2_roomAfter 2 = .ok (.getfield 76, 3) := by decide +kernel
theorem dX2_roomAfter_5 : decode cX2_roomAfter 5 = .ok (.if_icmp .ne 5, 3) := by decide +kernel
theorem dX2_roomAfter_8 : decode cX2_roomAfter 8 = .ok (.iload_n 2, 1) := by decide +kernel
theorem dX2_roomAfter_9 : decode cX2_roomAfter 9 = .ok (.ireturn, 1) := by decide +kernel
theorem dX2_roomAfter_10 : decode cX2_roomAfter 10 = .ok (.aload_n 0, 1) := by decide +kernel
theorem dX2_roomAfter_11 : decode cX2_roomAfter 11 = .ok (.iload_n 1, 1) := by decide +kernel
theorem dX2_roomAfter_12 : decode cX2_roomAfter 12 = .ok (.invokevirtual 79, 3) := by decide +kernel
theorem dX2_roomAfter_15 : decode cX2_roomAfter 15 = .ok (.ifCond .eq 16, 3) := by decide +kernel
theorem dX2_roomAfter_18 : decode cX2_roomAfter 18 = .ok (.aload_n 0, 1) := by decide +kernel
theorem dX2_roomAfter_19 : decode cX2_roomAfter 19 = .ok (.getfield 13, 3) := by decide +kernel
theorem dX2_roomAfter_22 : decode cX2_roomAfter 22 = .ok (.iload_n 1, 1) := by decide +kernel
theorem dX2_roomAfter_23 : decode cX2_roomAfter 23 = .ok (.aaload, 1) := by decide +kernel
theorem dX2_roomAfter_24 : decode cX2_roomAfter 24 = .ok (.getfield 85, 3) := by decide +kernel
theorem dX2_roomAfter_27 : decode cX2_roomAfter 27 = .ok (.iload_n 2, 1) := by decide +kernel
theorem dX2_roomAfter_28 : decode cX2_roomAfter 28 = .ok (.if_icmp .eq 6, 3) := by decide +kernel
theorem dX2_roomAfter_31 : decode cX2_roomAfter 31 = .ok (.bipush (-9), 2) := by decide +kernel
theorem dX2_roomAfter_33 : decode cX2_roomAfter 33 = .ok (.ireturn, 1) := by decide +kernel
theorem dX2_roomAfter_34 : decode cX2_roomAfter 34 = .ok (.aload_n 0, 1) := by decide +kernel
theorem dX2_roomAfter_35 : decode cX2_roomAfter 35 = .ok (.getfield 13, 3) := by decide +kernel
theorem dX2_roomAfter_38 : decode cX2_roomAfter 38 = .ok (.iload_n 1, 1) := by decide +kernel
theorem dX2_roomAfter_39 : decode cX2_roomAfter 39 = .ok (.aaload, 1) := by decide +kernel
theorem dX2_roomAfter_40 : decode cX2_roomAfter 40 = .ok (.iload_n 3, 1) := by decide +kernel
theorem dX2_roomAfter_41 : decode cX2_roomAfter 41 = .ok (.aload_n 0, 1) := by decide +kernel
theorem dX2_roomAfter_42 : decode cX2_roomAfter 42 = .ok (.getfield 97, 3) := by decide +kernel
theorem dX2_roomAfter_45 : decode cX2_roomAfter 45 = .ok (.invokevirtual 100, 3) := by decide +kernel
theorem dX2_roomAfter_48 : decode cX2_roomAfter 48 = .ok (.ireturn, 1) := by decide +kernel
theorem dX2_walked_0 : decode cX2_walked 0 = .ok (.iload_n 1, 1) := by decide +kernel
theorem dX2_walked_1 : decode cX2_walked 1 = .ok (.istore 7, 2) := by decide +kernel
theorem dX2_walked_3 : decode cX2_walked 3 = .ok (.iconst 1, 1) := by decide +kernel
theorem dX2_walked_4 : decode cX2_walked 4 = .ok (.iload_n 1, 1) := by decide +kernel
theorem dX2_walked_5 : decode cX2_walked 5 = .ok (.ishl, 1) := by decide +kernel
theorem dX2_walked_6 : decode cX2_walked 6 = .ok (.istore 8, 2) := by decide +kernel
theorem dX2_walked_8 : decode cX2_walked 8 = .ok (.iconst 0, 1) := by decide +kernel
theorem dX2_walked_9 : decode cX2_walked 9 = .ok (.istore 9, 2) := by decide +kernel
theorem dX2_walked_11 : decode cX2_walked 11 = .ok (.iconst 0, 1) := by decide +kernel
theorem dX2_walked_12 : decode cX2_walked 12 = .ok (.istore 10, 2) := by decide +kernel
theorem dX2_walked_14 : decode cX2_walked 14 = .ok (.iload 10, 2) := by decide +kernel
theorem dX2_walked_16 : decode cX2_walked 16 = .ok (.iload 5, 2) := by decide +kernel
theorem dX2_walked_18 : decode cX2_walked 18 = .ok (.if_icmp .ge 87, 3) := by decide +kernel
theorem dX2_walked_21 : decode cX2_walked 21 = .ok (.aload_n 3, 1) := by decide +kernel
theorem dX2_walked_22 : decode cX2_walked 22 = .ok (.getfield 165, 3) := by decide +kernel
theorem dX2_walked_25 : decode cX2_walked 25 = .ok (.iload 4, 2) := by decide +kernel
theorem dX2_walked_27 : decode cX2_walked 27 = .ok (.iload 10, 2) := by decide +kernel
theorem dX2_walked_29 : decode cX2_walked 29 = .ok (.iadd, 1) := by decide +kernel
theorem dX2_walked_30 : decode cX2_walked 30 = .ok (.iaload, 1) := by decide +kernel
theorem dX2_walked_31 : decode cX2_walked 31 = .ok (.istore 11, 2) := by decide +kernel
theorem dX2_walked_33 : decode cX2_walked 33 = .ok (.aload_n 0, 1) := by decide +kernel
theorem dX2_walked_34 : decode cX2_walked 34 = .ok (.iload 11, 2) := by decide +kernel
theorem dX2_walked_36 : decode cX2_walked 36 = .ok (.iload 7, 2) := by decide +kernel
theorem dX2_walked_38 : decode cX2_walked 38 = .ok (.iload_n 2, 1) := by decide +kernel
theorem dX2_walked_39 : decode cX2_walked 39 = .ok (.iload 10, 2) := by decide +kernel
theorem dX2_walked_41 : decode cX2_walked 41 = .ok (.iadd, 1) := by decide +kernel
theorem dX2_walked_42 : decode cX2_walked 42 = .ok (.bipush 12, 2) := by decide +kernel
theorem dX2_walked_44 : decode cX2_walked 44 = .ok (.irem, 1) := by decide +kernel
theorem dX2_walked_45 : decode cX2_walked 45 = .ok (.invokevirtual 205, 3) := by decide +kernel
theorem dX2_walked_48 : decode cX2_walked 48 = .ok (.istore 12, 2) := by decide +kernel
theorem dX2_walked_50 : decode cX2_walked 50 = .ok (.iload 12, 2) := by decide +kernel
theorem dX2_walked_52 : decode cX2_walked 52 = .ok (.bipush (-9), 2) := by decide +kernel
theorem dX2_walked_54 : decode cX2_walked 54 = .ok (.if_icmp .ne 20, 3) := by decide +kernel
theorem dX2_walked_57 : decode cX2_walked 57 = .ok (.iload 6, 2) := by decide +kernel
theorem dX2_walked_59 : decode cX2_walked 59 = .ok (.iconst 1, 1) := by decide +kernel
theorem dX2_walked_60 : decode cX2_walked 60 = .ok (.if_icmp .ne 8, 3) := by decide +kernel
theorem dX2_walked_63 : decode cX2_walked 63 = .ok (.iload 10, 2) := by decide +kernel
theorem dX2_walked_65 : decode cX2_walked 65 = .ok (.goto 8, 3) := by decide +kernel
theorem dX2_walked_68 : decode cX2_walked 68 = .ok (.bipush (-100), 2) := by decide +kernel
theorem dX2_walked_70 : decode cX2_walked 70 = .ok (.iload 10, 2) := by decide +kernel
theorem dX2_walked_72 : decode cX2_walked 72 = .ok (.isub, 1) := by decide +kernel
theorem dX2_walked_73 : decode cX2_walked 73 = .ok (.ireturn, 1) := by decide +kernel
theorem dX2_walked_74 : decode cX2_walked 74 = .ok (.iload 12, 2) := by decide +kernel
theorem dX2_walked_76 : decode cX2_walked 76 = .ok (.istore 7, 2) := by decide +kernel
theorem dX2_walked_78 : decode cX2_walked 78 = .ok (.iload 8, 2) := by decide +kernel
theorem dX2_walked_80 : decode cX2_walked 80 = .ok (.iconst 1, 1) := by decide +kernel
theorem dX2_walked_81 : decode cX2_walked 81 = .ok (.iload 7, 2) := by decide +kernel
theorem dX2_walked_83 : decode cX2_walked 83 = .ok (.ishl, 1) := by decide +kernel
theorem dX2_walked_84 : decode cX2_walked 84 = .ok (.ior, 1) := by decide +kernel
theorem dX2_walked_85 : decode cX2_walked 85 = .ok (.istore 8, 2) := by decide +kernel
theorem dX2_walked_87 : decode cX2_walked 87 = .ok (.iload 11, 2) := by decide +kernel
theorem dX2_walked_89 : decode cX2_walked 89 = .ok (.aload_n 0, 1) := by decide +kernel
theorem dX2_walked_90 : decode cX2_walked 90 = .ok (.getfield 76, 3) := by decide +kernel
theorem dX2_walked_93 : decode cX2_walked 93 = .ok (.if_icmp .eq 6, 3) := by decide +kernel
theorem dX2_walked_96 : decode cX2_walked 96 = .ok (.iinc 9 1, 3) := by decide +kernel
theorem dX2_walked_99 : decode cX2_walked 99 = .ok (.iinc 10 1, 3) := by decide +kernel
theorem dX2_walked_102 : decode cX2_walked 102 = .ok (.goto (-88), 3) := by decide +kernel
theorem dX2_walked_105 : decode cX2_walked 105 = .ok (.iload 6, 2) := by decide +kernel
theorem dX2_walked_107 : decode cX2_walked 107 = .ok (.tableswitch 46 0 3 #[29, 32, 35, 38], 29) := by decide +kernel
theorem dX2_walked_136 : decode cX2_walked 136 = .ok (.iload 7, 2) := by decide +kernel
theorem dX2_walked_138 : decode cX2_walked 138 = .ok (.ireturn, 1) := by decide +kernel
theorem dX2_walked_139 : decode cX2_walked 139 = .ok (.bipush (-9), 2) := by decide +kernel
theorem dX2_walked_141 : decode cX2_walked 141 = .ok (.ireturn, 1) := by decide +kernel
theorem dX2_walked_142 : decode cX2_walked 142 = .ok (.iload 8, 2) := by decide +kernel
theorem dX2_walked_144 : decode cX2_walked 144 = .ok (.ireturn, 1) := by decide +kernel
theorem dX2_walked_145 : decode cX2_walked 145 = .ok (.iload_n 2, 1) := by decide +kernel
theorem dX2_walked_146 : decode cX2_walked 146 = .ok (.iload 5, 2) := by decide +kernel
theorem dX2_walked_148 : decode cX2_walked 148 = .ok (.iadd, 1) := by decide +kernel
theorem dX2_walked_149 : decode cX2_walked 149 = .ok (.bipush 12, 2) := by decide +kernel
theorem dX2_walked_151 : decode cX2_walked 151 = .ok (.irem, 1) := by decide +kernel
theorem dX2_walked_152 : decode cX2_walked 152 = .ok (.ireturn, 1) := by decide +kernel
theorem dX2_walked_153 : decode cX2_walked 153 = .ok (.iload 9, 2) := by decide +kernel
theorem dX2_walked_155 : decode cX2_walked 155 = .ok (.ireturn, 1) := by decide +kernel
theorem dX2_anHourOn_0 : decode cX2_anHourOn 0 = .ok (.iload_n 1, 1) := by decide +kernel
theorem dX2_anHourOn_1 : decode cX2_anHourOn 1 = .ok (.istore 4, 2) := by decide +kernel
theorem dX2_anHourOn_3 : decode cX2_anHourOn 3 = .ok (.iconst 0, 1) := by decide +kernel
theorem dX2_anHourOn_4 : decode cX2_anHourOn 4 = .ok (.istore 5, 2) := by decide +kernel
theorem dX2_anHourOn_6 : decode cX2_anHourOn 6 = .ok (.iload 5, 2) := by decide +kernel
theorem dX2_anHourOn_8 : decode cX2_anHourOn 8 = .ok (.aload_n 0, 1) := by decide +kernel
theorem dX2_anHourOn_9 : decode cX2_anHourOn 9 = .ok (.getfield 76, 3) := by decide +kernel
theorem dX2_anHourOn_12 : decode cX2_anHourOn 12 = .ok (.if_icmp .ge 68, 3) := by decide +kernel
theorem dX2_anHourOn_15 : decode cX2_anHourOn 15 = .ok (.iload 5, 2) := by decide +kernel
theorem dX2_anHourOn_17 : decode cX2_anHourOn 17 = .ok (.iload_n 3, 1) := by decide +kernel
theorem dX2_anHourOn_18 : decode cX2_anHourOn 18 = .ok (.if_icmp .eq 56, 3) := by decide +kernel
theorem dX2_anHourOn_21 : decode cX2_anHourOn 21 = .ok (.iload_n 1, 1) := by decide +kernel
theorem dX2_anHourOn_22 : decode cX2_anHourOn 22 = .ok (.aload_n 0, 1) := by decide +kernel
theorem dX2_anHourOn_23 : decode cX2_anHourOn 23 = .ok (.getfield 13, 3) := by decide +kernel
theorem dX2_anHourOn_26 : decode cX2_anHourOn 26 = .ok (.iload 5, 2) := by decide +kernel
theorem dX2_anHourOn_28 : decode cX2_anHourOn 28 = .ok (.aaload, 1) := by decide +kernel
theorem dX2_anHourOn_29 : decode cX2_anHourOn 29 = .ok (.getfield 85, 3) := by decide +kernel
theorem dX2_anHourOn_32 : decode cX2_anHourOn 32 = .ok (.invokestatic 208, 3) := by decide +kernel
theorem dX2_anHourOn_35 : decode cX2_anHourOn 35 = .ok (.ifCond .ne 6, 3) := by decide +kernel
theorem dX2_anHourOn_38 : decode cX2_anHourOn 38 = .ok (.goto 36, 3) := by decide +kernel
theorem dX2_anHourOn_41 : decode cX2_anHourOn 41 = .ok (.aload_n 0, 1) := by decide +kernel
theorem dX2_anHourOn_42 : decode cX2_anHourOn 42 = .ok (.getfield 13, 3) := by decide +kernel
theorem dX2_anHourOn_45 : decode cX2_anHourOn 45 = .ok (.iload 5, 2) := by decide +kernel
theorem dX2_anHourOn_47 : decode cX2_anHourOn 47 = .ok (.aaload, 1) := by decide +kernel
theorem dX2_anHourOn_48 : decode cX2_anHourOn 48 = .ok (.iload_n 2, 1) := by decide +kernel
theorem dX2_anHourOn_49 : decode cX2_anHourOn 49 = .ok (.aload_n 0, 1) := by decide +kernel
theorem dX2_anHourOn_50 : decode cX2_anHourOn 50 = .ok (.getfield 97, 3) := by decide +kernel
theorem dX2_anHourOn_53 : decode cX2_anHourOn 53 = .ok (.invokevirtual 100, 3) := by decide +kernel
theorem dX2_anHourOn_56 : decode cX2_anHourOn 56 = .ok (.istore 6, 2) := by decide +kernel
theorem dX2_anHourOn_58 : decode cX2_anHourOn 58 = .ok (.iload 6, 2) := by decide +kernel
theorem dX2_anHourOn_60 : decode cX2_anHourOn 60 = .ok (.bipush (-9), 2) := by decide +kernel
theorem dX2_anHourOn_62 : decode cX2_anHourOn 62 = .ok (.if_icmp .eq 12, 3) := by decide +kernel
theorem dX2_anHourOn_65 : decode cX2_anHourOn 65 = .ok (.iload 4, 2) := by decide +kernel
theorem dX2_anHourOn_67 : decode cX2_anHourOn 67 = .ok (.iconst 1, 1) := by decide +kernel
theorem dX2_anHourOn_68 : decode cX2_anHourOn 68 = .ok (.iload 6, 2) := by decide +kernel
theorem dX2_anHourOn_70 : decode cX2_anHourOn 70 = .ok (.ishl, 1) := by decide +kernel
theorem dX2_anHourOn_71 : decode cX2_anHourOn 71 = .ok (.ior, 1) := by decide +kernel
theorem dX2_anHourOn_72 : decode cX2_anHourOn 72 = .ok (.istore 4, 2) := by decide +kernel
theorem dX2_anHourOn_74 : decode cX2_anHourOn 74 = .ok (.iinc 5 1, 3) := by decide +kernel
theorem dX2_anHourOn_77 : decode cX2_anHourOn 77 = .ok (.goto (-71), 3) := by decide +kernel
theorem dX2_anHourOn_80 : decode cX2_anHourOn 80 = .ok (.iload 4, 2) := by decide +kernel
theorem dX2_anHourOn_82 : decode cX2_anHourOn 82 = .ok (.ireturn, 1) := by decide +kernel
theorem dX2_fewestHours_0 : decode cX2_fewestHours 0 = .ok (.iconst 1, 1) := by decide +kernel
theorem dX2_fewestHours_1 : decode cX2_fewestHours 1 = .ok (.iload_n 1, 1) := by decide +kernel
theorem dX2_fewestHours_2 : decode cX2_fewestHours 2 = .ok (.ishl, 1) := by decide +kernel
theorem dX2_fewestHours_3 : decode cX2_fewestHours 3 = .ok (.istore 5, 2) := by decide +kernel
theorem dX2_fewestHours_5 : decode cX2_fewestHours 5 = .ok (.iconst 0, 1) := by decide +kernel
theorem dX2_fewestHours_6 : decode cX2_fewestHours 6 = .ok (.istore 6, 2) := by decide +kernel
theorem dX2_fewestHours_8 : decode cX2_fewestHours 8 = .ok (.iload 6, 2) := by decide +kernel
theorem dX2_fewestHours_10 : decode cX2_fewestHours 10 = .ok (.bipush 24, 2) := by decide +kernel
theorem dX2_fewestHours_12 : decode cX2_fewestHours 12 = .ok (.if_icmp .gt 38, 3) := by decide +kernel
theorem dX2_fewestHours_15 : decode cX2_fewestHours 15 = .ok (.iload 5, 2) := by decide +kernel
theorem dX2_fewestHours_17 : decode cX2_fewestHours 17 = .ok (.iload_n 2, 1) := by decide +kernel
theorem dX2_fewestHours_18 : decode cX2_fewestHours 18 = .ok (.invokestatic 208, 3) := by decide +kernel
theorem dX2_fewestHours_21 : decode cX2_fewestHours 21 = .ok (.ifCond .eq 6, 3) := by decide +kernel
theorem dX2_fewestHours_24 : decode cX2_fewestHours 24 = .ok (.iload 6, 2) := by decide +kernel
theorem dX2_fewestHours_26 : decode cX2_fewestHours 26 = .ok (.ireturn, 1) := by decide +kernel
theorem dX2_fewestHours_27 : decode cX2_fewestHours 27 = .ok (.aload_n 0, 1) := by decide +kernel
theorem dX2_fewestHours_28 : decode cX2_fewestHours 28 = .ok (.iload 5, 2) := by decide +kernel
theorem dX2_fewestHours_30 : decode cX2_fewestHours 30 = .ok (.iload_n 3, 1) := by decide +kernel
theorem dX2_fewestHours_31 : decode cX2_fewestHours 31 = .ok (.iload 6, 2) := by decide +kernel
theorem dX2_fewestHours_33 : decode cX2_fewestHours 33 = .ok (.iadd, 1) := by decide +kernel
theorem dX2_fewestHours_34 : decode cX2_fewestHours 34 = .ok (.bipush 12, 2) := by decide +kernel
theorem dX2_fewestHours_36 : decode cX2_fewestHours 36 = .ok (.irem, 1) := by decide +kernel
theorem dX2_fewestHours_37 : decode cX2_fewestHours 37 = .ok (.iload 4, 2) := by decide +kernel
theorem dX2_fewestHours_39 : decode cX2_fewestHours 39 = .ok (.invokevirtual 130, 3) := by decide +kernel
theorem dX2_fewestHours_42 : decode cX2_fewestHours 42 = .ok (.istore 5, 2) := by decide +kernel
theorem dX2_fewestHours_44 : decode cX2_fewestHours 44 = .ok (.iinc 6 1, 3) := by decide +kernel
theorem dX2_fewestHours_47 : decode cX2_fewestHours 47 = .ok (.goto (-39), 3) := by decide +kernel
theorem dX2_fewestHours_50 : decode cX2_fewestHours 50 = .ok (.bipush (-9), 2) := by decide +kernel
theorem dX2_fewestHours_52 : decode cX2_fewestHours 52 = .ok (.ireturn, 1) := by decide +kernel
theorem dX2_roomsInTime_0 : decode cX2_roomsInTime 0 = .ok (.iconst 1, 1) := by decide +kernel
theorem dX2_roomsInTime_1 : decode cX2_roomsInTime 1 = .ok (.iload_n 1, 1) := by decide +kernel
theorem dX2_roomsInTime_2 : decode cX2_roomsInTime 2 = .ok (.ishl, 1) := by decide +kernel
theorem dX2_roomsInTime_3 : decode cX2_roomsInTime 3 = .ok (.istore_n 3, 1) := by decide +kernel
theorem dX2_roomsInTime_4 : decode cX2_roomsInTime 4 = .ok (.iconst 0, 1) := by decide +kernel
theorem dX2_roomsInTime_5 : decode cX2_roomsInTime 5 = .ok (.istore 4, 2) := by decide +kernel
theorem dX2_roomsInTime_7 : decode cX2_roomsInTime 7 = .ok (.iload 4, 2) := by decide +kernel
theorem dX2_roomsInTime_9 : decode cX2_roomsInTime 9 = .ok (.bipush 24, 2) := by decide +kernel
theorem dX2_roomsInTime_11 : decode cX2_roomsInTime 11 = .ok (.if_icmp .ge 24, 3) := by decide +kernel
theorem dX2_roomsInTime_14 : decode cX2_roomsInTime 14 = .ok (.aload_n 0, 1) := by decide +kernel
theorem dX2_roomsInTime_15 : decode cX2_roomsInTime 15 = .ok (.iload_n 3, 1) := by decide +kernel
theorem dX2_roomsInTime_16 : decode cX2_roomsInTime 16 = .ok (.iload_n 2, 1) := by decide +kernel
theorem dX2_roomsInTime_17 : decode cX2_roomsInTime 17 = .ok (.iload 4, 2) := by decide +kernel
theorem dX2_roomsInTime_19 : decode cX2_roomsInTime 19 = .ok (.iadd, 1) := by decide +kernel
theorem dX2_roomsInTime_20 : decode cX2_roomsInTime 20 = .ok (.bipush 12, 2) := by decide +kernel
theorem dX2_roomsInTime_22 : decode cX2_roomsInTime 22 = .ok (.irem, 1) := by decide +kernel
theorem dX2_roomsInTime_23 : decode cX2_roomsInTime 23 = .ok (.bipush (-9), 2) := by decide +kernel
theorem dX2_roomsInTime_25 : decode cX2_roomsInTime 25 = .ok (.invokevirtual 130, 3) := by decide +kernel
theorem dX2_roomsInTime_28 : decode cX2_roomsInTime 28 = .ok (.istore_n 3, 1) := by decide +kernel
theorem dX2_roomsInTime_29 : decode cX2_roomsInTime 29 = .ok (.iinc 4 1, 3) := by decide +kernel
theorem dX2_roomsInTime_32 : decode cX2_roomsInTime 32 = .ok (.goto (-25), 3) := by decide +kernel
theorem dX2_roomsInTime_35 : decode cX2_roomsInTime 35 = .ok (.iload_n 3, 1) := by decide +kernel
theorem dX2_roomsInTime_36 : decode cX2_roomsInTime 36 = .ok (.ireturn, 1) := by decide +kernel
theorem dX2_actOfSoonest_0 : decode cX2_actOfSoonest 0 = .ok (.aload_n 0, 1) := by decide +kernel
theorem dX2_actOfSoonest_1 : decode cX2_actOfSoonest 1 = .ok (.iload_n 2, 1) := by decide +kernel
theorem dX2_actOfSoonest_2 : decode cX2_actOfSoonest 2 = .ok (.iload_n 3, 1) := by decide +kernel
theorem dX2_actOfSoonest_3 : decode cX2_actOfSoonest 3 = .ok (.iload 4, 2) := by decide +kernel
theorem dX2_actOfSoonest_5 : decode cX2_actOfSoonest 5 = .ok (.invokevirtual 211, 3) := by decide +kernel
theorem dX2_actOfSoonest_8 : decode cX2_actOfSoonest 8 = .ok (.iload_n 1, 1) := by decide +kernel
theorem dX2_actOfSoonest_9 : decode cX2_actOfSoonest 9 = .ok (.istore 6, 2) := by decide +kernel
theorem dX2_actOfSoonest_11 : decode cX2_actOfSoonest 11 = .ok (.bipush (-9), 2) := by decide +kernel
theorem dX2_actOfSoonest_13 : decode cX2_actOfSoonest 13 = .ok (.istore 7, 2) := by decide +kernel
theorem dX2_actOfSoonest_15 : decode cX2_actOfSoonest 15 = .ok (.iconst 0, 1) := by decide +kernel
theorem dX2_actOfSoonest_16 : decode cX2_actOfSoonest 16 = .ok (.istore 8, 2) := by decide +kernel
theorem dX2_actOfSoonest_18 : decode cX2_actOfSoonest 18 = .ok (.iload 8, 2) := by decide +kernel
theorem dX2_actOfSoonest_20 : decode cX2_actOfSoonest 20 = .ok (.iload 5, 2) := by decide +kernel
theorem dX2_actOfSoonest_22 : decode cX2_actOfSoonest 22 = .ok (.if_icmp .gt 56, 3) := by decide +kernel
theorem dX2_actOfSoonest_25 : decode cX2_actOfSoonest 25 = .ok (.iload 8, 2) := by decide +kernel
theorem dX2_actOfSoonest_27 : decode cX2_actOfSoonest 27 = .ok (.iload 4, 2) := by decide +kernel
theorem dX2_actOfSoonest_29 : decode cX2_actOfSoonest 29 = .ok (.if_icmp .ge 49, 3) := by decide +kernel
theorem dX2_actOfSoonest_32 : decode cX2_actOfSoonest 32 = .ok (.iload_n 3, 1) := by decide +kernel
theorem dX2_actOfSoonest_33 : decode cX2_actOfSoonest 33 = .ok (.iload 8, 2) := by decide +kernel
theorem dX2_actOfSoonest_35 : decode cX2_actOfSoonest 35 = .ok (.iadd, 1) := by decide +kernel
theorem dX2_actOfSoonest_36 : decode cX2_actOfSoonest 36 = .ok (.bipush 12, 2) := by decide +kernel
theorem dX2_actOfSoonest_38 : decode cX2_actOfSoonest 38 = .ok (.irem, 1) := by decide +kernel
theorem dX2_actOfSoonest_39 : decode cX2_actOfSoonest 39 = .ok (.istore 9, 2) := by decide +kernel
theorem dX2_actOfSoonest_41 : decode cX2_actOfSoonest 41 = .ok (.aload_n 0, 1) := by decide +kernel
theorem dX2_actOfSoonest_42 : decode cX2_actOfSoonest 42 = .ok (.iload 6, 2) := by decide +kernel
theorem dX2_actOfSoonest_44 : decode cX2_actOfSoonest 44 = .ok (.iload 9, 2) := by decide +kernel
theorem dX2_actOfSoonest_46 : decode cX2_actOfSoonest 46 = .ok (.aload_n 0, 1) := by decide +kernel
theorem dX2_actOfSoonest_47 : decode cX2_actOfSoonest 47 = .ok (.getfield 39, 3) := by decide +kernel
theorem dX2_actOfSoonest_50 : decode cX2_actOfSoonest 50 = .ok (.iload 8, 2) := by decide +kernel
theorem dX2_actOfSoonest_52 : decode cX2_actOfSoonest 52 = .ok (.iconst 1, 1) := by decide +kernel
theorem dX2_actOfSoonest_53 : decode cX2_actOfSoonest 53 = .ok (.iadd, 1) := by decide +kernel
theorem dX2_actOfSoonest_54 : decode cX2_actOfSoonest 54 = .ok (.iaload, 1) := by decide +kernel
theorem dX2_actOfSoonest_55 : decode cX2_actOfSoonest 55 = .ok (.invokevirtual 215, 3) := by decide +kernel
theorem dX2_actOfSoonest_58 : decode cX2_actOfSoonest 58 = .ok (.istore 7, 2) := by decide +kernel
theorem dX2_actOfSoonest_60 : decode cX2_actOfSoonest 60 = .ok (.aload_n 0, 1) := by decide +kernel
theorem dX2_actOfSoonest_61 : decode cX2_actOfSoonest 61 = .ok (.iload 7, 2) := by decide +kernel
theorem dX2_actOfSoonest_63 : decode cX2_actOfSoonest 63 = .ok (.iload 6, 2) := by decide +kernel
theorem dX2_actOfSoonest_65 : decode cX2_actOfSoonest 65 = .ok (.iload 9, 2) := by decide +kernel
theorem dX2_actOfSoonest_67 : decode cX2_actOfSoonest 67 = .ok (.invokevirtual 205, 3) := by decide +kernel
theorem dX2_actOfSoonest_70 : decode cX2_actOfSoonest 70 = .ok (.istore 6, 2) := by decide +kernel
theorem dX2_actOfSoonest_72 : decode cX2_actOfSoonest 72 = .ok (.iinc 8 1, 3) := by decide +kernel
theorem dX2_actOfSoonest_75 : decode cX2_actOfSoonest 75 = .ok (.goto (-57), 3) := by decide +kernel
theorem dX2_actOfSoonest_78 : decode cX2_actOfSoonest 78 = .ok (.iload 7, 2) := by decide +kernel
theorem dX2_actOfSoonest_80 : decode cX2_actOfSoonest 80 = .ok (.ireturn, 1) := by decide +kernel
theorem dX2_fillHopeful_0 : decode cX2_fillHopeful 0 = .ok (.aload_n 0, 1) := by decide +kernel
theorem dX2_fillHopeful_1 : decode cX2_fillHopeful 1 = .ok (.getfield 39, 3) := by decide +kernel
theorem dX2_fillHopeful_4 : decode cX2_fillHopeful 4 = .ok (.iload_n 3, 1) := by decide +kernel
theorem dX2_fillHopeful_5 : decode cX2_fillHopeful 5 = .ok (.iconst 1, 1) := by decide +kernel
theorem dX2_fillHopeful_6 : decode cX2_fillHopeful 6 = .ok (.iload_n 1, 1) := by decide +kernel
theorem dX2_fillHopeful_7 : decode cX2_fillHopeful 7 = .ok (.ishl, 1) := by decide +kernel
theorem dX2_fillHopeful_8 : decode cX2_fillHopeful 8 = .ok (.iastore, 1) := by decide +kernel
theorem dX2_fillHopeful_9 : decode cX2_fillHopeful 9 = .ok (.iload_n 3, 1) := by decide +kernel
theorem dX2_fillHopeful_10 : decode cX2_fillHopeful 10 = .ok (.iconst 1, 1) := by decide +kernel
theorem dX2_fillHopeful_11 : decode cX2_fillHopeful 11 = .ok (.isub, 1) := by decide +kernel
theorem dX2_fillHopeful_12 : decode cX2_fillHopeful 12 = .ok (.istore 4, 2) := by decide +kernel
theorem dX2_fillHopeful_14 : decode cX2_fillHopeful 14 = .ok (.iload 4, 2) := by decide +kernel
theorem dX2_fillHopeful_16 : decode cX2_fillHopeful 16 = .ok (.ifCond .le 36, 3) := by decide +kernel
theorem dX2_fillHopeful_19 : decode cX2_fillHopeful 19 = .ok (.aload_n 0, 1) := by decide +kernel
theorem dX2_fillHopeful_20 : decode cX2_fillHopeful 20 = .ok (.getfield 39, 3) := by decide +kernel
theorem dX2_fillHopeful_23 : decode cX2_fillHopeful 23 = .ok (.iload 4, 2) := by decide +kernel
theorem dX2_fillHopeful_25 : decode cX2_fillHopeful 25 = .ok (.aload_n 0, 1) := by decide +kernel
theorem dX2_fillHopeful_26 : decode cX2_fillHopeful 26 = .ok (.aload_n 0, 1) := by decide +kernel
theorem dX2_fillHopeful_27 : decode cX2_fillHopeful 27 = .ok (.getfield 39, 3) := by decide +kernel
theorem dX2_fillHopeful_30 : decode cX2_fillHopeful 30 = .ok (.iload 4, 2) := by decide +kernel
theorem dX2_fillHopeful_32 : decode cX2_fillHopeful 32 = .ok (.iconst 1, 1) := by decide +kernel
theorem dX2_fillHopeful_33 : decode cX2_fillHopeful 33 = .ok (.iadd, 1) := by decide +kernel
theorem dX2_fillHopeful_34 : decode cX2_fillHopeful 34 = .ok (.iaload, 1) := by decide +kernel
theorem dX2_fillHopeful_35 : decode cX2_fillHopeful 35 = .ok (.iload_n 2, 1) := by decide +kernel
theorem dX2_fillHopeful_36 : decode cX2_fillHopeful 36 = .ok (.iload 4, 2) := by decide +kernel
theorem dX2_fillHopeful_38 : decode cX2_fillHopeful 38 = .ok (.iadd, 1) := by decide +kernel
theorem dX2_fillHopeful_39 : decode cX2_fillHopeful 39 = .ok (.bipush 12, 2) := by decide +kernel
theorem dX2_fillHopeful_41 : decode cX2_fillHopeful 41 = .ok (.irem, 1) := by decide +kernel
theorem dX2_fillHopeful_42 : decode cX2_fillHopeful 42 = .ok (.invokevirtual 218, 3) := by decide +kernel
theorem dX2_fillHopeful_45 : decode cX2_fillHopeful 45 = .ok (.iastore, 1) := by decide +kernel
theorem dX2_fillHopeful_46 : decode cX2_fillHopeful 46 = .ok (.iinc 4 (-1), 3) := by decide +kernel
theorem dX2_fillHopeful_49 : decode cX2_fillHopeful 49 = .ok (.goto (-35), 3) := by decide +kernel
theorem dX2_fillHopeful_52 : decode cX2_fillHopeful 52 = .ok (.return_, 1) := by decide +kernel
theorem dX2_anHourAhead_0 : decode cX2_anHourAhead 0 = .ok (.iload_n 1, 1) := by decide +kernel
theorem dX2_anHourAhead_1 : decode cX2_anHourAhead 1 = .ok (.istore_n 3, 1) := by decide +kernel
theorem dX2_anHourAhead_2 : decode cX2_anHourAhead 2 = .ok (.iconst 0, 1) := by decide +kernel
theorem dX2_anHourAhead_3 : decode cX2_anHourAhead 3 = .ok (.istore 4, 2) := by decide +kernel
theorem dX2_anHourAhead_5 : decode cX2_anHourAhead 5 = .ok (.iload 4, 2) := by decide +kernel
theorem dX2_anHourAhead_7 : decode cX2_anHourAhead 7 = .ok (.aload_n 0, 1) := by decide +kernel
theorem dX2_anHourAhead_8 : decode cX2_anHourAhead 8 = .ok (.getfield 76, 3) := by decide +kernel
theorem dX2_anHourAhead_11 : decode cX2_anHourAhead 11 = .ok (.if_icmp .ge 57, 3) := by decide +kernel
theorem dX2_anHourAhead_14 : decode cX2_anHourAhead 14 = .ok (.aload_n 0, 1) := by decide +kernel
theorem dX2_anHourAhead_15 : decode cX2_anHourAhead 15 = .ok (.getfield 13, 3) := by decide +kernel
theorem dX2_anHourAhead_18 : decode cX2_anHourAhead 18 = .ok (.iload 4, 2) := by decide +kernel
theorem dX2_anHourAhead_20 : decode cX2_anHourAhead 20 = .ok (.aaload, 1) := by decide +kernel
theorem dX2_anHourAhead_21 : decode cX2_anHourAhead 21 = .ok (.iload_n 2, 1) := by decide +kernel
theorem dX2_anHourAhead_22 : decode cX2_anHourAhead 22 = .ok (.aload_n 0, 1) := by decide +kernel
theorem dX2_anHourAhead_23 : decode cX2_anHourAhead 23 = .ok (.getfield 97, 3) := by decide +kernel
theorem dX2_anHourAhead_26 : decode cX2_anHourAhead 26 = .ok (.invokevirtual 100, 3) := by decide +kernel
theorem dX2_anHourAhead_29 : decode cX2_anHourAhead 29 = .ok (.istore 5, 2) := by decide +kernel
theorem dX2_anHourAhead_31 : decode cX2_anHourAhead 31 = .ok (.iload 5, 2) := by decide +kernel
theorem dX2_anHourAhead_33 : decode cX2_anHourAhead 33 = .ok (.bipush (-9), 2) := by decide +kernel
theorem dX2_anHourAhead_35 : decode cX2_anHourAhead 35 = .ok (.if_icmp .eq 27, 3) := by decide +kernel
theorem dX2_anHourAhead_38 : decode cX2_anHourAhead 38 = .ok (.iload_n 1, 1) := by decide +kernel
theorem dX2_anHourAhead_39 : decode cX2_anHourAhead 39 = .ok (.iload 5, 2) := by decide +kernel
theorem dX2_anHourAhead_41 : decode cX2_anHourAhead 41 = .ok (.invokestatic 208, 3) := by decide +kernel
theorem dX2_anHourAhead_44 : decode cX2_anHourAhead 44 = .ok (.ifCond .eq 18, 3) := by decide +kernel
theorem dX2_anHourAhead_47 : decode cX2_anHourAhead 47 = .ok (.iload_n 3, 1) := by decide +kernel
theorem dX2_anHourAhead_48 : decode cX2_anHourAhead 48 = .ok (.iconst 1, 1) := by decide +kernel
theorem dX2_anHourAhead_49 : decode cX2_anHourAhead 49 = .ok (.aload_n 0, 1) := by decide +kernel
theorem dX2_anHourAhead_50 : decode cX2_anHourAhead 50 = .ok (.getfield 13, 3) := by decide +kernel
theorem dX2_anHourAhead_53 : decode cX2_anHourAhead 53 = .ok (.iload 4, 2) := by decide +kernel
theorem dX2_anHourAhead_55 : decode cX2_anHourAhead 55 = .ok (.aaload, 1) := by decide +kernel
theorem dX2_anHourAhead_56 : decode cX2_anHourAhead 56 = .ok (.getfield 85, 3) := by decide +kernel
theorem dX2_anHourAhead_59 : decode cX2_anHourAhead 59 = .ok (.ishl, 1) := by decide +kernel
theorem dX2_anHourAhead_60 : decode cX2_anHourAhead 60 = .ok (.ior, 1) := by decide +kernel
theorem dX2_anHourAhead_61 : decode cX2_anHourAhead 61 = .ok (.istore_n 3, 1) := by decide +kernel
theorem dX2_anHourAhead_62 : decode cX2_anHourAhead 62 = .ok (.iinc 4 1, 3) := by decide +kernel
theorem dX2_anHourAhead_65 : decode cX2_anHourAhead 65 = .ok (.goto (-60), 3) := by decide +kernel
theorem dX2_anHourAhead_68 : decode cX2_anHourAhead 68 = .ok (.iload_n 3, 1) := by decide +kernel
theorem dX2_anHourAhead_69 : decode cX2_anHourAhead 69 = .ok (.ireturn, 1) := by decide +kernel
theorem dX2_firstHopefulAct_0 : decode cX2_firstHopefulAct 0 = .ok (.iconst 0, 1) := by decide +kernel
theorem dX2_firstHopefulAct_1 : decode cX2_firstHopefulAct 1 = .ok (.istore 4, 2) := by decide +kernel
theorem dX2_firstHopefulAct_3 : decode cX2_firstHopefulAct 3 = .ok (.iload 4, 2) := by decide +kernel
theorem dX2_firstHopefulAct_5 : decode cX2_firstHopefulAct 5 = .ok (.aload_n 0, 1) := by decide +kernel
theorem dX2_firstHopefulAct_6 : decode cX2_firstHopefulAct 6 = .ok (.getfield 76, 3) := by decide +kernel
theorem dX2_firstHopefulAct_9 : decode cX2_firstHopefulAct 9 = .ok (.if_icmp .ge 38, 3) := by decide +kernel
theorem dX2_firstHopefulAct_12 : decode cX2_firstHopefulAct 12 = .ok (.aload_n 0, 1) := by decide +kernel
theorem dX2_firstHopefulAct_13 : decode cX2_firstHopefulAct 13 = .ok (.iload 4, 2) := by decide +kernel
theorem dX2_firstHopefulAct_15 : decode cX2_firstHopefulAct 15 = .ok (.iload_n 1, 1) := by decide +kernel
theorem dX2_firstHopefulAct_16 : decode cX2_firstHopefulAct 16 = .ok (.iload_n 2, 1) := by decide +kernel
theorem dX2_firstHopefulAct_17 : decode cX2_firstHopefulAct 17 = .ok (.invokevirtual 205, 3) := by decide +kernel
theorem dX2_firstHopefulAct_20 : decode cX2_firstHopefulAct 20 = .ok (.istore 5, 2) := by decide +kernel
theorem dX2_firstHopefulAct_22 : decode cX2_firstHopefulAct 22 = .ok (.iload 5, 2) := by decide +kernel
theorem dX2_firstHopefulAct_24 : decode cX2_firstHopefulAct 24 = .ok (.bipush (-9), 2) := by decide +kernel
theorem dX2_firstHopefulAct_26 : decode cX2_firstHopefulAct 26 = .ok (.if_icmp .eq 15, 3) := by decide +kernel
theorem dX2_firstHopefulAct_29 : decode cX2_firstHopefulAct 29 = .ok (.iload_n 3, 1) := by decide +kernel
theorem dX2_firstHopefulAct_30 : decode cX2_firstHopefulAct 30 = .ok (.iload 5, 2) := by decide +kernel
theorem dX2_firstHopefulAct_32 : decode cX2_firstHopefulAct 32 = .ok (.invokestatic 208, 3) := by decide +kernel
theorem dX2_firstHopefulAct_35 : decode cX2_firstHopefulAct 35 = .ok (.ifCond .eq 6, 3) := by decide +kernel
theorem dX2_firstHopefulAct_38 : decode cX2_firstHopefulAct 38 = .ok (.iload 4, 2) := by decide +kernel
theorem dX2_firstHopefulAct_40 : decode cX2_firstHopefulAct 40 = .ok (.ireturn, 1) := by decide +kernel
theorem dX2_firstHopefulAct_41 : decode cX2_firstHopefulAct 41 = .ok (.iinc 4 1, 3) := by decide +kernel
theorem dX2_firstHopefulAct_44 : decode cX2_firstHopefulAct 44 = .ok (.goto (-41), 3) := by decide +kernel
theorem dX2_firstHopefulAct_47 : decode cX2_firstHopefulAct 47 = .ok (.aload_n 0, 1) := by decide +kernel
theorem dX2_firstHopefulAct_48 : decode cX2_firstHopefulAct 48 = .ok (.getfield 76, 3) := by decide +kernel
theorem dX2_firstHopefulAct_51 : decode cX2_firstHopefulAct 51 = .ok (.ireturn, 1) := by decide +kernel
theorem dX2_has_0 : decode cX2_has 0 = .ok (.iload_n 0, 1) := by decide +kernel
theorem dX2_has_1 : decode cX2_has 1 = .ok (.iload_n 1, 1) := by decide +kernel
theorem dX2_has_2 : decode cX2_has 2 = .ok (.ishr, 1) := by decide +kernel
theorem dX2_has_3 : decode cX2_has 3 = .ok (.iconst 1, 1) := by decide +kernel
theorem dX2_has_4 : decode cX2_has 4 = .ok (.iand, 1) := by decide +kernel
theorem dX2_has_5 : decode cX2_has 5 = .ok (.ifCond .eq 7, 3) := by decide +kernel
theorem dX2_has_8 : decode cX2_has 8 = .ok (.iconst 1, 1) := by decide +kernel
theorem dX2_has_9 : decode cX2_has 9 = .ok (.goto 4, 3) := by decide +kernel
theorem dX2_has_12 : decode cX2_has 12 = .ok (.iconst 0, 1) := by decide +kernel
theorem dX2_has_13 : decode cX2_has 13 = .ok (.ireturn, 1) := by decide +kernel
theorem dX2_errandHours_0 : decode cX2_errandHours 0 = .ok (.iload_n 2, 1) := by decide +kernel
theorem dX2_errandHours_1 : decode cX2_errandHours 1 = .ok (.invokestatic 221, 3) := by decide +kernel
theorem dX2_errandHours_4 : decode cX2_errandHours 4 = .ok (.lstore 4, 2) := by decide +kernel
theorem dX2_errandHours_6 : decode cX2_errandHours 6 = .ok (.aload_n 0, 1) := by decide +kernel
theorem dX2_errandHours_7 : decode cX2_errandHours 7 = .ok (.getfield 42, 3) := by decide +kernel
theorem dX2_errandHours_10 : decode cX2_errandHours 10 = .ok (.lconst 0, 1) := by decide +kernel
theorem dX2_errandHours_11 : decode cX2_errandHours 11 = .ok (.invokestatic 225, 3) := by decide +kernel
theorem dX2_errandHours_14 : decode cX2_errandHours 14 = .ok (.aload_n 0, 1) := by decide +kernel
theorem dX2_errandHours_15 : decode cX2_errandHours 15 = .ok (.getfield 42, 3) := by decide +kernel
theorem dX2_errandHours_18 : decode cX2_errandHours 18 = .ok (.iload_n 1, 1) := by decide +kernel
theorem dX2_errandHours_19 : decode cX2_errandHours 19 = .ok (.lconst 1, 1) := by decide +kernel
theorem dX2_errandHours_20 : decode cX2_errandHours 20 = .ok (.iconst 1, 1) := by decide +kernel
theorem dX2_errandHours_21 : decode cX2_errandHours 21 = .ok (.iload_n 1, 1) := by decide +kernel
theorem dX2_errandHours_22 : decode cX2_errandHours 22 = .ok (.ishl, 1) := by decide +kernel
theorem dX2_errandHours_23 : decode cX2_errandHours 23 = .ok (.lshl, 1) := by decide +kernel
theorem dX2_errandHours_24 : decode cX2_errandHours 24 = .ok (.lastore, 1) := by decide +kernel
theorem dX2_errandHours_25 : decode cX2_errandHours 25 = .ok (.iconst 0, 1) := by decide +kernel
theorem dX2_errandHours_26 : decode cX2_errandHours 26 = .ok (.istore 6, 2) := by decide +kernel
theorem dX2_errandHours_28 : decode cX2_errandHours 28 = .ok (.iload 6, 2) := by decide +kernel
theorem dX2_errandHours_30 : decode cX2_errandHours 30 = .ok (.bipush 24, 2) := by decide +kernel
theorem dX2_errandHours_32 : decode cX2_errandHours 32 = .ok (.if_icmp .gt 32, 3) := by decide +kernel
theorem dX2_errandHours_35 : decode cX2_errandHours 35 = .ok (.aload_n 0, 1) := by decide +kernel
theorem dX2_errandHours_36 : decode cX2_errandHours 36 = .ok (.lload 4, 2) := by decide +kernel
theorem dX2_errandHours_38 : decode cX2_errandHours 38 = .ok (.invokevirtual 231, 3) := by decide +kernel
theorem dX2_errandHours_41 : decode cX2_errandHours 41 = .ok (.ifCond .eq 6, 3) := by decide +kernel
theorem dX2_errandHours_44 : decode cX2_errandHours 44 = .ok (.iload 6, 2) := by decide +kernel
theorem dX2_errandHours_46 : decode cX2_errandHours 46 = .ok (.ireturn, 1) := by decide +kernel
theorem dX2_errandHours_47 : decode cX2_errandHours 47 = .ok (.aload_n 0, 1) := by decide +kernel
theorem dX2_errandHours_48 : decode cX2_errandHours 48 = .ok (.iload_n 3, 1) := by decide +kernel
theorem dX2_errandHours_49 : decode cX2_errandHours 49 = .ok (.iload 6, 2) := by decide +kernel
theorem dX2_errandHours_51 : decode cX2_errandHours 51 = .ok (.iadd, 1) := by decide +kernel
theorem dX2_errandHours_52 : decode cX2_errandHours 52 = .ok (.bipush 12, 2) := by decide +kernel
theorem dX2_errandHours_54 : decode cX2_errandHours 54 = .ok (.irem, 1) := by decide +kernel
theorem dX2_errandHours_55 : decode cX2_errandHours 55 = .ok (.invokevirtual 235, 3) := by decide +kernel
theorem dX2_errandHours_58 : decode cX2_errandHours 58 = .ok (.iinc 6 1, 3) := by decide +kernel
theorem dX2_errandHours_61 : decode cX2_errandHours 61 = .ok (.goto (-33), 3) := by decide +kernel
theorem dX2_errandHours_64 : decode cX2_errandHours 64 = .ok (.bipush (-9), 2) := by decide +kernel
theorem dX2_errandHours_66 : decode cX2_errandHours 66 = .ok (.ireturn, 1) := by decide +kernel
theorem dX2_setsWithAll_0 : decode cX2_setsWithAll 0 = .ok (.ldc2_w 238, 3) := by decide +kernel
theorem dX2_setsWithAll_3 : decode cX2_setsWithAll 3 = .ok (.lstore_n 1, 1) := by decide +kernel
theorem dX2_setsWithAll_4 : decode cX2_setsWithAll 4 = .ok (.iconst 0, 1) := by decide +kernel
theorem dX2_setsWithAll_5 : decode cX2_setsWithAll 5 = .ok (.istore_n 3, 1) := by decide +kernel
theorem dX2_setsWithAll_6 : decode cX2_setsWithAll 6 = .ok (.iload_n 3, 1) := by decide +kernel
theorem dX2_setsWithAll_7 : decode cX2_setsWithAll 7 = .ok (.bipush 6, 2) := by decide +kernel
theorem dX2_setsWithAll_9 : decode cX2_setsWithAll 9 = .ok (.if_icmp .ge 25, 3) := by decide +kernel
theorem dX2_setsWithAll_12 : decode cX2_setsWithAll 12 = .ok (.iload_n 0, 1) := by decide +kernel
theorem dX2_setsWithAll_13 : decode cX2_setsWithAll 13 = .ok (.iload_n 3, 1) := by decide +kernel
theorem dX2_setsWithAll_14 : decode cX2_setsWithAll 14 = .ok (.invokestatic 208, 3) := by decide +kernel
theorem dX2_setsWithAll_17 : decode cX2_setsWithAll 17 = .ok (.ifCond .eq 11, 3) := by decide +kernel
theorem dX2_setsWithAll_20 : decode cX2_setsWithAll 20 = .ok (.lload_n 1, 1) := by decide +kernel
theorem dX2_setsWithAll_21 : decode cX2_setsWithAll 21 = .ok (.getstatic 240, 3) := by decide +kernel
theorem dX2_setsWithAll_24 : decode cX2_setsWithAll 24 = .ok (.iload_n 3, 1) := by decide +kernel
theorem dX2_setsWithAll_25 : decode cX2_setsWithAll 25 = .ok (.laload, 1) := by decide +kernel
theorem dX2_setsWithAll_26 : decode cX2_setsWithAll 26 = .ok (.land, 1) := by decide +kernel
theorem dX2_setsWithAll_27 : decode cX2_setsWithAll 27 = .ok (.lstore_n 1, 1) := by decide +kernel
theorem dX2_setsWithAll_28 : decode cX2_setsWithAll 28 = .ok (.iinc 3 1, 3) := by decide +kernel
theorem dX2_setsWithAll_31 : decode cX2_setsWithAll 31 = .ok (.goto (-25), 3) := by decide +kernel
theorem dX2_setsWithAll_34 : decode cX2_setsWithAll 34 = .ok (.lload_n 1, 1) := by decide +kernel
theorem dX2_setsWithAll_35 : decode cX2_setsWithAll 35 = .ok (.lreturn, 1) := by decide +kernel
theorem dX2_anySeen_0 : decode cX2_anySeen 0 = .ok (.iconst 0, 1) := by decide +kernel
theorem dX2_anySeen_1 : decode cX2_anySeen 1 = .ok (.istore_n 3, 1) := by decide +kernel
theorem dX2_anySeen_2 : decode cX2_anySeen 2 = .ok (.iload_n 3, 1) := by decide +kernel
theorem dX2_anySeen_3 : decode cX2_anySeen 3 = .ok (.bipush 6, 2) := by decide +kernel
theorem dX2_anySeen_5 : decode cX2_anySeen 5 = .ok (.if_icmp .ge 24, 3) := by decide +kernel
theorem dX2_anySeen_8 : decode cX2_anySeen 8 = .ok (.aload_n 0, 1) := by decide +kernel
theorem dX2_anySeen_9 : decode cX2_anySeen 9 = .ok (.getfield 42, 3) := by decide +kernel
theorem dX2_anySeen_12 : decode cX2_anySeen 12 = .ok (.iload_n 3, 1) := by decide +kernel
theorem dX2_anySeen_13 : decode cX2_anySeen 13 = .ok (.laload, 1) := by decide +kernel
theorem dX2_anySeen_14 : decode cX2_anySeen 14 = .ok (.lload_n 1, 1) := by decide +kernel
theorem dX2_anySeen_15 : decode cX2_anySeen 15 = .ok (.land, 1) := by decide +kernel
theorem dX2_anySeen_16 : decode cX2_anySeen 16 = .ok (.lconst 0, 1) := by decide +kernel
theorem dX2_anySeen_17 : decode cX2_anySeen 17 = .ok (.lcmp, 1) := by decide +kernel
theorem dX2_anySeen_18 : decode cX2_anySeen 18 = .ok (.ifCond .eq 5, 3) := by decide +kernel
theorem dX2_anySeen_21 : decode cX2_anySeen 21 = .ok (.iconst 1, 1) := by decide +kernel
theorem dX2_anySeen_22 : decode cX2_anySeen 22 = .ok (.ireturn, 1) := by decide +kernel
theorem dX2_anySeen_23 : decode cX2_anySeen 23 = .ok (.iinc 3 1, 3) := by decide +kernel
theorem dX2_anySeen_26 : decode cX2_anySeen 26 = .ok (.goto (-24), 3) := by decide +kernel
theorem dX2_anySeen_29 : decode cX2_anySeen 29 = .ok (.iconst 0, 1) := by decide +kernel
theorem dX2_anySeen_30 : decode cX2_anySeen 30 = .ok (.ireturn, 1) := by decide +kernel
theorem dX2_seeAnHourOn_0 : decode cX2_seeAnHourOn 0 = .ok (.aload_n 0, 1) := by decide +kernel
theorem dX2_seeAnHourOn_1 : decode cX2_seeAnHourOn 1 = .ok (.getfield 42, 3) := by decide +kernel
theorem dX2_seeAnHourOn_4 : decode cX2_seeAnHourOn 4 = .ok (.iconst 0, 1) := by decide +kernel
theorem dX2_seeAnHourOn_5 : decode cX2_seeAnHourOn 5 = .ok (.aload_n 0, 1) := by decide +kernel
theorem dX2_seeAnHourOn_6 : decode cX2_seeAnHourOn 6 = .ok (.getfield 46, 3) := by decide +kernel
theorem dX2_seeAnHourOn_9 : decode cX2_seeAnHourOn 9 = .ok (.iconst 0, 1) := by decide +kernel
theorem dX2_seeAnHourOn_10 : decode cX2_seeAnHourOn 10 = .ok (.bipush 6, 2) := by decide +kernel
theorem dX2_seeAnHourOn_12 : decode cX2_seeAnHourOn 12 = .ok (.invokestatic 175, 3) := by decide +kernel
theorem dX2_seeAnHourOn_15 : decode cX2_seeAnHourOn 15 = .ok (.iconst 0, 1) := by decide +kernel
theorem dX2_seeAnHourOn_16 : decode cX2_seeAnHourOn 16 = .ok (.istore_n 2, 1) := by decide +kernel
theorem dX2_seeAnHourOn_17 : decode cX2_seeAnHourOn 17 = .ok (.iload_n 2, 1) := by decide +kernel
theorem dX2_seeAnHourOn_18 : decode cX2_seeAnHourOn 18 = .ok (.aload_n 0, 1) := by decide +kernel
theorem dX2_seeAnHourOn_19 : decode cX2_seeAnHourOn 19 = .ok (.getfield 76, 3) := by decide +kernel
theorem dX2_seeAnHourOn_22 : decode cX2_seeAnHourOn 22 = .ok (.if_icmp .ge 57, 3) := by decide +kernel
theorem dX2_seeAnHourOn_25 : decode cX2_seeAnHourOn 25 = .ok (.aload_n 0, 1) := by decide +kernel
theorem dX2_seeAnHourOn_26 : decode cX2_seeAnHourOn 26 = .ok (.getfield 13, 3) := by decide +kernel
theorem dX2_seeAnHourOn_29 : decode cX2_seeAnHourOn 29 = .ok (.iload_n 2, 1) := by decide +kernel
theorem dX2_seeAnHourOn_30 : decode cX2_seeAnHourOn 30 = .ok (.aaload, 1) := by decide +kernel
theorem dX2_seeAnHourOn_31 : decode cX2_seeAnHourOn 31 = .ok (.iload_n 1, 1) := by decide +kernel
theorem dX2_seeAnHourOn_32 : decode cX2_seeAnHourOn 32 = .ok (.aload_n 0, 1) := by decide +kernel
theorem dX2_seeAnHourOn_33 : decode cX2_seeAnHourOn 33 = .ok (.getfield 97, 3) := by decide +kernel
theorem dX2_seeAnHourOn_36 : decode cX2_seeAnHourOn 36 = .ok (.invokevirtual 100, 3) := by decide +kernel
theorem dX2_seeAnHourOn_39 : decode cX2_seeAnHourOn 39 = .ok (.istore_n 3, 1) := by decide +kernel
theorem dX2_seeAnHourOn_40 : decode cX2_seeAnHourOn 40 = .ok (.iload_n 3, 1) := by decide +kernel
theorem dX2_seeAnHourOn_41 : decode cX2_seeAnHourOn 41 = .ok (.bipush (-9), 2) := by decide +kernel
theorem dX2_seeAnHourOn_43 : decode cX2_seeAnHourOn 43 = .ok (.if_icmp .eq 30, 3) := by decide +kernel
theorem dX2_seeAnHourOn_46 : decode cX2_seeAnHourOn 46 = .ok (.aload_n 0, 1) := by decide +kernel
theorem dX2_seeAnHourOn_47 : decode cX2_seeAnHourOn 47 = .ok (.getfield 46, 3) := by decide +kernel
theorem dX2_seeAnHourOn_50 : decode cX2_seeAnHourOn 50 = .ok (.iload_n 3, 1) := by decide +kernel
theorem dX2_seeAnHourOn_51 : decode cX2_seeAnHourOn 51 = .ok (.dup2, 1) := by decide +kernel
theorem dX2_seeAnHourOn_52 : decode cX2_seeAnHourOn 52 = .ok (.laload, 1) := by decide +kernel
theorem dX2_seeAnHourOn_53 : decode cX2_seeAnHourOn 53 = .ok (.aload_n 0, 1) := by decide +kernel
theorem dX2_seeAnHourOn_54 : decode cX2_seeAnHourOn 54 = .ok (.getfield 42, 3) := by decide +kernel
theorem dX2_seeAnHourOn_57 : decode cX2_seeAnHourOn 57 = .ok (.aload_n 0, 1) := by decide +kernel
theorem dX2_seeAnHourOn_58 : decode cX2_seeAnHourOn 58 = .ok (.getfield 13, 3) := by decide +kernel
theorem dX2_seeAnHourOn_61 : decode cX2_seeAnHourOn 61 = .ok (.iload_n 2, 1) := by decide +kernel
theorem dX2_seeAnHourOn_62 : decode cX2_seeAnHourOn 62 = .ok (.aaload, 1) := by decide +kernel
theorem dX2_seeAnHourOn_63 : decode cX2_seeAnHourOn 63 = .ok (.getfield 85, 3) := by decide +kernel
theorem dX2_seeAnHourOn_66 : decode cX2_seeAnHourOn 66 = .ok (.laload, 1) := by decide +kernel
theorem dX2_seeAnHourOn_67 : decode cX2_seeAnHourOn 67 = .ok (.iload_n 3, 1) := by decide +kernel
theorem dX2_seeAnHourOn_68 : decode cX2_seeAnHourOn 68 = .ok (.invokestatic 243, 3) := by decide +kernel
theorem dX2_seeAnHourOn_71 : decode cX2_seeAnHourOn 71 = .ok (.lor, 1) := by decide +kernel
theorem dX2_seeAnHourOn_72 : decode cX2_seeAnHourOn 72 = .ok (.lastore, 1) := by decide +kernel
theorem dX2_seeAnHourOn_73 : decode cX2_seeAnHourOn 73 = .ok (.iinc 2 1, 3) := by decide +kernel
theorem dX2_seeAnHourOn_76 : decode cX2_seeAnHourOn 76 = .ok (.goto (-59), 3) := by decide +kernel
theorem dX2_seeAnHourOn_79 : decode cX2_seeAnHourOn 79 = .ok (.aload_n 0, 1) := by decide +kernel
theorem dX2_seeAnHourOn_80 : decode cX2_seeAnHourOn 80 = .ok (.getfield 46, 3) := by decide +kernel
theorem dX2_seeAnHourOn_83 : decode cX2_seeAnHourOn 83 = .ok (.iconst 0, 1) := by decide +kernel
theorem dX2_seeAnHourOn_84 : decode cX2_seeAnHourOn 84 = .ok (.aload_n 0, 1) := by decide +kernel
theorem dX2_seeAnHourOn_85 : decode cX2_seeAnHourOn 85 = .ok (.getfield 42, 3) := by decide +kernel
theorem dX2_seeAnHourOn_88 : decode cX2_seeAnHourOn 88 = .ok (.iconst 0, 1) := by decide +kernel
theorem dX2_seeAnHourOn_89 : decode cX2_seeAnHourOn 89 = .ok (.bipush 6, 2) := by decide +kernel
theorem dX2_seeAnHourOn_91 : decode cX2_seeAnHourOn 91 = .ok (.invokestatic 175, 3) := by decide +kernel
theorem dX2_seeAnHourOn_94 : decode cX2_seeAnHourOn 94 = .ok (.return_, 1) := by decide +kernel
theorem dX2_eachWith_0 : decode cX2_eachWith 0 = .ok (.lload_n 0, 1) := by decide +kernel
theorem dX2_eachWith_1 : decode cX2_eachWith 1 = .ok (.getstatic 240, 3) := by decide +kernel
theorem dX2_eachWith_4 : decode cX2_eachWith 4 = .ok (.iload_n 2, 1) := by decide +kernel
theorem dX2_eachWith_5 : decode cX2_eachWith 5 = .ok (.laload, 1) := by decide +kernel
theorem dX2_eachWith_6 : decode cX2_eachWith 6 = .ok (.land, 1) := by decide +kernel
theorem dX2_eachWith_7 : decode cX2_eachWith 7 = .ok (.lstore_n 3, 1) := by decide +kernel
theorem dX2_eachWith_8 : decode cX2_eachWith 8 = .ok (.lload_n 0, 1) := by decide +kernel
theorem dX2_eachWith_9 : decode cX2_eachWith 9 = .ok (.getstatic 240, 3) := by decide +kernel
theorem dX2_eachWith_12 : decode cX2_eachWith 12 = .ok (.iload_n 2, 1) := by decide +kernel
theorem dX2_eachWith_13 : decode cX2_eachWith 13 = .ok (.laload, 1) := by decide +kernel
theorem dX2_eachWith_14 : decode cX2_eachWith 14 = .ok (.ldc2_w 238, 3) := by decide +kernel
theorem dX2_eachWith_17 : decode cX2_eachWith 17 = .ok (.lxor, 1) := by decide +kernel
theorem dX2_eachWith_18 : decode cX2_eachWith 18 = .ok (.land, 1) := by decide +kernel
theorem dX2_eachWith_19 : decode cX2_eachWith 19 = .ok (.lstore 5, 2) := by decide +kernel
theorem dX2_eachWith_21 : decode cX2_eachWith 21 = .ok (.lload_n 3, 1) := by decide +kernel
theorem dX2_eachWith_22 : decode cX2_eachWith 22 = .ok (.lload 5, 2) := by decide +kernel
theorem dX2_eachWith_24 : decode cX2_eachWith 24 = .ok (.iconst 1, 1) := by decide +kernel
theorem dX2_eachWith_25 : decode cX2_eachWith 25 = .ok (.iload_n 2, 1) := by decide +kernel
theorem dX2_eachWith_26 : decode cX2_eachWith 26 = .ok (.ishl, 1) := by decide +kernel
theorem dX2_eachWith_27 : decode cX2_eachWith 27 = .ok (.lshl, 1) := by decide +kernel
theorem dX2_eachWith_28 : decode cX2_eachWith 28 = .ok (.lor, 1) := by decide +kernel
theorem dX2_eachWith_29 : decode cX2_eachWith 29 = .ok (.lreturn, 1) := by decide +kernel
theorem dX2_readingsHold_0 : decode cX2_readingsHold 0 = .ok (.iconst 0, 1) := by decide +kernel
theorem dX2_readingsHold_1 : decode cX2_readingsHold 1 = .ok (.istore_n 2, 1) := by decide +kernel
theorem dX2_readingsHold_2 : decode cX2_readingsHold 2 = .ok (.iload_n 2, 1) := by decide +kernel
theorem dX2_readingsHold_3 : decode cX2_readingsHold 3 = .ok (.aload_n 0, 1) := by decide +kernel
theorem dX2_readingsHold_4 : decode cX2_readingsHold 4 = .ok (.getfield 136, 3) := by decide +kernel
theorem dX2_readingsHold_7 : decode cX2_readingsHold 7 = .ok (.if_icmp .ge 63, 3) := by decide +kernel
theorem dX2_readingsHold_10 : decode cX2_readingsHold 10 = .ok (.aload_n 0, 1) := by decide +kernel
theorem dX2_readingsHold_11 : decode cX2_readingsHold 11 = .ok (.getfield 22, 3) := by decide +kernel
theorem dX2_readingsHold_14 : decode cX2_readingsHold 14 = .ok (.iload_n 2, 1) := by decide +kernel
theorem dX2_readingsHold_15 : decode cX2_readingsHold 15 = .ok (.iaload, 1) := by decide +kernel
theorem dX2_readingsHold_16 : decode cX2_readingsHold 16 = .ok (.iload_n 1, 1) := by decide +kernel
theorem dX2_readingsHold_17 : decode cX2_readingsHold 17 = .ok (.if_icmp .ne 10, 3) := by decide +kernel
theorem dX2_readingsHold_20 : decode cX2_readingsHold 20 = .ok (.aload_n 0, 1) := by decide +kernel
theorem dX2_readingsHold_21 : decode cX2_readingsHold 21 = .ok (.getfield 18, 3) := by decide +kernel
theorem dX2_readingsHold_24 : decode cX2_readingsHold 24 = .ok (.goto 14, 3) := by decide +kernel
theorem dX2_readingsHold_27 : decode cX2_readingsHold 27 = .ok (.aload_n 0, 1) := by decide +kernel
theorem dX2_readingsHold_28 : decode cX2_readingsHold 28 = .ok (.getfield 13, 3) := by decide +kernel
theorem dX2_readingsHold_31 : decode cX2_readingsHold 31 = .ok (.aload_n 0, 1) := by decide +kernel
theorem dX2_readingsHold_32 : decode cX2_readingsHold 32 = .ok (.getfield 22, 3) := by decide +kernel
theorem dX2_readingsHold_35 : decode cX2_readingsHold 35 = .ok (.iload_n 2, 1) := by decide +kernel
theorem dX2_readingsHold_36 : decode cX2_readingsHold 36 = .ok (.iaload, 1) := by decide +kernel
theorem dX2_readingsHold_37 : decode cX2_readingsHold 37 = .ok (.aaload, 1) := by decide +kernel
theorem dX2_readingsHold_38 : decode cX2_readingsHold 38 = .ok (.astore_n 3, 1) := by decide +kernel
theorem dX2_readingsHold_39 : decode cX2_readingsHold 39 = .ok (.aload_n 3, 1) := by decide +kernel
theorem dX2_readingsHold_40 : decode cX2_readingsHold 40 = .ok (.aload_n 0, 1) := by decide +kernel
theorem dX2_readingsHold_41 : decode cX2_readingsHold 41 = .ok (.getfield 26, 3) := by decide +kernel
theorem dX2_readingsHold_44 : decode cX2_readingsHold 44 = .ok (.iload_n 2, 1) := by decide +kernel
theorem dX2_readingsHold_45 : decode cX2_readingsHold 45 = .ok (.iaload, 1) := by decide +kernel
theorem dX2_readingsHold_46 : decode cX2_readingsHold 46 = .ok (.aload_n 0, 1) := by decide +kernel
theorem dX2_readingsHold_47 : decode cX2_readingsHold 47 = .ok (.getfield 97, 3) := by decide +kernel
theorem dX2_readingsHold_50 : decode cX2_readingsHold 50 = .ok (.invokevirtual 100, 3) := by decide +kernel
theorem dX2_readingsHold_53 : decode cX2_readingsHold 53 = .ok (.aload_n 0, 1) := by decide +kernel
theorem dX2_readingsHold_54 : decode cX2_readingsHold 54 = .ok (.getfield 29, 3) := by decide +kernel
theorem dX2_readingsHold_57 : decode cX2_readingsHold 57 = .ok (.iload_n 2, 1) := by decide +kernel
theorem dX2_readingsHold_58 : decode cX2_readingsHold 58 = .ok (.iaload, 1) := by decide +kernel
theorem dX2_readingsHold_59 : decode cX2_readingsHold 59 = .ok (.if_icmp .eq 5, 3) := by decide +kernel
theorem dX2_readingsHold_62 : decode cX2_readingsHold 62 = .ok (.iconst 0, 1) := by decide +kernel
theorem dX2_readingsHold_63 : decode cX2_readingsHold 63 = .ok (.ireturn, 1) := by decide +kernel
theorem dX2_readingsHold_64 : decode cX2_readingsHold 64 = .ok (.iinc 2 1, 3) := by decide +kernel
theorem dX2_readingsHold_67 : decode cX2_readingsHold 67 = .ok (.goto (-65), 3) := by decide +kernel
theorem dX2_readingsHold_70 : decode cX2_readingsHold 70 = .ok (.iconst 1, 1) := by decide +kernel
theorem dX2_readingsHold_71 : decode cX2_readingsHold 71 = .ok (.ireturn, 1) := by decide +kernel
theorem dX2_commonWithHours_0 : decode cX2_commonWithHours 0 = .ok (.bipush 12, 2) := by decide +kernel
theorem dX2_commonWithHours_2 : decode cX2_commonWithHours 2 = .ok (.istore_n 1, 1) := by decide +kernel
theorem dX2_commonWithHours_3 : decode cX2_commonWithHours 3 = .ok (.iload_n 1, 1) := by decide +kernel
theorem dX2_commonWithHours_4 : decode cX2_commonWithHours 4 = .ok (.iconst 1, 1) := by decide +kernel
theorem dX2_commonWithHours_5 : decode cX2_commonWithHours 5 = .ok (.if_icmp .le 24, 3) := by decide +kernel
theorem dX2_commonWithHours_8 : decode cX2_commonWithHours 8 = .ok (.bipush 12, 2) := by decide +kernel
theorem dX2_commonWithHours_10 : decode cX2_commonWithHours 10 = .ok (.iload_n 1, 1) := by decide +kernel
theorem dX2_commonWithHours_11 : decode cX2_commonWithHours 11 = .ok (.irem, 1) := by decide +kernel
theorem dX2_commonWithHours_12 : decode cX2_commonWithHours 12 = .ok (.ifCond .ne 11, 3) := by decide +kernel
theorem dX2_commonWithHours_15 : decode cX2_commonWithHours 15 = .ok (.iload_n 0, 1) := by decide +kernel
theorem dX2_commonWithHours_16 : decode cX2_commonWithHours 16 = .ok (.iload_n 1, 1) := by decide +kernel
theorem dX2_commonWithHours_17 : decode cX2_commonWithHours 17 = .ok (.irem, 1) := by decide +kernel
theorem dX2_commonWithHours_18 : decode cX2_commonWithHours 18 = .ok (.ifCond .ne 5, 3) := by decide +kernel
theorem dX2_commonWithHours_21 : decode cX2_commonWithHours 21 = .ok (.iload_n 1, 1) := by decide +kernel
theorem dX2_commonWithHours_22 : decode cX2_commonWithHours 22 = .ok (.ireturn, 1) := by decide +kernel
theorem dX2_commonWithHours_23 : decode cX2_commonWithHours 23 = .ok (.iinc 1 (-1), 3) := by decide +kernel
theorem dX2_commonWithHours_26 : decode cX2_commonWithHours 26 = .ok (.goto (-23), 3) := by decide +kernel
theorem dX2_commonWithHours_29 : decode cX2_commonWithHours 29 = .ok (.iconst 1, 1) := by decide +kernel
theorem dX2_commonWithHours_30 : decode cX2_commonWithHours 30 = .ok (.ireturn, 1) := by decide +kernel
theorem dX2_cutToLane_0 : decode cX2_cutToLane 0 = .ok (.iload_n 1, 1) := by decide +kernel
theorem dX2_cutToLane_1 : decode cX2_cutToLane 1 = .ok (.ifCond .ne 6, 3) := by decide +kernel
theorem dX2_cutToLane_4 : decode cX2_cutToLane 4 = .ok (.iload_n 0, 1) := by decide +kernel
theorem dX2_cutToLane_5 : decode cX2_cutToLane 5 = .ok (.i2b, 1) := by decide +kernel
theorem dX2_cutToLane_6 : decode cX2_cutToLane 6 = .ok (.ireturn, 1) := by decide +kernel
theorem dX2_cutToLane_7 : decode cX2_cutToLane 7 = .ok (.iload_n 1, 1) := by decide +kernel
theorem dX2_cutToLane_8 : decode cX2_cutToLane 8 = .ok (.iconst 1, 1) := by decide +kernel
theorem dX2_cutToLane_9 : decode cX2_cutToLane 9 = .ok (.if_icmp .ne 8, 3) := by decide +kernel
theorem dX2_cutToLane_12 : decode cX2_cutToLane 12 = .ok (.iload_n 0, 1) := by decide +kernel
theorem dX2_cutToLane_13 : decode cX2_cutToLane 13 = .ok (.i2s, 1) := by decide +kernel
theorem dX2_cutToLane_14 : decode cX2_cutToLane 14 = .ok (.goto 4, 3) := by decide +kernel
theorem dX2_cutToLane_17 : decode cX2_cutToLane 17 = .ok (.iload_n 0, 1) := by decide +kernel
theorem dX2_cutToLane_18 : decode cX2_cutToLane 18 = .ok (.ireturn, 1) := by decide +kernel
theorem dX2_leaveNumber_0 : decode cX2_leaveNumber 0 = .ok (.aload_n 0, 1) := by decide +kernel
theorem dX2_leaveNumber_1 : decode cX2_leaveNumber 1 = .ok (.bipush 31, 2) := by decide +kernel
theorem dX2_leaveNumber_3 : decode cX2_leaveNumber 3 = .ok (.aload_n 0, 1) := by decide +kernel
theorem dX2_leaveNumber_4 : decode cX2_leaveNumber 4 = .ok (.getfield 195, 3) := by decide +kernel
theorem dX2_leaveNumber_7 : decode cX2_leaveNumber 7 = .ok (.imul, 1) := by decide +kernel
theorem dX2_leaveNumber_8 : decode cX2_leaveNumber 8 = .ok (.iload_n 1, 1) := by decide +kernel
theorem dX2_leaveNumber_9 : decode cX2_leaveNumber 9 = .ok (.iadd, 1) := by decide +kernel
theorem dX2_leaveNumber_10 : decode cX2_leaveNumber 10 = .ok (.putfield 195, 3) := by decide +kernel
theorem dX2_leaveNumber_13 : decode cX2_leaveNumber 13 = .ok (.return_, 1) := by decide +kernel
theorem dX2_plainTelling_0 : decode cX2_plainTelling 0 = .ok (.aload_n 0, 1) := by decide +kernel
theorem dX2_plainTelling_1 : decode cX2_plainTelling 1 = .ok (.iconst 1, 1) := by decide +kernel
theorem dX2_plainTelling_2 : decode cX2_plainTelling 2 = .ok (.invokevirtual 191, 3) := by decide +kernel
theorem dX2_plainTelling_5 : decode cX2_plainTelling 5 = .ok (.aload_n 1, 1) := by decide +kernel
theorem dX2_plainTelling_6 : decode cX2_plainTelling 6 = .ok (.getfield 91, 3) := by decide +kernel
theorem dX2_plainTelling_9 : decode cX2_plainTelling 9 = .ok (.ireturn, 1) := by decide +kernel
theorem dX2_lateTelling_0 : decode cX2_lateTelling 0 = .ok (.aload_n 0, 1) := by decide +kernel
theorem dX2_lateTelling_1 : decode cX2_lateTelling 1 = .ok (.iconst 2, 1) := by decide +kernel
theorem dX2_lateTelling_2 : decode cX2_lateTelling 2 = .ok (.invokevirtual 191, 3) := by decide +kernel
theorem dX2_lateTelling_5 : decode cX2_lateTelling 5 = .ok (.aload_n 0, 1) := by decide +kernel
theorem dX2_lateTelling_6 : decode cX2_lateTelling 6 = .ok (.aload_n 1, 1) := by decide +kernel
theorem dX2_lateTelling_7 : decode cX2_lateTelling 7 = .ok (.invokevirtual 188, 3) := by decide +kernel
theorem dX2_lateTelling_10 : decode cX2_lateTelling 10 = .ok (.bipush 100, 2) := by decide +kernel
theorem dX2_lateTelling_12 : decode cX2_lateTelling 12 = .ok (.iadd, 1) := by decide +kernel
theorem dX2_lateTelling_13 : decode cX2_lateTelling 13 = .ok (.ireturn, 1) := by decide +kernel
theorem dX2_cupboardTelling_0 : decode cX2_cupboardTelling 0 = .ok (.aload_n 0, 1) := by decide +kernel
theorem dX2_cupboardTelling_1 : decode cX2_cupboardTelling 1 = .ok (.iconst 3, 1) := by decide +kernel
theorem dX2_cupboardTelling_2 : decode cX2_cupboardTelling 2 = .ok (.invokevirtual 191, 3) := by decide +kernel
theorem dX2_cupboardTelling_5 : decode cX2_cupboardTelling 5 = .ok (.aload_n 0, 1) := by decide +kernel
theorem dX2_cupboardTelling_6 : decode cX2_cupboardTelling 6 = .ok (.aload_n 1, 1) := by decide +kernel
theorem dX2_cupboardTelling_7 : decode cX2_cupboardTelling 7 = .ok (.invokevirtual 181, 3) := by decide +kernel
theorem dX2_cupboardTelling_10 : decode cX2_cupboardTelling 10 = .ok (.istore_n 2, 1) := by decide +kernel
theorem dX2_cupboardTelling_11 : decode cX2_cupboardTelling 11 = .ok (.iload_n 2, 1) := by decide +kernel
theorem dX2_cupboardTelling_12 : decode cX2_cupboardTelling 12 = .ok (.aload_n 0, 1) := by decide +kernel
theorem dX2_cupboardTelling_13 : decode cX2_cupboardTelling 13 = .ok (.aload_n 1, 1) := by decide +kernel
theorem dX2_cupboardTelling_14 : decode cX2_cupboardTelling 14 = .ok (.invokevirtual 188, 3) := by decide +kernel
theorem dX2_cupboardTelling_17 : decode cX2_cupboardTelling 17 = .ok (.iadd, 1) := by decide +kernel
theorem dX2_cupboardTelling_18 : decode cX2_cupboardTelling 18 = .ok (.ireturn, 1) := by decide +kernel
theorem dJ7_fill_d0a16_0 : decode cJ7_fill_d0a16 0 = .ok (.iconst 0, 1) := by decide +kernel
theorem dJ7_fill_d0a16_1 : decode cJ7_fill_d0a16 1 = .ok (.istore_n 3, 1) := by decide +kernel
theorem dJ7_fill_d0a16_2 : decode cJ7_fill_d0a16 2 = .ok (.aload_n 0, 1) := by decide +kernel
theorem dJ7_fill_d0a16_3 : decode cJ7_fill_d0a16 3 = .ok (.arraylength, 1) := by decide +kernel
theorem dJ7_fill_d0a16_4 : decode cJ7_fill_d0a16 4 = .ok (.istore 4, 2) := by decide +kernel
theorem dJ7_fill_d0a16_6 : decode cJ7_fill_d0a16 6 = .ok (.iload_n 3, 1) := by decide +kernel
theorem dJ7_fill_d0a16_7 : decode cJ7_fill_d0a16 7 = .ok (.iload 4, 2) := by decide +kernel
theorem dJ7_fill_d0a16_9 : decode cJ7_fill_d0a16 9 = .ok (.if_icmp .ge 13, 3) := by decide +kernel
theorem dJ7_fill_d0a16_12 : decode cJ7_fill_d0a16 12 = .ok (.aload_n 0, 1) := by decide +kernel
theorem dJ7_fill_d0a16_13 : decode cJ7_fill_d0a16 13 = .ok (.iload_n 3, 1) := by decide +kernel
theorem dJ7_fill_d0a16_14 : decode cJ7_fill_d0a16 14 = .ok (.lload_n 1, 1) := by decide +kernel
theorem dJ7_fill_d0a16_15 : decode cJ7_fill_d0a16 15 = .ok (.lastore, 1) := by decide +kernel
theorem dJ7_fill_d0a16_16 : decode cJ7_fill_d0a16 16 = .ok (.iinc 3 1, 3) := by decide +kernel
theorem dJ7_fill_d0a16_19 : decode cJ7_fill_d0a16 19 = .ok (.goto (-13), 3) := by decide +kernel
theorem dJ7_fill_d0a16_22 : decode cJ7_fill_d0a16 22 = .ok (.return_, 1) := by decide +kernel
theorem dJ7_fill_53178_0 : decode cJ7_fill_53178 0 = .ok (.iconst 0, 1) := by decide +kernel
theorem dJ7_fill_53178_1 : decode cJ7_fill_53178 1 = .ok (.istore_n 2, 1) := by decide +kernel
theorem dJ7_fill_53178_2 : decode cJ7_fill_53178 2 = .ok (.aload_n 0, 1) := by decide +kernel
theorem dJ7_fill_53178_3 : decode cJ7_fill_53178 3 = .ok (.arraylength, 1) := by decide +kernel
theorem dJ7_fill_53178_4 : decode cJ7_fill_53178 4 = .ok (.istore_n 3, 1) := by decide +kernel
theorem dJ7_fill_53178_5 : decode cJ7_fill_53178 5 = .ok (.iload_n 2, 1) := by decide +kernel
theorem dJ7_fill_53178_6 : decode cJ7_fill_53178 6 = .ok (.iload_n 3, 1) := by decide +kernel
theorem dJ7_fill_53178_7 : decode cJ7_fill_53178 7 = .ok (.if_icmp .ge 13, 3) := by decide +kernel
theorem dJ7_fill_53178_10 : decode cJ7_fill_53178 10 = .ok (.aload_n 0, 1) := by decide +kernel
theorem dJ7_fill_53178_11 : decode cJ7_fill_53178 11 = .ok (.iload_n 2, 1) := by decide +kernel
theorem dJ7_fill_53178_12 : decode cJ7_fill_53178 12 = .ok (.iload_n 1, 1) := by decide +kernel
theorem dJ7_fill_53178_13 : decode cJ7_fill_53178 13 = .ok (.iastore, 1) := by decide +kernel
theorem dJ7_fill_53178_14 : decode cJ7_fill_53178 14 = .ok (.iinc 2 1, 3) := by decide +kernel
theorem dJ7_fill_53178_17 : decode cJ7_fill_53178 17 = .ok (.goto (-12), 3) := by decide +kernel
theorem dJ7_fill_53178_20 : decode cJ7_fill_53178 20 = .ok (.return_, 1) := by decide +kernel
