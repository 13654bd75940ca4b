/-! What each instruction decodes to (wip/tools/names.py). -/
theorem d_Mo_init_0 : decode b_Mo_init 0 = .ok (.aload_n 0, 1) := by decide +kernel
theorem d_Mo_init_1 : decode b_Mo_init 1 = .ok (.invokespecial 1, 3) := by decide +kernel
theorem d_Mo_init_4 : decode b_Mo_init 4 = .ok (.aload_n 0, 1) := by decide +kernel
theorem d_Mo_init_5 : decode b_Mo_init 5 = .ok (.bipush 32, 2) := by decide +kernel
theorem d_Mo_init_7 : decode b_Mo_init 7 = .ok (.newarray .int, 2) := by decide +kernel
theorem d_Mo_init_9 : decode b_Mo_init 9 = .ok (.putfield 7, 3) := by decide +kernel
theorem d_Mo_init_12 : decode b_Mo_init 12 = .ok (.aload_n 0, 1) := by decide +kernel
theorem d_Mo_init_13 : decode b_Mo_init 13 = .ok (.bipush 32, 2) := by decide +kernel
theorem d_Mo_init_15 : decode b_Mo_init 15 = .ok (.newarray .int, 2) := by decide +kernel
theorem d_Mo_init_17 : decode b_Mo_init 17 = .ok (.putfield 13, 3) := by decide +kernel
theorem d_Mo_init_20 : decode b_Mo_init 20 = .ok (.aload_n 0, 1) := by decide +kernel
theorem d_Mo_init_21 : decode b_Mo_init 21 = .ok (.bipush 32, 2) := by decide +kernel
theorem d_Mo_init_23 : decode b_Mo_init 23 = .ok (.newarray .int, 2) := by decide +kernel
theorem d_Mo_init_25 : decode b_Mo_init 25 = .ok (.putfield 16, 3) := by decide +kernel
theorem d_Mo_init_28 : decode b_Mo_init 28 = .ok (.aload_n 0, 1) := by decide +kernel
theorem d_Mo_init_29 : decode b_Mo_init 29 = .ok (.bipush 32, 2) := by decide +kernel
theorem d_Mo_init_31 : decode b_Mo_init 31 = .ok (.newarray .boolean, 2) := by decide +kernel
theorem d_Mo_init_33 : decode b_Mo_init 33 = .ok (.putfield 19, 3) := by decide +kernel
theorem d_Mo_init_36 : decode b_Mo_init 36 = .ok (.aload_n 0, 1) := by decide +kernel
theorem d_Mo_init_37 : decode b_Mo_init 37 = .ok (.bipush 32, 2) := by decide +kernel
theorem d_Mo_init_39 : decode b_Mo_init 39 = .ok (.newarray .boolean, 2) := by decide +kernel
theorem d_Mo_init_41 : decode b_Mo_init 41 = .ok (.putfield 23, 3) := by decide +kernel
theorem d_Mo_init_44 : decode b_Mo_init 44 = .ok (.aload_n 0, 1) := by decide +kernel
theorem d_Mo_init_45 : decode b_Mo_init 45 = .ok (.bipush 32, 2) := by decide +kernel
theorem d_Mo_init_47 : decode b_Mo_init 47 = .ok (.newarray .boolean, 2) := by decide +kernel
theorem d_Mo_init_49 : decode b_Mo_init 49 = .ok (.putfield 26, 3) := by decide +kernel
theorem d_Mo_init_52 : decode b_Mo_init 52 = .ok (.aload_n 0, 1) := by decide +kernel
theorem d_Mo_init_53 : decode b_Mo_init 53 = .ok (.sipush 160, 3) := by decide +kernel
theorem d_Mo_init_56 : decode b_Mo_init 56 = .ok (.newarray .int, 2) := by decide +kernel
theorem d_Mo_init_58 : decode b_Mo_init 58 = .ok (.putfield 29, 3) := by decide +kernel
theorem d_Mo_init_61 : decode b_Mo_init 61 = .ok (.aload_n 0, 1) := by decide +kernel
theorem d_Mo_init_62 : decode b_Mo_init 62 = .ok (.sipush 160, 3) := by decide +kernel
theorem d_Mo_init_65 : decode b_Mo_init 65 = .ok (.newarray .int, 2) := by decide +kernel
theorem d_Mo_init_67 : decode b_Mo_init 67 = .ok (.putfield 32, 3) := by decide +kernel
theorem d_Mo_init_70 : decode b_Mo_init 70 = .ok (.aload_n 0, 1) := by decide +kernel
theorem d_Mo_init_71 : decode b_Mo_init 71 = .ok (.sipush 160, 3) := by decide +kernel
theorem d_Mo_init_74 : decode b_Mo_init 74 = .ok (.newarray .int, 2) := by decide +kernel
theorem d_Mo_init_76 : decode b_Mo_init 76 = .ok (.putfield 35, 3) := by decide +kernel
theorem d_Mo_init_79 : decode b_Mo_init 79 = .ok (.aload_n 0, 1) := by decide +kernel
theorem d_Mo_init_80 : decode b_Mo_init 80 = .ok (.iconst 5, 1) := by decide +kernel
theorem d_Mo_init_81 : decode b_Mo_init 81 = .ok (.newarray .int, 2) := by decide +kernel
theorem d_Mo_init_83 : decode b_Mo_init 83 = .ok (.putfield 38, 3) := by decide +kernel
theorem d_Mo_init_86 : decode b_Mo_init 86 = .ok (.aload_n 0, 1) := by decide +kernel
theorem d_Mo_init_87 : decode b_Mo_init 87 = .ok (.iconst 4, 1) := by decide +kernel
theorem d_Mo_init_88 : decode b_Mo_init 88 = .ok (.putfield 41, 3) := by decide +kernel
theorem d_Mo_init_91 : decode b_Mo_init 91 = .ok (.aload_n 0, 1) := by decide +kernel
theorem d_Mo_init_92 : decode b_Mo_init 92 = .ok (.bipush 64, 2) := by decide +kernel
theorem d_Mo_init_94 : decode b_Mo_init 94 = .ok (.newarray .int, 2) := by decide +kernel
theorem d_Mo_init_96 : decode b_Mo_init 96 = .ok (.putfield 45, 3) := by decide +kernel
theorem d_Mo_init_99 : decode b_Mo_init 99 = .ok (.aload_n 0, 1) := by decide +kernel
theorem d_Mo_init_100 : decode b_Mo_init 100 = .ok (.iconst 5, 1) := by decide +kernel
theorem d_Mo_init_101 : decode b_Mo_init 101 = .ok (.newarray .boolean, 2) := by decide +kernel
theorem d_Mo_init_103 : decode b_Mo_init 103 = .ok (.putfield 48, 3) := by decide +kernel
theorem d_Mo_init_106 : decode b_Mo_init 106 = .ok (.aload_n 0, 1) := by decide +kernel
theorem d_Mo_init_107 : decode b_Mo_init 107 = .ok (.iconst 5, 1) := by decide +kernel
theorem d_Mo_init_108 : decode b_Mo_init 108 = .ok (.newarray .boolean, 2) := by decide +kernel
theorem d_Mo_init_110 : decode b_Mo_init 110 = .ok (.putfield 51, 3) := by decide +kernel
theorem d_Mo_init_113 : decode b_Mo_init 113 = .ok (.aload_n 0, 1) := by decide +kernel
theorem d_Mo_init_114 : decode b_Mo_init 114 = .ok (.iconst 5, 1) := by decide +kernel
theorem d_Mo_init_115 : decode b_Mo_init 115 = .ok (.newarray .int, 2) := by decide +kernel
theorem d_Mo_init_117 : decode b_Mo_init 117 = .ok (.putfield 54, 3) := by decide +kernel
theorem d_Mo_init_120 : decode b_Mo_init 120 = .ok (.iconst 0, 1) := by decide +kernel
theorem d_Mo_init_121 : decode b_Mo_init 121 = .ok (.istore_n 1, 1) := by decide +kernel
theorem d_Mo_init_122 : decode b_Mo_init 122 = .ok (.iload_n 1, 1) := by decide +kernel
theorem d_Mo_init_123 : decode b_Mo_init 123 = .ok (.sipush 160, 3) := by decide +kernel
theorem d_Mo_init_126 : decode b_Mo_init 126 = .ok (.if_icmp .ge 16, 3) := by decide +kernel
theorem d_Mo_init_129 : decode b_Mo_init 129 = .ok (.aload_n 0, 1) := by decide +kernel
theorem d_Mo_init_130 : decode b_Mo_init 130 = .ok (.getfield 29, 3) := by decide +kernel
theorem d_Mo_init_133 : decode b_Mo_init 133 = .ok (.iload_n 1, 1) := by decide +kernel
theorem d_Mo_init_134 : decode b_Mo_init 134 = .ok (.iconst (-1), 1) := by decide +kernel
theorem d_Mo_init_135 : decode b_Mo_init 135 = .ok (.iastore, 1) := by decide +kernel
theorem d_Mo_init_136 : decode b_Mo_init 136 = .ok (.iinc 1 1, 3) := by decide +kernel
theorem d_Mo_init_139 : decode b_Mo_init 139 = .ok (.goto (-17), 3) := by decide +kernel
theorem d_Mo_init_142 : decode b_Mo_init 142 = .ok (.return_, 1) := by decide +kernel
theorem d_Mo_thrown_0 : decode b_Mo_thrown 0 = .ok (.aload_n 0, 1) := by decide +kernel
theorem d_Mo_thrown_1 : decode b_Mo_thrown 1 = .ok (.getfield 57, 3) := by decide +kernel
theorem d_Mo_thrown_4 : decode b_Mo_thrown 4 = .ok (.ireturn, 1) := by decide +kernel
theorem d_Mo_make_0 : decode b_Mo_make 0 = .ok (.aload_n 0, 1) := by decide +kernel
theorem d_Mo_make_1 : decode b_Mo_make 1 = .ok (.iconst 0, 1) := by decide +kernel
theorem d_Mo_make_2 : decode b_Mo_make 2 = .ok (.putfield 57, 3) := by decide +kernel
theorem d_Mo_make_5 : decode b_Mo_make 5 = .ok (.iload_n 1, 1) := by decide +kernel
theorem d_Mo_make_6 : decode b_Mo_make 6 = .ok (.ifCond .lt 9, 3) := by decide +kernel
theorem d_Mo_make_9 : decode b_Mo_make 9 = .ok (.iload_n 1, 1) := by decide +kernel
theorem d_Mo_make_10 : decode b_Mo_make 10 = .ok (.bipush 99, 2) := by decide +kernel
theorem d_Mo_make_12 : decode b_Mo_make 12 = .ok (.if_icmp .le 9, 3) := by decide +kernel
theorem d_Mo_make_15 : decode b_Mo_make 15 = .ok (.aload_n 0, 1) := by decide +kernel
theorem d_Mo_make_16 : decode b_Mo_make 16 = .ok (.iconst 1, 1) := by decide +kernel
theorem d_Mo_make_17 : decode b_Mo_make 17 = .ok (.invokevirtual 60, 3) := by decide +kernel
theorem d_Mo_make_20 : decode b_Mo_make 20 = .ok (.ireturn, 1) := by decide +kernel
theorem d_Mo_make_21 : decode b_Mo_make 21 = .ok (.iconst 0, 1) := by decide +kernel
theorem d_Mo_make_22 : decode b_Mo_make 22 = .ok (.istore_n 2, 1) := by decide +kernel
theorem d_Mo_make_23 : decode b_Mo_make 23 = .ok (.iload_n 2, 1) := by decide +kernel
theorem d_Mo_make_24 : decode b_Mo_make 24 = .ok (.bipush 32, 2) := by decide +kernel
theorem d_Mo_make_26 : decode b_Mo_make 26 = .ok (.if_icmp .ge 18, 3) := by decide +kernel
theorem d_Mo_make_29 : decode b_Mo_make 29 = .ok (.aload_n 0, 1) := by decide +kernel
theorem d_Mo_make_30 : decode b_Mo_make 30 = .ok (.getfield 19, 3) := by decide +kernel
theorem d_Mo_make_33 : decode b_Mo_make 33 = .ok (.iload_n 2, 1) := by decide +kernel
theorem d_Mo_make_34 : decode b_Mo_make 34 = .ok (.baload, 1) := by decide +kernel
theorem d_Mo_make_35 : decode b_Mo_make 35 = .ok (.ifCond .eq 9, 3) := by decide +kernel
theorem d_Mo_make_38 : decode b_Mo_make 38 = .ok (.iinc 2 1, 3) := by decide +kernel
theorem d_Mo_make_41 : decode b_Mo_make 41 = .ok (.goto (-18), 3) := by decide +kernel
theorem d_Mo_make_44 : decode b_Mo_make 44 = .ok (.iload_n 2, 1) := by decide +kernel
theorem d_Mo_make_45 : decode b_Mo_make 45 = .ok (.bipush 32, 2) := by decide +kernel
theorem d_Mo_make_47 : decode b_Mo_make 47 = .ok (.if_icmp .ne 9, 3) := by decide +kernel
theorem d_Mo_make_50 : decode b_Mo_make 50 = .ok (.aload_n 0, 1) := by decide +kernel
theorem d_Mo_make_51 : decode b_Mo_make 51 = .ok (.iconst 2, 1) := by decide +kernel
theorem d_Mo_make_52 : decode b_Mo_make 52 = .ok (.invokevirtual 60, 3) := by decide +kernel
theorem d_Mo_make_55 : decode b_Mo_make 55 = .ok (.ireturn, 1) := by decide +kernel
theorem d_Mo_make_56 : decode b_Mo_make 56 = .ok (.aload_n 0, 1) := by decide +kernel
theorem d_Mo_make_57 : decode b_Mo_make 57 = .ok (.getfield 19, 3) := by decide +kernel
theorem d_Mo_make_60 : decode b_Mo_make 60 = .ok (.iload_n 2, 1) := by decide +kernel
theorem d_Mo_make_61 : decode b_Mo_make 61 = .ok (.iconst 1, 1) := by decide +kernel
theorem d_Mo_make_62 : decode b_Mo_make 62 = .ok (.bastore, 1) := by decide +kernel
theorem d_Mo_make_63 : decode b_Mo_make 63 = .ok (.aload_n 0, 1) := by decide +kernel
theorem d_Mo_make_64 : decode b_Mo_make 64 = .ok (.getfield 23, 3) := by decide +kernel
theorem d_Mo_make_67 : decode b_Mo_make 67 = .ok (.iload_n 2, 1) := by decide +kernel
theorem d_Mo_make_68 : decode b_Mo_make 68 = .ok (.iconst 0, 1) := by decide +kernel
theorem d_Mo_make_69 : decode b_Mo_make 69 = .ok (.bastore, 1) := by decide +kernel
theorem d_Mo_make_70 : decode b_Mo_make 70 = .ok (.aload_n 0, 1) := by decide +kernel
theorem d_Mo_make_71 : decode b_Mo_make 71 = .ok (.getfield 7, 3) := by decide +kernel
theorem d_Mo_make_74 : decode b_Mo_make 74 = .ok (.iload_n 2, 1) := by decide +kernel
theorem d_Mo_make_75 : decode b_Mo_make 75 = .ok (.iload_n 1, 1) := by decide +kernel
theorem d_Mo_make_76 : decode b_Mo_make 76 = .ok (.iastore, 1) := by decide +kernel
theorem d_Mo_make_77 : decode b_Mo_make 77 = .ok (.aload_n 0, 1) := by decide +kernel
theorem d_Mo_make_78 : decode b_Mo_make 78 = .ok (.getfield 13, 3) := by decide +kernel
theorem d_Mo_make_81 : decode b_Mo_make 81 = .ok (.iload_n 2, 1) := by decide +kernel
theorem d_Mo_make_82 : decode b_Mo_make 82 = .ok (.iconst (-1), 1) := by decide +kernel
theorem d_Mo_make_83 : decode b_Mo_make 83 = .ok (.iastore, 1) := by decide +kernel
theorem d_Mo_make_84 : decode b_Mo_make 84 = .ok (.aload_n 0, 1) := by decide +kernel
theorem d_Mo_make_85 : decode b_Mo_make 85 = .ok (.getfield 16, 3) := by decide +kernel
theorem d_Mo_make_88 : decode b_Mo_make 88 = .ok (.iload_n 2, 1) := by decide +kernel
theorem d_Mo_make_89 : decode b_Mo_make 89 = .ok (.iconst (-1), 1) := by decide +kernel
theorem d_Mo_make_90 : decode b_Mo_make 90 = .ok (.iastore, 1) := by decide +kernel
theorem d_Mo_make_91 : decode b_Mo_make 91 = .ok (.iload_n 2, 1) := by decide +kernel
theorem d_Mo_make_92 : decode b_Mo_make 92 = .ok (.ireturn, 1) := by decide +kernel
theorem d_Mo_refuse_0 : decode b_Mo_refuse 0 = .ok (.aload_n 0, 1) := by decide +kernel
theorem d_Mo_refuse_1 : decode b_Mo_refuse 1 = .ok (.iload_n 1, 1) := by decide +kernel
theorem d_Mo_refuse_2 : decode b_Mo_refuse 2 = .ok (.putfield 57, 3) := by decide +kernel
theorem d_Mo_refuse_5 : decode b_Mo_refuse 5 = .ok (.iconst 0, 1) := by decide +kernel
theorem d_Mo_refuse_6 : decode b_Mo_refuse 6 = .ok (.ireturn, 1) := by decide +kernel
theorem d_Mo_refer_0 : decode b_Mo_refer 0 = .ok (.aload_n 0, 1) := by decide +kernel
theorem d_Mo_refer_1 : decode b_Mo_refer 1 = .ok (.iconst 0, 1) := by decide +kernel
theorem d_Mo_refer_2 : decode b_Mo_refer 2 = .ok (.putfield 57, 3) := by decide +kernel
theorem d_Mo_refer_5 : decode b_Mo_refer 5 = .ok (.aload_n 0, 1) := by decide +kernel
theorem d_Mo_refer_6 : decode b_Mo_refer 6 = .ok (.iload_n 1, 1) := by decide +kernel
theorem d_Mo_refer_7 : decode b_Mo_refer 7 = .ok (.invokevirtual 64, 3) := by decide +kernel
theorem d_Mo_refer_10 : decode b_Mo_refer 10 = .ok (.ifCond .eq 25, 3) := by decide +kernel
theorem d_Mo_refer_13 : decode b_Mo_refer 13 = .ok (.iload_n 2, 1) := by decide +kernel
theorem d_Mo_refer_14 : decode b_Mo_refer 14 = .ok (.ifCond .lt 21, 3) := by decide +kernel
theorem d_Mo_refer_17 : decode b_Mo_refer 17 = .ok (.iload_n 2, 1) := by decide +kernel
theorem d_Mo_refer_18 : decode b_Mo_refer 18 = .ok (.iconst 1, 1) := by decide +kernel
theorem d_Mo_refer_19 : decode b_Mo_refer 19 = .ok (.if_icmp .gt 16, 3) := by decide +kernel
theorem d_Mo_refer_22 : decode b_Mo_refer 22 = .ok (.iload_n 3, 1) := by decide +kernel
theorem d_Mo_refer_23 : decode b_Mo_refer 23 = .ok (.iconst (-1), 1) := by decide +kernel
theorem d_Mo_refer_24 : decode b_Mo_refer 24 = .ok (.if_icmp .eq 17, 3) := by decide +kernel
theorem d_Mo_refer_27 : decode b_Mo_refer 27 = .ok (.aload_n 0, 1) := by decide +kernel
theorem d_Mo_refer_28 : decode b_Mo_refer 28 = .ok (.iload_n 3, 1) := by decide +kernel
theorem d_Mo_refer_29 : decode b_Mo_refer 29 = .ok (.invokevirtual 64, 3) := by decide +kernel
theorem d_Mo_refer_32 : decode b_Mo_refer 32 = .ok (.ifCond .ne 9, 3) := by decide +kernel
theorem d_Mo_refer_35 : decode b_Mo_refer 35 = .ok (.aload_n 0, 1) := by decide +kernel
theorem d_Mo_refer_36 : decode b_Mo_refer 36 = .ok (.iconst 1, 1) := by decide +kernel
theorem d_Mo_refer_37 : decode b_Mo_refer 37 = .ok (.invokevirtual 60, 3) := by decide +kernel
theorem d_Mo_refer_40 : decode b_Mo_refer 40 = .ok (.ireturn, 1) := by decide +kernel
theorem d_Mo_refer_41 : decode b_Mo_refer 41 = .ok (.iload_n 2, 1) := by decide +kernel
theorem d_Mo_refer_42 : decode b_Mo_refer 42 = .ok (.ifCond .ne 12, 3) := by decide +kernel
theorem d_Mo_refer_45 : decode b_Mo_refer 45 = .ok (.aload_n 0, 1) := by decide +kernel
theorem d_Mo_refer_46 : decode b_Mo_refer 46 = .ok (.getfield 13, 3) := by decide +kernel
theorem d_Mo_refer_49 : decode b_Mo_refer 49 = .ok (.iload_n 1, 1) := by decide +kernel
theorem d_Mo_refer_50 : decode b_Mo_refer 50 = .ok (.iaload, 1) := by decide +kernel
theorem d_Mo_refer_51 : decode b_Mo_refer 51 = .ok (.goto 9, 3) := by decide +kernel
theorem d_Mo_refer_54 : decode b_Mo_refer 54 = .ok (.aload_n 0, 1) := by decide +kernel
theorem d_Mo_refer_55 : decode b_Mo_refer 55 = .ok (.getfield 16, 3) := by decide +kernel
theorem d_Mo_refer_58 : decode b_Mo_refer 58 = .ok (.iload_n 1, 1) := by decide +kernel
theorem d_Mo_refer_59 : decode b_Mo_refer 59 = .ok (.iaload, 1) := by decide +kernel
theorem d_Mo_refer_60 : decode b_Mo_refer 60 = .ok (.istore 4, 2) := by decide +kernel
theorem d_Mo_refer_62 : decode b_Mo_refer 62 = .ok (.iload_n 2, 1) := by decide +kernel
theorem d_Mo_refer_63 : decode b_Mo_refer 63 = .ok (.ifCond .ne 13, 3) := by decide +kernel
theorem d_Mo_refer_66 : decode b_Mo_refer 66 = .ok (.aload_n 0, 1) := by decide +kernel
theorem d_Mo_refer_67 : decode b_Mo_refer 67 = .ok (.getfield 13, 3) := by decide +kernel
theorem d_Mo_refer_70 : decode b_Mo_refer 70 = .ok (.iload_n 1, 1) := by decide +kernel
theorem d_Mo_refer_71 : decode b_Mo_refer 71 = .ok (.iload_n 3, 1) := by decide +kernel
theorem d_Mo_refer_72 : decode b_Mo_refer 72 = .ok (.iastore, 1) := by decide +kernel
theorem d_Mo_refer_73 : decode b_Mo_refer 73 = .ok (.goto 10, 3) := by decide +kernel
theorem d_Mo_refer_76 : decode b_Mo_refer 76 = .ok (.aload_n 0, 1) := by decide +kernel
theorem d_Mo_refer_77 : decode b_Mo_refer 77 = .ok (.getfield 16, 3) := by decide +kernel
theorem d_Mo_refer_80 : decode b_Mo_refer 80 = .ok (.iload_n 1, 1) := by decide +kernel
theorem d_Mo_refer_81 : decode b_Mo_refer 81 = .ok (.iload_n 3, 1) := by decide +kernel
theorem d_Mo_refer_82 : decode b_Mo_refer 82 = .ok (.iastore, 1) := by decide +kernel
theorem d_Mo_refer_83 : decode b_Mo_refer 83 = .ok (.iload 4, 2) := by decide +kernel
theorem d_Mo_refer_85 : decode b_Mo_refer 85 = .ok (.ireturn, 1) := by decide +kernel
theorem d_Mo_isObject_0 : decode b_Mo_isObject 0 = .ok (.iload_n 1, 1) := by decide +kernel
theorem d_Mo_isObject_1 : decode b_Mo_isObject 1 = .ok (.ifCond .lt 22, 3) := by decide +kernel
theorem d_Mo_isObject_4 : decode b_Mo_isObject 4 = .ok (.iload_n 1, 1) := by decide +kernel
theorem d_Mo_isObject_5 : decode b_Mo_isObject 5 = .ok (.bipush 32, 2) := by decide +kernel
theorem d_Mo_isObject_7 : decode b_Mo_isObject 7 = .ok (.if_icmp .ge 16, 3) := by decide +kernel
theorem d_Mo_isObject_10 : decode b_Mo_isObject 10 = .ok (.aload_n 0, 1) := by decide +kernel
theorem d_Mo_isObject_11 : decode b_Mo_isObject 11 = .ok (.getfield 19, 3) := by decide +kernel
theorem d_Mo_isObject_14 : decode b_Mo_isObject 14 = .ok (.iload_n 1, 1) := by decide +kernel
theorem d_Mo_isObject_15 : decode b_Mo_isObject 15 = .ok (.baload, 1) := by decide +kernel
theorem d_Mo_isObject_16 : decode b_Mo_isObject 16 = .ok (.ifCond .eq 7, 3) := by decide +kernel
theorem d_Mo_isObject_19 : decode b_Mo_isObject 19 = .ok (.iconst 1, 1) := by decide +kernel
theorem d_Mo_isObject_20 : decode b_Mo_isObject 20 = .ok (.goto 4, 3) := by decide +kernel
theorem d_Mo_isObject_23 : decode b_Mo_isObject 23 = .ok (.iconst 0, 1) := by decide +kernel
theorem d_Mo_isObject_24 : decode b_Mo_isObject 24 = .ok (.ireturn, 1) := by decide +kernel
theorem d_Mo_root_0 : decode b_Mo_root 0 = .ok (.aload_n 0, 1) := by decide +kernel
theorem d_Mo_root_1 : decode b_Mo_root 1 = .ok (.iconst 0, 1) := by decide +kernel
theorem d_Mo_root_2 : decode b_Mo_root 2 = .ok (.putfield 57, 3) := by decide +kernel
theorem d_Mo_root_5 : decode b_Mo_root 5 = .ok (.aload_n 0, 1) := by decide +kernel
theorem d_Mo_root_6 : decode b_Mo_root 6 = .ok (.iload_n 1, 1) := by decide +kernel
theorem d_Mo_root_7 : decode b_Mo_root 7 = .ok (.invokevirtual 64, 3) := by decide +kernel
theorem d_Mo_root_10 : decode b_Mo_root 10 = .ok (.ifCond .ne 10, 3) := by decide +kernel
theorem d_Mo_root_13 : decode b_Mo_root 13 = .ok (.aload_n 0, 1) := by decide +kernel
theorem d_Mo_root_14 : decode b_Mo_root 14 = .ok (.iconst 1, 1) := by decide +kernel
theorem d_Mo_root_15 : decode b_Mo_root 15 = .ok (.putfield 57, 3) := by decide +kernel
theorem d_Mo_root_18 : decode b_Mo_root 18 = .ok (.iconst 0, 1) := by decide +kernel
theorem d_Mo_root_19 : decode b_Mo_root 19 = .ok (.ireturn, 1) := by decide +kernel
theorem d_Mo_root_20 : decode b_Mo_root 20 = .ok (.aload_n 0, 1) := by decide +kernel
theorem d_Mo_root_21 : decode b_Mo_root 21 = .ok (.getfield 23, 3) := by decide +kernel
theorem d_Mo_root_24 : decode b_Mo_root 24 = .ok (.iload_n 1, 1) := by decide +kernel
theorem d_Mo_root_25 : decode b_Mo_root 25 = .ok (.baload, 1) := by decide +kernel
theorem d_Mo_root_26 : decode b_Mo_root 26 = .ok (.istore_n 3, 1) := by decide +kernel
theorem d_Mo_root_27 : decode b_Mo_root 27 = .ok (.aload_n 0, 1) := by decide +kernel
theorem d_Mo_root_28 : decode b_Mo_root 28 = .ok (.getfield 23, 3) := by decide +kernel
theorem d_Mo_root_31 : decode b_Mo_root 31 = .ok (.iload_n 1, 1) := by decide +kernel
theorem d_Mo_root_32 : decode b_Mo_root 32 = .ok (.iload_n 2, 1) := by decide +kernel
theorem d_Mo_root_33 : decode b_Mo_root 33 = .ok (.bastore, 1) := by decide +kernel
theorem d_Mo_root_34 : decode b_Mo_root 34 = .ok (.iload_n 3, 1) := by decide +kernel
theorem d_Mo_root_35 : decode b_Mo_root 35 = .ok (.ireturn, 1) := by decide +kernel
theorem d_Mo_put_0 : decode b_Mo_put 0 = .ok (.aload_n 0, 1) := by decide +kernel
theorem d_Mo_put_1 : decode b_Mo_put 1 = .ok (.iconst 0, 1) := by decide +kernel
theorem d_Mo_put_2 : decode b_Mo_put 2 = .ok (.putfield 57, 3) := by decide +kernel
theorem d_Mo_put_5 : decode b_Mo_put 5 = .ok (.aload_n 0, 1) := by decide +kernel
theorem d_Mo_put_6 : decode b_Mo_put 6 = .ok (.iload_n 1, 1) := by decide +kernel
theorem d_Mo_put_7 : decode b_Mo_put 7 = .ok (.invokevirtual 112, 3) := by decide +kernel
theorem d_Mo_put_10 : decode b_Mo_put 10 = .ok (.ifCond .eq 20, 3) := by decide +kernel
theorem d_Mo_put_13 : decode b_Mo_put 13 = .ok (.aload_n 0, 1) := by decide +kernel
theorem d_Mo_put_14 : decode b_Mo_put 14 = .ok (.iload_n 1, 1) := by decide +kernel
theorem d_Mo_put_15 : decode b_Mo_put 15 = .ok (.iload_n 2, 1) := by decide +kernel
theorem d_Mo_put_16 : decode b_Mo_put 16 = .ok (.invokevirtual 115, 3) := by decide +kernel
theorem d_Mo_put_19 : decode b_Mo_put 19 = .ok (.ifCond .eq 11, 3) := by decide +kernel
theorem d_Mo_put_22 : decode b_Mo_put 22 = .ok (.aload_n 0, 1) := by decide +kernel
theorem d_Mo_put_23 : decode b_Mo_put 23 = .ok (.iload_n 3, 1) := by decide +kernel
theorem d_Mo_put_24 : decode b_Mo_put 24 = .ok (.invokevirtual 64, 3) := by decide +kernel
theorem d_Mo_put_27 : decode b_Mo_put 27 = .ok (.ifCond .ne 9, 3) := by decide +kernel
theorem d_Mo_put_30 : decode b_Mo_put 30 = .ok (.aload_n 0, 1) := by decide +kernel
theorem d_Mo_put_31 : decode b_Mo_put 31 = .ok (.iconst 1, 1) := by decide +kernel
theorem d_Mo_put_32 : decode b_Mo_put 32 = .ok (.invokevirtual 60, 3) := by decide +kernel
theorem d_Mo_put_35 : decode b_Mo_put 35 = .ok (.ireturn, 1) := by decide +kernel
theorem d_Mo_put_36 : decode b_Mo_put 36 = .ok (.aload_n 0, 1) := by decide +kernel
theorem d_Mo_put_37 : decode b_Mo_put 37 = .ok (.iload_n 1, 1) := by decide +kernel
theorem d_Mo_put_38 : decode b_Mo_put 38 = .ok (.iload_n 2, 1) := by decide +kernel
theorem d_Mo_put_39 : decode b_Mo_put 39 = .ok (.invokevirtual 119, 3) := by decide +kernel
theorem d_Mo_put_42 : decode b_Mo_put 42 = .ok (.istore 4, 2) := by decide +kernel
theorem d_Mo_put_44 : decode b_Mo_put 44 = .ok (.iload_n 1, 1) := by decide +kernel
theorem d_Mo_put_45 : decode b_Mo_put 45 = .ok (.iconst 2, 1) := by decide +kernel
theorem d_Mo_put_46 : decode b_Mo_put 46 = .ok (.if_icmp .ne 25, 3) := by decide +kernel
theorem d_Mo_put_49 : decode b_Mo_put 49 = .ok (.iload 4, 2) := by decide +kernel
theorem d_Mo_put_51 : decode b_Mo_put 51 = .ok (.ifCond .ge 20, 3) := by decide +kernel
theorem d_Mo_put_54 : decode b_Mo_put 54 = .ok (.aload_n 0, 1) := by decide +kernel
theorem d_Mo_put_55 : decode b_Mo_put 55 = .ok (.getfield 38, 3) := by decide +kernel
theorem d_Mo_put_58 : decode b_Mo_put 58 = .ok (.iconst 2, 1) := by decide +kernel
theorem d_Mo_put_59 : decode b_Mo_put 59 = .ok (.iaload, 1) := by decide +kernel
theorem d_Mo_put_60 : decode b_Mo_put 60 = .ok (.bipush 12, 2) := by decide +kernel
theorem d_Mo_put_62 : decode b_Mo_put 62 = .ok (.if_icmp .ne 9, 3) := by decide +kernel
theorem d_Mo_put_65 : decode b_Mo_put 65 = .ok (.aload_n 0, 1) := by decide +kernel
theorem d_Mo_put_66 : decode b_Mo_put 66 = .ok (.iconst 2, 1) := by decide +kernel
theorem d_Mo_put_67 : decode b_Mo_put 67 = .ok (.invokevirtual 60, 3) := by decide +kernel
theorem d_Mo_put_70 : decode b_Mo_put 70 = .ok (.ireturn, 1) := by decide +kernel
theorem d_Mo_put_71 : decode b_Mo_put 71 = .ok (.aload_n 0, 1) := by decide +kernel
theorem d_Mo_put_72 : decode b_Mo_put 72 = .ok (.dup, 1) := by decide +kernel
theorem d_Mo_put_73 : decode b_Mo_put 73 = .ok (.getfield 93, 3) := by decide +kernel
theorem d_Mo_put_76 : decode b_Mo_put 76 = .ok (.iload_n 1, 1) := by decide +kernel
theorem d_Mo_put_77 : decode b_Mo_put 77 = .ok (.iconst 1, 1) := by decide +kernel
theorem d_Mo_put_78 : decode b_Mo_put 78 = .ok (.if_icmp .ne 7, 3) := by decide +kernel
theorem d_Mo_put_81 : decode b_Mo_put 81 = .ok (.iconst 1, 1) := by decide +kernel
theorem d_Mo_put_82 : decode b_Mo_put 82 = .ok (.goto 4, 3) := by decide +kernel
theorem d_Mo_put_85 : decode b_Mo_put 85 = .ok (.iconst 0, 1) := by decide +kernel
theorem d_Mo_put_86 : decode b_Mo_put 86 = .ok (.iadd, 1) := by decide +kernel
theorem d_Mo_put_87 : decode b_Mo_put 87 = .ok (.putfield 93, 3) := by decide +kernel
theorem d_Mo_put_90 : decode b_Mo_put 90 = .ok (.iload 4, 2) := by decide +kernel
theorem d_Mo_put_92 : decode b_Mo_put 92 = .ok (.ifCond .ge 12, 3) := by decide +kernel
theorem d_Mo_put_95 : decode b_Mo_put 95 = .ok (.aload_n 0, 1) := by decide +kernel
theorem d_Mo_put_96 : decode b_Mo_put 96 = .ok (.iload_n 1, 1) := by decide +kernel
theorem d_Mo_put_97 : decode b_Mo_put 97 = .ok (.iload_n 2, 1) := by decide +kernel
theorem d_Mo_put_98 : decode b_Mo_put 98 = .ok (.iload_n 3, 1) := by decide +kernel
theorem d_Mo_put_99 : decode b_Mo_put 99 = .ok (.invokevirtual 123, 3) := by decide +kernel
theorem d_Mo_put_102 : decode b_Mo_put 102 = .ok (.iconst (-1), 1) := by decide +kernel
theorem d_Mo_put_103 : decode b_Mo_put 103 = .ok (.ireturn, 1) := by decide +kernel
theorem d_Mo_put_104 : decode b_Mo_put 104 = .ok (.aload_n 0, 1) := by decide +kernel
theorem d_Mo_put_105 : decode b_Mo_put 105 = .ok (.getfield 32, 3) := by decide +kernel
theorem d_Mo_put_108 : decode b_Mo_put 108 = .ok (.iload 4, 2) := by decide +kernel
theorem d_Mo_put_110 : decode b_Mo_put 110 = .ok (.iaload, 1) := by decide +kernel
theorem d_Mo_put_111 : decode b_Mo_put 111 = .ok (.istore 5, 2) := by decide +kernel
theorem d_Mo_put_113 : decode b_Mo_put 113 = .ok (.aload_n 0, 1) := by decide +kernel
theorem d_Mo_put_114 : decode b_Mo_put 114 = .ok (.getfield 32, 3) := by decide +kernel
theorem d_Mo_put_117 : decode b_Mo_put 117 = .ok (.iload 4, 2) := by decide +kernel
theorem d_Mo_put_119 : decode b_Mo_put 119 = .ok (.iload_n 3, 1) := by decide +kernel
theorem d_Mo_put_120 : decode b_Mo_put 120 = .ok (.iastore, 1) := by decide +kernel
theorem d_Mo_put_121 : decode b_Mo_put 121 = .ok (.aload_n 0, 1) := by decide +kernel
theorem d_Mo_put_122 : decode b_Mo_put 122 = .ok (.iload_n 1, 1) := by decide +kernel
theorem d_Mo_put_123 : decode b_Mo_put 123 = .ok (.iload 4, 2) := by decide +kernel
theorem d_Mo_put_125 : decode b_Mo_put 125 = .ok (.invokevirtual 126, 3) := by decide +kernel
theorem d_Mo_put_128 : decode b_Mo_put 128 = .ok (.iload 5, 2) := by decide +kernel
theorem d_Mo_put_130 : decode b_Mo_put 130 = .ok (.ireturn, 1) := by decide +kernel
theorem d_Mo_isMap_0 : decode b_Mo_isMap 0 = .ok (.iload_n 1, 1) := by decide +kernel
theorem d_Mo_isMap_1 : decode b_Mo_isMap 1 = .ok (.ifCond .lt 12, 3) := by decide +kernel
theorem d_Mo_isMap_4 : decode b_Mo_isMap 4 = .ok (.iload_n 1, 1) := by decide +kernel
theorem d_Mo_isMap_5 : decode b_Mo_isMap 5 = .ok (.iconst 4, 1) := by decide +kernel
theorem d_Mo_isMap_6 : decode b_Mo_isMap 6 = .ok (.if_icmp .gt 7, 3) := by decide +kernel
theorem d_Mo_isMap_9 : decode b_Mo_isMap 9 = .ok (.iconst 1, 1) := by decide +kernel
theorem d_Mo_isMap_10 : decode b_Mo_isMap 10 = .ok (.goto 4, 3) := by decide +kernel
theorem d_Mo_isMap_13 : decode b_Mo_isMap 13 = .ok (.iconst 0, 1) := by decide +kernel
theorem d_Mo_isMap_14 : decode b_Mo_isMap 14 = .ok (.ireturn, 1) := by decide +kernel
theorem d_Mo_isKey_0 : decode b_Mo_isKey 0 = .ok (.aload_n 0, 1) := by decide +kernel
theorem d_Mo_isKey_1 : decode b_Mo_isKey 1 = .ok (.iload_n 2, 1) := by decide +kernel
theorem d_Mo_isKey_2 : decode b_Mo_isKey 2 = .ok (.invokevirtual 64, 3) := by decide +kernel
theorem d_Mo_isKey_5 : decode b_Mo_isKey 5 = .ok (.ifCond .eq 23, 3) := by decide +kernel
theorem d_Mo_isKey_8 : decode b_Mo_isKey 8 = .ok (.iload_n 1, 1) := by decide +kernel
theorem d_Mo_isKey_9 : decode b_Mo_isKey 9 = .ok (.iconst 3, 1) := by decide +kernel
theorem d_Mo_isKey_10 : decode b_Mo_isKey 10 = .ok (.if_icmp .ne 14, 3) := by decide +kernel
theorem d_Mo_isKey_13 : decode b_Mo_isKey 13 = .ok (.aload_n 0, 1) := by decide +kernel
theorem d_Mo_isKey_14 : decode b_Mo_isKey 14 = .ok (.getfield 7, 3) := by decide +kernel
theorem d_Mo_isKey_17 : decode b_Mo_isKey 17 = .ok (.iload_n 2, 1) := by decide +kernel
theorem d_Mo_isKey_18 : decode b_Mo_isKey 18 = .ok (.iaload, 1) := by decide +kernel
theorem d_Mo_isKey_19 : decode b_Mo_isKey 19 = .ok (.bipush 7, 2) := by decide +kernel
theorem d_Mo_isKey_21 : decode b_Mo_isKey 21 = .ok (.if_icmp .gt 7, 3) := by decide +kernel
theorem d_Mo_isKey_24 : decode b_Mo_isKey 24 = .ok (.iconst 1, 1) := by decide +kernel
theorem d_Mo_isKey_25 : decode b_Mo_isKey 25 = .ok (.goto 4, 3) := by decide +kernel
theorem d_Mo_isKey_28 : decode b_Mo_isKey 28 = .ok (.iconst 0, 1) := by decide +kernel
theorem d_Mo_isKey_29 : decode b_Mo_isKey 29 = .ok (.ireturn, 1) := by decide +kernel
theorem d_Mo_find_0 : decode b_Mo_find 0 = .ok (.iconst (-1), 1) := by decide +kernel
theorem d_Mo_find_1 : decode b_Mo_find 1 = .ok (.istore_n 3, 1) := by decide +kernel
theorem d_Mo_find_2 : decode b_Mo_find 2 = .ok (.bipush 32, 2) := by decide +kernel
theorem d_Mo_find_4 : decode b_Mo_find 4 = .ok (.iload_n 1, 1) := by decide +kernel
theorem d_Mo_find_5 : decode b_Mo_find 5 = .ok (.imul, 1) := by decide +kernel
theorem d_Mo_find_6 : decode b_Mo_find 6 = .ok (.istore 4, 2) := by decide +kernel
theorem d_Mo_find_8 : decode b_Mo_find 8 = .ok (.iload 4, 2) := by decide +kernel
theorem d_Mo_find_10 : decode b_Mo_find 10 = .ok (.aload_n 0, 1) := by decide +kernel
theorem d_Mo_find_11 : decode b_Mo_find 11 = .ok (.iload_n 1, 1) := by decide +kernel
theorem d_Mo_find_12 : decode b_Mo_find 12 = .ok (.invokevirtual 68, 3) := by decide +kernel
theorem d_Mo_find_15 : decode b_Mo_find 15 = .ok (.if_icmp .ge 42, 3) := by decide +kernel
theorem d_Mo_find_18 : decode b_Mo_find 18 = .ok (.aload_n 0, 1) := by decide +kernel
theorem d_Mo_find_19 : decode b_Mo_find 19 = .ok (.getfield 29, 3) := by decide +kernel
theorem d_Mo_find_22 : decode b_Mo_find 22 = .ok (.iload 4, 2) := by decide +kernel
theorem d_Mo_find_24 : decode b_Mo_find 24 = .ok (.iaload, 1) := by decide +kernel
theorem d_Mo_find_25 : decode b_Mo_find 25 = .ok (.ifCond .lt 24, 3) := by decide +kernel
theorem d_Mo_find_28 : decode b_Mo_find 28 = .ok (.aload_n 0, 1) := by decide +kernel
theorem d_Mo_find_29 : decode b_Mo_find 29 = .ok (.iload_n 1, 1) := by decide +kernel
theorem d_Mo_find_30 : decode b_Mo_find 30 = .ok (.aload_n 0, 1) := by decide +kernel
theorem d_Mo_find_31 : decode b_Mo_find 31 = .ok (.getfield 29, 3) := by decide +kernel
theorem d_Mo_find_34 : decode b_Mo_find 34 = .ok (.iload 4, 2) := by decide +kernel
theorem d_Mo_find_36 : decode b_Mo_find 36 = .ok (.iaload, 1) := by decide +kernel
theorem d_Mo_find_37 : decode b_Mo_find 37 = .ok (.iload_n 2, 1) := by decide +kernel
theorem d_Mo_find_38 : decode b_Mo_find 38 = .ok (.invokevirtual 71, 3) := by decide +kernel
theorem d_Mo_find_41 : decode b_Mo_find 41 = .ok (.ifCond .eq 8, 3) := by decide +kernel
theorem d_Mo_find_44 : decode b_Mo_find 44 = .ok (.iload 4, 2) := by decide +kernel
theorem d_Mo_find_46 : decode b_Mo_find 46 = .ok (.goto 4, 3) := by decide +kernel
theorem d_Mo_find_49 : decode b_Mo_find 49 = .ok (.iload_n 3, 1) := by decide +kernel
theorem d_Mo_find_50 : decode b_Mo_find 50 = .ok (.istore_n 3, 1) := by decide +kernel
theorem d_Mo_find_51 : decode b_Mo_find 51 = .ok (.iinc 4 1, 3) := by decide +kernel
theorem d_Mo_find_54 : decode b_Mo_find 54 = .ok (.goto (-46), 3) := by decide +kernel
theorem d_Mo_find_57 : decode b_Mo_find 57 = .ok (.iload_n 3, 1) := by decide +kernel
theorem d_Mo_find_58 : decode b_Mo_find 58 = .ok (.ireturn, 1) := by decide +kernel
theorem d_Mo_endd_0 : decode b_Mo_endd 0 = .ok (.bipush 32, 2) := by decide +kernel
theorem d_Mo_endd_2 : decode b_Mo_endd 2 = .ok (.iload_n 1, 1) := by decide +kernel
theorem d_Mo_endd_3 : decode b_Mo_endd 3 = .ok (.imul, 1) := by decide +kernel
theorem d_Mo_endd_4 : decode b_Mo_endd 4 = .ok (.iload_n 1, 1) := by decide +kernel
theorem d_Mo_endd_5 : decode b_Mo_endd 5 = .ok (.iconst 2, 1) := by decide +kernel
theorem d_Mo_endd_6 : decode b_Mo_endd 6 = .ok (.if_icmp .ne 8, 3) := by decide +kernel
theorem d_Mo_endd_9 : decode b_Mo_endd 9 = .ok (.bipush 16, 2) := by decide +kernel
theorem d_Mo_endd_11 : decode b_Mo_endd 11 = .ok (.goto 19, 3) := by decide +kernel
theorem d_Mo_endd_14 : decode b_Mo_endd 14 = .ok (.iload_n 1, 1) := by decide +kernel
theorem d_Mo_endd_15 : decode b_Mo_endd 15 = .ok (.iconst 3, 1) := by decide +kernel
theorem d_Mo_endd_16 : decode b_Mo_endd 16 = .ok (.if_icmp .ne 8, 3) := by decide +kernel
theorem d_Mo_endd_19 : decode b_Mo_endd 19 = .ok (.bipush 8, 2) := by decide +kernel
theorem d_Mo_endd_21 : decode b_Mo_endd 21 = .ok (.goto 9, 3) := by decide +kernel
theorem d_Mo_endd_24 : decode b_Mo_endd 24 = .ok (.aload_n 0, 1) := by decide +kernel
theorem d_Mo_endd_25 : decode b_Mo_endd 25 = .ok (.getfield 38, 3) := by decide +kernel
theorem d_Mo_endd_28 : decode b_Mo_endd 28 = .ok (.iload_n 1, 1) := by decide +kernel
theorem d_Mo_endd_29 : decode b_Mo_endd 29 = .ok (.iaload, 1) := by decide +kernel
theorem d_Mo_endd_30 : decode b_Mo_endd 30 = .ok (.iadd, 1) := by decide +kernel
theorem d_Mo_endd_31 : decode b_Mo_endd 31 = .ok (.ireturn, 1) := by decide +kernel
theorem d_Mo_isSame_0 : decode b_Mo_isSame 0 = .ok (.iload_n 1, 1) := by decide +kernel
theorem d_Mo_isSame_1 : decode b_Mo_isSame 1 = .ok (.iconst 2, 1) := by decide +kernel
theorem d_Mo_isSame_2 : decode b_Mo_isSame 2 = .ok (.if_icmp .ne 14, 3) := by decide +kernel
theorem d_Mo_isSame_5 : decode b_Mo_isSame 5 = .ok (.iload_n 2, 1) := by decide +kernel
theorem d_Mo_isSame_6 : decode b_Mo_isSame 6 = .ok (.iload_n 3, 1) := by decide +kernel
theorem d_Mo_isSame_7 : decode b_Mo_isSame 7 = .ok (.if_icmp .ne 7, 3) := by decide +kernel
theorem d_Mo_isSame_10 : decode b_Mo_isSame 10 = .ok (.iconst 1, 1) := by decide +kernel
theorem d_Mo_isSame_11 : decode b_Mo_isSame 11 = .ok (.goto 4, 3) := by decide +kernel
theorem d_Mo_isSame_14 : decode b_Mo_isSame 14 = .ok (.iconst 0, 1) := by decide +kernel
theorem d_Mo_isSame_15 : decode b_Mo_isSame 15 = .ok (.ireturn, 1) := by decide +kernel
theorem d_Mo_isSame_16 : decode b_Mo_isSame 16 = .ok (.iload_n 1, 1) := by decide +kernel
theorem d_Mo_isSame_17 : decode b_Mo_isSame 17 = .ok (.iconst 3, 1) := by decide +kernel
theorem d_Mo_isSame_18 : decode b_Mo_isSame 18 = .ok (.if_icmp .ne 21, 3) := by decide +kernel
theorem d_Mo_isSame_21 : decode b_Mo_isSame 21 = .ok (.iload_n 2, 1) := by decide +kernel
theorem d_Mo_isSame_22 : decode b_Mo_isSame 22 = .ok (.aload_n 0, 1) := by decide +kernel
theorem d_Mo_isSame_23 : decode b_Mo_isSame 23 = .ok (.getfield 7, 3) := by decide +kernel
theorem d_Mo_isSame_26 : decode b_Mo_isSame 26 = .ok (.iload_n 3, 1) := by decide +kernel
theorem d_Mo_isSame_27 : decode b_Mo_isSame 27 = .ok (.iaload, 1) := by decide +kernel
theorem d_Mo_isSame_28 : decode b_Mo_isSame 28 = .ok (.if_icmp .ne 7, 3) := by decide +kernel
theorem d_Mo_isSame_31 : decode b_Mo_isSame 31 = .ok (.iconst 1, 1) := by decide +kernel
theorem d_Mo_isSame_32 : decode b_Mo_isSame 32 = .ok (.goto 27, 3) := by decide +kernel
theorem d_Mo_isSame_35 : decode b_Mo_isSame 35 = .ok (.iconst 0, 1) := by decide +kernel
theorem d_Mo_isSame_36 : decode b_Mo_isSame 36 = .ok (.goto 23, 3) := by decide +kernel
theorem d_Mo_isSame_39 : decode b_Mo_isSame 39 = .ok (.aload_n 0, 1) := by decide +kernel
theorem d_Mo_isSame_40 : decode b_Mo_isSame 40 = .ok (.getfield 7, 3) := by decide +kernel
theorem d_Mo_isSame_43 : decode b_Mo_isSame 43 = .ok (.iload_n 2, 1) := by decide +kernel
theorem d_Mo_isSame_44 : decode b_Mo_isSame 44 = .ok (.iaload, 1) := by decide +kernel
theorem d_Mo_isSame_45 : decode b_Mo_isSame 45 = .ok (.aload_n 0, 1) := by decide +kernel
theorem d_Mo_isSame_46 : decode b_Mo_isSame 46 = .ok (.getfield 7, 3) := by decide +kernel
theorem d_Mo_isSame_49 : decode b_Mo_isSame 49 = .ok (.iload_n 3, 1) := by decide +kernel
theorem d_Mo_isSame_50 : decode b_Mo_isSame 50 = .ok (.iaload, 1) := by decide +kernel
theorem d_Mo_isSame_51 : decode b_Mo_isSame 51 = .ok (.if_icmp .ne 7, 3) := by decide +kernel
theorem d_Mo_isSame_54 : decode b_Mo_isSame 54 = .ok (.iconst 1, 1) := by decide +kernel
theorem d_Mo_isSame_55 : decode b_Mo_isSame 55 = .ok (.goto 4, 3) := by decide +kernel
theorem d_Mo_isSame_58 : decode b_Mo_isSame 58 = .ok (.iconst 0, 1) := by decide +kernel
theorem d_Mo_isSame_59 : decode b_Mo_isSame 59 = .ok (.ireturn, 1) := by decide +kernel
theorem d_Mo_comes_0 : decode b_Mo_comes 0 = .ok (.aload_n 0, 1) := by decide +kernel
theorem d_Mo_comes_1 : decode b_Mo_comes 1 = .ok (.iload_n 1, 1) := by decide +kernel
theorem d_Mo_comes_2 : decode b_Mo_comes 2 = .ok (.invokevirtual 99, 3) := by decide +kernel
theorem d_Mo_comes_5 : decode b_Mo_comes 5 = .ok (.iload_n 1, 1) := by decide +kernel
theorem d_Mo_comes_6 : decode b_Mo_comes 6 = .ok (.tableswitch 111 0 3 #[30, 111, 69, 78], 30) := by decide +kernel
theorem d_Mo_comes_36 : decode b_Mo_comes 36 = .ok (.aload_n 0, 1) := by decide +kernel
theorem d_Mo_comes_37 : decode b_Mo_comes 37 = .ok (.iload_n 2, 1) := by decide +kernel
theorem d_Mo_comes_38 : decode b_Mo_comes 38 = .ok (.iload_n 3, 1) := by decide +kernel
theorem d_Mo_comes_39 : decode b_Mo_comes 39 = .ok (.invokevirtual 86, 3) := by decide +kernel
theorem d_Mo_comes_42 : decode b_Mo_comes 42 = .ok (.iconst 4, 1) := by decide +kernel
theorem d_Mo_comes_43 : decode b_Mo_comes 43 = .ok (.aload_n 0, 1) := by decide +kernel
theorem d_Mo_comes_44 : decode b_Mo_comes 44 = .ok (.getfield 38, 3) := by decide +kernel
theorem d_Mo_comes_47 : decode b_Mo_comes 47 = .ok (.iconst 0, 1) := by decide +kernel
theorem d_Mo_comes_48 : decode b_Mo_comes 48 = .ok (.iaload, 1) := by decide +kernel
theorem d_Mo_comes_49 : decode b_Mo_comes 49 = .ok (.imul, 1) := by decide +kernel
theorem d_Mo_comes_50 : decode b_Mo_comes 50 = .ok (.iconst 3, 1) := by decide +kernel
theorem d_Mo_comes_51 : decode b_Mo_comes 51 = .ok (.aload_n 0, 1) := by decide +kernel
theorem d_Mo_comes_52 : decode b_Mo_comes 52 = .ok (.getfield 41, 3) := by decide +kernel
theorem d_Mo_comes_55 : decode b_Mo_comes 55 = .ok (.imul, 1) := by decide +kernel
theorem d_Mo_comes_56 : decode b_Mo_comes 56 = .ok (.if_icmp .le 113, 3) := by decide +kernel
theorem d_Mo_comes_59 : decode b_Mo_comes 59 = .ok (.aload_n 0, 1) := by decide +kernel
theorem d_Mo_comes_60 : decode b_Mo_comes 60 = .ok (.getfield 41, 3) := by decide +kernel
theorem d_Mo_comes_63 : decode b_Mo_comes 63 = .ok (.bipush 32, 2) := by decide +kernel
theorem d_Mo_comes_65 : decode b_Mo_comes 65 = .ok (.if_icmp .ge 104, 3) := by decide +kernel
theorem d_Mo_comes_68 : decode b_Mo_comes 68 = .ok (.aload_n 0, 1) := by decide +kernel
theorem d_Mo_comes_69 : decode b_Mo_comes 69 = .ok (.invokevirtual 103, 3) := by decide +kernel
theorem d_Mo_comes_72 : decode b_Mo_comes 72 = .ok (.goto 97, 3) := by decide +kernel
theorem d_Mo_comes_75 : decode b_Mo_comes 75 = .ok (.aload_n 0, 1) := by decide +kernel
theorem d_Mo_comes_76 : decode b_Mo_comes 76 = .ok (.iload_n 2, 1) := by decide +kernel
theorem d_Mo_comes_77 : decode b_Mo_comes 77 = .ok (.iload_n 3, 1) := by decide +kernel
theorem d_Mo_comes_78 : decode b_Mo_comes 78 = .ok (.invokevirtual 106, 3) := by decide +kernel
theorem d_Mo_comes_81 : decode b_Mo_comes 81 = .ok (.goto 88, 3) := by decide +kernel
theorem d_Mo_comes_84 : decode b_Mo_comes 84 = .ok (.aload_n 0, 1) := by decide +kernel
theorem d_Mo_comes_85 : decode b_Mo_comes 85 = .ok (.bipush 96, 2) := by decide +kernel
theorem d_Mo_comes_87 : decode b_Mo_comes 87 = .ok (.aload_n 0, 1) := by decide +kernel
theorem d_Mo_comes_88 : decode b_Mo_comes 88 = .ok (.getfield 7, 3) := by decide +kernel
theorem d_Mo_comes_91 : decode b_Mo_comes 91 = .ok (.iload_n 2, 1) := by decide +kernel
theorem d_Mo_comes_92 : decode b_Mo_comes 92 = .ok (.iaload, 1) := by decide +kernel
theorem d_Mo_comes_93 : decode b_Mo_comes 93 = .ok (.iadd, 1) := by decide +kernel
theorem d_Mo_comes_94 : decode b_Mo_comes 94 = .ok (.aload_n 0, 1) := by decide +kernel
theorem d_Mo_comes_95 : decode b_Mo_comes 95 = .ok (.getfield 7, 3) := by decide +kernel
theorem d_Mo_comes_98 : decode b_Mo_comes 98 = .ok (.iload_n 2, 1) := by decide +kernel
theorem d_Mo_comes_99 : decode b_Mo_comes 99 = .ok (.iaload, 1) := by decide +kernel
theorem d_Mo_comes_100 : decode b_Mo_comes 100 = .ok (.iload_n 3, 1) := by decide +kernel
theorem d_Mo_comes_101 : decode b_Mo_comes 101 = .ok (.invokevirtual 75, 3) := by decide +kernel
theorem d_Mo_comes_104 : decode b_Mo_comes 104 = .ok (.aload_n 0, 1) := by decide +kernel
theorem d_Mo_comes_105 : decode b_Mo_comes 105 = .ok (.getfield 38, 3) := by decide +kernel
theorem d_Mo_comes_108 : decode b_Mo_comes 108 = .ok (.iconst 3, 1) := by decide +kernel
theorem d_Mo_comes_109 : decode b_Mo_comes 109 = .ok (.dup2, 1) := by decide +kernel
theorem d_Mo_comes_110 : decode b_Mo_comes 110 = .ok (.iaload, 1) := by decide +kernel
theorem d_Mo_comes_111 : decode b_Mo_comes 111 = .ok (.iconst 1, 1) := by decide +kernel
theorem d_Mo_comes_112 : decode b_Mo_comes 112 = .ok (.iadd, 1) := by decide +kernel
theorem d_Mo_comes_113 : decode b_Mo_comes 113 = .ok (.iastore, 1) := by decide +kernel
theorem d_Mo_comes_114 : decode b_Mo_comes 114 = .ok (.goto 55, 3) := by decide +kernel
theorem d_Mo_comes_117 : decode b_Mo_comes 117 = .ok (.aload_n 0, 1) := by decide +kernel
theorem d_Mo_comes_118 : decode b_Mo_comes 118 = .ok (.iload_n 1, 1) := by decide +kernel
theorem d_Mo_comes_119 : decode b_Mo_comes 119 = .ok (.aload_n 0, 1) := by decide +kernel
theorem d_Mo_comes_120 : decode b_Mo_comes 120 = .ok (.iload_n 1, 1) := by decide +kernel
theorem d_Mo_comes_121 : decode b_Mo_comes 121 = .ok (.invokevirtual 68, 3) := by decide +kernel
theorem d_Mo_comes_124 : decode b_Mo_comes 124 = .ok (.iload_n 2, 1) := by decide +kernel
theorem d_Mo_comes_125 : decode b_Mo_comes 125 = .ok (.iload_n 3, 1) := by decide +kernel
theorem d_Mo_comes_126 : decode b_Mo_comes 126 = .ok (.invokevirtual 82, 3) := by decide +kernel
theorem d_Mo_comes_129 : decode b_Mo_comes 129 = .ok (.aload_n 0, 1) := by decide +kernel
theorem d_Mo_comes_130 : decode b_Mo_comes 130 = .ok (.getfield 35, 3) := by decide +kernel
theorem d_Mo_comes_133 : decode b_Mo_comes 133 = .ok (.aload_n 0, 1) := by decide +kernel
theorem d_Mo_comes_134 : decode b_Mo_comes 134 = .ok (.iload_n 1, 1) := by decide +kernel
theorem d_Mo_comes_135 : decode b_Mo_comes 135 = .ok (.invokevirtual 68, 3) := by decide +kernel
theorem d_Mo_comes_138 : decode b_Mo_comes 138 = .ok (.iconst 1, 1) := by decide +kernel
theorem d_Mo_comes_139 : decode b_Mo_comes 139 = .ok (.isub, 1) := by decide +kernel
theorem d_Mo_comes_140 : decode b_Mo_comes 140 = .ok (.aload_n 0, 1) := by decide +kernel
theorem d_Mo_comes_141 : decode b_Mo_comes 141 = .ok (.getfield 93, 3) := by decide +kernel
theorem d_Mo_comes_144 : decode b_Mo_comes 144 = .ok (.iastore, 1) := by decide +kernel
theorem d_Mo_comes_145 : decode b_Mo_comes 145 = .ok (.iload_n 1, 1) := by decide +kernel
theorem d_Mo_comes_146 : decode b_Mo_comes 146 = .ok (.iconst 4, 1) := by decide +kernel
theorem d_Mo_comes_147 : decode b_Mo_comes 147 = .ok (.if_icmp .ne 22, 3) := by decide +kernel
theorem d_Mo_comes_150 : decode b_Mo_comes 150 = .ok (.aload_n 0, 1) := by decide +kernel
theorem d_Mo_comes_151 : decode b_Mo_comes 151 = .ok (.getfield 38, 3) := by decide +kernel
theorem d_Mo_comes_154 : decode b_Mo_comes 154 = .ok (.iconst 4, 1) := by decide +kernel
theorem d_Mo_comes_155 : decode b_Mo_comes 155 = .ok (.iaload, 1) := by decide +kernel
theorem d_Mo_comes_156 : decode b_Mo_comes 156 = .ok (.bipush 6, 2) := by decide +kernel
theorem d_Mo_comes_158 : decode b_Mo_comes 158 = .ok (.if_icmp .le 11, 3) := by decide +kernel
theorem d_Mo_comes_161 : decode b_Mo_comes 161 = .ok (.aload_n 0, 1) := by decide +kernel
theorem d_Mo_comes_162 : decode b_Mo_comes 162 = .ok (.iconst 4, 1) := by decide +kernel
theorem d_Mo_comes_163 : decode b_Mo_comes 163 = .ok (.sipush 128, 3) := by decide +kernel
theorem d_Mo_comes_166 : decode b_Mo_comes 166 = .ok (.invokevirtual 96, 3) := by decide +kernel
theorem d_Mo_comes_169 : decode b_Mo_comes 169 = .ok (.return_, 1) := by decide +kernel
theorem d_Mo_change_0 : decode b_Mo_change 0 = .ok (.aload_n 0, 1) := by decide +kernel
theorem d_Mo_change_1 : decode b_Mo_change 1 = .ok (.getfield 51, 3) := by decide +kernel
theorem d_Mo_change_4 : decode b_Mo_change 4 = .ok (.iload_n 1, 1) := by decide +kernel
theorem d_Mo_change_5 : decode b_Mo_change 5 = .ok (.iconst 1, 1) := by decide +kernel
theorem d_Mo_change_6 : decode b_Mo_change 6 = .ok (.bastore, 1) := by decide +kernel
theorem d_Mo_change_7 : decode b_Mo_change 7 = .ok (.return_, 1) := by decide +kernel
theorem d_Mo_putWeak_0 : decode b_Mo_putWeak 0 = .ok (.aload_n 0, 1) := by decide +kernel
theorem d_Mo_putWeak_1 : decode b_Mo_putWeak 1 = .ok (.iload_n 1, 1) := by decide +kernel
theorem d_Mo_putWeak_2 : decode b_Mo_putWeak 2 = .ok (.invokevirtual 79, 3) := by decide +kernel
theorem d_Mo_putWeak_5 : decode b_Mo_putWeak 5 = .ok (.istore_n 3, 1) := by decide +kernel
theorem d_Mo_putWeak_6 : decode b_Mo_putWeak 6 = .ok (.iconst 0, 1) := by decide +kernel
theorem d_Mo_putWeak_7 : decode b_Mo_putWeak 7 = .ok (.istore 4, 2) := by decide +kernel
theorem d_Mo_putWeak_9 : decode b_Mo_putWeak 9 = .ok (.iload 4, 2) := by decide +kernel
theorem d_Mo_putWeak_11 : decode b_Mo_putWeak 11 = .ok (.aload_n 0, 1) := by decide +kernel
theorem d_Mo_putWeak_12 : decode b_Mo_putWeak 12 = .ok (.getfield 38, 3) := by decide +kernel
theorem d_Mo_putWeak_15 : decode b_Mo_putWeak 15 = .ok (.iconst 0, 1) := by decide +kernel
theorem d_Mo_putWeak_16 : decode b_Mo_putWeak 16 = .ok (.iaload, 1) := by decide +kernel
theorem d_Mo_putWeak_17 : decode b_Mo_putWeak 17 = .ok (.if_icmp .ge 24, 3) := by decide +kernel
theorem d_Mo_putWeak_20 : decode b_Mo_putWeak 20 = .ok (.aload_n 0, 1) := by decide +kernel
theorem d_Mo_putWeak_21 : decode b_Mo_putWeak 21 = .ok (.aload_n 0, 1) := by decide +kernel
theorem d_Mo_putWeak_22 : decode b_Mo_putWeak 22 = .ok (.getfield 29, 3) := by decide +kernel
theorem d_Mo_putWeak_25 : decode b_Mo_putWeak 25 = .ok (.iload 4, 2) := by decide +kernel
theorem d_Mo_putWeak_27 : decode b_Mo_putWeak 27 = .ok (.iaload, 1) := by decide +kernel
theorem d_Mo_putWeak_28 : decode b_Mo_putWeak 28 = .ok (.invokevirtual 79, 3) := by decide +kernel
theorem d_Mo_putWeak_31 : decode b_Mo_putWeak 31 = .ok (.iload_n 3, 1) := by decide +kernel
theorem d_Mo_putWeak_32 : decode b_Mo_putWeak 32 = .ok (.if_icmp .ge 9, 3) := by decide +kernel
theorem d_Mo_putWeak_35 : decode b_Mo_putWeak 35 = .ok (.iinc 4 1, 3) := by decide +kernel
theorem d_Mo_putWeak_38 : decode b_Mo_putWeak 38 = .ok (.goto (-29), 3) := by decide +kernel
theorem d_Mo_putWeak_41 : decode b_Mo_putWeak 41 = .ok (.aload_n 0, 1) := by decide +kernel
theorem d_Mo_putWeak_42 : decode b_Mo_putWeak 42 = .ok (.iconst 0, 1) := by decide +kernel
theorem d_Mo_putWeak_43 : decode b_Mo_putWeak 43 = .ok (.iload 4, 2) := by decide +kernel
theorem d_Mo_putWeak_45 : decode b_Mo_putWeak 45 = .ok (.iload_n 1, 1) := by decide +kernel
theorem d_Mo_putWeak_46 : decode b_Mo_putWeak 46 = .ok (.iload_n 2, 1) := by decide +kernel
theorem d_Mo_putWeak_47 : decode b_Mo_putWeak 47 = .ok (.invokevirtual 82, 3) := by decide +kernel
theorem d_Mo_putWeak_50 : decode b_Mo_putWeak 50 = .ok (.return_, 1) := by decide +kernel
theorem d_Mo_bucketOf_0 : decode b_Mo_bucketOf 0 = .ok (.aload_n 0, 1) := by decide +kernel
theorem d_Mo_bucketOf_1 : decode b_Mo_bucketOf 1 = .ok (.getfield 7, 3) := by decide +kernel
theorem d_Mo_bucketOf_4 : decode b_Mo_bucketOf 4 = .ok (.iload_n 1, 1) := by decide +kernel
theorem d_Mo_bucketOf_5 : decode b_Mo_bucketOf 5 = .ok (.iaload, 1) := by decide +kernel
theorem d_Mo_bucketOf_6 : decode b_Mo_bucketOf 6 = .ok (.aload_n 0, 1) := by decide +kernel
theorem d_Mo_bucketOf_7 : decode b_Mo_bucketOf 7 = .ok (.getfield 7, 3) := by decide +kernel
theorem d_Mo_bucketOf_10 : decode b_Mo_bucketOf 10 = .ok (.iload_n 1, 1) := by decide +kernel
theorem d_Mo_bucketOf_11 : decode b_Mo_bucketOf 11 = .ok (.iaload, 1) := by decide +kernel
theorem d_Mo_bucketOf_12 : decode b_Mo_bucketOf 12 = .ok (.iconst 4, 1) := by decide +kernel
theorem d_Mo_bucketOf_13 : decode b_Mo_bucketOf 13 = .ok (.ishr, 1) := by decide +kernel
theorem d_Mo_bucketOf_14 : decode b_Mo_bucketOf 14 = .ok (.ixor, 1) := by decide +kernel
theorem d_Mo_bucketOf_15 : decode b_Mo_bucketOf 15 = .ok (.aload_n 0, 1) := by decide +kernel
theorem d_Mo_bucketOf_16 : decode b_Mo_bucketOf 16 = .ok (.getfield 41, 3) := by decide +kernel
theorem d_Mo_bucketOf_19 : decode b_Mo_bucketOf 19 = .ok (.iconst 1, 1) := by decide +kernel
theorem d_Mo_bucketOf_20 : decode b_Mo_bucketOf 20 = .ok (.isub, 1) := by decide +kernel
theorem d_Mo_bucketOf_21 : decode b_Mo_bucketOf 21 = .ok (.iand, 1) := by decide +kernel
theorem d_Mo_bucketOf_22 : decode b_Mo_bucketOf 22 = .ok (.ireturn, 1) := by decide +kernel
theorem d_Mo_openn_0 : decode b_Mo_openn 0 = .ok (.aload_n 0, 1) := by decide +kernel
theorem d_Mo_openn_1 : decode b_Mo_openn 1 = .ok (.iload_n 1, 1) := by decide +kernel
theorem d_Mo_openn_2 : decode b_Mo_openn 2 = .ok (.invokevirtual 68, 3) := by decide +kernel
theorem d_Mo_openn_5 : decode b_Mo_openn 5 = .ok (.istore 5, 2) := by decide +kernel
theorem d_Mo_openn_7 : decode b_Mo_openn 7 = .ok (.iload 5, 2) := by decide +kernel
theorem d_Mo_openn_9 : decode b_Mo_openn 9 = .ok (.iload_n 2, 1) := by decide +kernel
theorem d_Mo_openn_10 : decode b_Mo_openn 10 = .ok (.if_icmp .le 49, 3) := by decide +kernel
theorem d_Mo_openn_13 : decode b_Mo_openn 13 = .ok (.aload_n 0, 1) := by decide +kernel
theorem d_Mo_openn_14 : decode b_Mo_openn 14 = .ok (.iload 5, 2) := by decide +kernel
theorem d_Mo_openn_16 : decode b_Mo_openn 16 = .ok (.aload_n 0, 1) := by decide +kernel
theorem d_Mo_openn_17 : decode b_Mo_openn 17 = .ok (.getfield 29, 3) := by decide +kernel
theorem d_Mo_openn_20 : decode b_Mo_openn 20 = .ok (.iload 5, 2) := by decide +kernel
theorem d_Mo_openn_22 : decode b_Mo_openn 22 = .ok (.iconst 1, 1) := by decide +kernel
theorem d_Mo_openn_23 : decode b_Mo_openn 23 = .ok (.isub, 1) := by decide +kernel
theorem d_Mo_openn_24 : decode b_Mo_openn 24 = .ok (.iaload, 1) := by decide +kernel
theorem d_Mo_openn_25 : decode b_Mo_openn 25 = .ok (.aload_n 0, 1) := by decide +kernel
theorem d_Mo_openn_26 : decode b_Mo_openn 26 = .ok (.getfield 32, 3) := by decide +kernel
theorem d_Mo_openn_29 : decode b_Mo_openn 29 = .ok (.iload 5, 2) := by decide +kernel
theorem d_Mo_openn_31 : decode b_Mo_openn 31 = .ok (.iconst 1, 1) := by decide +kernel
theorem d_Mo_openn_32 : decode b_Mo_openn 32 = .ok (.isub, 1) := by decide +kernel
theorem d_Mo_openn_33 : decode b_Mo_openn 33 = .ok (.iaload, 1) := by decide +kernel
theorem d_Mo_openn_34 : decode b_Mo_openn 34 = .ok (.invokevirtual 75, 3) := by decide +kernel
theorem d_Mo_openn_37 : decode b_Mo_openn 37 = .ok (.aload_n 0, 1) := by decide +kernel
theorem d_Mo_openn_38 : decode b_Mo_openn 38 = .ok (.getfield 35, 3) := by decide +kernel
theorem d_Mo_openn_41 : decode b_Mo_openn 41 = .ok (.iload 5, 2) := by decide +kernel
theorem d_Mo_openn_43 : decode b_Mo_openn 43 = .ok (.aload_n 0, 1) := by decide +kernel
theorem d_Mo_openn_44 : decode b_Mo_openn 44 = .ok (.getfield 35, 3) := by decide +kernel
theorem d_Mo_openn_47 : decode b_Mo_openn 47 = .ok (.iload 5, 2) := by decide +kernel
theorem d_Mo_openn_49 : decode b_Mo_openn 49 = .ok (.iconst 1, 1) := by decide +kernel
theorem d_Mo_openn_50 : decode b_Mo_openn 50 = .ok (.isub, 1) := by decide +kernel
theorem d_Mo_openn_51 : decode b_Mo_openn 51 = .ok (.iaload, 1) := by decide +kernel
theorem d_Mo_openn_52 : decode b_Mo_openn 52 = .ok (.iastore, 1) := by decide +kernel
theorem d_Mo_openn_53 : decode b_Mo_openn 53 = .ok (.iinc 5 (-1), 3) := by decide +kernel
theorem d_Mo_openn_56 : decode b_Mo_openn 56 = .ok (.goto (-49), 3) := by decide +kernel
theorem d_Mo_openn_59 : decode b_Mo_openn 59 = .ok (.aload_n 0, 1) := by decide +kernel
theorem d_Mo_openn_60 : decode b_Mo_openn 60 = .ok (.iload_n 2, 1) := by decide +kernel
theorem d_Mo_openn_61 : decode b_Mo_openn 61 = .ok (.iload_n 3, 1) := by decide +kernel
theorem d_Mo_openn_62 : decode b_Mo_openn 62 = .ok (.iload 4, 2) := by decide +kernel
theorem d_Mo_openn_64 : decode b_Mo_openn 64 = .ok (.invokevirtual 75, 3) := by decide +kernel
theorem d_Mo_openn_67 : decode b_Mo_openn 67 = .ok (.aload_n 0, 1) := by decide +kernel
theorem d_Mo_openn_68 : decode b_Mo_openn 68 = .ok (.getfield 38, 3) := by decide +kernel
theorem d_Mo_openn_71 : decode b_Mo_openn 71 = .ok (.iload_n 1, 1) := by decide +kernel
theorem d_Mo_openn_72 : decode b_Mo_openn 72 = .ok (.dup2, 1) := by decide +kernel
theorem d_Mo_openn_73 : decode b_Mo_openn 73 = .ok (.iaload, 1) := by decide +kernel
theorem d_Mo_openn_74 : decode b_Mo_openn 74 = .ok (.iconst 1, 1) := by decide +kernel
theorem d_Mo_openn_75 : decode b_Mo_openn 75 = .ok (.iadd, 1) := by decide +kernel
theorem d_Mo_openn_76 : decode b_Mo_openn 76 = .ok (.iastore, 1) := by decide +kernel
theorem d_Mo_openn_77 : decode b_Mo_openn 77 = .ok (.return_, 1) := by decide +kernel
theorem d_Mo_set_0 : decode b_Mo_set 0 = .ok (.aload_n 0, 1) := by decide +kernel
theorem d_Mo_set_1 : decode b_Mo_set 1 = .ok (.getfield 29, 3) := by decide +kernel
theorem d_Mo_set_4 : decode b_Mo_set 4 = .ok (.iload_n 1, 1) := by decide +kernel
theorem d_Mo_set_5 : decode b_Mo_set 5 = .ok (.iload_n 2, 1) := by decide +kernel
theorem d_Mo_set_6 : decode b_Mo_set 6 = .ok (.iastore, 1) := by decide +kernel
theorem d_Mo_set_7 : decode b_Mo_set 7 = .ok (.aload_n 0, 1) := by decide +kernel
theorem d_Mo_set_8 : decode b_Mo_set 8 = .ok (.getfield 32, 3) := by decide +kernel
theorem d_Mo_set_11 : decode b_Mo_set 11 = .ok (.iload_n 1, 1) := by decide +kernel
theorem d_Mo_set_12 : decode b_Mo_set 12 = .ok (.iload_n 3, 1) := by decide +kernel
theorem d_Mo_set_13 : decode b_Mo_set 13 = .ok (.iastore, 1) := by decide +kernel
theorem d_Mo_set_14 : decode b_Mo_set 14 = .ok (.return_, 1) := by decide +kernel
theorem d_Mo_doubleBuckets_0 : decode b_Mo_doubleBuckets 0 = .ok (.aload_n 0, 1) := by decide +kernel
theorem d_Mo_doubleBuckets_1 : decode b_Mo_doubleBuckets 1 = .ok (.getfield 38, 3) := by decide +kernel
theorem d_Mo_doubleBuckets_4 : decode b_Mo_doubleBuckets 4 = .ok (.iconst 0, 1) := by decide +kernel
theorem d_Mo_doubleBuckets_5 : decode b_Mo_doubleBuckets 5 = .ok (.iaload, 1) := by decide +kernel
theorem d_Mo_doubleBuckets_6 : decode b_Mo_doubleBuckets 6 = .ok (.istore_n 1, 1) := by decide +kernel
theorem d_Mo_doubleBuckets_7 : decode b_Mo_doubleBuckets 7 = .ok (.aload_n 0, 1) := by decide +kernel
theorem d_Mo_doubleBuckets_8 : decode b_Mo_doubleBuckets 8 = .ok (.iconst 2, 1) := by decide +kernel
theorem d_Mo_doubleBuckets_9 : decode b_Mo_doubleBuckets 9 = .ok (.aload_n 0, 1) := by decide +kernel
theorem d_Mo_doubleBuckets_10 : decode b_Mo_doubleBuckets 10 = .ok (.getfield 41, 3) := by decide +kernel
theorem d_Mo_doubleBuckets_13 : decode b_Mo_doubleBuckets 13 = .ok (.imul, 1) := by decide +kernel
theorem d_Mo_doubleBuckets_14 : decode b_Mo_doubleBuckets 14 = .ok (.putfield 41, 3) := by decide +kernel
theorem d_Mo_doubleBuckets_17 : decode b_Mo_doubleBuckets 17 = .ok (.iconst 0, 1) := by decide +kernel
theorem d_Mo_doubleBuckets_18 : decode b_Mo_doubleBuckets 18 = .ok (.istore_n 2, 1) := by decide +kernel
theorem d_Mo_doubleBuckets_19 : decode b_Mo_doubleBuckets 19 = .ok (.iload_n 2, 1) := by decide +kernel
theorem d_Mo_doubleBuckets_20 : decode b_Mo_doubleBuckets 20 = .ok (.iload_n 1, 1) := by decide +kernel
theorem d_Mo_doubleBuckets_21 : decode b_Mo_doubleBuckets 21 = .ok (.if_icmp .ge 36, 3) := by decide +kernel
theorem d_Mo_doubleBuckets_24 : decode b_Mo_doubleBuckets 24 = .ok (.aload_n 0, 1) := by decide +kernel
theorem d_Mo_doubleBuckets_25 : decode b_Mo_doubleBuckets 25 = .ok (.getfield 45, 3) := by decide +kernel
theorem d_Mo_doubleBuckets_28 : decode b_Mo_doubleBuckets 28 = .ok (.iload_n 2, 1) := by decide +kernel
theorem d_Mo_doubleBuckets_29 : decode b_Mo_doubleBuckets 29 = .ok (.aload_n 0, 1) := by decide +kernel
theorem d_Mo_doubleBuckets_30 : decode b_Mo_doubleBuckets 30 = .ok (.getfield 29, 3) := by decide +kernel
theorem d_Mo_doubleBuckets_33 : decode b_Mo_doubleBuckets 33 = .ok (.iload_n 2, 1) := by decide +kernel
theorem d_Mo_doubleBuckets_34 : decode b_Mo_doubleBuckets 34 = .ok (.iaload, 1) := by decide +kernel
theorem d_Mo_doubleBuckets_35 : decode b_Mo_doubleBuckets 35 = .ok (.iastore, 1) := by decide +kernel
theorem d_Mo_doubleBuckets_36 : decode b_Mo_doubleBuckets 36 = .ok (.aload_n 0, 1) := by decide +kernel
theorem d_Mo_doubleBuckets_37 : decode b_Mo_doubleBuckets 37 = .ok (.getfield 45, 3) := by decide +kernel
theorem d_Mo_doubleBuckets_40 : decode b_Mo_doubleBuckets 40 = .ok (.bipush 32, 2) := by decide +kernel
theorem d_Mo_doubleBuckets_42 : decode b_Mo_doubleBuckets 42 = .ok (.iload_n 2, 1) := by decide +kernel
theorem d_Mo_doubleBuckets_43 : decode b_Mo_doubleBuckets 43 = .ok (.iadd, 1) := by decide +kernel
theorem d_Mo_doubleBuckets_44 : decode b_Mo_doubleBuckets 44 = .ok (.aload_n 0, 1) := by decide +kernel
theorem d_Mo_doubleBuckets_45 : decode b_Mo_doubleBuckets 45 = .ok (.getfield 32, 3) := by decide +kernel
theorem d_Mo_doubleBuckets_48 : decode b_Mo_doubleBuckets 48 = .ok (.iload_n 2, 1) := by decide +kernel
theorem d_Mo_doubleBuckets_49 : decode b_Mo_doubleBuckets 49 = .ok (.iaload, 1) := by decide +kernel
theorem d_Mo_doubleBuckets_50 : decode b_Mo_doubleBuckets 50 = .ok (.iastore, 1) := by decide +kernel
theorem d_Mo_doubleBuckets_51 : decode b_Mo_doubleBuckets 51 = .ok (.iinc 2 1, 3) := by decide +kernel
theorem d_Mo_doubleBuckets_54 : decode b_Mo_doubleBuckets 54 = .ok (.goto (-35), 3) := by decide +kernel
theorem d_Mo_doubleBuckets_57 : decode b_Mo_doubleBuckets 57 = .ok (.aload_n 0, 1) := by decide +kernel
theorem d_Mo_doubleBuckets_58 : decode b_Mo_doubleBuckets 58 = .ok (.getfield 38, 3) := by decide +kernel
theorem d_Mo_doubleBuckets_61 : decode b_Mo_doubleBuckets 61 = .ok (.iconst 0, 1) := by decide +kernel
theorem d_Mo_doubleBuckets_62 : decode b_Mo_doubleBuckets 62 = .ok (.iconst 0, 1) := by decide +kernel
theorem d_Mo_doubleBuckets_63 : decode b_Mo_doubleBuckets 63 = .ok (.iastore, 1) := by decide +kernel
theorem d_Mo_doubleBuckets_64 : decode b_Mo_doubleBuckets 64 = .ok (.iconst 0, 1) := by decide +kernel
theorem d_Mo_doubleBuckets_65 : decode b_Mo_doubleBuckets 65 = .ok (.istore_n 2, 1) := by decide +kernel
theorem d_Mo_doubleBuckets_66 : decode b_Mo_doubleBuckets 66 = .ok (.iload_n 2, 1) := by decide +kernel
theorem d_Mo_doubleBuckets_67 : decode b_Mo_doubleBuckets 67 = .ok (.iload_n 1, 1) := by decide +kernel
theorem d_Mo_doubleBuckets_68 : decode b_Mo_doubleBuckets 68 = .ok (.if_icmp .ge 28, 3) := by decide +kernel
theorem d_Mo_doubleBuckets_71 : decode b_Mo_doubleBuckets 71 = .ok (.aload_n 0, 1) := by decide +kernel
theorem d_Mo_doubleBuckets_72 : decode b_Mo_doubleBuckets 72 = .ok (.aload_n 0, 1) := by decide +kernel
theorem d_Mo_doubleBuckets_73 : decode b_Mo_doubleBuckets 73 = .ok (.getfield 45, 3) := by decide +kernel
theorem d_Mo_doubleBuckets_76 : decode b_Mo_doubleBuckets 76 = .ok (.iload_n 2, 1) := by decide +kernel
theorem d_Mo_doubleBuckets_77 : decode b_Mo_doubleBuckets 77 = .ok (.iaload, 1) := by decide +kernel
theorem d_Mo_doubleBuckets_78 : decode b_Mo_doubleBuckets 78 = .ok (.aload_n 0, 1) := by decide +kernel
theorem d_Mo_doubleBuckets_79 : decode b_Mo_doubleBuckets 79 = .ok (.getfield 45, 3) := by decide +kernel
theorem d_Mo_doubleBuckets_82 : decode b_Mo_doubleBuckets 82 = .ok (.bipush 32, 2) := by decide +kernel
theorem d_Mo_doubleBuckets_84 : decode b_Mo_doubleBuckets 84 = .ok (.iload_n 2, 1) := by decide +kernel
theorem d_Mo_doubleBuckets_85 : decode b_Mo_doubleBuckets 85 = .ok (.iadd, 1) := by decide +kernel
theorem d_Mo_doubleBuckets_86 : decode b_Mo_doubleBuckets 86 = .ok (.iaload, 1) := by decide +kernel
theorem d_Mo_doubleBuckets_87 : decode b_Mo_doubleBuckets 87 = .ok (.invokevirtual 86, 3) := by decide +kernel
theorem d_Mo_doubleBuckets_90 : decode b_Mo_doubleBuckets 90 = .ok (.iinc 2 1, 3) := by decide +kernel
theorem d_Mo_doubleBuckets_93 : decode b_Mo_doubleBuckets 93 = .ok (.goto (-27), 3) := by decide +kernel
theorem d_Mo_doubleBuckets_96 : decode b_Mo_doubleBuckets 96 = .ok (.return_, 1) := by decide +kernel
theorem d_Mo_putIdentity_0 : decode b_Mo_putIdentity 0 = .ok (.iload_n 1, 1) := by decide +kernel
theorem d_Mo_putIdentity_1 : decode b_Mo_putIdentity 1 = .ok (.invokestatic 90, 3) := by decide +kernel
theorem d_Mo_putIdentity_4 : decode b_Mo_putIdentity 4 = .ok (.istore_n 3, 1) := by decide +kernel
theorem d_Mo_putIdentity_5 : decode b_Mo_putIdentity 5 = .ok (.aload_n 0, 1) := by decide +kernel
theorem d_Mo_putIdentity_6 : decode b_Mo_putIdentity 6 = .ok (.getfield 29, 3) := by decide +kernel
theorem d_Mo_putIdentity_9 : decode b_Mo_putIdentity 9 = .ok (.bipush 64, 2) := by decide +kernel
theorem d_Mo_putIdentity_11 : decode b_Mo_putIdentity 11 = .ok (.iload_n 3, 1) := by decide +kernel
theorem d_Mo_putIdentity_12 : decode b_Mo_putIdentity 12 = .ok (.iadd, 1) := by decide +kernel
theorem d_Mo_putIdentity_13 : decode b_Mo_putIdentity 13 = .ok (.iaload, 1) := by decide +kernel
theorem d_Mo_putIdentity_14 : decode b_Mo_putIdentity 14 = .ok (.ifCond .lt 13, 3) := by decide +kernel
theorem d_Mo_putIdentity_17 : decode b_Mo_putIdentity 17 = .ok (.iload_n 3, 1) := by decide +kernel
theorem d_Mo_putIdentity_18 : decode b_Mo_putIdentity 18 = .ok (.iconst 1, 1) := by decide +kernel
theorem d_Mo_putIdentity_19 : decode b_Mo_putIdentity 19 = .ok (.iadd, 1) := by decide +kernel
theorem d_Mo_putIdentity_20 : decode b_Mo_putIdentity 20 = .ok (.bipush 16, 2) := by decide +kernel
theorem d_Mo_putIdentity_22 : decode b_Mo_putIdentity 22 = .ok (.irem, 1) := by decide +kernel
theorem d_Mo_putIdentity_23 : decode b_Mo_putIdentity 23 = .ok (.istore_n 3, 1) := by decide +kernel
theorem d_Mo_putIdentity_24 : decode b_Mo_putIdentity 24 = .ok (.goto (-19), 3) := by decide +kernel
theorem d_Mo_putIdentity_27 : decode b_Mo_putIdentity 27 = .ok (.aload_n 0, 1) := by decide +kernel
theorem d_Mo_putIdentity_28 : decode b_Mo_putIdentity 28 = .ok (.bipush 64, 2) := by decide +kernel
theorem d_Mo_putIdentity_30 : decode b_Mo_putIdentity 30 = .ok (.iload_n 3, 1) := by decide +kernel
theorem d_Mo_putIdentity_31 : decode b_Mo_putIdentity 31 = .ok (.iadd, 1) := by decide +kernel
theorem d_Mo_putIdentity_32 : decode b_Mo_putIdentity 32 = .ok (.iload_n 1, 1) := by decide +kernel
theorem d_Mo_putIdentity_33 : decode b_Mo_putIdentity 33 = .ok (.iload_n 2, 1) := by decide +kernel
theorem d_Mo_putIdentity_34 : decode b_Mo_putIdentity 34 = .ok (.invokevirtual 75, 3) := by decide +kernel
theorem d_Mo_putIdentity_37 : decode b_Mo_putIdentity 37 = .ok (.aload_n 0, 1) := by decide +kernel
theorem d_Mo_putIdentity_38 : decode b_Mo_putIdentity 38 = .ok (.getfield 38, 3) := by decide +kernel
theorem d_Mo_putIdentity_41 : decode b_Mo_putIdentity 41 = .ok (.iconst 2, 1) := by decide +kernel
theorem d_Mo_putIdentity_42 : decode b_Mo_putIdentity 42 = .ok (.dup2, 1) := by decide +kernel
theorem d_Mo_putIdentity_43 : decode b_Mo_putIdentity 43 = .ok (.iaload, 1) := by decide +kernel
theorem d_Mo_putIdentity_44 : decode b_Mo_putIdentity 44 = .ok (.iconst 1, 1) := by decide +kernel
theorem d_Mo_putIdentity_45 : decode b_Mo_putIdentity 45 = .ok (.iadd, 1) := by decide +kernel
theorem d_Mo_putIdentity_46 : decode b_Mo_putIdentity 46 = .ok (.iastore, 1) := by decide +kernel
theorem d_Mo_putIdentity_47 : decode b_Mo_putIdentity 47 = .ok (.return_, 1) := by decide +kernel
theorem d_Mo_slotOf_0 : decode b_Mo_slotOf 0 = .ok (.bipush 7, 2) := by decide +kernel
theorem d_Mo_slotOf_2 : decode b_Mo_slotOf 2 = .ok (.iload_n 0, 1) := by decide +kernel
theorem d_Mo_slotOf_3 : decode b_Mo_slotOf 3 = .ok (.imul, 1) := by decide +kernel
theorem d_Mo_slotOf_4 : decode b_Mo_slotOf 4 = .ok (.bipush 16, 2) := by decide +kernel
theorem d_Mo_slotOf_6 : decode b_Mo_slotOf 6 = .ok (.irem, 1) := by decide +kernel
theorem d_Mo_slotOf_7 : decode b_Mo_slotOf 7 = .ok (.ireturn, 1) := by decide +kernel
theorem d_Mo_close_0 : decode b_Mo_close 0 = .ok (.aload_n 0, 1) := by decide +kernel
theorem d_Mo_close_1 : decode b_Mo_close 1 = .ok (.getfield 38, 3) := by decide +kernel
theorem d_Mo_close_4 : decode b_Mo_close 4 = .ok (.iload_n 1, 1) := by decide +kernel
theorem d_Mo_close_5 : decode b_Mo_close 5 = .ok (.dup2, 1) := by decide +kernel
theorem d_Mo_close_6 : decode b_Mo_close 6 = .ok (.iaload, 1) := by decide +kernel
theorem d_Mo_close_7 : decode b_Mo_close 7 = .ok (.iconst 1, 1) := by decide +kernel
theorem d_Mo_close_8 : decode b_Mo_close 8 = .ok (.isub, 1) := by decide +kernel
theorem d_Mo_close_9 : decode b_Mo_close 9 = .ok (.iastore, 1) := by decide +kernel
theorem d_Mo_close_10 : decode b_Mo_close 10 = .ok (.iload_n 2, 1) := by decide +kernel
theorem d_Mo_close_11 : decode b_Mo_close 11 = .ok (.istore_n 3, 1) := by decide +kernel
theorem d_Mo_close_12 : decode b_Mo_close 12 = .ok (.iload_n 3, 1) := by decide +kernel
theorem d_Mo_close_13 : decode b_Mo_close 13 = .ok (.aload_n 0, 1) := by decide +kernel
theorem d_Mo_close_14 : decode b_Mo_close 14 = .ok (.iload_n 1, 1) := by decide +kernel
theorem d_Mo_close_15 : decode b_Mo_close 15 = .ok (.invokevirtual 68, 3) := by decide +kernel
theorem d_Mo_close_18 : decode b_Mo_close 18 = .ok (.if_icmp .ge 44, 3) := by decide +kernel
theorem d_Mo_close_21 : decode b_Mo_close 21 = .ok (.aload_n 0, 1) := by decide +kernel
theorem d_Mo_close_22 : decode b_Mo_close 22 = .ok (.iload_n 3, 1) := by decide +kernel
theorem d_Mo_close_23 : decode b_Mo_close 23 = .ok (.aload_n 0, 1) := by decide +kernel
theorem d_Mo_close_24 : decode b_Mo_close 24 = .ok (.getfield 29, 3) := by decide +kernel
theorem d_Mo_close_27 : decode b_Mo_close 27 = .ok (.iload_n 3, 1) := by decide +kernel
theorem d_Mo_close_28 : decode b_Mo_close 28 = .ok (.iconst 1, 1) := by decide +kernel
theorem d_Mo_close_29 : decode b_Mo_close 29 = .ok (.iadd, 1) := by decide +kernel
theorem d_Mo_close_30 : decode b_Mo_close 30 = .ok (.iaload, 1) := by decide +kernel
theorem d_Mo_close_31 : decode b_Mo_close 31 = .ok (.aload_n 0, 1) := by decide +kernel
theorem d_Mo_close_32 : decode b_Mo_close 32 = .ok (.getfield 32, 3) := by decide +kernel
theorem d_Mo_close_35 : decode b_Mo_close 35 = .ok (.iload_n 3, 1) := by decide +kernel
theorem d_Mo_close_36 : decode b_Mo_close 36 = .ok (.iconst 1, 1) := by decide +kernel
theorem d_Mo_close_37 : decode b_Mo_close 37 = .ok (.iadd, 1) := by decide +kernel
theorem d_Mo_close_38 : decode b_Mo_close 38 = .ok (.iaload, 1) := by decide +kernel
theorem d_Mo_close_39 : decode b_Mo_close 39 = .ok (.invokevirtual 75, 3) := by decide +kernel
theorem d_Mo_close_42 : decode b_Mo_close 42 = .ok (.aload_n 0, 1) := by decide +kernel
theorem d_Mo_close_43 : decode b_Mo_close 43 = .ok (.getfield 35, 3) := by decide +kernel
theorem d_Mo_close_46 : decode b_Mo_close 46 = .ok (.iload_n 3, 1) := by decide +kernel
theorem d_Mo_close_47 : decode b_Mo_close 47 = .ok (.aload_n 0, 1) := by decide +kernel
theorem d_Mo_close_48 : decode b_Mo_close 48 = .ok (.getfield 35, 3) := by decide +kernel
theorem d_Mo_close_51 : decode b_Mo_close 51 = .ok (.iload_n 3, 1) := by decide +kernel
theorem d_Mo_close_52 : decode b_Mo_close 52 = .ok (.iconst 1, 1) := by decide +kernel
theorem d_Mo_close_53 : decode b_Mo_close 53 = .ok (.iadd, 1) := by decide +kernel
theorem d_Mo_close_54 : decode b_Mo_close 54 = .ok (.iaload, 1) := by decide +kernel
theorem d_Mo_close_55 : decode b_Mo_close 55 = .ok (.iastore, 1) := by decide +kernel
theorem d_Mo_close_56 : decode b_Mo_close 56 = .ok (.iinc 3 1, 3) := by decide +kernel
theorem d_Mo_close_59 : decode b_Mo_close 59 = .ok (.goto (-47), 3) := by decide +kernel
theorem d_Mo_close_62 : decode b_Mo_close 62 = .ok (.aload_n 0, 1) := by decide +kernel
theorem d_Mo_close_63 : decode b_Mo_close 63 = .ok (.getfield 29, 3) := by decide +kernel
theorem d_Mo_close_66 : decode b_Mo_close 66 = .ok (.aload_n 0, 1) := by decide +kernel
theorem d_Mo_close_67 : decode b_Mo_close 67 = .ok (.iload_n 1, 1) := by decide +kernel
theorem d_Mo_close_68 : decode b_Mo_close 68 = .ok (.invokevirtual 68, 3) := by decide +kernel
theorem d_Mo_close_71 : decode b_Mo_close 71 = .ok (.iconst (-1), 1) := by decide +kernel
theorem d_Mo_close_72 : decode b_Mo_close 72 = .ok (.iastore, 1) := by decide +kernel
theorem d_Mo_close_73 : decode b_Mo_close 73 = .ok (.return_, 1) := by decide +kernel
theorem d_Mo_use_0 : decode b_Mo_use 0 = .ok (.iload_n 1, 1) := by decide +kernel
theorem d_Mo_use_1 : decode b_Mo_use 1 = .ok (.iconst 1, 1) := by decide +kernel
theorem d_Mo_use_2 : decode b_Mo_use 2 = .ok (.if_icmp .ne 13, 3) := by decide +kernel
theorem d_Mo_use_5 : decode b_Mo_use 5 = .ok (.aload_n 0, 1) := by decide +kernel
theorem d_Mo_use_6 : decode b_Mo_use 6 = .ok (.getfield 35, 3) := by decide +kernel
theorem d_Mo_use_9 : decode b_Mo_use 9 = .ok (.iload_n 2, 1) := by decide +kernel
theorem d_Mo_use_10 : decode b_Mo_use 10 = .ok (.aload_n 0, 1) := by decide +kernel
theorem d_Mo_use_11 : decode b_Mo_use 11 = .ok (.getfield 93, 3) := by decide +kernel
theorem d_Mo_use_14 : decode b_Mo_use 14 = .ok (.iastore, 1) := by decide +kernel
theorem d_Mo_use_15 : decode b_Mo_use 15 = .ok (.iload_n 1, 1) := by decide +kernel
theorem d_Mo_use_16 : decode b_Mo_use 16 = .ok (.iconst 4, 1) := by decide +kernel
theorem d_Mo_use_17 : decode b_Mo_use 17 = .ok (.if_icmp .ne 53, 3) := by decide +kernel
theorem d_Mo_use_20 : decode b_Mo_use 20 = .ok (.iload_n 2, 1) := by decide +kernel
theorem d_Mo_use_21 : decode b_Mo_use 21 = .ok (.iconst 1, 1) := by decide +kernel
theorem d_Mo_use_22 : decode b_Mo_use 22 = .ok (.iadd, 1) := by decide +kernel
theorem d_Mo_use_23 : decode b_Mo_use 23 = .ok (.aload_n 0, 1) := by decide +kernel
theorem d_Mo_use_24 : decode b_Mo_use 24 = .ok (.iload_n 1, 1) := by decide +kernel
theorem d_Mo_use_25 : decode b_Mo_use 25 = .ok (.invokevirtual 68, 3) := by decide +kernel
theorem d_Mo_use_28 : decode b_Mo_use 28 = .ok (.if_icmp .ge 42, 3) := by decide +kernel
theorem d_Mo_use_31 : decode b_Mo_use 31 = .ok (.aload_n 0, 1) := by decide +kernel
theorem d_Mo_use_32 : decode b_Mo_use 32 = .ok (.getfield 29, 3) := by decide +kernel
theorem d_Mo_use_35 : decode b_Mo_use 35 = .ok (.iload_n 2, 1) := by decide +kernel
theorem d_Mo_use_36 : decode b_Mo_use 36 = .ok (.iaload, 1) := by decide +kernel
theorem d_Mo_use_37 : decode b_Mo_use 37 = .ok (.istore_n 3, 1) := by decide +kernel
theorem d_Mo_use_38 : decode b_Mo_use 38 = .ok (.aload_n 0, 1) := by decide +kernel
theorem d_Mo_use_39 : decode b_Mo_use 39 = .ok (.getfield 32, 3) := by decide +kernel
theorem d_Mo_use_42 : decode b_Mo_use 42 = .ok (.iload_n 2, 1) := by decide +kernel
theorem d_Mo_use_43 : decode b_Mo_use 43 = .ok (.iaload, 1) := by decide +kernel
theorem d_Mo_use_44 : decode b_Mo_use 44 = .ok (.istore 4, 2) := by decide +kernel
theorem d_Mo_use_46 : decode b_Mo_use 46 = .ok (.aload_n 0, 1) := by decide +kernel
theorem d_Mo_use_47 : decode b_Mo_use 47 = .ok (.iload_n 1, 1) := by decide +kernel
theorem d_Mo_use_48 : decode b_Mo_use 48 = .ok (.iload_n 2, 1) := by decide +kernel
theorem d_Mo_use_49 : decode b_Mo_use 49 = .ok (.invokevirtual 96, 3) := by decide +kernel
theorem d_Mo_use_52 : decode b_Mo_use 52 = .ok (.aload_n 0, 1) := by decide +kernel
theorem d_Mo_use_53 : decode b_Mo_use 53 = .ok (.iload_n 1, 1) := by decide +kernel
theorem d_Mo_use_54 : decode b_Mo_use 54 = .ok (.aload_n 0, 1) := by decide +kernel
theorem d_Mo_use_55 : decode b_Mo_use 55 = .ok (.iload_n 1, 1) := by decide +kernel
theorem d_Mo_use_56 : decode b_Mo_use 56 = .ok (.invokevirtual 68, 3) := by decide +kernel
theorem d_Mo_use_59 : decode b_Mo_use 59 = .ok (.iload_n 3, 1) := by decide +kernel
theorem d_Mo_use_60 : decode b_Mo_use 60 = .ok (.iload 4, 2) := by decide +kernel
theorem d_Mo_use_62 : decode b_Mo_use 62 = .ok (.invokevirtual 82, 3) := by decide +kernel
theorem d_Mo_use_65 : decode b_Mo_use 65 = .ok (.aload_n 0, 1) := by decide +kernel
theorem d_Mo_use_66 : decode b_Mo_use 66 = .ok (.iload_n 1, 1) := by decide +kernel
theorem d_Mo_use_67 : decode b_Mo_use 67 = .ok (.invokevirtual 99, 3) := by decide +kernel
theorem d_Mo_use_70 : decode b_Mo_use 70 = .ok (.return_, 1) := by decide +kernel
theorem d_Mo_get_0 : decode b_Mo_get 0 = .ok (.aload_n 0, 1) := by decide +kernel
theorem d_Mo_get_1 : decode b_Mo_get 1 = .ok (.iconst 0, 1) := by decide +kernel
theorem d_Mo_get_2 : decode b_Mo_get 2 = .ok (.putfield 57, 3) := by decide +kernel
theorem d_Mo_get_5 : decode b_Mo_get 5 = .ok (.aload_n 0, 1) := by decide +kernel
theorem d_Mo_get_6 : decode b_Mo_get 6 = .ok (.iload_n 1, 1) := by decide +kernel
theorem d_Mo_get_7 : decode b_Mo_get 7 = .ok (.invokevirtual 112, 3) := by decide +kernel
theorem d_Mo_get_10 : decode b_Mo_get 10 = .ok (.ifCond .eq 12, 3) := by decide +kernel
theorem d_Mo_get_13 : decode b_Mo_get 13 = .ok (.aload_n 0, 1) := by decide +kernel
theorem d_Mo_get_14 : decode b_Mo_get 14 = .ok (.iload_n 1, 1) := by decide +kernel
theorem d_Mo_get_15 : decode b_Mo_get 15 = .ok (.iload_n 2, 1) := by decide +kernel
theorem d_Mo_get_16 : decode b_Mo_get 16 = .ok (.invokevirtual 115, 3) := by decide +kernel
theorem d_Mo_get_19 : decode b_Mo_get 19 = .ok (.ifCond .ne 9, 3) := by decide +kernel
theorem d_Mo_get_22 : decode b_Mo_get 22 = .ok (.aload_n 0, 1) := by decide +kernel
theorem d_Mo_get_23 : decode b_Mo_get 23 = .ok (.iconst 1, 1) := by decide +kernel
theorem d_Mo_get_24 : decode b_Mo_get 24 = .ok (.invokevirtual 60, 3) := by decide +kernel
theorem d_Mo_get_27 : decode b_Mo_get 27 = .ok (.ireturn, 1) := by decide +kernel
theorem d_Mo_get_28 : decode b_Mo_get 28 = .ok (.aload_n 0, 1) := by decide +kernel
theorem d_Mo_get_29 : decode b_Mo_get 29 = .ok (.dup, 1) := by decide +kernel
theorem d_Mo_get_30 : decode b_Mo_get 30 = .ok (.getfield 93, 3) := by decide +kernel
theorem d_Mo_get_33 : decode b_Mo_get 33 = .ok (.iload_n 1, 1) := by decide +kernel
theorem d_Mo_get_34 : decode b_Mo_get 34 = .ok (.iconst 1, 1) := by decide +kernel
theorem d_Mo_get_35 : decode b_Mo_get 35 = .ok (.if_icmp .ne 7, 3) := by decide +kernel
theorem d_Mo_get_38 : decode b_Mo_get 38 = .ok (.iconst 1, 1) := by decide +kernel
theorem d_Mo_get_39 : decode b_Mo_get 39 = .ok (.goto 4, 3) := by decide +kernel
theorem d_Mo_get_42 : decode b_Mo_get 42 = .ok (.iconst 0, 1) := by decide +kernel
theorem d_Mo_get_43 : decode b_Mo_get 43 = .ok (.iadd, 1) := by decide +kernel
theorem d_Mo_get_44 : decode b_Mo_get 44 = .ok (.putfield 93, 3) := by decide +kernel
theorem d_Mo_get_47 : decode b_Mo_get 47 = .ok (.aload_n 0, 1) := by decide +kernel
theorem d_Mo_get_48 : decode b_Mo_get 48 = .ok (.iload_n 1, 1) := by decide +kernel
theorem d_Mo_get_49 : decode b_Mo_get 49 = .ok (.iload_n 2, 1) := by decide +kernel
theorem d_Mo_get_50 : decode b_Mo_get 50 = .ok (.invokevirtual 119, 3) := by decide +kernel
theorem d_Mo_get_53 : decode b_Mo_get 53 = .ok (.istore_n 3, 1) := by decide +kernel
theorem d_Mo_get_54 : decode b_Mo_get 54 = .ok (.iload_n 3, 1) := by decide +kernel
theorem d_Mo_get_55 : decode b_Mo_get 55 = .ok (.ifCond .ge 5, 3) := by decide +kernel
theorem d_Mo_get_58 : decode b_Mo_get 58 = .ok (.iconst (-1), 1) := by decide +kernel
theorem d_Mo_get_59 : decode b_Mo_get 59 = .ok (.ireturn, 1) := by decide +kernel
theorem d_Mo_get_60 : decode b_Mo_get 60 = .ok (.aload_n 0, 1) := by decide +kernel
theorem d_Mo_get_61 : decode b_Mo_get 61 = .ok (.getfield 32, 3) := by decide +kernel
theorem d_Mo_get_64 : decode b_Mo_get 64 = .ok (.iload_n 3, 1) := by decide +kernel
theorem d_Mo_get_65 : decode b_Mo_get 65 = .ok (.iaload, 1) := by decide +kernel
theorem d_Mo_get_66 : decode b_Mo_get 66 = .ok (.istore 4, 2) := by decide +kernel
theorem d_Mo_get_68 : decode b_Mo_get 68 = .ok (.aload_n 0, 1) := by decide +kernel
theorem d_Mo_get_69 : decode b_Mo_get 69 = .ok (.iload_n 1, 1) := by decide +kernel
theorem d_Mo_get_70 : decode b_Mo_get 70 = .ok (.iload_n 3, 1) := by decide +kernel
theorem d_Mo_get_71 : decode b_Mo_get 71 = .ok (.invokevirtual 126, 3) := by decide +kernel
theorem d_Mo_get_74 : decode b_Mo_get 74 = .ok (.iload 4, 2) := by decide +kernel
theorem d_Mo_get_76 : decode b_Mo_get 76 = .ok (.ireturn, 1) := by decide +kernel
theorem d_Mo_remove_0 : decode b_Mo_remove 0 = .ok (.aload_n 0, 1) := by decide +kernel
theorem d_Mo_remove_1 : decode b_Mo_remove 1 = .ok (.iconst 0, 1) := by decide +kernel
theorem d_Mo_remove_2 : decode b_Mo_remove 2 = .ok (.putfield 57, 3) := by decide +kernel
theorem d_Mo_remove_5 : decode b_Mo_remove 5 = .ok (.aload_n 0, 1) := by decide +kernel
theorem d_Mo_remove_6 : decode b_Mo_remove 6 = .ok (.iload_n 1, 1) := by decide +kernel
theorem d_Mo_remove_7 : decode b_Mo_remove 7 = .ok (.invokevirtual 112, 3) := by decide +kernel
theorem d_Mo_remove_10 : decode b_Mo_remove 10 = .ok (.ifCond .eq 12, 3) := by decide +kernel
theorem d_Mo_remove_13 : decode b_Mo_remove 13 = .ok (.aload_n 0, 1) := by decide +kernel
theorem d_Mo_remove_14 : decode b_Mo_remove 14 = .ok (.iload_n 1, 1) := by decide +kernel
theorem d_Mo_remove_15 : decode b_Mo_remove 15 = .ok (.iload_n 2, 1) := by decide +kernel
theorem d_Mo_remove_16 : decode b_Mo_remove 16 = .ok (.invokevirtual 115, 3) := by decide +kernel
theorem d_Mo_remove_19 : decode b_Mo_remove 19 = .ok (.ifCond .ne 9, 3) := by decide +kernel
theorem d_Mo_remove_22 : decode b_Mo_remove 22 = .ok (.aload_n 0, 1) := by decide +kernel
theorem d_Mo_remove_23 : decode b_Mo_remove 23 = .ok (.iconst 1, 1) := by decide +kernel
theorem d_Mo_remove_24 : decode b_Mo_remove 24 = .ok (.invokevirtual 60, 3) := by decide +kernel
theorem d_Mo_remove_27 : decode b_Mo_remove 27 = .ok (.ireturn, 1) := by decide +kernel
theorem d_Mo_remove_28 : decode b_Mo_remove 28 = .ok (.aload_n 0, 1) := by decide +kernel
theorem d_Mo_remove_29 : decode b_Mo_remove 29 = .ok (.iload_n 1, 1) := by decide +kernel
theorem d_Mo_remove_30 : decode b_Mo_remove 30 = .ok (.iload_n 2, 1) := by decide +kernel
theorem d_Mo_remove_31 : decode b_Mo_remove 31 = .ok (.invokevirtual 119, 3) := by decide +kernel
theorem d_Mo_remove_34 : decode b_Mo_remove 34 = .ok (.istore_n 3, 1) := by decide +kernel
theorem d_Mo_remove_35 : decode b_Mo_remove 35 = .ok (.iload_n 3, 1) := by decide +kernel
theorem d_Mo_remove_36 : decode b_Mo_remove 36 = .ok (.ifCond .ge 5, 3) := by decide +kernel
theorem d_Mo_remove_39 : decode b_Mo_remove 39 = .ok (.iconst (-1), 1) := by decide +kernel
theorem d_Mo_remove_40 : decode b_Mo_remove 40 = .ok (.ireturn, 1) := by decide +kernel
theorem d_Mo_remove_41 : decode b_Mo_remove 41 = .ok (.aload_n 0, 1) := by decide +kernel
theorem d_Mo_remove_42 : decode b_Mo_remove 42 = .ok (.getfield 32, 3) := by decide +kernel
theorem d_Mo_remove_45 : decode b_Mo_remove 45 = .ok (.iload_n 3, 1) := by decide +kernel
theorem d_Mo_remove_46 : decode b_Mo_remove 46 = .ok (.iaload, 1) := by decide +kernel
theorem d_Mo_remove_47 : decode b_Mo_remove 47 = .ok (.istore 4, 2) := by decide +kernel
theorem d_Mo_remove_49 : decode b_Mo_remove 49 = .ok (.aload_n 0, 1) := by decide +kernel
theorem d_Mo_remove_50 : decode b_Mo_remove 50 = .ok (.iload_n 1, 1) := by decide +kernel
theorem d_Mo_remove_51 : decode b_Mo_remove 51 = .ok (.iload_n 3, 1) := by decide +kernel
theorem d_Mo_remove_52 : decode b_Mo_remove 52 = .ok (.invokevirtual 129, 3) := by decide +kernel
theorem d_Mo_remove_55 : decode b_Mo_remove 55 = .ok (.iload 4, 2) := by decide +kernel
theorem d_Mo_remove_57 : decode b_Mo_remove 57 = .ok (.ireturn, 1) := by decide +kernel
theorem d_Mo_goes_0 : decode b_Mo_goes 0 = .ok (.aload_n 0, 1) := by decide +kernel
theorem d_Mo_goes_1 : decode b_Mo_goes 1 = .ok (.iload_n 1, 1) := by decide +kernel
theorem d_Mo_goes_2 : decode b_Mo_goes 2 = .ok (.invokevirtual 99, 3) := by decide +kernel
theorem d_Mo_goes_5 : decode b_Mo_goes 5 = .ok (.iload_n 1, 1) := by decide +kernel
theorem d_Mo_goes_6 : decode b_Mo_goes 6 = .ok (.iconst 2, 1) := by decide +kernel
theorem d_Mo_goes_7 : decode b_Mo_goes 7 = .ok (.if_icmp .ne 11, 3) := by decide +kernel
theorem d_Mo_goes_10 : decode b_Mo_goes 10 = .ok (.aload_n 0, 1) := by decide +kernel
theorem d_Mo_goes_11 : decode b_Mo_goes 11 = .ok (.iload_n 2, 1) := by decide +kernel
theorem d_Mo_goes_12 : decode b_Mo_goes 12 = .ok (.invokevirtual 109, 3) := by decide +kernel
theorem d_Mo_goes_15 : decode b_Mo_goes 15 = .ok (.goto 34, 3) := by decide +kernel
theorem d_Mo_goes_18 : decode b_Mo_goes 18 = .ok (.iload_n 1, 1) := by decide +kernel
theorem d_Mo_goes_19 : decode b_Mo_goes 19 = .ok (.iconst 3, 1) := by decide +kernel
theorem d_Mo_goes_20 : decode b_Mo_goes 20 = .ok (.if_icmp .ne 23, 3) := by decide +kernel
theorem d_Mo_goes_23 : decode b_Mo_goes 23 = .ok (.aload_n 0, 1) := by decide +kernel
theorem d_Mo_goes_24 : decode b_Mo_goes 24 = .ok (.getfield 29, 3) := by decide +kernel
theorem d_Mo_goes_27 : decode b_Mo_goes 27 = .ok (.iload_n 2, 1) := by decide +kernel
theorem d_Mo_goes_28 : decode b_Mo_goes 28 = .ok (.iconst (-1), 1) := by decide +kernel
theorem d_Mo_goes_29 : decode b_Mo_goes 29 = .ok (.iastore, 1) := by decide +kernel
theorem d_Mo_goes_30 : decode b_Mo_goes 30 = .ok (.aload_n 0, 1) := by decide +kernel
theorem d_Mo_goes_31 : decode b_Mo_goes 31 = .ok (.getfield 38, 3) := by decide +kernel
theorem d_Mo_goes_34 : decode b_Mo_goes 34 = .ok (.iconst 3, 1) := by decide +kernel
theorem d_Mo_goes_35 : decode b_Mo_goes 35 = .ok (.dup2, 1) := by decide +kernel
theorem d_Mo_goes_36 : decode b_Mo_goes 36 = .ok (.iaload, 1) := by decide +kernel
theorem d_Mo_goes_37 : decode b_Mo_goes 37 = .ok (.iconst 1, 1) := by decide +kernel
theorem d_Mo_goes_38 : decode b_Mo_goes 38 = .ok (.isub, 1) := by decide +kernel
theorem d_Mo_goes_39 : decode b_Mo_goes 39 = .ok (.iastore, 1) := by decide +kernel
theorem d_Mo_goes_40 : decode b_Mo_goes 40 = .ok (.goto 9, 3) := by decide +kernel
theorem d_Mo_goes_43 : decode b_Mo_goes 43 = .ok (.aload_n 0, 1) := by decide +kernel
theorem d_Mo_goes_44 : decode b_Mo_goes 44 = .ok (.iload_n 1, 1) := by decide +kernel
theorem d_Mo_goes_45 : decode b_Mo_goes 45 = .ok (.iload_n 2, 1) := by decide +kernel
theorem d_Mo_goes_46 : decode b_Mo_goes 46 = .ok (.invokevirtual 96, 3) := by decide +kernel
theorem d_Mo_goes_49 : decode b_Mo_goes 49 = .ok (.return_, 1) := by decide +kernel
theorem d_Mo_takeIdentity_0 : decode b_Mo_takeIdentity 0 = .ok (.iload_n 1, 1) := by decide +kernel
theorem d_Mo_takeIdentity_1 : decode b_Mo_takeIdentity 1 = .ok (.bipush 64, 2) := by decide +kernel
theorem d_Mo_takeIdentity_3 : decode b_Mo_takeIdentity 3 = .ok (.isub, 1) := by decide +kernel
theorem d_Mo_takeIdentity_4 : decode b_Mo_takeIdentity 4 = .ok (.istore_n 2, 1) := by decide +kernel
theorem d_Mo_takeIdentity_5 : decode b_Mo_takeIdentity 5 = .ok (.aload_n 0, 1) := by decide +kernel
theorem d_Mo_takeIdentity_6 : decode b_Mo_takeIdentity 6 = .ok (.getfield 29, 3) := by decide +kernel
theorem d_Mo_takeIdentity_9 : decode b_Mo_takeIdentity 9 = .ok (.iload_n 1, 1) := by decide +kernel
theorem d_Mo_takeIdentity_10 : decode b_Mo_takeIdentity 10 = .ok (.iconst (-1), 1) := by decide +kernel
theorem d_Mo_takeIdentity_11 : decode b_Mo_takeIdentity 11 = .ok (.iastore, 1) := by decide +kernel
theorem d_Mo_takeIdentity_12 : decode b_Mo_takeIdentity 12 = .ok (.aload_n 0, 1) := by decide +kernel
theorem d_Mo_takeIdentity_13 : decode b_Mo_takeIdentity 13 = .ok (.getfield 38, 3) := by decide +kernel
theorem d_Mo_takeIdentity_16 : decode b_Mo_takeIdentity 16 = .ok (.iconst 2, 1) := by decide +kernel
theorem d_Mo_takeIdentity_17 : decode b_Mo_takeIdentity 17 = .ok (.dup2, 1) := by decide +kernel
theorem d_Mo_takeIdentity_18 : decode b_Mo_takeIdentity 18 = .ok (.iaload, 1) := by decide +kernel
theorem d_Mo_takeIdentity_19 : decode b_Mo_takeIdentity 19 = .ok (.iconst 1, 1) := by decide +kernel
theorem d_Mo_takeIdentity_20 : decode b_Mo_takeIdentity 20 = .ok (.isub, 1) := by decide +kernel
theorem d_Mo_takeIdentity_21 : decode b_Mo_takeIdentity 21 = .ok (.iastore, 1) := by decide +kernel
theorem d_Mo_takeIdentity_22 : decode b_Mo_takeIdentity 22 = .ok (.iload_n 2, 1) := by decide +kernel
theorem d_Mo_takeIdentity_23 : decode b_Mo_takeIdentity 23 = .ok (.iconst 1, 1) := by decide +kernel
theorem d_Mo_takeIdentity_24 : decode b_Mo_takeIdentity 24 = .ok (.iadd, 1) := by decide +kernel
theorem d_Mo_takeIdentity_25 : decode b_Mo_takeIdentity 25 = .ok (.bipush 16, 2) := by decide +kernel
theorem d_Mo_takeIdentity_27 : decode b_Mo_takeIdentity 27 = .ok (.irem, 1) := by decide +kernel
theorem d_Mo_takeIdentity_28 : decode b_Mo_takeIdentity 28 = .ok (.istore_n 3, 1) := by decide +kernel
theorem d_Mo_takeIdentity_29 : decode b_Mo_takeIdentity 29 = .ok (.aload_n 0, 1) := by decide +kernel
theorem d_Mo_takeIdentity_30 : decode b_Mo_takeIdentity 30 = .ok (.getfield 29, 3) := by decide +kernel
theorem d_Mo_takeIdentity_33 : decode b_Mo_takeIdentity 33 = .ok (.bipush 64, 2) := by decide +kernel
theorem d_Mo_takeIdentity_35 : decode b_Mo_takeIdentity 35 = .ok (.iload_n 3, 1) := by decide +kernel
theorem d_Mo_takeIdentity_36 : decode b_Mo_takeIdentity 36 = .ok (.iadd, 1) := by decide +kernel
theorem d_Mo_takeIdentity_37 : decode b_Mo_takeIdentity 37 = .ok (.iaload, 1) := by decide +kernel
theorem d_Mo_takeIdentity_38 : decode b_Mo_takeIdentity 38 = .ok (.ifCond .lt 100, 3) := by decide +kernel
theorem d_Mo_takeIdentity_41 : decode b_Mo_takeIdentity 41 = .ok (.aload_n 0, 1) := by decide +kernel
theorem d_Mo_takeIdentity_42 : decode b_Mo_takeIdentity 42 = .ok (.getfield 29, 3) := by decide +kernel
theorem d_Mo_takeIdentity_45 : decode b_Mo_takeIdentity 45 = .ok (.bipush 64, 2) := by decide +kernel
theorem d_Mo_takeIdentity_47 : decode b_Mo_takeIdentity 47 = .ok (.iload_n 3, 1) := by decide +kernel
theorem d_Mo_takeIdentity_48 : decode b_Mo_takeIdentity 48 = .ok (.iadd, 1) := by decide +kernel
theorem d_Mo_takeIdentity_49 : decode b_Mo_takeIdentity 49 = .ok (.iaload, 1) := by decide +kernel
theorem d_Mo_takeIdentity_50 : decode b_Mo_takeIdentity 50 = .ok (.invokestatic 90, 3) := by decide +kernel
theorem d_Mo_takeIdentity_53 : decode b_Mo_takeIdentity 53 = .ok (.istore 4, 2) := by decide +kernel
theorem d_Mo_takeIdentity_55 : decode b_Mo_takeIdentity 55 = .ok (.iload 4, 2) := by decide +kernel
theorem d_Mo_takeIdentity_57 : decode b_Mo_takeIdentity 57 = .ok (.iload_n 2, 1) := by decide +kernel
theorem d_Mo_takeIdentity_58 : decode b_Mo_takeIdentity 58 = .ok (.isub, 1) := by decide +kernel
theorem d_Mo_takeIdentity_59 : decode b_Mo_takeIdentity 59 = .ok (.bipush 16, 2) := by decide +kernel
theorem d_Mo_takeIdentity_61 : decode b_Mo_takeIdentity 61 = .ok (.iadd, 1) := by decide +kernel
theorem d_Mo_takeIdentity_62 : decode b_Mo_takeIdentity 62 = .ok (.bipush 16, 2) := by decide +kernel
theorem d_Mo_takeIdentity_64 : decode b_Mo_takeIdentity 64 = .ok (.irem, 1) := by decide +kernel
theorem d_Mo_takeIdentity_65 : decode b_Mo_takeIdentity 65 = .ok (.istore 5, 2) := by decide +kernel
theorem d_Mo_takeIdentity_67 : decode b_Mo_takeIdentity 67 = .ok (.iload_n 3, 1) := by decide +kernel
theorem d_Mo_takeIdentity_68 : decode b_Mo_takeIdentity 68 = .ok (.iload_n 2, 1) := by decide +kernel
theorem d_Mo_takeIdentity_69 : decode b_Mo_takeIdentity 69 = .ok (.isub, 1) := by decide +kernel
theorem d_Mo_takeIdentity_70 : decode b_Mo_takeIdentity 70 = .ok (.bipush 16, 2) := by decide +kernel
theorem d_Mo_takeIdentity_72 : decode b_Mo_takeIdentity 72 = .ok (.iadd, 1) := by decide +kernel
theorem d_Mo_takeIdentity_73 : decode b_Mo_takeIdentity 73 = .ok (.bipush 16, 2) := by decide +kernel
theorem d_Mo_takeIdentity_75 : decode b_Mo_takeIdentity 75 = .ok (.irem, 1) := by decide +kernel
theorem d_Mo_takeIdentity_76 : decode b_Mo_takeIdentity 76 = .ok (.istore 6, 2) := by decide +kernel
theorem d_Mo_takeIdentity_78 : decode b_Mo_takeIdentity 78 = .ok (.iload 5, 2) := by decide +kernel
theorem d_Mo_takeIdentity_80 : decode b_Mo_takeIdentity 80 = .ok (.ifCond .eq 10, 3) := by decide +kernel
theorem d_Mo_takeIdentity_83 : decode b_Mo_takeIdentity 83 = .ok (.iload 5, 2) := by decide +kernel
theorem d_Mo_takeIdentity_85 : decode b_Mo_takeIdentity 85 = .ok (.iload 6, 2) := by decide +kernel
theorem d_Mo_takeIdentity_87 : decode b_Mo_takeIdentity 87 = .ok (.if_icmp .le 41, 3) := by decide +kernel
theorem d_Mo_takeIdentity_90 : decode b_Mo_takeIdentity 90 = .ok (.aload_n 0, 1) := by decide +kernel
theorem d_Mo_takeIdentity_91 : decode b_Mo_takeIdentity 91 = .ok (.bipush 64, 2) := by decide +kernel
theorem d_Mo_takeIdentity_93 : decode b_Mo_takeIdentity 93 = .ok (.iload_n 2, 1) := by decide +kernel
theorem d_Mo_takeIdentity_94 : decode b_Mo_takeIdentity 94 = .ok (.iadd, 1) := by decide +kernel
theorem d_Mo_takeIdentity_95 : decode b_Mo_takeIdentity 95 = .ok (.aload_n 0, 1) := by decide +kernel
theorem d_Mo_takeIdentity_96 : decode b_Mo_takeIdentity 96 = .ok (.getfield 29, 3) := by decide +kernel
theorem d_Mo_takeIdentity_99 : decode b_Mo_takeIdentity 99 = .ok (.bipush 64, 2) := by decide +kernel
theorem d_Mo_takeIdentity_101 : decode b_Mo_takeIdentity 101 = .ok (.iload_n 3, 1) := by decide +kernel
theorem d_Mo_takeIdentity_102 : decode b_Mo_takeIdentity 102 = .ok (.iadd, 1) := by decide +kernel
theorem d_Mo_takeIdentity_103 : decode b_Mo_takeIdentity 103 = .ok (.iaload, 1) := by decide +kernel
theorem d_Mo_takeIdentity_104 : decode b_Mo_takeIdentity 104 = .ok (.aload_n 0, 1) := by decide +kernel
theorem d_Mo_takeIdentity_105 : decode b_Mo_takeIdentity 105 = .ok (.getfield 32, 3) := by decide +kernel
theorem d_Mo_takeIdentity_108 : decode b_Mo_takeIdentity 108 = .ok (.bipush 64, 2) := by decide +kernel
theorem d_Mo_takeIdentity_110 : decode b_Mo_takeIdentity 110 = .ok (.iload_n 3, 1) := by decide +kernel
theorem d_Mo_takeIdentity_111 : decode b_Mo_takeIdentity 111 = .ok (.iadd, 1) := by decide +kernel
theorem d_Mo_takeIdentity_112 : decode b_Mo_takeIdentity 112 = .ok (.iaload, 1) := by decide +kernel
theorem d_Mo_takeIdentity_113 : decode b_Mo_takeIdentity 113 = .ok (.invokevirtual 75, 3) := by decide +kernel
theorem d_Mo_takeIdentity_116 : decode b_Mo_takeIdentity 116 = .ok (.aload_n 0, 1) := by decide +kernel
theorem d_Mo_takeIdentity_117 : decode b_Mo_takeIdentity 117 = .ok (.getfield 29, 3) := by decide +kernel
theorem d_Mo_takeIdentity_120 : decode b_Mo_takeIdentity 120 = .ok (.bipush 64, 2) := by decide +kernel
theorem d_Mo_takeIdentity_122 : decode b_Mo_takeIdentity 122 = .ok (.iload_n 3, 1) := by decide +kernel
theorem d_Mo_takeIdentity_123 : decode b_Mo_takeIdentity 123 = .ok (.iadd, 1) := by decide +kernel
theorem d_Mo_takeIdentity_124 : decode b_Mo_takeIdentity 124 = .ok (.iconst (-1), 1) := by decide +kernel
theorem d_Mo_takeIdentity_125 : decode b_Mo_takeIdentity 125 = .ok (.iastore, 1) := by decide +kernel
theorem d_Mo_takeIdentity_126 : decode b_Mo_takeIdentity 126 = .ok (.iload_n 3, 1) := by decide +kernel
theorem d_Mo_takeIdentity_127 : decode b_Mo_takeIdentity 127 = .ok (.istore_n 2, 1) := by decide +kernel
theorem d_Mo_takeIdentity_128 : decode b_Mo_takeIdentity 128 = .ok (.iload_n 3, 1) := by decide +kernel
theorem d_Mo_takeIdentity_129 : decode b_Mo_takeIdentity 129 = .ok (.iconst 1, 1) := by decide +kernel
theorem d_Mo_takeIdentity_130 : decode b_Mo_takeIdentity 130 = .ok (.iadd, 1) := by decide +kernel
theorem d_Mo_takeIdentity_131 : decode b_Mo_takeIdentity 131 = .ok (.bipush 16, 2) := by decide +kernel
theorem d_Mo_takeIdentity_133 : decode b_Mo_takeIdentity 133 = .ok (.irem, 1) := by decide +kernel
theorem d_Mo_takeIdentity_134 : decode b_Mo_takeIdentity 134 = .ok (.istore_n 3, 1) := by decide +kernel
theorem d_Mo_takeIdentity_135 : decode b_Mo_takeIdentity 135 = .ok (.goto (-106), 3) := by decide +kernel
theorem d_Mo_takeIdentity_138 : decode b_Mo_takeIdentity 138 = .ok (.return_, 1) := by decide +kernel
theorem d_Mo_size_0 : decode b_Mo_size 0 = .ok (.aload_n 0, 1) := by decide +kernel
theorem d_Mo_size_1 : decode b_Mo_size 1 = .ok (.iconst 0, 1) := by decide +kernel
theorem d_Mo_size_2 : decode b_Mo_size 2 = .ok (.putfield 57, 3) := by decide +kernel
theorem d_Mo_size_5 : decode b_Mo_size 5 = .ok (.aload_n 0, 1) := by decide +kernel
theorem d_Mo_size_6 : decode b_Mo_size 6 = .ok (.iload_n 1, 1) := by decide +kernel
theorem d_Mo_size_7 : decode b_Mo_size 7 = .ok (.invokevirtual 112, 3) := by decide +kernel
theorem d_Mo_size_10 : decode b_Mo_size 10 = .ok (.ifCond .eq 12, 3) := by decide +kernel
theorem d_Mo_size_13 : decode b_Mo_size 13 = .ok (.aload_n 0, 1) := by decide +kernel
theorem d_Mo_size_14 : decode b_Mo_size 14 = .ok (.getfield 38, 3) := by decide +kernel
theorem d_Mo_size_17 : decode b_Mo_size 17 = .ok (.iload_n 1, 1) := by decide +kernel
theorem d_Mo_size_18 : decode b_Mo_size 18 = .ok (.iaload, 1) := by decide +kernel
theorem d_Mo_size_19 : decode b_Mo_size 19 = .ok (.goto 4, 3) := by decide +kernel
theorem d_Mo_size_22 : decode b_Mo_size 22 = .ok (.iconst (-1), 1) := by decide +kernel
theorem d_Mo_size_23 : decode b_Mo_size 23 = .ok (.ireturn, 1) := by decide +kernel
theorem d_Mo_entry_0 : decode b_Mo_entry 0 = .ok (.aload_n 0, 1) := by decide +kernel
theorem d_Mo_entry_1 : decode b_Mo_entry 1 = .ok (.iconst 0, 1) := by decide +kernel
theorem d_Mo_entry_2 : decode b_Mo_entry 2 = .ok (.putfield 57, 3) := by decide +kernel
theorem d_Mo_entry_5 : decode b_Mo_entry 5 = .ok (.aload_n 0, 1) := by decide +kernel
theorem d_Mo_entry_6 : decode b_Mo_entry 6 = .ok (.iload_n 1, 1) := by decide +kernel
theorem d_Mo_entry_7 : decode b_Mo_entry 7 = .ok (.invokevirtual 112, 3) := by decide +kernel
theorem d_Mo_entry_10 : decode b_Mo_entry 10 = .ok (.ifCond .eq 26, 3) := by decide +kernel
theorem d_Mo_entry_13 : decode b_Mo_entry 13 = .ok (.iload_n 2, 1) := by decide +kernel
theorem d_Mo_entry_14 : decode b_Mo_entry 14 = .ok (.ifCond .lt 22, 3) := by decide +kernel
theorem d_Mo_entry_17 : decode b_Mo_entry 17 = .ok (.iload_n 2, 1) := by decide +kernel
theorem d_Mo_entry_18 : decode b_Mo_entry 18 = .ok (.aload_n 0, 1) := by decide +kernel
theorem d_Mo_entry_19 : decode b_Mo_entry 19 = .ok (.getfield 38, 3) := by decide +kernel
theorem d_Mo_entry_22 : decode b_Mo_entry 22 = .ok (.iload_n 1, 1) := by decide +kernel
theorem d_Mo_entry_23 : decode b_Mo_entry 23 = .ok (.iaload, 1) := by decide +kernel
theorem d_Mo_entry_24 : decode b_Mo_entry 24 = .ok (.if_icmp .ge 12, 3) := by decide +kernel
theorem d_Mo_entry_27 : decode b_Mo_entry 27 = .ok (.iload_n 3, 1) := by decide +kernel
theorem d_Mo_entry_28 : decode b_Mo_entry 28 = .ok (.ifCond .lt 8, 3) := by decide +kernel
theorem d_Mo_entry_31 : decode b_Mo_entry 31 = .ok (.iload_n 3, 1) := by decide +kernel
theorem d_Mo_entry_32 : decode b_Mo_entry 32 = .ok (.iconst 1, 1) := by decide +kernel
theorem d_Mo_entry_33 : decode b_Mo_entry 33 = .ok (.if_icmp .le 9, 3) := by decide +kernel
theorem d_Mo_entry_36 : decode b_Mo_entry 36 = .ok (.aload_n 0, 1) := by decide +kernel
theorem d_Mo_entry_37 : decode b_Mo_entry 37 = .ok (.iconst 1, 1) := by decide +kernel
theorem d_Mo_entry_38 : decode b_Mo_entry 38 = .ok (.invokevirtual 60, 3) := by decide +kernel
theorem d_Mo_entry_41 : decode b_Mo_entry 41 = .ok (.ireturn, 1) := by decide +kernel
theorem d_Mo_entry_42 : decode b_Mo_entry 42 = .ok (.aload_n 0, 1) := by decide +kernel
theorem d_Mo_entry_43 : decode b_Mo_entry 43 = .ok (.iload_n 1, 1) := by decide +kernel
theorem d_Mo_entry_44 : decode b_Mo_entry 44 = .ok (.iload_n 2, 1) := by decide +kernel
theorem d_Mo_entry_45 : decode b_Mo_entry 45 = .ok (.invokevirtual 132, 3) := by decide +kernel
theorem d_Mo_entry_48 : decode b_Mo_entry 48 = .ok (.istore 4, 2) := by decide +kernel
theorem d_Mo_entry_50 : decode b_Mo_entry 50 = .ok (.iload_n 3, 1) := by decide +kernel
theorem d_Mo_entry_51 : decode b_Mo_entry 51 = .ok (.ifCond .ne 13, 3) := by decide +kernel
theorem d_Mo_entry_54 : decode b_Mo_entry 54 = .ok (.aload_n 0, 1) := by decide +kernel
theorem d_Mo_entry_55 : decode b_Mo_entry 55 = .ok (.getfield 29, 3) := by decide +kernel
theorem d_Mo_entry_58 : decode b_Mo_entry 58 = .ok (.iload 4, 2) := by decide +kernel
theorem d_Mo_entry_60 : decode b_Mo_entry 60 = .ok (.iaload, 1) := by decide +kernel
theorem d_Mo_entry_61 : decode b_Mo_entry 61 = .ok (.goto 10, 3) := by decide +kernel
theorem d_Mo_entry_64 : decode b_Mo_entry 64 = .ok (.aload_n 0, 1) := by decide +kernel
theorem d_Mo_entry_65 : decode b_Mo_entry 65 = .ok (.getfield 32, 3) := by decide +kernel
theorem d_Mo_entry_68 : decode b_Mo_entry 68 = .ok (.iload 4, 2) := by decide +kernel
theorem d_Mo_entry_70 : decode b_Mo_entry 70 = .ok (.iaload, 1) := by decide +kernel
theorem d_Mo_entry_71 : decode b_Mo_entry 71 = .ok (.ireturn, 1) := by decide +kernel
theorem d_Mo_placeOf_0 : decode b_Mo_placeOf 0 = .ok (.iconst (-1), 1) := by decide +kernel
theorem d_Mo_placeOf_1 : decode b_Mo_placeOf 1 = .ok (.istore_n 3, 1) := by decide +kernel
theorem d_Mo_placeOf_2 : decode b_Mo_placeOf 2 = .ok (.bipush 32, 2) := by decide +kernel
theorem d_Mo_placeOf_4 : decode b_Mo_placeOf 4 = .ok (.iload_n 1, 1) := by decide +kernel
theorem d_Mo_placeOf_5 : decode b_Mo_placeOf 5 = .ok (.imul, 1) := by decide +kernel
theorem d_Mo_placeOf_6 : decode b_Mo_placeOf 6 = .ok (.iconst 1, 1) := by decide +kernel
theorem d_Mo_placeOf_7 : decode b_Mo_placeOf 7 = .ok (.isub, 1) := by decide +kernel
theorem d_Mo_placeOf_8 : decode b_Mo_placeOf 8 = .ok (.istore 4, 2) := by decide +kernel
theorem d_Mo_placeOf_10 : decode b_Mo_placeOf 10 = .ok (.iload_n 3, 1) := by decide +kernel
theorem d_Mo_placeOf_11 : decode b_Mo_placeOf 11 = .ok (.iload_n 2, 1) := by decide +kernel
theorem d_Mo_placeOf_12 : decode b_Mo_placeOf 12 = .ok (.if_icmp .ge 27, 3) := by decide +kernel
theorem d_Mo_placeOf_15 : decode b_Mo_placeOf 15 = .ok (.iinc 4 1, 3) := by decide +kernel
theorem d_Mo_placeOf_18 : decode b_Mo_placeOf 18 = .ok (.iload_n 3, 1) := by decide +kernel
theorem d_Mo_placeOf_19 : decode b_Mo_placeOf 19 = .ok (.aload_n 0, 1) := by decide +kernel
theorem d_Mo_placeOf_20 : decode b_Mo_placeOf 20 = .ok (.getfield 29, 3) := by decide +kernel
theorem d_Mo_placeOf_23 : decode b_Mo_placeOf 23 = .ok (.iload 4, 2) := by decide +kernel
theorem d_Mo_placeOf_25 : decode b_Mo_placeOf 25 = .ok (.iaload, 1) := by decide +kernel
theorem d_Mo_placeOf_26 : decode b_Mo_placeOf 26 = .ok (.ifCond .lt 7, 3) := by decide +kernel
theorem d_Mo_placeOf_29 : decode b_Mo_placeOf 29 = .ok (.iconst 1, 1) := by decide +kernel
theorem d_Mo_placeOf_30 : decode b_Mo_placeOf 30 = .ok (.goto 4, 3) := by decide +kernel
theorem d_Mo_placeOf_33 : decode b_Mo_placeOf 33 = .ok (.iconst 0, 1) := by decide +kernel
theorem d_Mo_placeOf_34 : decode b_Mo_placeOf 34 = .ok (.iadd, 1) := by decide +kernel
theorem d_Mo_placeOf_35 : decode b_Mo_placeOf 35 = .ok (.istore_n 3, 1) := by decide +kernel
theorem d_Mo_placeOf_36 : decode b_Mo_placeOf 36 = .ok (.goto (-26), 3) := by decide +kernel
theorem d_Mo_placeOf_39 : decode b_Mo_placeOf 39 = .ok (.iload 4, 2) := by decide +kernel
theorem d_Mo_placeOf_41 : decode b_Mo_placeOf 41 = .ok (.ireturn, 1) := by decide +kernel
theorem d_Mo_walk_0 : decode b_Mo_walk 0 = .ok (.aload_n 0, 1) := by decide +kernel
theorem d_Mo_walk_1 : decode b_Mo_walk 1 = .ok (.aload_n 0, 1) := by decide +kernel
theorem d_Mo_walk_2 : decode b_Mo_walk 2 = .ok (.iload_n 1, 1) := by decide +kernel
theorem d_Mo_walk_3 : decode b_Mo_walk 3 = .ok (.invokevirtual 112, 3) := by decide +kernel
theorem d_Mo_walk_6 : decode b_Mo_walk 6 = .ok (.ifCond .eq 7, 3) := by decide +kernel
theorem d_Mo_walk_9 : decode b_Mo_walk 9 = .ok (.iconst 0, 1) := by decide +kernel
theorem d_Mo_walk_10 : decode b_Mo_walk 10 = .ok (.goto 4, 3) := by decide +kernel
theorem d_Mo_walk_13 : decode b_Mo_walk 13 = .ok (.iconst 1, 1) := by decide +kernel
theorem d_Mo_walk_14 : decode b_Mo_walk 14 = .ok (.putfield 57, 3) := by decide +kernel
theorem d_Mo_walk_17 : decode b_Mo_walk 17 = .ok (.aload_n 0, 1) := by decide +kernel
theorem d_Mo_walk_18 : decode b_Mo_walk 18 = .ok (.getfield 57, 3) := by decide +kernel
theorem d_Mo_walk_21 : decode b_Mo_walk 21 = .ok (.ifCond .eq 4, 3) := by decide +kernel
theorem d_Mo_walk_24 : decode b_Mo_walk 24 = .ok (.return_, 1) := by decide +kernel
theorem d_Mo_walk_25 : decode b_Mo_walk 25 = .ok (.aload_n 0, 1) := by decide +kernel
theorem d_Mo_walk_26 : decode b_Mo_walk 26 = .ok (.getfield 48, 3) := by decide +kernel
theorem d_Mo_walk_29 : decode b_Mo_walk 29 = .ok (.iload_n 1, 1) := by decide +kernel
theorem d_Mo_walk_30 : decode b_Mo_walk 30 = .ok (.iconst 1, 1) := by decide +kernel
theorem d_Mo_walk_31 : decode b_Mo_walk 31 = .ok (.bastore, 1) := by decide +kernel
theorem d_Mo_walk_32 : decode b_Mo_walk 32 = .ok (.aload_n 0, 1) := by decide +kernel
theorem d_Mo_walk_33 : decode b_Mo_walk 33 = .ok (.getfield 51, 3) := by decide +kernel
theorem d_Mo_walk_36 : decode b_Mo_walk 36 = .ok (.iload_n 1, 1) := by decide +kernel
theorem d_Mo_walk_37 : decode b_Mo_walk 37 = .ok (.iconst 0, 1) := by decide +kernel
theorem d_Mo_walk_38 : decode b_Mo_walk 38 = .ok (.bastore, 1) := by decide +kernel
theorem d_Mo_walk_39 : decode b_Mo_walk 39 = .ok (.aload_n 0, 1) := by decide +kernel
theorem d_Mo_walk_40 : decode b_Mo_walk 40 = .ok (.getfield 54, 3) := by decide +kernel
theorem d_Mo_walk_43 : decode b_Mo_walk 43 = .ok (.iload_n 1, 1) := by decide +kernel
theorem d_Mo_walk_44 : decode b_Mo_walk 44 = .ok (.iconst 0, 1) := by decide +kernel
theorem d_Mo_walk_45 : decode b_Mo_walk 45 = .ok (.iastore, 1) := by decide +kernel
theorem d_Mo_walk_46 : decode b_Mo_walk 46 = .ok (.return_, 1) := by decide +kernel
theorem d_Mo_step_0 : decode b_Mo_step 0 = .ok (.aload_n 0, 1) := by decide +kernel
theorem d_Mo_step_1 : decode b_Mo_step 1 = .ok (.iconst 0, 1) := by decide +kernel
theorem d_Mo_step_2 : decode b_Mo_step 2 = .ok (.putfield 57, 3) := by decide +kernel
theorem d_Mo_step_5 : decode b_Mo_step 5 = .ok (.aload_n 0, 1) := by decide +kernel
theorem d_Mo_step_6 : decode b_Mo_step 6 = .ok (.iload_n 1, 1) := by decide +kernel
theorem d_Mo_step_7 : decode b_Mo_step 7 = .ok (.invokevirtual 112, 3) := by decide +kernel
theorem d_Mo_step_10 : decode b_Mo_step 10 = .ok (.ifCond .eq 12, 3) := by decide +kernel
theorem d_Mo_step_13 : decode b_Mo_step 13 = .ok (.aload_n 0, 1) := by decide +kernel
theorem d_Mo_step_14 : decode b_Mo_step 14 = .ok (.getfield 48, 3) := by decide +kernel
theorem d_Mo_step_17 : decode b_Mo_step 17 = .ok (.iload_n 1, 1) := by decide +kernel
theorem d_Mo_step_18 : decode b_Mo_step 18 = .ok (.baload, 1) := by decide +kernel
theorem d_Mo_step_19 : decode b_Mo_step 19 = .ok (.ifCond .ne 9, 3) := by decide +kernel
theorem d_Mo_step_22 : decode b_Mo_step 22 = .ok (.aload_n 0, 1) := by decide +kernel
theorem d_Mo_step_23 : decode b_Mo_step 23 = .ok (.iconst 1, 1) := by decide +kernel
theorem d_Mo_step_24 : decode b_Mo_step 24 = .ok (.invokevirtual 60, 3) := by decide +kernel
theorem d_Mo_step_27 : decode b_Mo_step 27 = .ok (.ireturn, 1) := by decide +kernel
theorem d_Mo_step_28 : decode b_Mo_step 28 = .ok (.aload_n 0, 1) := by decide +kernel
theorem d_Mo_step_29 : decode b_Mo_step 29 = .ok (.getfield 51, 3) := by decide +kernel
theorem d_Mo_step_32 : decode b_Mo_step 32 = .ok (.iload_n 1, 1) := by decide +kernel
theorem d_Mo_step_33 : decode b_Mo_step 33 = .ok (.baload, 1) := by decide +kernel
theorem d_Mo_step_34 : decode b_Mo_step 34 = .ok (.ifCond .eq 9, 3) := by decide +kernel
theorem d_Mo_step_37 : decode b_Mo_step 37 = .ok (.aload_n 0, 1) := by decide +kernel
theorem d_Mo_step_38 : decode b_Mo_step 38 = .ok (.iconst 2, 1) := by decide +kernel
theorem d_Mo_step_39 : decode b_Mo_step 39 = .ok (.invokevirtual 60, 3) := by decide +kernel
theorem d_Mo_step_42 : decode b_Mo_step 42 = .ok (.ireturn, 1) := by decide +kernel
theorem d_Mo_step_43 : decode b_Mo_step 43 = .ok (.aload_n 0, 1) := by decide +kernel
theorem d_Mo_step_44 : decode b_Mo_step 44 = .ok (.getfield 54, 3) := by decide +kernel
theorem d_Mo_step_47 : decode b_Mo_step 47 = .ok (.iload_n 1, 1) := by decide +kernel
theorem d_Mo_step_48 : decode b_Mo_step 48 = .ok (.iaload, 1) := by decide +kernel
theorem d_Mo_step_49 : decode b_Mo_step 49 = .ok (.aload_n 0, 1) := by decide +kernel
theorem d_Mo_step_50 : decode b_Mo_step 50 = .ok (.getfield 38, 3) := by decide +kernel
theorem d_Mo_step_53 : decode b_Mo_step 53 = .ok (.iload_n 1, 1) := by decide +kernel
theorem d_Mo_step_54 : decode b_Mo_step 54 = .ok (.iaload, 1) := by decide +kernel
theorem d_Mo_step_55 : decode b_Mo_step 55 = .ok (.if_icmp .lt 9, 3) := by decide +kernel
theorem d_Mo_step_58 : decode b_Mo_step 58 = .ok (.aload_n 0, 1) := by decide +kernel
theorem d_Mo_step_59 : decode b_Mo_step 59 = .ok (.iconst 3, 1) := by decide +kernel
theorem d_Mo_step_60 : decode b_Mo_step 60 = .ok (.invokevirtual 60, 3) := by decide +kernel
theorem d_Mo_step_63 : decode b_Mo_step 63 = .ok (.ireturn, 1) := by decide +kernel
theorem d_Mo_step_64 : decode b_Mo_step 64 = .ok (.aload_n 0, 1) := by decide +kernel
theorem d_Mo_step_65 : decode b_Mo_step 65 = .ok (.getfield 54, 3) := by decide +kernel
theorem d_Mo_step_68 : decode b_Mo_step 68 = .ok (.iload_n 1, 1) := by decide +kernel
theorem d_Mo_step_69 : decode b_Mo_step 69 = .ok (.dup2, 1) := by decide +kernel
theorem d_Mo_step_70 : decode b_Mo_step 70 = .ok (.iaload, 1) := by decide +kernel
theorem d_Mo_step_71 : decode b_Mo_step 71 = .ok (.iconst 1, 1) := by decide +kernel
theorem d_Mo_step_72 : decode b_Mo_step 72 = .ok (.iadd, 1) := by decide +kernel
theorem d_Mo_step_73 : decode b_Mo_step 73 = .ok (.iastore, 1) := by decide +kernel
theorem d_Mo_step_74 : decode b_Mo_step 74 = .ok (.aload_n 0, 1) := by decide +kernel
theorem d_Mo_step_75 : decode b_Mo_step 75 = .ok (.getfield 29, 3) := by decide +kernel
theorem d_Mo_step_78 : decode b_Mo_step 78 = .ok (.aload_n 0, 1) := by decide +kernel
theorem d_Mo_step_79 : decode b_Mo_step 79 = .ok (.iload_n 1, 1) := by decide +kernel
theorem d_Mo_step_80 : decode b_Mo_step 80 = .ok (.aload_n 0, 1) := by decide +kernel
theorem d_Mo_step_81 : decode b_Mo_step 81 = .ok (.getfield 54, 3) := by decide +kernel
theorem d_Mo_step_84 : decode b_Mo_step 84 = .ok (.iload_n 1, 1) := by decide +kernel
theorem d_Mo_step_85 : decode b_Mo_step 85 = .ok (.iaload, 1) := by decide +kernel
theorem d_Mo_step_86 : decode b_Mo_step 86 = .ok (.iconst 1, 1) := by decide +kernel
theorem d_Mo_step_87 : decode b_Mo_step 87 = .ok (.isub, 1) := by decide +kernel
theorem d_Mo_step_88 : decode b_Mo_step 88 = .ok (.invokevirtual 132, 3) := by decide +kernel
theorem d_Mo_step_91 : decode b_Mo_step 91 = .ok (.iaload, 1) := by decide +kernel
theorem d_Mo_step_92 : decode b_Mo_step 92 = .ok (.ireturn, 1) := by decide +kernel
theorem d_Mo_collect_0 : decode b_Mo_collect 0 = .ok (.aload_n 0, 1) := by decide +kernel
theorem d_Mo_collect_1 : decode b_Mo_collect 1 = .ok (.iconst 0, 1) := by decide +kernel
theorem d_Mo_collect_2 : decode b_Mo_collect 2 = .ok (.putfield 57, 3) := by decide +kernel
theorem d_Mo_collect_5 : decode b_Mo_collect 5 = .ok (.iload_n 1, 1) := by decide +kernel
theorem d_Mo_collect_6 : decode b_Mo_collect 6 = .ok (.ifCond .lt 8, 3) := by decide +kernel
theorem d_Mo_collect_9 : decode b_Mo_collect 9 = .ok (.iload_n 1, 1) := by decide +kernel
theorem d_Mo_collect_10 : decode b_Mo_collect 10 = .ok (.iconst 3, 1) := by decide +kernel
theorem d_Mo_collect_11 : decode b_Mo_collect 11 = .ok (.if_icmp .le 9, 3) := by decide +kernel
theorem d_Mo_collect_14 : decode b_Mo_collect 14 = .ok (.aload_n 0, 1) := by decide +kernel
theorem d_Mo_collect_15 : decode b_Mo_collect 15 = .ok (.iconst 1, 1) := by decide +kernel
theorem d_Mo_collect_16 : decode b_Mo_collect 16 = .ok (.invokevirtual 60, 3) := by decide +kernel
theorem d_Mo_collect_19 : decode b_Mo_collect 19 = .ok (.ireturn, 1) := by decide +kernel
theorem d_Mo_collect_20 : decode b_Mo_collect 20 = .ok (.iconst 0, 1) := by decide +kernel
theorem d_Mo_collect_21 : decode b_Mo_collect 21 = .ok (.istore_n 2, 1) := by decide +kernel
theorem d_Mo_collect_22 : decode b_Mo_collect 22 = .ok (.iload_n 2, 1) := by decide +kernel
theorem d_Mo_collect_23 : decode b_Mo_collect 23 = .ok (.bipush 32, 2) := by decide +kernel
theorem d_Mo_collect_25 : decode b_Mo_collect 25 = .ok (.if_icmp .ge 38, 3) := by decide +kernel
theorem d_Mo_collect_28 : decode b_Mo_collect 28 = .ok (.aload_n 0, 1) := by decide +kernel
theorem d_Mo_collect_29 : decode b_Mo_collect 29 = .ok (.getfield 26, 3) := by decide +kernel
theorem d_Mo_collect_32 : decode b_Mo_collect 32 = .ok (.iload_n 2, 1) := by decide +kernel
theorem d_Mo_collect_33 : decode b_Mo_collect 33 = .ok (.aload_n 0, 1) := by decide +kernel
theorem d_Mo_collect_34 : decode b_Mo_collect 34 = .ok (.getfield 19, 3) := by decide +kernel
theorem d_Mo_collect_37 : decode b_Mo_collect 37 = .ok (.iload_n 2, 1) := by decide +kernel
theorem d_Mo_collect_38 : decode b_Mo_collect 38 = .ok (.baload, 1) := by decide +kernel
theorem d_Mo_collect_39 : decode b_Mo_collect 39 = .ok (.ifCond .eq 16, 3) := by decide +kernel
theorem d_Mo_collect_42 : decode b_Mo_collect 42 = .ok (.aload_n 0, 1) := by decide +kernel
theorem d_Mo_collect_43 : decode b_Mo_collect 43 = .ok (.getfield 23, 3) := by decide +kernel
theorem d_Mo_collect_46 : decode b_Mo_collect 46 = .ok (.iload_n 2, 1) := by decide +kernel
theorem d_Mo_collect_47 : decode b_Mo_collect 47 = .ok (.baload, 1) := by decide +kernel
theorem d_Mo_collect_48 : decode b_Mo_collect 48 = .ok (.ifCond .eq 7, 3) := by decide +kernel
theorem d_Mo_collect_51 : decode b_Mo_collect 51 = .ok (.iconst 1, 1) := by decide +kernel
theorem d_Mo_collect_52 : decode b_Mo_collect 52 = .ok (.goto 4, 3) := by decide +kernel
theorem d_Mo_collect_55 : decode b_Mo_collect 55 = .ok (.iconst 0, 1) := by decide +kernel
theorem d_Mo_collect_56 : decode b_Mo_collect 56 = .ok (.bastore, 1) := by decide +kernel
theorem d_Mo_collect_57 : decode b_Mo_collect 57 = .ok (.iinc 2 1, 3) := by decide +kernel
theorem d_Mo_collect_60 : decode b_Mo_collect 60 = .ok (.goto (-38), 3) := by decide +kernel
theorem d_Mo_collect_63 : decode b_Mo_collect 63 = .ok (.aload_n 0, 1) := by decide +kernel
theorem d_Mo_collect_64 : decode b_Mo_collect 64 = .ok (.invokevirtual 141, 3) := by decide +kernel
theorem d_Mo_collect_67 : decode b_Mo_collect 67 = .ok (.aload_n 0, 1) := by decide +kernel
theorem d_Mo_collect_68 : decode b_Mo_collect 68 = .ok (.invokevirtual 138, 3) := by decide +kernel
theorem d_Mo_collect_71 : decode b_Mo_collect 71 = .ok (.aload_n 0, 1) := by decide +kernel
theorem d_Mo_collect_72 : decode b_Mo_collect 72 = .ok (.iload_n 1, 1) := by decide +kernel
theorem d_Mo_collect_73 : decode b_Mo_collect 73 = .ok (.invokevirtual 144, 3) := by decide +kernel
theorem d_Mo_collect_76 : decode b_Mo_collect 76 = .ok (.aload_n 0, 1) := by decide +kernel
theorem d_Mo_collect_77 : decode b_Mo_collect 77 = .ok (.getfield 38, 3) := by decide +kernel
theorem d_Mo_collect_80 : decode b_Mo_collect 80 = .ok (.iconst 0, 1) := by decide +kernel
theorem d_Mo_collect_81 : decode b_Mo_collect 81 = .ok (.iaload, 1) := by decide +kernel
theorem d_Mo_collect_82 : decode b_Mo_collect 82 = .ok (.iconst 1, 1) := by decide +kernel
theorem d_Mo_collect_83 : decode b_Mo_collect 83 = .ok (.isub, 1) := by decide +kernel
theorem d_Mo_collect_84 : decode b_Mo_collect 84 = .ok (.istore_n 2, 1) := by decide +kernel
theorem d_Mo_collect_85 : decode b_Mo_collect 85 = .ok (.iload_n 2, 1) := by decide +kernel
theorem d_Mo_collect_86 : decode b_Mo_collect 86 = .ok (.ifCond .lt 29, 3) := by decide +kernel
theorem d_Mo_collect_89 : decode b_Mo_collect 89 = .ok (.aload_n 0, 1) := by decide +kernel
theorem d_Mo_collect_90 : decode b_Mo_collect 90 = .ok (.getfield 26, 3) := by decide +kernel
theorem d_Mo_collect_93 : decode b_Mo_collect 93 = .ok (.aload_n 0, 1) := by decide +kernel
theorem d_Mo_collect_94 : decode b_Mo_collect 94 = .ok (.getfield 29, 3) := by decide +kernel
theorem d_Mo_collect_97 : decode b_Mo_collect 97 = .ok (.iload_n 2, 1) := by decide +kernel
theorem d_Mo_collect_98 : decode b_Mo_collect 98 = .ok (.iaload, 1) := by decide +kernel
theorem d_Mo_collect_99 : decode b_Mo_collect 99 = .ok (.baload, 1) := by decide +kernel
theorem d_Mo_collect_100 : decode b_Mo_collect 100 = .ok (.ifCond .ne 9, 3) := by decide +kernel
theorem d_Mo_collect_103 : decode b_Mo_collect 103 = .ok (.aload_n 0, 1) := by decide +kernel
theorem d_Mo_collect_104 : decode b_Mo_collect 104 = .ok (.iconst 0, 1) := by decide +kernel
theorem d_Mo_collect_105 : decode b_Mo_collect 105 = .ok (.iload_n 2, 1) := by decide +kernel
theorem d_Mo_collect_106 : decode b_Mo_collect 106 = .ok (.invokevirtual 129, 3) := by decide +kernel
theorem d_Mo_collect_109 : decode b_Mo_collect 109 = .ok (.iinc 2 (-1), 3) := by decide +kernel
theorem d_Mo_collect_112 : decode b_Mo_collect 112 = .ok (.goto (-27), 3) := by decide +kernel
theorem d_Mo_collect_115 : decode b_Mo_collect 115 = .ok (.iconst 0, 1) := by decide +kernel
theorem d_Mo_collect_116 : decode b_Mo_collect 116 = .ok (.istore_n 2, 1) := by decide +kernel
theorem d_Mo_collect_117 : decode b_Mo_collect 117 = .ok (.iconst 0, 1) := by decide +kernel
theorem d_Mo_collect_118 : decode b_Mo_collect 118 = .ok (.istore_n 3, 1) := by decide +kernel
theorem d_Mo_collect_119 : decode b_Mo_collect 119 = .ok (.iload_n 3, 1) := by decide +kernel
theorem d_Mo_collect_120 : decode b_Mo_collect 120 = .ok (.bipush 32, 2) := by decide +kernel
theorem d_Mo_collect_122 : decode b_Mo_collect 122 = .ok (.if_icmp .ge 47, 3) := by decide +kernel
theorem d_Mo_collect_125 : decode b_Mo_collect 125 = .ok (.iload_n 2, 1) := by decide +kernel
theorem d_Mo_collect_126 : decode b_Mo_collect 126 = .ok (.aload_n 0, 1) := by decide +kernel
theorem d_Mo_collect_127 : decode b_Mo_collect 127 = .ok (.getfield 19, 3) := by decide +kernel
theorem d_Mo_collect_130 : decode b_Mo_collect 130 = .ok (.iload_n 3, 1) := by decide +kernel
theorem d_Mo_collect_131 : decode b_Mo_collect 131 = .ok (.baload, 1) := by decide +kernel
theorem d_Mo_collect_132 : decode b_Mo_collect 132 = .ok (.ifCond .eq 16, 3) := by decide +kernel
theorem d_Mo_collect_135 : decode b_Mo_collect 135 = .ok (.aload_n 0, 1) := by decide +kernel
theorem d_Mo_collect_136 : decode b_Mo_collect 136 = .ok (.getfield 26, 3) := by decide +kernel
theorem d_Mo_collect_139 : decode b_Mo_collect 139 = .ok (.iload_n 3, 1) := by decide +kernel
theorem d_Mo_collect_140 : decode b_Mo_collect 140 = .ok (.baload, 1) := by decide +kernel
theorem d_Mo_collect_141 : decode b_Mo_collect 141 = .ok (.ifCond .ne 7, 3) := by decide +kernel
theorem d_Mo_collect_144 : decode b_Mo_collect 144 = .ok (.iconst 1, 1) := by decide +kernel
theorem d_Mo_collect_145 : decode b_Mo_collect 145 = .ok (.goto 4, 3) := by decide +kernel
theorem d_Mo_collect_148 : decode b_Mo_collect 148 = .ok (.iconst 0, 1) := by decide +kernel
theorem d_Mo_collect_149 : decode b_Mo_collect 149 = .ok (.iadd, 1) := by decide +kernel
theorem d_Mo_collect_150 : decode b_Mo_collect 150 = .ok (.istore_n 2, 1) := by decide +kernel
theorem d_Mo_collect_151 : decode b_Mo_collect 151 = .ok (.aload_n 0, 1) := by decide +kernel
theorem d_Mo_collect_152 : decode b_Mo_collect 152 = .ok (.getfield 19, 3) := by decide +kernel
theorem d_Mo_collect_155 : decode b_Mo_collect 155 = .ok (.iload_n 3, 1) := by decide +kernel
theorem d_Mo_collect_156 : decode b_Mo_collect 156 = .ok (.aload_n 0, 1) := by decide +kernel
theorem d_Mo_collect_157 : decode b_Mo_collect 157 = .ok (.getfield 26, 3) := by decide +kernel
theorem d_Mo_collect_160 : decode b_Mo_collect 160 = .ok (.iload_n 3, 1) := by decide +kernel
theorem d_Mo_collect_161 : decode b_Mo_collect 161 = .ok (.baload, 1) := by decide +kernel
theorem d_Mo_collect_162 : decode b_Mo_collect 162 = .ok (.bastore, 1) := by decide +kernel
theorem d_Mo_collect_163 : decode b_Mo_collect 163 = .ok (.iinc 3 1, 3) := by decide +kernel
theorem d_Mo_collect_166 : decode b_Mo_collect 166 = .ok (.goto (-47), 3) := by decide +kernel
theorem d_Mo_collect_169 : decode b_Mo_collect 169 = .ok (.aload_n 0, 1) := by decide +kernel
theorem d_Mo_collect_170 : decode b_Mo_collect 170 = .ok (.dup, 1) := by decide +kernel
theorem d_Mo_collect_171 : decode b_Mo_collect 171 = .ok (.getfield 147, 3) := by decide +kernel
theorem d_Mo_collect_174 : decode b_Mo_collect 174 = .ok (.iload_n 2, 1) := by decide +kernel
theorem d_Mo_collect_175 : decode b_Mo_collect 175 = .ok (.iadd, 1) := by decide +kernel
theorem d_Mo_collect_176 : decode b_Mo_collect 176 = .ok (.putfield 147, 3) := by decide +kernel
theorem d_Mo_collect_179 : decode b_Mo_collect 179 = .ok (.iload_n 2, 1) := by decide +kernel
theorem d_Mo_collect_180 : decode b_Mo_collect 180 = .ok (.ireturn, 1) := by decide +kernel
theorem d_Mo_holdMaps_0 : decode b_Mo_holdMaps 0 = .ok (.iconst 0, 1) := by decide +kernel
theorem d_Mo_holdMaps_1 : decode b_Mo_holdMaps 1 = .ok (.istore_n 1, 1) := by decide +kernel
theorem d_Mo_holdMaps_2 : decode b_Mo_holdMaps 2 = .ok (.iload_n 1, 1) := by decide +kernel
theorem d_Mo_holdMaps_3 : decode b_Mo_holdMaps 3 = .ok (.iconst 5, 1) := by decide +kernel
theorem d_Mo_holdMaps_4 : decode b_Mo_holdMaps 4 = .ok (.if_icmp .ge 72, 3) := by decide +kernel
theorem d_Mo_holdMaps_7 : decode b_Mo_holdMaps 7 = .ok (.bipush 32, 2) := by decide +kernel
theorem d_Mo_holdMaps_9 : decode b_Mo_holdMaps 9 = .ok (.iload_n 1, 1) := by decide +kernel
theorem d_Mo_holdMaps_10 : decode b_Mo_holdMaps 10 = .ok (.imul, 1) := by decide +kernel
theorem d_Mo_holdMaps_11 : decode b_Mo_holdMaps 11 = .ok (.istore_n 2, 1) := by decide +kernel
theorem d_Mo_holdMaps_12 : decode b_Mo_holdMaps 12 = .ok (.iload_n 2, 1) := by decide +kernel
theorem d_Mo_holdMaps_13 : decode b_Mo_holdMaps 13 = .ok (.aload_n 0, 1) := by decide +kernel
theorem d_Mo_holdMaps_14 : decode b_Mo_holdMaps 14 = .ok (.iload_n 1, 1) := by decide +kernel
theorem d_Mo_holdMaps_15 : decode b_Mo_holdMaps 15 = .ok (.invokevirtual 68, 3) := by decide +kernel
theorem d_Mo_holdMaps_18 : decode b_Mo_holdMaps 18 = .ok (.if_icmp .ge 52, 3) := by decide +kernel
theorem d_Mo_holdMaps_21 : decode b_Mo_holdMaps 21 = .ok (.aload_n 0, 1) := by decide +kernel
theorem d_Mo_holdMaps_22 : decode b_Mo_holdMaps 22 = .ok (.getfield 29, 3) := by decide +kernel
theorem d_Mo_holdMaps_25 : decode b_Mo_holdMaps 25 = .ok (.iload_n 2, 1) := by decide +kernel
theorem d_Mo_holdMaps_26 : decode b_Mo_holdMaps 26 = .ok (.iaload, 1) := by decide +kernel
theorem d_Mo_holdMaps_27 : decode b_Mo_holdMaps 27 = .ok (.ifCond .lt 37, 3) := by decide +kernel
theorem d_Mo_holdMaps_30 : decode b_Mo_holdMaps 30 = .ok (.iload_n 1, 1) := by decide +kernel
theorem d_Mo_holdMaps_31 : decode b_Mo_holdMaps 31 = .ok (.ifCond .eq 18, 3) := by decide +kernel
theorem d_Mo_holdMaps_34 : decode b_Mo_holdMaps 34 = .ok (.iload_n 1, 1) := by decide +kernel
theorem d_Mo_holdMaps_35 : decode b_Mo_holdMaps 35 = .ok (.iconst 3, 1) := by decide +kernel
theorem d_Mo_holdMaps_36 : decode b_Mo_holdMaps 36 = .ok (.if_icmp .eq 13, 3) := by decide +kernel
theorem d_Mo_holdMaps_39 : decode b_Mo_holdMaps 39 = .ok (.aload_n 0, 1) := by decide +kernel
theorem d_Mo_holdMaps_40 : decode b_Mo_holdMaps 40 = .ok (.aload_n 0, 1) := by decide +kernel
theorem d_Mo_holdMaps_41 : decode b_Mo_holdMaps 41 = .ok (.getfield 29, 3) := by decide +kernel
theorem d_Mo_holdMaps_44 : decode b_Mo_holdMaps 44 = .ok (.iload_n 2, 1) := by decide +kernel
theorem d_Mo_holdMaps_45 : decode b_Mo_holdMaps 45 = .ok (.iaload, 1) := by decide +kernel
theorem d_Mo_holdMaps_46 : decode b_Mo_holdMaps 46 = .ok (.invokevirtual 135, 3) := by decide +kernel
theorem d_Mo_holdMaps_49 : decode b_Mo_holdMaps 49 = .ok (.iload_n 1, 1) := by decide +kernel
theorem d_Mo_holdMaps_50 : decode b_Mo_holdMaps 50 = .ok (.iconst 1, 1) := by decide +kernel
theorem d_Mo_holdMaps_51 : decode b_Mo_holdMaps 51 = .ok (.if_icmp .eq 13, 3) := by decide +kernel
theorem d_Mo_holdMaps_54 : decode b_Mo_holdMaps 54 = .ok (.aload_n 0, 1) := by decide +kernel
theorem d_Mo_holdMaps_55 : decode b_Mo_holdMaps 55 = .ok (.aload_n 0, 1) := by decide +kernel
theorem d_Mo_holdMaps_56 : decode b_Mo_holdMaps 56 = .ok (.getfield 32, 3) := by decide +kernel
theorem d_Mo_holdMaps_59 : decode b_Mo_holdMaps 59 = .ok (.iload_n 2, 1) := by decide +kernel
theorem d_Mo_holdMaps_60 : decode b_Mo_holdMaps 60 = .ok (.iaload, 1) := by decide +kernel
theorem d_Mo_holdMaps_61 : decode b_Mo_holdMaps 61 = .ok (.invokevirtual 135, 3) := by decide +kernel
theorem d_Mo_holdMaps_64 : decode b_Mo_holdMaps 64 = .ok (.iinc 2 1, 3) := by decide +kernel
theorem d_Mo_holdMaps_67 : decode b_Mo_holdMaps 67 = .ok (.goto (-55), 3) := by decide +kernel
theorem d_Mo_holdMaps_70 : decode b_Mo_holdMaps 70 = .ok (.iinc 1 1, 3) := by decide +kernel
theorem d_Mo_holdMaps_73 : decode b_Mo_holdMaps 73 = .ok (.goto (-71), 3) := by decide +kernel
theorem d_Mo_holdMaps_76 : decode b_Mo_holdMaps 76 = .ok (.return_, 1) := by decide +kernel
theorem d_Mo_hold_0 : decode b_Mo_hold 0 = .ok (.iload_n 1, 1) := by decide +kernel
theorem d_Mo_hold_1 : decode b_Mo_hold 1 = .ok (.ifCond .lt 10, 3) := by decide +kernel
theorem d_Mo_hold_4 : decode b_Mo_hold 4 = .ok (.aload_n 0, 1) := by decide +kernel
theorem d_Mo_hold_5 : decode b_Mo_hold 5 = .ok (.getfield 26, 3) := by decide +kernel
theorem d_Mo_hold_8 : decode b_Mo_hold 8 = .ok (.iload_n 1, 1) := by decide +kernel
theorem d_Mo_hold_9 : decode b_Mo_hold 9 = .ok (.iconst 1, 1) := by decide +kernel
theorem d_Mo_hold_10 : decode b_Mo_hold 10 = .ok (.bastore, 1) := by decide +kernel
theorem d_Mo_hold_11 : decode b_Mo_hold 11 = .ok (.return_, 1) := by decide +kernel
theorem d_Mo_spread_0 : decode b_Mo_spread 0 = .ok (.iconst 0, 1) := by decide +kernel
theorem d_Mo_spread_1 : decode b_Mo_spread 1 = .ok (.istore_n 1, 1) := by decide +kernel
theorem d_Mo_spread_2 : decode b_Mo_spread 2 = .ok (.iload_n 1, 1) := by decide +kernel
theorem d_Mo_spread_3 : decode b_Mo_spread 3 = .ok (.bipush 32, 2) := by decide +kernel
theorem d_Mo_spread_5 : decode b_Mo_spread 5 = .ok (.if_icmp .ge 52, 3) := by decide +kernel
theorem d_Mo_spread_8 : decode b_Mo_spread 8 = .ok (.iconst 0, 1) := by decide +kernel
theorem d_Mo_spread_9 : decode b_Mo_spread 9 = .ok (.istore_n 2, 1) := by decide +kernel
theorem d_Mo_spread_10 : decode b_Mo_spread 10 = .ok (.iload_n 2, 1) := by decide +kernel
theorem d_Mo_spread_11 : decode b_Mo_spread 11 = .ok (.bipush 32, 2) := by decide +kernel
theorem d_Mo_spread_13 : decode b_Mo_spread 13 = .ok (.if_icmp .ge 38, 3) := by decide +kernel
theorem d_Mo_spread_16 : decode b_Mo_spread 16 = .ok (.aload_n 0, 1) := by decide +kernel
theorem d_Mo_spread_17 : decode b_Mo_spread 17 = .ok (.getfield 26, 3) := by decide +kernel
theorem d_Mo_spread_20 : decode b_Mo_spread 20 = .ok (.iload_n 2, 1) := by decide +kernel
theorem d_Mo_spread_21 : decode b_Mo_spread 21 = .ok (.baload, 1) := by decide +kernel
theorem d_Mo_spread_22 : decode b_Mo_spread 22 = .ok (.ifCond .eq 23, 3) := by decide +kernel
theorem d_Mo_spread_25 : decode b_Mo_spread 25 = .ok (.aload_n 0, 1) := by decide +kernel
theorem d_Mo_spread_26 : decode b_Mo_spread 26 = .ok (.aload_n 0, 1) := by decide +kernel
theorem d_Mo_spread_27 : decode b_Mo_spread 27 = .ok (.getfield 13, 3) := by decide +kernel
theorem d_Mo_spread_30 : decode b_Mo_spread 30 = .ok (.iload_n 2, 1) := by decide +kernel
theorem d_Mo_spread_31 : decode b_Mo_spread 31 = .ok (.iaload, 1) := by decide +kernel
theorem d_Mo_spread_32 : decode b_Mo_spread 32 = .ok (.invokevirtual 135, 3) := by decide +kernel
theorem d_Mo_spread_35 : decode b_Mo_spread 35 = .ok (.aload_n 0, 1) := by decide +kernel
theorem d_Mo_spread_36 : decode b_Mo_spread 36 = .ok (.aload_n 0, 1) := by decide +kernel
theorem d_Mo_spread_37 : decode b_Mo_spread 37 = .ok (.getfield 16, 3) := by decide +kernel
theorem d_Mo_spread_40 : decode b_Mo_spread 40 = .ok (.iload_n 2, 1) := by decide +kernel
theorem d_Mo_spread_41 : decode b_Mo_spread 41 = .ok (.iaload, 1) := by decide +kernel
theorem d_Mo_spread_42 : decode b_Mo_spread 42 = .ok (.invokevirtual 135, 3) := by decide +kernel
theorem d_Mo_spread_45 : decode b_Mo_spread 45 = .ok (.iinc 2 1, 3) := by decide +kernel
theorem d_Mo_spread_48 : decode b_Mo_spread 48 = .ok (.goto (-38), 3) := by decide +kernel
theorem d_Mo_spread_51 : decode b_Mo_spread 51 = .ok (.iinc 1 1, 3) := by decide +kernel
theorem d_Mo_spread_54 : decode b_Mo_spread 54 = .ok (.goto (-52), 3) := by decide +kernel
theorem d_Mo_spread_57 : decode b_Mo_spread 57 = .ok (.return_, 1) := by decide +kernel
theorem d_Mo_soften_0 : decode b_Mo_soften 0 = .ok (.iconst (-1), 1) := by decide +kernel
theorem d_Mo_soften_1 : decode b_Mo_soften 1 = .ok (.istore_n 2, 1) := by decide +kernel
theorem d_Mo_soften_2 : decode b_Mo_soften 2 = .ok (.iconst 1, 1) := by decide +kernel
theorem d_Mo_soften_3 : decode b_Mo_soften 3 = .ok (.istore_n 3, 1) := by decide +kernel
theorem d_Mo_soften_4 : decode b_Mo_soften 4 = .ok (.iload_n 3, 1) := by decide +kernel
theorem d_Mo_soften_5 : decode b_Mo_soften 5 = .ok (.ifCond .eq 144, 3) := by decide +kernel
theorem d_Mo_soften_8 : decode b_Mo_soften 8 = .ok (.iconst (-1), 1) := by decide +kernel
theorem d_Mo_soften_9 : decode b_Mo_soften 9 = .ok (.istore 4, 2) := by decide +kernel
theorem d_Mo_soften_11 : decode b_Mo_soften 11 = .ok (.bipush 32, 2) := by decide +kernel
theorem d_Mo_soften_13 : decode b_Mo_soften 13 = .ok (.istore 5, 2) := by decide +kernel
theorem d_Mo_soften_15 : decode b_Mo_soften 15 = .ok (.iload 5, 2) := by decide +kernel
theorem d_Mo_soften_17 : decode b_Mo_soften 17 = .ok (.aload_n 0, 1) := by decide +kernel
theorem d_Mo_soften_18 : decode b_Mo_soften 18 = .ok (.iconst 1, 1) := by decide +kernel
theorem d_Mo_soften_19 : decode b_Mo_soften 19 = .ok (.invokevirtual 68, 3) := by decide +kernel
theorem d_Mo_soften_22 : decode b_Mo_soften 22 = .ok (.if_icmp .ge 46, 3) := by decide +kernel
theorem d_Mo_soften_25 : decode b_Mo_soften 25 = .ok (.aload_n 0, 1) := by decide +kernel
theorem d_Mo_soften_26 : decode b_Mo_soften 26 = .ok (.getfield 35, 3) := by decide +kernel
theorem d_Mo_soften_29 : decode b_Mo_soften 29 = .ok (.iload 5, 2) := by decide +kernel
theorem d_Mo_soften_31 : decode b_Mo_soften 31 = .ok (.iaload, 1) := by decide +kernel
theorem d_Mo_soften_32 : decode b_Mo_soften 32 = .ok (.iload_n 2, 1) := by decide +kernel
theorem d_Mo_soften_33 : decode b_Mo_soften 33 = .ok (.if_icmp .le 29, 3) := by decide +kernel
theorem d_Mo_soften_36 : decode b_Mo_soften 36 = .ok (.iload 4, 2) := by decide +kernel
theorem d_Mo_soften_38 : decode b_Mo_soften 38 = .ok (.ifCond .lt 20, 3) := by decide +kernel
theorem d_Mo_soften_41 : decode b_Mo_soften 41 = .ok (.aload_n 0, 1) := by decide +kernel
theorem d_Mo_soften_42 : decode b_Mo_soften 42 = .ok (.getfield 35, 3) := by decide +kernel
theorem d_Mo_soften_45 : decode b_Mo_soften 45 = .ok (.iload 5, 2) := by decide +kernel
theorem d_Mo_soften_47 : decode b_Mo_soften 47 = .ok (.iaload, 1) := by decide +kernel
theorem d_Mo_soften_48 : decode b_Mo_soften 48 = .ok (.aload_n 0, 1) := by decide +kernel
theorem d_Mo_soften_49 : decode b_Mo_soften 49 = .ok (.getfield 35, 3) := by decide +kernel
theorem d_Mo_soften_52 : decode b_Mo_soften 52 = .ok (.iload 4, 2) := by decide +kernel
theorem d_Mo_soften_54 : decode b_Mo_soften 54 = .ok (.iaload, 1) := by decide +kernel
theorem d_Mo_soften_55 : decode b_Mo_soften 55 = .ok (.if_icmp .ge 7, 3) := by decide +kernel
theorem d_Mo_soften_58 : decode b_Mo_soften 58 = .ok (.iload 5, 2) := by decide +kernel
theorem d_Mo_soften_60 : decode b_Mo_soften 60 = .ok (.istore 4, 2) := by decide +kernel
theorem d_Mo_soften_62 : decode b_Mo_soften 62 = .ok (.iinc 5 1, 3) := by decide +kernel
theorem d_Mo_soften_65 : decode b_Mo_soften 65 = .ok (.goto (-50), 3) := by decide +kernel
theorem d_Mo_soften_68 : decode b_Mo_soften 68 = .ok (.iload 4, 2) := by decide +kernel
theorem d_Mo_soften_70 : decode b_Mo_soften 70 = .ok (.ifCond .lt 7, 3) := by decide +kernel
theorem d_Mo_soften_73 : decode b_Mo_soften 73 = .ok (.iconst 1, 1) := by decide +kernel
theorem d_Mo_soften_74 : decode b_Mo_soften 74 = .ok (.goto 4, 3) := by decide +kernel
theorem d_Mo_soften_77 : decode b_Mo_soften 77 = .ok (.iconst 0, 1) := by decide +kernel
theorem d_Mo_soften_78 : decode b_Mo_soften 78 = .ok (.istore_n 3, 1) := by decide +kernel
theorem d_Mo_soften_79 : decode b_Mo_soften 79 = .ok (.iload_n 3, 1) := by decide +kernel
theorem d_Mo_soften_80 : decode b_Mo_soften 80 = .ok (.ifCond .eq 66, 3) := by decide +kernel
theorem d_Mo_soften_83 : decode b_Mo_soften 83 = .ok (.aload_n 0, 1) := by decide +kernel
theorem d_Mo_soften_84 : decode b_Mo_soften 84 = .ok (.getfield 35, 3) := by decide +kernel
theorem d_Mo_soften_87 : decode b_Mo_soften 87 = .ok (.iload 4, 2) := by decide +kernel
theorem d_Mo_soften_89 : decode b_Mo_soften 89 = .ok (.iaload, 1) := by decide +kernel
theorem d_Mo_soften_90 : decode b_Mo_soften 90 = .ok (.istore_n 2, 1) := by decide +kernel
theorem d_Mo_soften_91 : decode b_Mo_soften 91 = .ok (.aload_n 0, 1) := by decide +kernel
theorem d_Mo_soften_92 : decode b_Mo_soften 92 = .ok (.getfield 26, 3) := by decide +kernel
theorem d_Mo_soften_95 : decode b_Mo_soften 95 = .ok (.aload_n 0, 1) := by decide +kernel
theorem d_Mo_soften_96 : decode b_Mo_soften 96 = .ok (.getfield 32, 3) := by decide +kernel
theorem d_Mo_soften_99 : decode b_Mo_soften 99 = .ok (.iload 4, 2) := by decide +kernel
theorem d_Mo_soften_101 : decode b_Mo_soften 101 = .ok (.iaload, 1) := by decide +kernel
theorem d_Mo_soften_102 : decode b_Mo_soften 102 = .ok (.baload, 1) := by decide +kernel
theorem d_Mo_soften_103 : decode b_Mo_soften 103 = .ok (.ifCond .ne 28, 3) := by decide +kernel
theorem d_Mo_soften_106 : decode b_Mo_soften 106 = .ok (.aload_n 0, 1) := by decide +kernel
theorem d_Mo_soften_107 : decode b_Mo_soften 107 = .ok (.getfield 93, 3) := by decide +kernel
theorem d_Mo_soften_110 : decode b_Mo_soften 110 = .ok (.iload_n 2, 1) := by decide +kernel
theorem d_Mo_soften_111 : decode b_Mo_soften 111 = .ok (.isub, 1) := by decide +kernel
theorem d_Mo_soften_112 : decode b_Mo_soften 112 = .ok (.bipush 12, 2) := by decide +kernel
theorem d_Mo_soften_114 : decode b_Mo_soften 114 = .ok (.iconst 4, 1) := by decide +kernel
theorem d_Mo_soften_115 : decode b_Mo_soften 115 = .ok (.iload_n 1, 1) := by decide +kernel
theorem d_Mo_soften_116 : decode b_Mo_soften 116 = .ok (.imul, 1) := by decide +kernel
theorem d_Mo_soften_117 : decode b_Mo_soften 117 = .ok (.isub, 1) := by decide +kernel
theorem d_Mo_soften_118 : decode b_Mo_soften 118 = .ok (.if_icmp .lt 13, 3) := by decide +kernel
theorem d_Mo_soften_121 : decode b_Mo_soften 121 = .ok (.aload_n 0, 1) := by decide +kernel
theorem d_Mo_soften_122 : decode b_Mo_soften 122 = .ok (.iconst 1, 1) := by decide +kernel
theorem d_Mo_soften_123 : decode b_Mo_soften 123 = .ok (.iload 4, 2) := by decide +kernel
theorem d_Mo_soften_125 : decode b_Mo_soften 125 = .ok (.invokevirtual 129, 3) := by decide +kernel
theorem d_Mo_soften_128 : decode b_Mo_soften 128 = .ok (.goto 18, 3) := by decide +kernel
theorem d_Mo_soften_131 : decode b_Mo_soften 131 = .ok (.aload_n 0, 1) := by decide +kernel
theorem d_Mo_soften_132 : decode b_Mo_soften 132 = .ok (.aload_n 0, 1) := by decide +kernel
theorem d_Mo_soften_133 : decode b_Mo_soften 133 = .ok (.getfield 32, 3) := by decide +kernel
theorem d_Mo_soften_136 : decode b_Mo_soften 136 = .ok (.iload 4, 2) := by decide +kernel
theorem d_Mo_soften_138 : decode b_Mo_soften 138 = .ok (.iaload, 1) := by decide +kernel
theorem d_Mo_soften_139 : decode b_Mo_soften 139 = .ok (.invokevirtual 135, 3) := by decide +kernel
theorem d_Mo_soften_142 : decode b_Mo_soften 142 = .ok (.aload_n 0, 1) := by decide +kernel
theorem d_Mo_soften_143 : decode b_Mo_soften 143 = .ok (.invokevirtual 138, 3) := by decide +kernel
theorem d_Mo_soften_146 : decode b_Mo_soften 146 = .ok (.goto (-142), 3) := by decide +kernel
theorem d_Mo_soften_149 : decode b_Mo_soften 149 = .ok (.return_, 1) := by decide +kernel
theorem d_Mo_value_0 : decode b_Mo_value 0 = .ok (.aload_n 0, 1) := by decide +kernel
theorem d_Mo_value_1 : decode b_Mo_value 1 = .ok (.iconst 0, 1) := by decide +kernel
theorem d_Mo_value_2 : decode b_Mo_value 2 = .ok (.putfield 57, 3) := by decide +kernel
theorem d_Mo_value_5 : decode b_Mo_value 5 = .ok (.aload_n 0, 1) := by decide +kernel
theorem d_Mo_value_6 : decode b_Mo_value 6 = .ok (.iload_n 1, 1) := by decide +kernel
theorem d_Mo_value_7 : decode b_Mo_value 7 = .ok (.invokevirtual 64, 3) := by decide +kernel
theorem d_Mo_value_10 : decode b_Mo_value 10 = .ok (.ifCond .eq 12, 3) := by decide +kernel
theorem d_Mo_value_13 : decode b_Mo_value 13 = .ok (.aload_n 0, 1) := by decide +kernel
theorem d_Mo_value_14 : decode b_Mo_value 14 = .ok (.getfield 7, 3) := by decide +kernel
theorem d_Mo_value_17 : decode b_Mo_value 17 = .ok (.iload_n 1, 1) := by decide +kernel
theorem d_Mo_value_18 : decode b_Mo_value 18 = .ok (.iaload, 1) := by decide +kernel
theorem d_Mo_value_19 : decode b_Mo_value 19 = .ok (.goto 4, 3) := by decide +kernel
theorem d_Mo_value_22 : decode b_Mo_value 22 = .ok (.iconst (-1), 1) := by decide +kernel
theorem d_Mo_value_23 : decode b_Mo_value 23 = .ok (.ireturn, 1) := by decide +kernel
theorem d_Mo_count_0 : decode b_Mo_count 0 = .ok (.aload_n 0, 1) := by decide +kernel
theorem d_Mo_count_1 : decode b_Mo_count 1 = .ok (.iconst 0, 1) := by decide +kernel
theorem d_Mo_count_2 : decode b_Mo_count 2 = .ok (.putfield 57, 3) := by decide +kernel
theorem d_Mo_count_5 : decode b_Mo_count 5 = .ok (.iconst 0, 1) := by decide +kernel
theorem d_Mo_count_6 : decode b_Mo_count 6 = .ok (.istore_n 2, 1) := by decide +kernel
theorem d_Mo_count_7 : decode b_Mo_count 7 = .ok (.iconst 0, 1) := by decide +kernel
theorem d_Mo_count_8 : decode b_Mo_count 8 = .ok (.istore_n 3, 1) := by decide +kernel
theorem d_Mo_count_9 : decode b_Mo_count 9 = .ok (.iload_n 3, 1) := by decide +kernel
theorem d_Mo_count_10 : decode b_Mo_count 10 = .ok (.bipush 32, 2) := by decide +kernel
theorem d_Mo_count_12 : decode b_Mo_count 12 = .ok (.if_icmp .ge 26, 3) := by decide +kernel
theorem d_Mo_count_15 : decode b_Mo_count 15 = .ok (.iload_n 2, 1) := by decide +kernel
theorem d_Mo_count_16 : decode b_Mo_count 16 = .ok (.aload_n 0, 1) := by decide +kernel
theorem d_Mo_count_17 : decode b_Mo_count 17 = .ok (.getfield 19, 3) := by decide +kernel
theorem d_Mo_count_20 : decode b_Mo_count 20 = .ok (.iload_n 3, 1) := by decide +kernel
theorem d_Mo_count_21 : decode b_Mo_count 21 = .ok (.baload, 1) := by decide +kernel
theorem d_Mo_count_22 : decode b_Mo_count 22 = .ok (.ifCond .eq 7, 3) := by decide +kernel
theorem d_Mo_count_25 : decode b_Mo_count 25 = .ok (.iconst 1, 1) := by decide +kernel
theorem d_Mo_count_26 : decode b_Mo_count 26 = .ok (.goto 4, 3) := by decide +kernel
theorem d_Mo_count_29 : decode b_Mo_count 29 = .ok (.iconst 0, 1) := by decide +kernel
theorem d_Mo_count_30 : decode b_Mo_count 30 = .ok (.iadd, 1) := by decide +kernel
theorem d_Mo_count_31 : decode b_Mo_count 31 = .ok (.istore_n 2, 1) := by decide +kernel
theorem d_Mo_count_32 : decode b_Mo_count 32 = .ok (.iinc 3 1, 3) := by decide +kernel
theorem d_Mo_count_35 : decode b_Mo_count 35 = .ok (.goto (-26), 3) := by decide +kernel
theorem d_Mo_count_38 : decode b_Mo_count 38 = .ok (.iload_n 1, 1) := by decide +kernel
theorem d_Mo_count_39 : decode b_Mo_count 39 = .ok (.ifCond .ne 7, 3) := by decide +kernel
theorem d_Mo_count_42 : decode b_Mo_count 42 = .ok (.iload_n 2, 1) := by decide +kernel
theorem d_Mo_count_43 : decode b_Mo_count 43 = .ok (.goto 40, 3) := by decide +kernel
theorem d_Mo_count_46 : decode b_Mo_count 46 = .ok (.iload_n 1, 1) := by decide +kernel
theorem d_Mo_count_47 : decode b_Mo_count 47 = .ok (.iconst 1, 1) := by decide +kernel
theorem d_Mo_count_48 : decode b_Mo_count 48 = .ok (.if_icmp .ne 10, 3) := by decide +kernel
theorem d_Mo_count_51 : decode b_Mo_count 51 = .ok (.aload_n 0, 1) := by decide +kernel
theorem d_Mo_count_52 : decode b_Mo_count 52 = .ok (.getfield 147, 3) := by decide +kernel
theorem d_Mo_count_55 : decode b_Mo_count 55 = .ok (.goto 28, 3) := by decide +kernel
theorem d_Mo_count_58 : decode b_Mo_count 58 = .ok (.iload_n 1, 1) := by decide +kernel
theorem d_Mo_count_59 : decode b_Mo_count 59 = .ok (.iconst 2, 1) := by decide +kernel
theorem d_Mo_count_60 : decode b_Mo_count 60 = .ok (.if_icmp .ne 10, 3) := by decide +kernel
theorem d_Mo_count_63 : decode b_Mo_count 63 = .ok (.aload_n 0, 1) := by decide +kernel
theorem d_Mo_count_64 : decode b_Mo_count 64 = .ok (.getfield 41, 3) := by decide +kernel
theorem d_Mo_count_67 : decode b_Mo_count 67 = .ok (.goto 16, 3) := by decide +kernel
theorem d_Mo_count_70 : decode b_Mo_count 70 = .ok (.iload_n 1, 1) := by decide +kernel
theorem d_Mo_count_71 : decode b_Mo_count 71 = .ok (.iconst 3, 1) := by decide +kernel
theorem d_Mo_count_72 : decode b_Mo_count 72 = .ok (.if_icmp .ne 10, 3) := by decide +kernel
theorem d_Mo_count_75 : decode b_Mo_count 75 = .ok (.aload_n 0, 1) := by decide +kernel
theorem d_Mo_count_76 : decode b_Mo_count 76 = .ok (.getfield 93, 3) := by decide +kernel
theorem d_Mo_count_79 : decode b_Mo_count 79 = .ok (.goto 4, 3) := by decide +kernel
theorem d_Mo_count_82 : decode b_Mo_count 82 = .ok (.iconst (-1), 1) := by decide +kernel
theorem d_Mo_count_83 : decode b_Mo_count 83 = .ok (.ireturn, 1) := by decide +kernel
