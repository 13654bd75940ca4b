/-! What each instruction decodes to (wip/tools/names.py). -/
theorem d_HM_init_0 : decode b_HM_init 0 = .ok (.aload_n 0, 1) := by decide +kernel
theorem d_HM_init_1 : decode b_HM_init 1 = .ok (.invokespecial 1, 3) := by decide +kernel
theorem d_HM_init_4 : decode b_HM_init 4 = .ok (.aload_n 0, 1) := by decide +kernel
theorem d_HM_init_5 : decode b_HM_init 5 = .ok (.new 7, 3) := by decide +kernel
theorem d_HM_init_8 : decode b_HM_init 8 = .ok (.dup, 1) := by decide +kernel
theorem d_HM_init_9 : decode b_HM_init 9 = .ok (.invokespecial 9, 3) := by decide +kernel
theorem d_HM_init_12 : decode b_HM_init 12 = .ok (.putfield 10, 3) := by decide +kernel
theorem d_HM_init_15 : decode b_HM_init 15 = .ok (.aload_n 0, 1) := by decide +kernel
theorem d_HM_init_16 : decode b_HM_init 16 = .ok (.new 16, 3) := by decide +kernel
theorem d_HM_init_19 : decode b_HM_init 19 = .ok (.dup, 1) := by decide +kernel
theorem d_HM_init_20 : decode b_HM_init 20 = .ok (.invokespecial 18, 3) := by decide +kernel
theorem d_HM_init_23 : decode b_HM_init 23 = .ok (.putfield 19, 3) := by decide +kernel
theorem d_HM_init_26 : decode b_HM_init 26 = .ok (.aload_n 0, 1) := by decide +kernel
theorem d_HM_init_27 : decode b_HM_init 27 = .ok (.new 23, 3) := by decide +kernel
theorem d_HM_init_30 : decode b_HM_init 30 = .ok (.dup, 1) := by decide +kernel
theorem d_HM_init_31 : decode b_HM_init 31 = .ok (.invokespecial 25, 3) := by decide +kernel
theorem d_HM_init_34 : decode b_HM_init 34 = .ok (.putfield 26, 3) := by decide +kernel
theorem d_HM_init_37 : decode b_HM_init 37 = .ok (.aload_n 0, 1) := by decide +kernel
theorem d_HM_init_38 : decode b_HM_init 38 = .ok (.iconst 5, 1) := by decide +kernel
theorem d_HM_init_39 : decode b_HM_init 39 = .ok (.anewarray 30, 3) := by decide +kernel
theorem d_HM_init_42 : decode b_HM_init 42 = .ok (.putfield 32, 3) := by decide +kernel
theorem d_HM_init_45 : decode b_HM_init 45 = .ok (.aload_n 0, 1) := by decide +kernel
theorem d_HM_init_46 : decode b_HM_init 46 = .ok (.getfield 32, 3) := by decide +kernel
theorem d_HM_init_49 : decode b_HM_init 49 = .ok (.iconst 0, 1) := by decide +kernel
theorem d_HM_init_50 : decode b_HM_init 50 = .ok (.aload_n 0, 1) := by decide +kernel
theorem d_HM_init_51 : decode b_HM_init 51 = .ok (.getfield 19, 3) := by decide +kernel
theorem d_HM_init_54 : decode b_HM_init 54 = .ok (.aastore, 1) := by decide +kernel
theorem d_HM_init_55 : decode b_HM_init 55 = .ok (.aload_n 0, 1) := by decide +kernel
theorem d_HM_init_56 : decode b_HM_init 56 = .ok (.getfield 32, 3) := by decide +kernel
theorem d_HM_init_59 : decode b_HM_init 59 = .ok (.iconst 1, 1) := by decide +kernel
theorem d_HM_init_60 : decode b_HM_init 60 = .ok (.aload_n 0, 1) := by decide +kernel
theorem d_HM_init_61 : decode b_HM_init 61 = .ok (.getfield 26, 3) := by decide +kernel
theorem d_HM_init_64 : decode b_HM_init 64 = .ok (.aastore, 1) := by decide +kernel
theorem d_HM_init_65 : decode b_HM_init 65 = .ok (.aload_n 0, 1) := by decide +kernel
theorem d_HM_init_66 : decode b_HM_init 66 = .ok (.getfield 32, 3) := by decide +kernel
theorem d_HM_init_69 : decode b_HM_init 69 = .ok (.iconst 2, 1) := by decide +kernel
theorem d_HM_init_70 : decode b_HM_init 70 = .ok (.new 36, 3) := by decide +kernel
theorem d_HM_init_73 : decode b_HM_init 73 = .ok (.dup, 1) := by decide +kernel
theorem d_HM_init_74 : decode b_HM_init 74 = .ok (.invokespecial 38, 3) := by decide +kernel
theorem d_HM_init_77 : decode b_HM_init 77 = .ok (.aastore, 1) := by decide +kernel
theorem d_HM_init_78 : decode b_HM_init 78 = .ok (.aload_n 0, 1) := by decide +kernel
theorem d_HM_init_79 : decode b_HM_init 79 = .ok (.getfield 32, 3) := by decide +kernel
theorem d_HM_init_82 : decode b_HM_init 82 = .ok (.iconst 3, 1) := by decide +kernel
theorem d_HM_init_83 : decode b_HM_init 83 = .ok (.new 39, 3) := by decide +kernel
theorem d_HM_init_86 : decode b_HM_init 86 = .ok (.dup, 1) := by decide +kernel
theorem d_HM_init_87 : decode b_HM_init 87 = .ok (.invokespecial 41, 3) := by decide +kernel
theorem d_HM_init_90 : decode b_HM_init 90 = .ok (.aastore, 1) := by decide +kernel
theorem d_HM_init_91 : decode b_HM_init 91 = .ok (.aload_n 0, 1) := by decide +kernel
theorem d_HM_init_92 : decode b_HM_init 92 = .ok (.getfield 32, 3) := by decide +kernel
theorem d_HM_init_95 : decode b_HM_init 95 = .ok (.iconst 4, 1) := by decide +kernel
theorem d_HM_init_96 : decode b_HM_init 96 = .ok (.new 42, 3) := by decide +kernel
theorem d_HM_init_99 : decode b_HM_init 99 = .ok (.dup, 1) := by decide +kernel
theorem d_HM_init_100 : decode b_HM_init 100 = .ok (.invokespecial 44, 3) := by decide +kernel
theorem d_HM_init_103 : decode b_HM_init 103 = .ok (.aastore, 1) := by decide +kernel
theorem d_HM_init_104 : decode b_HM_init 104 = .ok (.return_, 1) := by decide +kernel
theorem d_He_init_0 : decode b_He_init 0 = .ok (.aload_n 0, 1) := by decide +kernel
theorem d_He_init_1 : decode b_He_init 1 = .ok (.invokespecial 3, 3) := by decide +kernel
theorem d_He_init_4 : decode b_He_init 4 = .ok (.aload_n 0, 1) := by decide +kernel
theorem d_He_init_5 : decode b_He_init 5 = .ok (.bipush 32, 2) := by decide +kernel
theorem d_He_init_7 : decode b_He_init 7 = .ok (.anewarray 9, 3) := by decide +kernel
theorem d_He_init_10 : decode b_He_init 10 = .ok (.putfield 11, 3) := by decide +kernel
theorem d_He_init_13 : decode b_He_init 13 = .ok (.aload_n 0, 1) := by decide +kernel
theorem d_He_init_14 : decode b_He_init 14 = .ok (.bipush 32, 2) := by decide +kernel
theorem d_He_init_16 : decode b_He_init 16 = .ok (.newarray .int, 2) := by decide +kernel
theorem d_He_init_18 : decode b_He_init 18 = .ok (.putfield 17, 3) := by decide +kernel
theorem d_He_init_21 : decode b_He_init 21 = .ok (.return_, 1) := by decide +kernel
theorem d_We_init_0 : decode b_We_init 0 = .ok (.aload_n 0, 1) := by decide +kernel
theorem d_We_init_1 : decode b_We_init 1 = .ok (.invokespecial 3, 3) := by decide +kernel
theorem d_We_init_4 : decode b_We_init 4 = .ok (.aload_n 0, 1) := by decide +kernel
theorem d_We_init_5 : decode b_We_init 5 = .ok (.new 9, 3) := by decide +kernel
theorem d_We_init_8 : decode b_We_init 8 = .ok (.dup, 1) := by decide +kernel
theorem d_We_init_9 : decode b_We_init 9 = .ok (.invokespecial 11, 3) := by decide +kernel
theorem d_We_init_12 : decode b_We_init 12 = .ok (.putfield 12, 3) := by decide +kernel
theorem d_We_init_15 : decode b_We_init 15 = .ok (.aload_n 0, 1) := by decide +kernel
theorem d_We_init_16 : decode b_We_init 16 = .ok (.iconst 4, 1) := by decide +kernel
theorem d_We_init_17 : decode b_We_init 17 = .ok (.putfield 18, 3) := by decide +kernel
theorem d_We_init_20 : decode b_We_init 20 = .ok (.return_, 1) := by decide +kernel
theorem d_Ro_init_0 : decode b_Ro_init 0 = .ok (.aload_n 0, 1) := by decide +kernel
theorem d_Ro_init_1 : decode b_Ro_init 1 = .ok (.invokespecial 1, 3) := by decide +kernel
theorem d_Ro_init_4 : decode b_Ro_init 4 = .ok (.aload_n 0, 1) := by decide +kernel
theorem d_Ro_init_5 : decode b_Ro_init 5 = .ok (.new 7, 3) := by decide +kernel
theorem d_Ro_init_8 : decode b_Ro_init 8 = .ok (.dup, 1) := by decide +kernel
theorem d_Ro_init_9 : decode b_Ro_init 9 = .ok (.invokespecial 9, 3) := by decide +kernel
theorem d_Ro_init_12 : decode b_Ro_init 12 = .ok (.putfield 10, 3) := by decide +kernel
theorem d_Ro_init_15 : decode b_Ro_init 15 = .ok (.return_, 1) := by decide +kernel
theorem d_Ta_init_0 : decode b_Ta_init 0 = .ok (.aload_n 0, 1) := by decide +kernel
theorem d_Ta_init_1 : decode b_Ta_init 1 = .ok (.invokespecial 3, 3) := by decide +kernel
theorem d_Ta_init_4 : decode b_Ta_init 4 = .ok (.return_, 1) := by decide +kernel
theorem d_So_init_0 : decode b_So_init 0 = .ok (.aload_n 0, 1) := by decide +kernel
theorem d_So_init_1 : decode b_So_init 1 = .ok (.invokespecial 3, 3) := by decide +kernel
theorem d_So_init_4 : decode b_So_init 4 = .ok (.return_, 1) := by decide +kernel
theorem d_Id_init_0 : decode b_Id_init 0 = .ok (.aload_n 0, 1) := by decide +kernel
theorem d_Id_init_1 : decode b_Id_init 1 = .ok (.invokespecial 3, 3) := by decide +kernel
theorem d_Id_init_4 : decode b_Id_init 4 = .ok (.aload_n 0, 1) := by decide +kernel
theorem d_Id_init_5 : decode b_Id_init 5 = .ok (.bipush 16, 2) := by decide +kernel
theorem d_Id_init_7 : decode b_Id_init 7 = .ok (.anewarray 9, 3) := by decide +kernel
theorem d_Id_init_10 : decode b_Id_init 10 = .ok (.putfield 11, 3) := by decide +kernel
theorem d_Id_init_13 : decode b_Id_init 13 = .ok (.return_, 1) := by decide +kernel
theorem d_Pl_init_0 : decode b_Pl_init 0 = .ok (.aload_n 0, 1) := by decide +kernel
theorem d_Pl_init_1 : decode b_Pl_init 1 = .ok (.invokespecial 3, 3) := by decide +kernel
theorem d_Pl_init_4 : decode b_Pl_init 4 = .ok (.return_, 1) := by decide +kernel
theorem d_La_init_0 : decode b_La_init 0 = .ok (.aload_n 0, 1) := by decide +kernel
theorem d_La_init_1 : decode b_La_init 1 = .ok (.invokespecial 3, 3) := by decide +kernel
theorem d_La_init_4 : decode b_La_init 4 = .ok (.return_, 1) := by decide +kernel
theorem d_HM_size_0 : decode b_HM_size 0 = .ok (.iload_n 1, 1) := by decide +kernel
theorem d_HM_size_1 : decode b_HM_size 1 = .ok (.invokestatic 143, 3) := by decide +kernel
theorem d_HM_size_4 : decode b_HM_size 4 = .ok (.ifCond .eq 15, 3) := by decide +kernel
theorem d_HM_size_7 : decode b_HM_size 7 = .ok (.aload_n 0, 1) := by decide +kernel
theorem d_HM_size_8 : decode b_HM_size 8 = .ok (.getfield 32, 3) := by decide +kernel
theorem d_HM_size_11 : decode b_HM_size 11 = .ok (.iload_n 1, 1) := by decide +kernel
theorem d_HM_size_12 : decode b_HM_size 12 = .ok (.aaload, 1) := by decide +kernel
theorem d_HM_size_13 : decode b_HM_size 13 = .ok (.invokevirtual 146, 3) := by decide +kernel
theorem d_HM_size_16 : decode b_HM_size 16 = .ok (.goto 4, 3) := by decide +kernel
theorem d_HM_size_19 : decode b_HM_size 19 = .ok (.iconst (-1), 1) := by decide +kernel
theorem d_HM_size_20 : decode b_HM_size 20 = .ok (.ireturn, 1) := by decide +kernel
theorem d_HM_isMap_0 : decode b_HM_isMap 0 = .ok (.iload_n 0, 1) := by decide +kernel
theorem d_HM_isMap_1 : decode b_HM_isMap 1 = .ok (.ifCond .lt 12, 3) := by decide +kernel
theorem d_HM_isMap_4 : decode b_HM_isMap 4 = .ok (.iload_n 0, 1) := by decide +kernel
theorem d_HM_isMap_5 : decode b_HM_isMap 5 = .ok (.iconst 5, 1) := by decide +kernel
theorem d_HM_isMap_6 : decode b_HM_isMap 6 = .ok (.if_icmp .ge 7, 3) := by decide +kernel
theorem d_HM_isMap_9 : decode b_HM_isMap 9 = .ok (.iconst 1, 1) := by decide +kernel
theorem d_HM_isMap_10 : decode b_HM_isMap 10 = .ok (.goto 4, 3) := by decide +kernel
theorem d_HM_isMap_13 : decode b_HM_isMap 13 = .ok (.iconst 0, 1) := by decide +kernel
theorem d_HM_isMap_14 : decode b_HM_isMap 14 = .ok (.ireturn, 1) := by decide +kernel
theorem d_Id_length_0 : decode b_Id_length 0 = .ok (.aload_n 0, 1) := by decide +kernel
theorem d_Id_length_1 : decode b_Id_length 1 = .ok (.getfield 17, 3) := by decide +kernel
theorem d_Id_length_4 : decode b_Id_length 4 = .ok (.ireturn, 1) := by decide +kernel
theorem d_Ro_length_0 : decode b_Ro_length 0 = .ok (.aload_n 0, 1) := by decide +kernel
theorem d_Ro_length_1 : decode b_Ro_length 1 = .ok (.getfield 10, 3) := by decide +kernel
theorem d_Ro_length_4 : decode b_Ro_length 4 = .ok (.invokevirtual 16, 3) := by decide +kernel
theorem d_Ro_length_7 : decode b_Ro_length 7 = .ok (.ireturn, 1) := by decide +kernel
theorem d_HM_value_0 : decode b_HM_value 0 = .ok (.aload_n 0, 1) := by decide +kernel
theorem d_HM_value_1 : decode b_HM_value 1 = .ok (.getfield 10, 3) := by decide +kernel
theorem d_HM_value_4 : decode b_HM_value 4 = .ok (.iload_n 1, 1) := by decide +kernel
theorem d_HM_value_5 : decode b_HM_value 5 = .ok (.invokevirtual 70, 3) := by decide +kernel
theorem d_HM_value_8 : decode b_HM_value 8 = .ok (.ifCond .eq 18, 3) := by decide +kernel
theorem d_HM_value_11 : decode b_HM_value 11 = .ok (.aload_n 0, 1) := by decide +kernel
theorem d_HM_value_12 : decode b_HM_value 12 = .ok (.getfield 10, 3) := by decide +kernel
theorem d_HM_value_15 : decode b_HM_value 15 = .ok (.getfield 61, 3) := by decide +kernel
theorem d_HM_value_18 : decode b_HM_value 18 = .ok (.iload_n 1, 1) := by decide +kernel
theorem d_HM_value_19 : decode b_HM_value 19 = .ok (.aaload, 1) := by decide +kernel
theorem d_HM_value_20 : decode b_HM_value 20 = .ok (.getfield 94, 3) := by decide +kernel
theorem d_HM_value_23 : decode b_HM_value 23 = .ok (.goto 4, 3) := by decide +kernel
theorem d_HM_value_26 : decode b_HM_value 26 = .ok (.iconst (-1), 1) := by decide +kernel
theorem d_HM_value_27 : decode b_HM_value 27 = .ok (.ireturn, 1) := by decide +kernel
theorem d_He_has_0 : decode b_He_has 0 = .ok (.iload_n 1, 1) := by decide +kernel
theorem d_He_has_1 : decode b_He_has 1 = .ok (.ifCond .lt 22, 3) := by decide +kernel
theorem d_He_has_4 : decode b_He_has 4 = .ok (.iload_n 1, 1) := by decide +kernel
theorem d_He_has_5 : decode b_He_has 5 = .ok (.bipush 32, 2) := by decide +kernel
theorem d_He_has_7 : decode b_He_has 7 = .ok (.if_icmp .ge 16, 3) := by decide +kernel
theorem d_He_has_10 : decode b_He_has 10 = .ok (.aload_n 0, 1) := by decide +kernel
theorem d_He_has_11 : decode b_He_has 11 = .ok (.getfield 11, 3) := by decide +kernel
theorem d_He_has_14 : decode b_He_has 14 = .ok (.iload_n 1, 1) := by decide +kernel
theorem d_He_has_15 : decode b_He_has 15 = .ok (.aaload, 1) := by decide +kernel
theorem d_He_has_16 : decode b_He_has 16 = .ok (.ifnull 7, 3) := by decide +kernel
theorem d_He_has_19 : decode b_He_has 19 = .ok (.iconst 1, 1) := by decide +kernel
theorem d_He_has_20 : decode b_He_has 20 = .ok (.goto 4, 3) := by decide +kernel
theorem d_He_has_23 : decode b_He_has 23 = .ok (.iconst 0, 1) := by decide +kernel
theorem d_He_has_24 : decode b_He_has 24 = .ok (.ireturn, 1) := by decide +kernel
theorem d_HM_count_0 : decode b_HM_count 0 = .ok (.iload_n 1, 1) := by decide +kernel
theorem d_HM_count_1 : decode b_HM_count 1 = .ok (.tableswitch 63 0 3 #[31, 39, 47, 55], 31) := by decide +kernel
theorem d_HM_count_32 : decode b_HM_count 32 = .ok (.aload_n 0, 1) := by decide +kernel
theorem d_HM_count_33 : decode b_HM_count 33 = .ok (.getfield 10, 3) := by decide +kernel
theorem d_HM_count_36 : decode b_HM_count 36 = .ok (.invokevirtual 193, 3) := by decide +kernel
theorem d_HM_count_39 : decode b_HM_count 39 = .ok (.ireturn, 1) := by decide +kernel
theorem d_HM_count_40 : decode b_HM_count 40 = .ok (.aload_n 0, 1) := by decide +kernel
theorem d_HM_count_41 : decode b_HM_count 41 = .ok (.getfield 10, 3) := by decide +kernel
theorem d_HM_count_44 : decode b_HM_count 44 = .ok (.getfield 196, 3) := by decide +kernel
theorem d_HM_count_47 : decode b_HM_count 47 = .ok (.ireturn, 1) := by decide +kernel
theorem d_HM_count_48 : decode b_HM_count 48 = .ok (.aload_n 0, 1) := by decide +kernel
theorem d_HM_count_49 : decode b_HM_count 49 = .ok (.getfield 19, 3) := by decide +kernel
theorem d_HM_count_52 : decode b_HM_count 52 = .ok (.getfield 199, 3) := by decide +kernel
theorem d_HM_count_55 : decode b_HM_count 55 = .ok (.ireturn, 1) := by decide +kernel
theorem d_HM_count_56 : decode b_HM_count 56 = .ok (.aload_n 0, 1) := by decide +kernel
theorem d_HM_count_57 : decode b_HM_count 57 = .ok (.getfield 26, 3) := by decide +kernel
theorem d_HM_count_60 : decode b_HM_count 60 = .ok (.getfield 202, 3) := by decide +kernel
theorem d_HM_count_63 : decode b_HM_count 63 = .ok (.ireturn, 1) := by decide +kernel
theorem d_HM_count_64 : decode b_HM_count 64 = .ok (.iconst (-1), 1) := by decide +kernel
theorem d_HM_count_65 : decode b_HM_count 65 = .ok (.ireturn, 1) := by decide +kernel
theorem d_He_living_0 : decode b_He_living 0 = .ok (.iconst 0, 1) := by decide +kernel
theorem d_He_living_1 : decode b_He_living 1 = .ok (.istore_n 1, 1) := by decide +kernel
theorem d_He_living_2 : decode b_He_living 2 = .ok (.iconst 0, 1) := by decide +kernel
theorem d_He_living_3 : decode b_He_living 3 = .ok (.istore_n 2, 1) := by decide +kernel
theorem d_He_living_4 : decode b_He_living 4 = .ok (.iload_n 2, 1) := by decide +kernel
theorem d_He_living_5 : decode b_He_living 5 = .ok (.bipush 32, 2) := by decide +kernel
theorem d_He_living_7 : decode b_He_living 7 = .ok (.if_icmp .ge 21, 3) := by decide +kernel
theorem d_He_living_10 : decode b_He_living 10 = .ok (.aload_n 0, 1) := by decide +kernel
theorem d_He_living_11 : decode b_He_living 11 = .ok (.getfield 11, 3) := by decide +kernel
theorem d_He_living_14 : decode b_He_living 14 = .ok (.iload_n 2, 1) := by decide +kernel
theorem d_He_living_15 : decode b_He_living 15 = .ok (.aaload, 1) := by decide +kernel
theorem d_He_living_16 : decode b_He_living 16 = .ok (.ifnull 6, 3) := by decide +kernel
theorem d_He_living_19 : decode b_He_living 19 = .ok (.iinc 1 1, 3) := by decide +kernel
theorem d_He_living_22 : decode b_He_living 22 = .ok (.iinc 2 1, 3) := by decide +kernel
theorem d_He_living_25 : decode b_He_living 25 = .ok (.goto (-21), 3) := by decide +kernel
theorem d_He_living_28 : decode b_He_living 28 = .ok (.iload_n 1, 1) := by decide +kernel
theorem d_He_living_29 : decode b_He_living 29 = .ok (.ireturn, 1) := by decide +kernel
theorem d_HM_make_0 : decode b_HM_make 0 = .ok (.iload_n 1, 1) := by decide +kernel
theorem d_HM_make_1 : decode b_HM_make 1 = .ok (.ifCond .lt 9, 3) := by decide +kernel
theorem d_HM_make_4 : decode b_HM_make 4 = .ok (.iload_n 1, 1) := by decide +kernel
theorem d_HM_make_5 : decode b_HM_make 5 = .ok (.bipush 99, 2) := by decide +kernel
theorem d_HM_make_7 : decode b_HM_make 7 = .ok (.if_icmp .le 13, 3) := by decide +kernel
theorem d_HM_make_10 : decode b_HM_make 10 = .ok (.new 45, 3) := by decide +kernel
theorem d_HM_make_13 : decode b_HM_make 13 = .ok (.dup, 1) := by decide +kernel
theorem d_HM_make_14 : decode b_HM_make 14 = .ok (.ldc 47, 2) := by decide +kernel
theorem d_HM_make_16 : decode b_HM_make 16 = .ok (.invokespecial 49, 3) := by decide +kernel
theorem d_HM_make_19 : decode b_HM_make 19 = .ok (.athrow, 1) := by decide +kernel
theorem d_HM_make_20 : decode b_HM_make 20 = .ok (.aload_n 0, 1) := by decide +kernel
theorem d_HM_make_21 : decode b_HM_make 21 = .ok (.getfield 10, 3) := by decide +kernel
theorem d_HM_make_24 : decode b_HM_make 24 = .ok (.invokevirtual 52, 3) := by decide +kernel
theorem d_HM_make_27 : decode b_HM_make 27 = .ok (.istore_n 2, 1) := by decide +kernel
theorem d_HM_make_28 : decode b_HM_make 28 = .ok (.iload_n 2, 1) := by decide +kernel
theorem d_HM_make_29 : decode b_HM_make 29 = .ok (.iconst (-1), 1) := by decide +kernel
theorem d_HM_make_30 : decode b_HM_make 30 = .ok (.if_icmp .ne 13, 3) := by decide +kernel
theorem d_HM_make_33 : decode b_HM_make 33 = .ok (.new 56, 3) := by decide +kernel
theorem d_HM_make_36 : decode b_HM_make 36 = .ok (.dup, 1) := by decide +kernel
theorem d_HM_make_37 : decode b_HM_make 37 = .ok (.ldc 58, 2) := by decide +kernel
theorem d_HM_make_39 : decode b_HM_make 39 = .ok (.invokespecial 60, 3) := by decide +kernel
theorem d_HM_make_42 : decode b_HM_make 42 = .ok (.athrow, 1) := by decide +kernel
theorem d_HM_make_43 : decode b_HM_make 43 = .ok (.aload_n 0, 1) := by decide +kernel
theorem d_HM_make_44 : decode b_HM_make 44 = .ok (.getfield 10, 3) := by decide +kernel
theorem d_HM_make_47 : decode b_HM_make 47 = .ok (.getfield 61, 3) := by decide +kernel
theorem d_HM_make_50 : decode b_HM_make 50 = .ok (.iload_n 2, 1) := by decide +kernel
theorem d_HM_make_51 : decode b_HM_make 51 = .ok (.new 65, 3) := by decide +kernel
theorem d_HM_make_54 : decode b_HM_make 54 = .ok (.dup, 1) := by decide +kernel
theorem d_HM_make_55 : decode b_HM_make 55 = .ok (.iload_n 1, 1) := by decide +kernel
theorem d_HM_make_56 : decode b_HM_make 56 = .ok (.invokespecial 67, 3) := by decide +kernel
theorem d_HM_make_59 : decode b_HM_make 59 = .ok (.aastore, 1) := by decide +kernel
theorem d_HM_make_60 : decode b_HM_make 60 = .ok (.iload_n 2, 1) := by decide +kernel
theorem d_HM_make_61 : decode b_HM_make 61 = .ok (.ireturn, 1) := by decide +kernel
theorem d_He_lowestFree_0 : decode b_He_lowestFree 0 = .ok (.iconst 0, 1) := by decide +kernel
theorem d_He_lowestFree_1 : decode b_He_lowestFree 1 = .ok (.istore_n 1, 1) := by decide +kernel
theorem d_He_lowestFree_2 : decode b_He_lowestFree 2 = .ok (.iload_n 1, 1) := by decide +kernel
theorem d_He_lowestFree_3 : decode b_He_lowestFree 3 = .ok (.bipush 32, 2) := by decide +kernel
theorem d_He_lowestFree_5 : decode b_He_lowestFree 5 = .ok (.if_icmp .ge 20, 3) := by decide +kernel
theorem d_He_lowestFree_8 : decode b_He_lowestFree 8 = .ok (.aload_n 0, 1) := by decide +kernel
theorem d_He_lowestFree_9 : decode b_He_lowestFree 9 = .ok (.getfield 11, 3) := by decide +kernel
theorem d_He_lowestFree_12 : decode b_He_lowestFree 12 = .ok (.iload_n 1, 1) := by decide +kernel
theorem d_He_lowestFree_13 : decode b_He_lowestFree 13 = .ok (.aaload, 1) := by decide +kernel
theorem d_He_lowestFree_14 : decode b_He_lowestFree 14 = .ok (.ifnonnull 5, 3) := by decide +kernel
theorem d_He_lowestFree_17 : decode b_He_lowestFree 17 = .ok (.iload_n 1, 1) := by decide +kernel
theorem d_He_lowestFree_18 : decode b_He_lowestFree 18 = .ok (.ireturn, 1) := by decide +kernel
theorem d_He_lowestFree_19 : decode b_He_lowestFree 19 = .ok (.iinc 1 1, 3) := by decide +kernel
theorem d_He_lowestFree_22 : decode b_He_lowestFree 22 = .ok (.goto (-20), 3) := by decide +kernel
theorem d_He_lowestFree_25 : decode b_He_lowestFree 25 = .ok (.iconst (-1), 1) := by decide +kernel
theorem d_He_lowestFree_26 : decode b_He_lowestFree 26 = .ok (.ireturn, 1) := by decide +kernel
theorem d_Th_init_0 : decode b_Th_init 0 = .ok (.aload_n 0, 1) := by decide +kernel
theorem d_Th_init_1 : decode b_Th_init 1 = .ok (.invokespecial 3, 3) := by decide +kernel
theorem d_Th_init_4 : decode b_Th_init 4 = .ok (.aload_n 0, 1) := by decide +kernel
theorem d_Th_init_5 : decode b_Th_init 5 = .ok (.iload_n 1, 1) := by decide +kernel
theorem d_Th_init_6 : decode b_Th_init 6 = .ok (.putfield 9, 3) := by decide +kernel
theorem d_Th_init_9 : decode b_Th_init 9 = .ok (.aload_n 0, 1) := by decide +kernel
theorem d_Th_init_10 : decode b_Th_init 10 = .ok (.iconst 2, 1) := by decide +kernel
theorem d_Th_init_11 : decode b_Th_init 11 = .ok (.newarray .int, 2) := by decide +kernel
theorem d_Th_init_13 : decode b_Th_init 13 = .ok (.dup, 1) := by decide +kernel
theorem d_Th_init_14 : decode b_Th_init 14 = .ok (.iconst 0, 1) := by decide +kernel
theorem d_Th_init_15 : decode b_Th_init 15 = .ok (.iconst (-1), 1) := by decide +kernel
theorem d_Th_init_16 : decode b_Th_init 16 = .ok (.iastore, 1) := by decide +kernel
theorem d_Th_init_17 : decode b_Th_init 17 = .ok (.dup, 1) := by decide +kernel
theorem d_Th_init_18 : decode b_Th_init 18 = .ok (.iconst 1, 1) := by decide +kernel
theorem d_Th_init_19 : decode b_Th_init 19 = .ok (.iconst (-1), 1) := by decide +kernel
theorem d_Th_init_20 : decode b_Th_init 20 = .ok (.iastore, 1) := by decide +kernel
theorem d_Th_init_21 : decode b_Th_init 21 = .ok (.putfield 15, 3) := by decide +kernel
theorem d_Th_init_24 : decode b_Th_init 24 = .ok (.return_, 1) := by decide +kernel
theorem d_HM_refer_0 : decode b_HM_refer 0 = .ok (.aload_n 0, 1) := by decide +kernel
theorem d_HM_refer_1 : decode b_HM_refer 1 = .ok (.getfield 10, 3) := by decide +kernel
theorem d_HM_refer_4 : decode b_HM_refer 4 = .ok (.iload_n 1, 1) := by decide +kernel
theorem d_HM_refer_5 : decode b_HM_refer 5 = .ok (.invokevirtual 70, 3) := by decide +kernel
theorem d_HM_refer_8 : decode b_HM_refer 8 = .ok (.ifCond .eq 12, 3) := by decide +kernel
theorem d_HM_refer_11 : decode b_HM_refer 11 = .ok (.iload_n 2, 1) := by decide +kernel
theorem d_HM_refer_12 : decode b_HM_refer 12 = .ok (.ifCond .lt 8, 3) := by decide +kernel
theorem d_HM_refer_15 : decode b_HM_refer 15 = .ok (.iload_n 2, 1) := by decide +kernel
theorem d_HM_refer_16 : decode b_HM_refer 16 = .ok (.iconst 2, 1) := by decide +kernel
theorem d_HM_refer_17 : decode b_HM_refer 17 = .ok (.if_icmp .lt 13, 3) := by decide +kernel
theorem d_HM_refer_20 : decode b_HM_refer 20 = .ok (.new 45, 3) := by decide +kernel
theorem d_HM_refer_23 : decode b_HM_refer 23 = .ok (.dup, 1) := by decide +kernel
theorem d_HM_refer_24 : decode b_HM_refer 24 = .ok (.ldc 74, 2) := by decide +kernel
theorem d_HM_refer_26 : decode b_HM_refer 26 = .ok (.invokespecial 49, 3) := by decide +kernel
theorem d_HM_refer_29 : decode b_HM_refer 29 = .ok (.athrow, 1) := by decide +kernel
theorem d_HM_refer_30 : decode b_HM_refer 30 = .ok (.iload_n 3, 1) := by decide +kernel
theorem d_HM_refer_31 : decode b_HM_refer 31 = .ok (.iconst (-1), 1) := by decide +kernel
theorem d_HM_refer_32 : decode b_HM_refer 32 = .ok (.if_icmp .eq 24, 3) := by decide +kernel
theorem d_HM_refer_35 : decode b_HM_refer 35 = .ok (.aload_n 0, 1) := by decide +kernel
theorem d_HM_refer_36 : decode b_HM_refer 36 = .ok (.getfield 10, 3) := by decide +kernel
theorem d_HM_refer_39 : decode b_HM_refer 39 = .ok (.iload_n 3, 1) := by decide +kernel
theorem d_HM_refer_40 : decode b_HM_refer 40 = .ok (.invokevirtual 70, 3) := by decide +kernel
theorem d_HM_refer_43 : decode b_HM_refer 43 = .ok (.ifCond .ne 13, 3) := by decide +kernel
theorem d_HM_refer_46 : decode b_HM_refer 46 = .ok (.new 45, 3) := by decide +kernel
theorem d_HM_refer_49 : decode b_HM_refer 49 = .ok (.dup, 1) := by decide +kernel
theorem d_HM_refer_50 : decode b_HM_refer 50 = .ok (.ldc 76, 2) := by decide +kernel
theorem d_HM_refer_52 : decode b_HM_refer 52 = .ok (.invokespecial 49, 3) := by decide +kernel
theorem d_HM_refer_55 : decode b_HM_refer 55 = .ok (.athrow, 1) := by decide +kernel
theorem d_HM_refer_56 : decode b_HM_refer 56 = .ok (.aload_n 0, 1) := by decide +kernel
theorem d_HM_refer_57 : decode b_HM_refer 57 = .ok (.getfield 10, 3) := by decide +kernel
theorem d_HM_refer_60 : decode b_HM_refer 60 = .ok (.getfield 61, 3) := by decide +kernel
theorem d_HM_refer_63 : decode b_HM_refer 63 = .ok (.iload_n 1, 1) := by decide +kernel
theorem d_HM_refer_64 : decode b_HM_refer 64 = .ok (.aaload, 1) := by decide +kernel
theorem d_HM_refer_65 : decode b_HM_refer 65 = .ok (.getfield 78, 3) := by decide +kernel
theorem d_HM_refer_68 : decode b_HM_refer 68 = .ok (.astore 4, 2) := by decide +kernel
theorem d_HM_refer_70 : decode b_HM_refer 70 = .ok (.aload 4, 2) := by decide +kernel
theorem d_HM_refer_72 : decode b_HM_refer 72 = .ok (.iload_n 2, 1) := by decide +kernel
theorem d_HM_refer_73 : decode b_HM_refer 73 = .ok (.iaload, 1) := by decide +kernel
theorem d_HM_refer_74 : decode b_HM_refer 74 = .ok (.istore 5, 2) := by decide +kernel
theorem d_HM_refer_76 : decode b_HM_refer 76 = .ok (.aload 4, 2) := by decide +kernel
theorem d_HM_refer_78 : decode b_HM_refer 78 = .ok (.iload_n 2, 1) := by decide +kernel
theorem d_HM_refer_79 : decode b_HM_refer 79 = .ok (.iload_n 3, 1) := by decide +kernel
theorem d_HM_refer_80 : decode b_HM_refer 80 = .ok (.iastore, 1) := by decide +kernel
theorem d_HM_refer_81 : decode b_HM_refer 81 = .ok (.iload 5, 2) := by decide +kernel
theorem d_HM_refer_83 : decode b_HM_refer 83 = .ok (.ireturn, 1) := by decide +kernel
theorem d_HM_root_0 : decode b_HM_root 0 = .ok (.aload_n 0, 1) := by decide +kernel
theorem d_HM_root_1 : decode b_HM_root 1 = .ok (.getfield 10, 3) := by decide +kernel
theorem d_HM_root_4 : decode b_HM_root 4 = .ok (.iload_n 1, 1) := by decide +kernel
theorem d_HM_root_5 : decode b_HM_root 5 = .ok (.invokevirtual 70, 3) := by decide +kernel
theorem d_HM_root_8 : decode b_HM_root 8 = .ok (.ifCond .ne 13, 3) := by decide +kernel
theorem d_HM_root_11 : decode b_HM_root 11 = .ok (.new 45, 3) := by decide +kernel
theorem d_HM_root_14 : decode b_HM_root 14 = .ok (.dup, 1) := by decide +kernel
theorem d_HM_root_15 : decode b_HM_root 15 = .ok (.ldc 82, 2) := by decide +kernel
theorem d_HM_root_17 : decode b_HM_root 17 = .ok (.invokespecial 49, 3) := by decide +kernel
theorem d_HM_root_20 : decode b_HM_root 20 = .ok (.athrow, 1) := by decide +kernel
theorem d_HM_root_21 : decode b_HM_root 21 = .ok (.aload_n 0, 1) := by decide +kernel
theorem d_HM_root_22 : decode b_HM_root 22 = .ok (.getfield 10, 3) := by decide +kernel
theorem d_HM_root_25 : decode b_HM_root 25 = .ok (.getfield 61, 3) := by decide +kernel
theorem d_HM_root_28 : decode b_HM_root 28 = .ok (.iload_n 1, 1) := by decide +kernel
theorem d_HM_root_29 : decode b_HM_root 29 = .ok (.aaload, 1) := by decide +kernel
theorem d_HM_root_30 : decode b_HM_root 30 = .ok (.astore_n 3, 1) := by decide +kernel
theorem d_HM_root_31 : decode b_HM_root 31 = .ok (.aload_n 3, 1) := by decide +kernel
theorem d_HM_root_32 : decode b_HM_root 32 = .ok (.getfield 84, 3) := by decide +kernel
theorem d_HM_root_35 : decode b_HM_root 35 = .ok (.istore 4, 2) := by decide +kernel
theorem d_HM_root_37 : decode b_HM_root 37 = .ok (.aload_n 3, 1) := by decide +kernel
theorem d_HM_root_38 : decode b_HM_root 38 = .ok (.iload_n 2, 1) := by decide +kernel
theorem d_HM_root_39 : decode b_HM_root 39 = .ok (.putfield 84, 3) := by decide +kernel
theorem d_HM_root_42 : decode b_HM_root 42 = .ok (.iload 4, 2) := by decide +kernel
theorem d_HM_root_44 : decode b_HM_root 44 = .ok (.ireturn, 1) := by decide +kernel
theorem d_HM_put_0 : decode b_HM_put 0 = .ok (.aload_n 0, 1) := by decide +kernel
theorem d_HM_put_1 : decode b_HM_put 1 = .ok (.iload_n 1, 1) := by decide +kernel
theorem d_HM_put_2 : decode b_HM_put 2 = .ok (.iload_n 2, 1) := by decide +kernel
theorem d_HM_put_3 : decode b_HM_put 3 = .ok (.invokevirtual 88, 3) := by decide +kernel
theorem d_HM_put_6 : decode b_HM_put 6 = .ok (.ifCond .eq 14, 3) := by decide +kernel
theorem d_HM_put_9 : decode b_HM_put 9 = .ok (.aload_n 0, 1) := by decide +kernel
theorem d_HM_put_10 : decode b_HM_put 10 = .ok (.getfield 10, 3) := by decide +kernel
theorem d_HM_put_13 : decode b_HM_put 13 = .ok (.iload_n 3, 1) := by decide +kernel
theorem d_HM_put_14 : decode b_HM_put 14 = .ok (.invokevirtual 70, 3) := by decide +kernel
theorem d_HM_put_17 : decode b_HM_put 17 = .ok (.ifCond .ne 13, 3) := by decide +kernel
theorem d_HM_put_20 : decode b_HM_put 20 = .ok (.new 45, 3) := by decide +kernel
theorem d_HM_put_23 : decode b_HM_put 23 = .ok (.dup, 1) := by decide +kernel
theorem d_HM_put_24 : decode b_HM_put 24 = .ok (.ldc 92, 2) := by decide +kernel
theorem d_HM_put_26 : decode b_HM_put 26 = .ok (.invokespecial 49, 3) := by decide +kernel
theorem d_HM_put_29 : decode b_HM_put 29 = .ok (.athrow, 1) := by decide +kernel
theorem d_HM_put_30 : decode b_HM_put 30 = .ok (.aload_n 0, 1) := by decide +kernel
theorem d_HM_put_31 : decode b_HM_put 31 = .ok (.getfield 32, 3) := by decide +kernel
theorem d_HM_put_34 : decode b_HM_put 34 = .ok (.iload_n 1, 1) := by decide +kernel
theorem d_HM_put_35 : decode b_HM_put 35 = .ok (.aaload, 1) := by decide +kernel
theorem d_HM_put_36 : decode b_HM_put 36 = .ok (.astore 4, 2) := by decide +kernel
theorem d_HM_put_38 : decode b_HM_put 38 = .ok (.aload_n 0, 1) := by decide +kernel
theorem d_HM_put_39 : decode b_HM_put 39 = .ok (.getfield 10, 3) := by decide +kernel
theorem d_HM_put_42 : decode b_HM_put 42 = .ok (.getfield 61, 3) := by decide +kernel
theorem d_HM_put_45 : decode b_HM_put 45 = .ok (.iload_n 2, 1) := by decide +kernel
theorem d_HM_put_46 : decode b_HM_put 46 = .ok (.aaload, 1) := by decide +kernel
theorem d_HM_put_47 : decode b_HM_put 47 = .ok (.getfield 94, 3) := by decide +kernel
theorem d_HM_put_50 : decode b_HM_put 50 = .ok (.istore 5, 2) := by decide +kernel
theorem d_HM_put_52 : decode b_HM_put 52 = .ok (.aload 4, 2) := by decide +kernel
theorem d_HM_put_54 : decode b_HM_put 54 = .ok (.iload_n 2, 1) := by decide +kernel
theorem d_HM_put_55 : decode b_HM_put 55 = .ok (.iload 5, 2) := by decide +kernel
theorem d_HM_put_57 : decode b_HM_put 57 = .ok (.invokevirtual 98, 3) := by decide +kernel
theorem d_HM_put_60 : decode b_HM_put 60 = .ok (.istore 6, 2) := by decide +kernel
theorem d_HM_put_62 : decode b_HM_put 62 = .ok (.aload 4, 2) := by decide +kernel
theorem d_HM_put_64 : decode b_HM_put 64 = .ok (.iload 6, 2) := by decide +kernel
theorem d_HM_put_66 : decode b_HM_put 66 = .ok (.invokevirtual 102, 3) := by decide +kernel
theorem d_HM_put_69 : decode b_HM_put 69 = .ok (.istore 7, 2) := by decide +kernel
theorem d_HM_put_71 : decode b_HM_put 71 = .ok (.aload 4, 2) := by decide +kernel
theorem d_HM_put_73 : decode b_HM_put 73 = .ok (.iload 7, 2) := by decide +kernel
theorem d_HM_put_75 : decode b_HM_put 75 = .ok (.invokevirtual 106, 3) := by decide +kernel
theorem d_HM_put_78 : decode b_HM_put 78 = .ok (.astore 8, 2) := by decide +kernel
theorem d_HM_put_80 : decode b_HM_put 80 = .ok (.aload 8, 2) := by decide +kernel
theorem d_HM_put_82 : decode b_HM_put 82 = .ok (.ifnonnull 21, 3) := by decide +kernel
theorem d_HM_put_85 : decode b_HM_put 85 = .ok (.aload 4, 2) := by decide +kernel
theorem d_HM_put_87 : decode b_HM_put 87 = .ok (.invokevirtual 110, 3) := by decide +kernel
theorem d_HM_put_90 : decode b_HM_put 90 = .ok (.ifCond .eq 13, 3) := by decide +kernel
theorem d_HM_put_93 : decode b_HM_put 93 = .ok (.new 56, 3) := by decide +kernel
theorem d_HM_put_96 : decode b_HM_put 96 = .ok (.dup, 1) := by decide +kernel
theorem d_HM_put_97 : decode b_HM_put 97 = .ok (.ldc 114, 2) := by decide +kernel
theorem d_HM_put_99 : decode b_HM_put 99 = .ok (.invokespecial 60, 3) := by decide +kernel
theorem d_HM_put_102 : decode b_HM_put 102 = .ok (.athrow, 1) := by decide +kernel
theorem d_HM_put_103 : decode b_HM_put 103 = .ok (.aload 4, 2) := by decide +kernel
theorem d_HM_put_105 : decode b_HM_put 105 = .ok (.invokevirtual 116, 3) := by decide +kernel
theorem d_HM_put_108 : decode b_HM_put 108 = .ok (.aload 8, 2) := by decide +kernel
theorem d_HM_put_110 : decode b_HM_put 110 = .ok (.ifnonnull 28, 3) := by decide +kernel
theorem d_HM_put_113 : decode b_HM_put 113 = .ok (.aload 4, 2) := by decide +kernel
theorem d_HM_put_115 : decode b_HM_put 115 = .ok (.new 119, 3) := by decide +kernel
theorem d_HM_put_118 : decode b_HM_put 118 = .ok (.dup, 1) := by decide +kernel
theorem d_HM_put_119 : decode b_HM_put 119 = .ok (.aload 4, 2) := by decide +kernel
theorem d_HM_put_121 : decode b_HM_put 121 = .ok (.iload_n 2, 1) := by decide +kernel
theorem d_HM_put_122 : decode b_HM_put 122 = .ok (.iload 5, 2) := by decide +kernel
theorem d_HM_put_124 : decode b_HM_put 124 = .ok (.invokevirtual 121, 3) := by decide +kernel
theorem d_HM_put_127 : decode b_HM_put 127 = .ok (.iload 6, 2) := by decide +kernel
theorem d_HM_put_129 : decode b_HM_put 129 = .ok (.iload_n 3, 1) := by decide +kernel
theorem d_HM_put_130 : decode b_HM_put 130 = .ok (.invokespecial 124, 3) := by decide +kernel
theorem d_HM_put_133 : decode b_HM_put 133 = .ok (.invokevirtual 127, 3) := by decide +kernel
theorem d_HM_put_136 : decode b_HM_put 136 = .ok (.iconst (-1), 1) := by decide +kernel
theorem d_HM_put_137 : decode b_HM_put 137 = .ok (.ireturn, 1) := by decide +kernel
theorem d_HM_put_138 : decode b_HM_put 138 = .ok (.aload 8, 2) := by decide +kernel
theorem d_HM_put_140 : decode b_HM_put 140 = .ok (.getfield 131, 3) := by decide +kernel
theorem d_HM_put_143 : decode b_HM_put 143 = .ok (.istore 9, 2) := by decide +kernel
theorem d_HM_put_145 : decode b_HM_put 145 = .ok (.aload 8, 2) := by decide +kernel
theorem d_HM_put_147 : decode b_HM_put 147 = .ok (.iload_n 3, 1) := by decide +kernel
theorem d_HM_put_148 : decode b_HM_put 148 = .ok (.putfield 131, 3) := by decide +kernel
theorem d_HM_put_151 : decode b_HM_put 151 = .ok (.aload 4, 2) := by decide +kernel
theorem d_HM_put_153 : decode b_HM_put 153 = .ok (.iload 7, 2) := by decide +kernel
theorem d_HM_put_155 : decode b_HM_put 155 = .ok (.invokevirtual 132, 3) := by decide +kernel
theorem d_HM_put_158 : decode b_HM_put 158 = .ok (.iload 9, 2) := by decide +kernel
theorem d_HM_put_160 : decode b_HM_put 160 = .ok (.ireturn, 1) := by decide +kernel
theorem d_HM_isKeyOf_0 : decode b_HM_isKeyOf 0 = .ok (.iload_n 1, 1) := by decide +kernel
theorem d_HM_isKeyOf_1 : decode b_HM_isKeyOf 1 = .ok (.invokestatic 143, 3) := by decide +kernel
theorem d_HM_isKeyOf_4 : decode b_HM_isKeyOf 4 = .ok (.ifCond .eq 42, 3) := by decide +kernel
theorem d_HM_isKeyOf_7 : decode b_HM_isKeyOf 7 = .ok (.aload_n 0, 1) := by decide +kernel
theorem d_HM_isKeyOf_8 : decode b_HM_isKeyOf 8 = .ok (.getfield 10, 3) := by decide +kernel
theorem d_HM_isKeyOf_11 : decode b_HM_isKeyOf 11 = .ok (.iload_n 2, 1) := by decide +kernel
theorem d_HM_isKeyOf_12 : decode b_HM_isKeyOf 12 = .ok (.invokevirtual 70, 3) := by decide +kernel
theorem d_HM_isKeyOf_15 : decode b_HM_isKeyOf 15 = .ok (.ifCond .eq 31, 3) := by decide +kernel
theorem d_HM_isKeyOf_18 : decode b_HM_isKeyOf 18 = .ok (.aload_n 0, 1) := by decide +kernel
theorem d_HM_isKeyOf_19 : decode b_HM_isKeyOf 19 = .ok (.getfield 32, 3) := by decide +kernel
theorem d_HM_isKeyOf_22 : decode b_HM_isKeyOf 22 = .ok (.iload_n 1, 1) := by decide +kernel
theorem d_HM_isKeyOf_23 : decode b_HM_isKeyOf 23 = .ok (.aaload, 1) := by decide +kernel
theorem d_HM_isKeyOf_24 : decode b_HM_isKeyOf 24 = .ok (.aload_n 0, 1) := by decide +kernel
theorem d_HM_isKeyOf_25 : decode b_HM_isKeyOf 25 = .ok (.getfield 10, 3) := by decide +kernel
theorem d_HM_isKeyOf_28 : decode b_HM_isKeyOf 28 = .ok (.getfield 61, 3) := by decide +kernel
theorem d_HM_isKeyOf_31 : decode b_HM_isKeyOf 31 = .ok (.iload_n 2, 1) := by decide +kernel
theorem d_HM_isKeyOf_32 : decode b_HM_isKeyOf 32 = .ok (.aaload, 1) := by decide +kernel
theorem d_HM_isKeyOf_33 : decode b_HM_isKeyOf 33 = .ok (.getfield 94, 3) := by decide +kernel
theorem d_HM_isKeyOf_36 : decode b_HM_isKeyOf 36 = .ok (.invokevirtual 205, 3) := by decide +kernel
theorem d_HM_isKeyOf_39 : decode b_HM_isKeyOf 39 = .ok (.ifCond .eq 7, 3) := by decide +kernel
theorem d_HM_isKeyOf_42 : decode b_HM_isKeyOf 42 = .ok (.iconst 1, 1) := by decide +kernel
theorem d_HM_isKeyOf_43 : decode b_HM_isKeyOf 43 = .ok (.goto 4, 3) := by decide +kernel
theorem d_HM_isKeyOf_46 : decode b_HM_isKeyOf 46 = .ok (.iconst 0, 1) := by decide +kernel
theorem d_HM_isKeyOf_47 : decode b_HM_isKeyOf 47 = .ok (.ireturn, 1) := by decide +kernel
theorem d_Pl_takes_0 : decode b_Pl_takes 0 = .ok (.iload_n 1, 1) := by decide +kernel
theorem d_Pl_takes_1 : decode b_Pl_takes 1 = .ok (.bipush 8, 2) := by decide +kernel
theorem d_Pl_takes_3 : decode b_Pl_takes 3 = .ok (.if_icmp .ge 7, 3) := by decide +kernel
theorem d_Pl_takes_6 : decode b_Pl_takes 6 = .ok (.iconst 1, 1) := by decide +kernel
theorem d_Pl_takes_7 : decode b_Pl_takes 7 = .ok (.goto 4, 3) := by decide +kernel
theorem d_Pl_takes_10 : decode b_Pl_takes 10 = .ok (.iconst 0, 1) := by decide +kernel
theorem d_Pl_takes_11 : decode b_Pl_takes 11 = .ok (.ireturn, 1) := by decide +kernel
theorem d_Ta_takes_0 : decode b_Ta_takes 0 = .ok (.iconst 1, 1) := by decide +kernel
theorem d_Ta_takes_1 : decode b_Ta_takes 1 = .ok (.ireturn, 1) := by decide +kernel
theorem d_Id_markOf_0 : decode b_Id_markOf 0 = .ok (.iload_n 1, 1) := by decide +kernel
theorem d_Id_markOf_1 : decode b_Id_markOf 1 = .ok (.ireturn, 1) := by decide +kernel
theorem d_Ta_markOf_0 : decode b_Ta_markOf 0 = .ok (.iload_n 2, 1) := by decide +kernel
theorem d_Ta_markOf_1 : decode b_Ta_markOf 1 = .ok (.ireturn, 1) := by decide +kernel
theorem d_Ta_find_0 : decode b_Ta_find 0 = .ok (.iconst 0, 1) := by decide +kernel
theorem d_Ta_find_1 : decode b_Ta_find 1 = .ok (.istore_n 2, 1) := by decide +kernel
theorem d_Ta_find_2 : decode b_Ta_find 2 = .ok (.iload_n 2, 1) := by decide +kernel
theorem d_Ta_find_3 : decode b_Ta_find 3 = .ok (.aload_n 0, 1) := by decide +kernel
theorem d_Ta_find_4 : decode b_Ta_find 4 = .ok (.invokevirtual 24, 3) := by decide +kernel
theorem d_Ta_find_7 : decode b_Ta_find 7 = .ok (.if_icmp .ge 29, 3) := by decide +kernel
theorem d_Ta_find_10 : decode b_Ta_find 10 = .ok (.aload_n 0, 1) := by decide +kernel
theorem d_Ta_find_11 : decode b_Ta_find 11 = .ok (.iload_n 2, 1) := by decide +kernel
theorem d_Ta_find_12 : decode b_Ta_find 12 = .ok (.invokevirtual 9, 3) := by decide +kernel
theorem d_Ta_find_15 : decode b_Ta_find 15 = .ok (.astore_n 3, 1) := by decide +kernel
theorem d_Ta_find_16 : decode b_Ta_find 16 = .ok (.aload_n 3, 1) := by decide +kernel
theorem d_Ta_find_17 : decode b_Ta_find 17 = .ok (.ifnull 13, 3) := by decide +kernel
theorem d_Ta_find_20 : decode b_Ta_find 20 = .ok (.aload_n 3, 1) := by decide +kernel
theorem d_Ta_find_21 : decode b_Ta_find 21 = .ok (.getfield 28, 3) := by decide +kernel
theorem d_Ta_find_24 : decode b_Ta_find 24 = .ok (.iload_n 1, 1) := by decide +kernel
theorem d_Ta_find_25 : decode b_Ta_find 25 = .ok (.if_icmp .ne 5, 3) := by decide +kernel
theorem d_Ta_find_28 : decode b_Ta_find 28 = .ok (.iload_n 2, 1) := by decide +kernel
theorem d_Ta_find_29 : decode b_Ta_find 29 = .ok (.ireturn, 1) := by decide +kernel
theorem d_Ta_find_30 : decode b_Ta_find 30 = .ok (.iinc 2 1, 3) := by decide +kernel
theorem d_Ta_find_33 : decode b_Ta_find 33 = .ok (.goto (-31), 3) := by decide +kernel
theorem d_Ta_find_36 : decode b_Ta_find 36 = .ok (.iconst (-1), 1) := by decide +kernel
theorem d_Ta_find_37 : decode b_Ta_find 37 = .ok (.ireturn, 1) := by decide +kernel
theorem d_Id_entryAt_0 : decode b_Id_entryAt 0 = .ok (.aload_n 0, 1) := by decide +kernel
theorem d_Id_entryAt_1 : decode b_Id_entryAt 1 = .ok (.iload_n 1, 1) := by decide +kernel
theorem d_Id_entryAt_2 : decode b_Id_entryAt 2 = .ok (.invokevirtual 21, 3) := by decide +kernel
theorem d_Id_entryAt_5 : decode b_Id_entryAt 5 = .ok (.istore_n 2, 1) := by decide +kernel
theorem d_Id_entryAt_6 : decode b_Id_entryAt 6 = .ok (.iload_n 2, 1) := by decide +kernel
theorem d_Id_entryAt_7 : decode b_Id_entryAt 7 = .ok (.iconst (-1), 1) := by decide +kernel
theorem d_Id_entryAt_8 : decode b_Id_entryAt 8 = .ok (.if_icmp .ne 7, 3) := by decide +kernel
theorem d_Id_entryAt_11 : decode b_Id_entryAt 11 = .ok (.aconst_null, 1) := by decide +kernel
theorem d_Id_entryAt_12 : decode b_Id_entryAt 12 = .ok (.goto 9, 3) := by decide +kernel
theorem d_Id_entryAt_15 : decode b_Id_entryAt 15 = .ok (.aload_n 0, 1) := by decide +kernel
theorem d_Id_entryAt_16 : decode b_Id_entryAt 16 = .ok (.getfield 11, 3) := by decide +kernel
theorem d_Id_entryAt_19 : decode b_Id_entryAt 19 = .ok (.iload_n 2, 1) := by decide +kernel
theorem d_Id_entryAt_20 : decode b_Id_entryAt 20 = .ok (.aaload, 1) := by decide +kernel
theorem d_Id_entryAt_21 : decode b_Id_entryAt 21 = .ok (.areturn, 1) := by decide +kernel
theorem d_Id_slotOf_0 : decode b_Id_slotOf 0 = .ok (.iconst 0, 1) := by decide +kernel
theorem d_Id_slotOf_1 : decode b_Id_slotOf 1 = .ok (.istore_n 2, 1) := by decide +kernel
theorem d_Id_slotOf_2 : decode b_Id_slotOf 2 = .ok (.iconst 0, 1) := by decide +kernel
theorem d_Id_slotOf_3 : decode b_Id_slotOf 3 = .ok (.istore_n 3, 1) := by decide +kernel
theorem d_Id_slotOf_4 : decode b_Id_slotOf 4 = .ok (.iload_n 3, 1) := by decide +kernel
theorem d_Id_slotOf_5 : decode b_Id_slotOf 5 = .ok (.bipush 16, 2) := by decide +kernel
theorem d_Id_slotOf_7 : decode b_Id_slotOf 7 = .ok (.if_icmp .ge 28, 3) := by decide +kernel
theorem d_Id_slotOf_10 : decode b_Id_slotOf 10 = .ok (.aload_n 0, 1) := by decide +kernel
theorem d_Id_slotOf_11 : decode b_Id_slotOf 11 = .ok (.getfield 11, 3) := by decide +kernel
theorem d_Id_slotOf_14 : decode b_Id_slotOf 14 = .ok (.iload_n 3, 1) := by decide +kernel
theorem d_Id_slotOf_15 : decode b_Id_slotOf 15 = .ok (.aaload, 1) := by decide +kernel
theorem d_Id_slotOf_16 : decode b_Id_slotOf 16 = .ok (.ifnull 13, 3) := by decide +kernel
theorem d_Id_slotOf_19 : decode b_Id_slotOf 19 = .ok (.iload_n 2, 1) := by decide +kernel
theorem d_Id_slotOf_20 : decode b_Id_slotOf 20 = .ok (.iload_n 1, 1) := by decide +kernel
theorem d_Id_slotOf_21 : decode b_Id_slotOf 21 = .ok (.if_icmp .ne 5, 3) := by decide +kernel
theorem d_Id_slotOf_24 : decode b_Id_slotOf 24 = .ok (.iload_n 3, 1) := by decide +kernel
theorem d_Id_slotOf_25 : decode b_Id_slotOf 25 = .ok (.ireturn, 1) := by decide +kernel
theorem d_Id_slotOf_26 : decode b_Id_slotOf 26 = .ok (.iinc 2 1, 3) := by decide +kernel
theorem d_Id_slotOf_29 : decode b_Id_slotOf 29 = .ok (.iinc 3 1, 3) := by decide +kernel
theorem d_Id_slotOf_32 : decode b_Id_slotOf 32 = .ok (.goto (-28), 3) := by decide +kernel
theorem d_Id_slotOf_35 : decode b_Id_slotOf 35 = .ok (.iconst (-1), 1) := by decide +kernel
theorem d_Id_slotOf_36 : decode b_Id_slotOf 36 = .ok (.ireturn, 1) := by decide +kernel
theorem d_Ro_entryAt_0 : decode b_Ro_entryAt 0 = .ok (.iload_n 1, 1) := by decide +kernel
theorem d_Ro_entryAt_1 : decode b_Ro_entryAt 1 = .ok (.ifCond .lt 28, 3) := by decide +kernel
theorem d_Ro_entryAt_4 : decode b_Ro_entryAt 4 = .ok (.iload_n 1, 1) := by decide +kernel
theorem d_Ro_entryAt_5 : decode b_Ro_entryAt 5 = .ok (.aload_n 0, 1) := by decide +kernel
theorem d_Ro_entryAt_6 : decode b_Ro_entryAt 6 = .ok (.getfield 10, 3) := by decide +kernel
theorem d_Ro_entryAt_9 : decode b_Ro_entryAt 9 = .ok (.invokevirtual 16, 3) := by decide +kernel
theorem d_Ro_entryAt_12 : decode b_Ro_entryAt 12 = .ok (.if_icmp .ge 17, 3) := by decide +kernel
theorem d_Ro_entryAt_15 : decode b_Ro_entryAt 15 = .ok (.aload_n 0, 1) := by decide +kernel
theorem d_Ro_entryAt_16 : decode b_Ro_entryAt 16 = .ok (.getfield 10, 3) := by decide +kernel
theorem d_Ro_entryAt_19 : decode b_Ro_entryAt 19 = .ok (.iload_n 1, 1) := by decide +kernel
theorem d_Ro_entryAt_20 : decode b_Ro_entryAt 20 = .ok (.invokevirtual 20, 3) := by decide +kernel
theorem d_Ro_entryAt_23 : decode b_Ro_entryAt 23 = .ok (.checkcast 24, 3) := by decide +kernel
theorem d_Ro_entryAt_26 : decode b_Ro_entryAt 26 = .ok (.goto 4, 3) := by decide +kernel
theorem d_Ro_entryAt_29 : decode b_Ro_entryAt 29 = .ok (.aconst_null, 1) := by decide +kernel
theorem d_Ro_entryAt_30 : decode b_Ro_entryAt 30 = .ok (.areturn, 1) := by decide +kernel
theorem d_Id_isFull_0 : decode b_Id_isFull 0 = .ok (.aload_n 0, 1) := by decide +kernel
theorem d_Id_isFull_1 : decode b_Id_isFull 1 = .ok (.getfield 17, 3) := by decide +kernel
theorem d_Id_isFull_4 : decode b_Id_isFull 4 = .ok (.bipush 12, 2) := by decide +kernel
theorem d_Id_isFull_6 : decode b_Id_isFull 6 = .ok (.if_icmp .lt 7, 3) := by decide +kernel
theorem d_Id_isFull_9 : decode b_Id_isFull 9 = .ok (.iconst 1, 1) := by decide +kernel
theorem d_Id_isFull_10 : decode b_Id_isFull 10 = .ok (.goto 4, 3) := by decide +kernel
theorem d_Id_isFull_13 : decode b_Id_isFull 13 = .ok (.iconst 0, 1) := by decide +kernel
theorem d_Id_isFull_14 : decode b_Id_isFull 14 = .ok (.ireturn, 1) := by decide +kernel
theorem d_Ta_isFull_0 : decode b_Ta_isFull 0 = .ok (.iconst 0, 1) := by decide +kernel
theorem d_Ta_isFull_1 : decode b_Ta_isFull 1 = .ok (.ireturn, 1) := by decide +kernel
theorem d_So_tick_0 : decode b_So_tick 0 = .ok (.aload_n 0, 1) := by decide +kernel
theorem d_So_tick_1 : decode b_So_tick 1 = .ok (.dup, 1) := by decide +kernel
theorem d_So_tick_2 : decode b_So_tick 2 = .ok (.getfield 9, 3) := by decide +kernel
theorem d_So_tick_5 : decode b_So_tick 5 = .ok (.iconst 1, 1) := by decide +kernel
theorem d_So_tick_6 : decode b_So_tick 6 = .ok (.iadd, 1) := by decide +kernel
theorem d_So_tick_7 : decode b_So_tick 7 = .ok (.putfield 9, 3) := by decide +kernel
theorem d_So_tick_10 : decode b_So_tick 10 = .ok (.return_, 1) := by decide +kernel
theorem d_Ta_tick_0 : decode b_Ta_tick 0 = .ok (.return_, 1) := by decide +kernel
theorem d_Pl_keyOf_0 : decode b_Pl_keyOf 0 = .ok (.iload_n 2, 1) := by decide +kernel
theorem d_Pl_keyOf_1 : decode b_Pl_keyOf 1 = .ok (.ireturn, 1) := by decide +kernel
theorem d_Ta_keyOf_0 : decode b_Ta_keyOf 0 = .ok (.iload_n 1, 1) := by decide +kernel
theorem d_Ta_keyOf_1 : decode b_Ta_keyOf 1 = .ok (.ireturn, 1) := by decide +kernel
theorem d_En_init_0 : decode b_En_init 0 = .ok (.aload_n 0, 1) := by decide +kernel
theorem d_En_init_1 : decode b_En_init 1 = .ok (.invokespecial 1, 3) := by decide +kernel
theorem d_En_init_4 : decode b_En_init 4 = .ok (.aload_n 0, 1) := by decide +kernel
theorem d_En_init_5 : decode b_En_init 5 = .ok (.iload_n 1, 1) := by decide +kernel
theorem d_En_init_6 : decode b_En_init 6 = .ok (.putfield 7, 3) := by decide +kernel
theorem d_En_init_9 : decode b_En_init 9 = .ok (.aload_n 0, 1) := by decide +kernel
theorem d_En_init_10 : decode b_En_init 10 = .ok (.iload_n 2, 1) := by decide +kernel
theorem d_En_init_11 : decode b_En_init 11 = .ok (.putfield 13, 3) := by decide +kernel
theorem d_En_init_14 : decode b_En_init 14 = .ok (.aload_n 0, 1) := by decide +kernel
theorem d_En_init_15 : decode b_En_init 15 = .ok (.iload_n 3, 1) := by decide +kernel
theorem d_En_init_16 : decode b_En_init 16 = .ok (.putfield 16, 3) := by decide +kernel
theorem d_En_init_19 : decode b_En_init 19 = .ok (.return_, 1) := by decide +kernel
theorem d_Id_add_0 : decode b_Id_add 0 = .ok (.aload_n 1, 1) := by decide +kernel
theorem d_Id_add_1 : decode b_Id_add 1 = .ok (.invokestatic 25, 3) := by decide +kernel
theorem d_Id_add_4 : decode b_Id_add 4 = .ok (.istore_n 2, 1) := by decide +kernel
theorem d_Id_add_5 : decode b_Id_add 5 = .ok (.iconst 0, 1) := by decide +kernel
theorem d_Id_add_6 : decode b_Id_add 6 = .ok (.istore_n 3, 1) := by decide +kernel
theorem d_Id_add_7 : decode b_Id_add 7 = .ok (.iload_n 3, 1) := by decide +kernel
theorem d_Id_add_8 : decode b_Id_add 8 = .ok (.bipush 16, 2) := by decide +kernel
theorem d_Id_add_10 : decode b_Id_add 10 = .ok (.if_icmp .ge 51, 3) := by decide +kernel
theorem d_Id_add_13 : decode b_Id_add 13 = .ok (.iload_n 2, 1) := by decide +kernel
theorem d_Id_add_14 : decode b_Id_add 14 = .ok (.iload_n 3, 1) := by decide +kernel
theorem d_Id_add_15 : decode b_Id_add 15 = .ok (.iadd, 1) := by decide +kernel
theorem d_Id_add_16 : decode b_Id_add 16 = .ok (.bipush 16, 2) := by decide +kernel
theorem d_Id_add_18 : decode b_Id_add 18 = .ok (.irem, 1) := by decide +kernel
theorem d_Id_add_19 : decode b_Id_add 19 = .ok (.istore 4, 2) := by decide +kernel
theorem d_Id_add_21 : decode b_Id_add 21 = .ok (.aload_n 0, 1) := by decide +kernel
theorem d_Id_add_22 : decode b_Id_add 22 = .ok (.getfield 11, 3) := by decide +kernel
theorem d_Id_add_25 : decode b_Id_add 25 = .ok (.iload 4, 2) := by decide +kernel
theorem d_Id_add_27 : decode b_Id_add 27 = .ok (.aaload, 1) := by decide +kernel
theorem d_Id_add_28 : decode b_Id_add 28 = .ok (.ifnonnull 27, 3) := by decide +kernel
theorem d_Id_add_31 : decode b_Id_add 31 = .ok (.aload_n 0, 1) := by decide +kernel
theorem d_Id_add_32 : decode b_Id_add 32 = .ok (.getfield 11, 3) := by decide +kernel
theorem d_Id_add_35 : decode b_Id_add 35 = .ok (.iload 4, 2) := by decide +kernel
theorem d_Id_add_37 : decode b_Id_add 37 = .ok (.aload_n 1, 1) := by decide +kernel
theorem d_Id_add_38 : decode b_Id_add 38 = .ok (.aastore, 1) := by decide +kernel
theorem d_Id_add_39 : decode b_Id_add 39 = .ok (.aload_n 0, 1) := by decide +kernel
theorem d_Id_add_40 : decode b_Id_add 40 = .ok (.dup, 1) := by decide +kernel
theorem d_Id_add_41 : decode b_Id_add 41 = .ok (.getfield 17, 3) := by decide +kernel
theorem d_Id_add_44 : decode b_Id_add 44 = .ok (.iconst 1, 1) := by decide +kernel
theorem d_Id_add_45 : decode b_Id_add 45 = .ok (.iadd, 1) := by decide +kernel
theorem d_Id_add_46 : decode b_Id_add 46 = .ok (.putfield 17, 3) := by decide +kernel
theorem d_Id_add_49 : decode b_Id_add 49 = .ok (.aload_n 0, 1) := by decide +kernel
theorem d_Id_add_50 : decode b_Id_add 50 = .ok (.iconst 1, 1) := by decide +kernel
theorem d_Id_add_51 : decode b_Id_add 51 = .ok (.putfield 29, 3) := by decide +kernel
theorem d_Id_add_54 : decode b_Id_add 54 = .ok (.return_, 1) := by decide +kernel
theorem d_Id_add_55 : decode b_Id_add 55 = .ok (.iinc 3 1, 3) := by decide +kernel
theorem d_Id_add_58 : decode b_Id_add 58 = .ok (.goto (-51), 3) := by decide +kernel
theorem d_Id_add_61 : decode b_Id_add 61 = .ok (.return_, 1) := by decide +kernel
theorem d_Id_firstSlot_0 : decode b_Id_firstSlot 0 = .ok (.bipush 7, 2) := by decide +kernel
theorem d_Id_firstSlot_2 : decode b_Id_firstSlot 2 = .ok (.aload_n 0, 1) := by decide +kernel
theorem d_Id_firstSlot_3 : decode b_Id_firstSlot 3 = .ok (.getfield 37, 3) := by decide +kernel
theorem d_Id_firstSlot_6 : decode b_Id_firstSlot 6 = .ok (.imul, 1) := by decide +kernel
theorem d_Id_firstSlot_7 : decode b_Id_firstSlot 7 = .ok (.bipush 16, 2) := by decide +kernel
theorem d_Id_firstSlot_9 : decode b_Id_firstSlot 9 = .ok (.irem, 1) := by decide +kernel
theorem d_Id_firstSlot_10 : decode b_Id_firstSlot 10 = .ok (.ireturn, 1) := by decide +kernel
theorem d_La_add_0 : decode b_La_add 0 = .ok (.aload_n 0, 1) := by decide +kernel
theorem d_La_add_1 : decode b_La_add 1 = .ok (.aload_n 1, 1) := by decide +kernel
theorem d_La_add_2 : decode b_La_add 2 = .ok (.invokevirtual 9, 3) := by decide +kernel
theorem d_La_add_5 : decode b_La_add 5 = .ok (.aload_n 0, 1) := by decide +kernel
theorem d_La_add_6 : decode b_La_add 6 = .ok (.getfield 15, 3) := by decide +kernel
theorem d_La_add_9 : decode b_La_add 9 = .ok (.invokevirtual 19, 3) := by decide +kernel
theorem d_La_add_12 : decode b_La_add 12 = .ok (.bipush 6, 2) := by decide +kernel
theorem d_La_add_14 : decode b_La_add 14 = .ok (.if_icmp .le 8, 3) := by decide +kernel
theorem d_La_add_17 : decode b_La_add 17 = .ok (.aload_n 0, 1) := by decide +kernel
theorem d_La_add_18 : decode b_La_add 18 = .ok (.iconst 0, 1) := by decide +kernel
theorem d_La_add_19 : decode b_La_add 19 = .ok (.invokevirtual 25, 3) := by decide +kernel
theorem d_La_add_22 : decode b_La_add 22 = .ok (.return_, 1) := by decide +kernel
theorem d_Ro_append_0 : decode b_Ro_append 0 = .ok (.aload_n 0, 1) := by decide +kernel
theorem d_Ro_append_1 : decode b_Ro_append 1 = .ok (.getfield 10, 3) := by decide +kernel
theorem d_Ro_append_4 : decode b_Ro_append 4 = .ok (.aload_n 1, 1) := by decide +kernel
theorem d_Ro_append_5 : decode b_Ro_append 5 = .ok (.invokevirtual 33, 3) := by decide +kernel
theorem d_Ro_append_8 : decode b_Ro_append 8 = .ok (.pop, 1) := by decide +kernel
theorem d_Ro_append_9 : decode b_Ro_append 9 = .ok (.aload_n 0, 1) := by decide +kernel
theorem d_Ro_append_10 : decode b_Ro_append 10 = .ok (.iconst 1, 1) := by decide +kernel
theorem d_Ro_append_11 : decode b_Ro_append 11 = .ok (.putfield 29, 3) := by decide +kernel
theorem d_Ro_append_14 : decode b_Ro_append 14 = .ok (.return_, 1) := by decide +kernel
theorem d_Ro_dropAt_0 : decode b_Ro_dropAt 0 = .ok (.iload_n 1, 1) := by decide +kernel
theorem d_Ro_dropAt_1 : decode b_Ro_dropAt 1 = .ok (.ifCond .lt 28, 3) := by decide +kernel
theorem d_Ro_dropAt_4 : decode b_Ro_dropAt 4 = .ok (.iload_n 1, 1) := by decide +kernel
theorem d_Ro_dropAt_5 : decode b_Ro_dropAt 5 = .ok (.aload_n 0, 1) := by decide +kernel
theorem d_Ro_dropAt_6 : decode b_Ro_dropAt 6 = .ok (.getfield 10, 3) := by decide +kernel
theorem d_Ro_dropAt_9 : decode b_Ro_dropAt 9 = .ok (.invokevirtual 16, 3) := by decide +kernel
theorem d_Ro_dropAt_12 : decode b_Ro_dropAt 12 = .ok (.if_icmp .ge 17, 3) := by decide +kernel
theorem d_Ro_dropAt_15 : decode b_Ro_dropAt 15 = .ok (.aload_n 0, 1) := by decide +kernel
theorem d_Ro_dropAt_16 : decode b_Ro_dropAt 16 = .ok (.getfield 10, 3) := by decide +kernel
theorem d_Ro_dropAt_19 : decode b_Ro_dropAt 19 = .ok (.iload_n 1, 1) := by decide +kernel
theorem d_Ro_dropAt_20 : decode b_Ro_dropAt 20 = .ok (.invokevirtual 26, 3) := by decide +kernel
theorem d_Ro_dropAt_23 : decode b_Ro_dropAt 23 = .ok (.pop, 1) := by decide +kernel
theorem d_Ro_dropAt_24 : decode b_Ro_dropAt 24 = .ok (.aload_n 0, 1) := by decide +kernel
theorem d_Ro_dropAt_25 : decode b_Ro_dropAt 25 = .ok (.iconst 1, 1) := by decide +kernel
theorem d_Ro_dropAt_26 : decode b_Ro_dropAt 26 = .ok (.putfield 29, 3) := by decide +kernel
theorem d_Ro_dropAt_29 : decode b_Ro_dropAt 29 = .ok (.return_, 1) := by decide +kernel
theorem d_Pl_add_0 : decode b_Pl_add 0 = .ok (.iconst 0, 1) := by decide +kernel
theorem d_Pl_add_1 : decode b_Pl_add 1 = .ok (.istore_n 2, 1) := by decide +kernel
theorem d_Pl_add_2 : decode b_Pl_add 2 = .ok (.iload_n 2, 1) := by decide +kernel
theorem d_Pl_add_3 : decode b_Pl_add 3 = .ok (.aload_n 0, 1) := by decide +kernel
theorem d_Pl_add_4 : decode b_Pl_add 4 = .ok (.getfield 9, 3) := by decide +kernel
theorem d_Pl_add_7 : decode b_Pl_add 7 = .ok (.invokevirtual 15, 3) := by decide +kernel
theorem d_Pl_add_10 : decode b_Pl_add 10 = .ok (.if_icmp .ge 30, 3) := by decide +kernel
theorem d_Pl_add_13 : decode b_Pl_add 13 = .ok (.aload_n 0, 1) := by decide +kernel
theorem d_Pl_add_14 : decode b_Pl_add 14 = .ok (.getfield 9, 3) := by decide +kernel
theorem d_Pl_add_17 : decode b_Pl_add 17 = .ok (.iload_n 2, 1) := by decide +kernel
theorem d_Pl_add_18 : decode b_Pl_add 18 = .ok (.invokevirtual 21, 3) := by decide +kernel
theorem d_Pl_add_21 : decode b_Pl_add 21 = .ok (.checkcast 25, 3) := by decide +kernel
theorem d_Pl_add_24 : decode b_Pl_add 24 = .ok (.getfield 27, 3) := by decide +kernel
theorem d_Pl_add_27 : decode b_Pl_add 27 = .ok (.aload_n 1, 1) := by decide +kernel
theorem d_Pl_add_28 : decode b_Pl_add 28 = .ok (.getfield 27, 3) := by decide +kernel
theorem d_Pl_add_31 : decode b_Pl_add 31 = .ok (.if_icmp .ge 9, 3) := by decide +kernel
theorem d_Pl_add_34 : decode b_Pl_add 34 = .ok (.iinc 2 1, 3) := by decide +kernel
theorem d_Pl_add_37 : decode b_Pl_add 37 = .ok (.goto (-35), 3) := by decide +kernel
theorem d_Pl_add_40 : decode b_Pl_add 40 = .ok (.aload_n 0, 1) := by decide +kernel
theorem d_Pl_add_41 : decode b_Pl_add 41 = .ok (.getfield 9, 3) := by decide +kernel
theorem d_Pl_add_44 : decode b_Pl_add 44 = .ok (.iload_n 2, 1) := by decide +kernel
theorem d_Pl_add_45 : decode b_Pl_add 45 = .ok (.aload_n 1, 1) := by decide +kernel
theorem d_Pl_add_46 : decode b_Pl_add 46 = .ok (.invokevirtual 31, 3) := by decide +kernel
theorem d_Pl_add_49 : decode b_Pl_add 49 = .ok (.aload_n 0, 1) := by decide +kernel
theorem d_Pl_add_50 : decode b_Pl_add 50 = .ok (.iconst 1, 1) := by decide +kernel
theorem d_Pl_add_51 : decode b_Pl_add 51 = .ok (.putfield 35, 3) := by decide +kernel
theorem d_Pl_add_54 : decode b_Pl_add 54 = .ok (.return_, 1) := by decide +kernel
theorem d_So_add_0 : decode b_So_add 0 = .ok (.aload_n 1, 1) := by decide +kernel
theorem d_So_add_1 : decode b_So_add 1 = .ok (.aload_n 0, 1) := by decide +kernel
theorem d_So_add_2 : decode b_So_add 2 = .ok (.getfield 9, 3) := by decide +kernel
theorem d_So_add_5 : decode b_So_add 5 = .ok (.putfield 15, 3) := by decide +kernel
theorem d_So_add_8 : decode b_So_add 8 = .ok (.aload_n 0, 1) := by decide +kernel
theorem d_So_add_9 : decode b_So_add 9 = .ok (.aload_n 1, 1) := by decide +kernel
theorem d_So_add_10 : decode b_So_add 10 = .ok (.invokevirtual 20, 3) := by decide +kernel
theorem d_So_add_13 : decode b_So_add 13 = .ok (.return_, 1) := by decide +kernel
theorem d_We_add_0 : decode b_We_add 0 = .ok (.aload_n 0, 1) := by decide +kernel
theorem d_We_add_1 : decode b_We_add 1 = .ok (.aload_n 1, 1) := by decide +kernel
theorem d_We_add_2 : decode b_We_add 2 = .ok (.invokevirtual 22, 3) := by decide +kernel
theorem d_We_add_5 : decode b_We_add 5 = .ok (.aload_n 0, 1) := by decide +kernel
theorem d_We_add_6 : decode b_We_add 6 = .ok (.iconst 1, 1) := by decide +kernel
theorem d_We_add_7 : decode b_We_add 7 = .ok (.putfield 26, 3) := by decide +kernel
theorem d_We_add_10 : decode b_We_add 10 = .ok (.iconst 4, 1) := by decide +kernel
theorem d_We_add_11 : decode b_We_add 11 = .ok (.aload_n 0, 1) := by decide +kernel
theorem d_We_add_12 : decode b_We_add 12 = .ok (.getfield 30, 3) := by decide +kernel
theorem d_We_add_15 : decode b_We_add 15 = .ok (.invokevirtual 33, 3) := by decide +kernel
theorem d_We_add_18 : decode b_We_add 18 = .ok (.imul, 1) := by decide +kernel
theorem d_We_add_19 : decode b_We_add 19 = .ok (.iconst 3, 1) := by decide +kernel
theorem d_We_add_20 : decode b_We_add 20 = .ok (.aload_n 0, 1) := by decide +kernel
theorem d_We_add_21 : decode b_We_add 21 = .ok (.getfield 18, 3) := by decide +kernel
theorem d_We_add_24 : decode b_We_add 24 = .ok (.imul, 1) := by decide +kernel
theorem d_We_add_25 : decode b_We_add 25 = .ok (.if_icmp .le 16, 3) := by decide +kernel
theorem d_We_add_28 : decode b_We_add 28 = .ok (.aload_n 0, 1) := by decide +kernel
theorem d_We_add_29 : decode b_We_add 29 = .ok (.getfield 18, 3) := by decide +kernel
theorem d_We_add_32 : decode b_We_add 32 = .ok (.bipush 32, 2) := by decide +kernel
theorem d_We_add_34 : decode b_We_add 34 = .ok (.if_icmp .ge 7, 3) := by decide +kernel
theorem d_We_add_37 : decode b_We_add 37 = .ok (.aload_n 0, 1) := by decide +kernel
theorem d_We_add_38 : decode b_We_add 38 = .ok (.invokevirtual 37, 3) := by decide +kernel
theorem d_We_add_41 : decode b_We_add 41 = .ok (.return_, 1) := by decide +kernel
theorem d_We_addToBucket_0 : decode b_We_addToBucket 0 = .ok (.aload_n 0, 1) := by decide +kernel
theorem d_We_addToBucket_1 : decode b_We_addToBucket 1 = .ok (.aload_n 1, 1) := by decide +kernel
theorem d_We_addToBucket_2 : decode b_We_addToBucket 2 = .ok (.invokevirtual 40, 3) := by decide +kernel
theorem d_We_addToBucket_5 : decode b_We_addToBucket 5 = .ok (.istore_n 2, 1) := by decide +kernel
theorem d_We_addToBucket_6 : decode b_We_addToBucket 6 = .ok (.iconst 0, 1) := by decide +kernel
theorem d_We_addToBucket_7 : decode b_We_addToBucket 7 = .ok (.istore_n 3, 1) := by decide +kernel
theorem d_We_addToBucket_8 : decode b_We_addToBucket 8 = .ok (.iload_n 3, 1) := by decide +kernel
theorem d_We_addToBucket_9 : decode b_We_addToBucket 9 = .ok (.aload_n 0, 1) := by decide +kernel
theorem d_We_addToBucket_10 : decode b_We_addToBucket 10 = .ok (.getfield 30, 3) := by decide +kernel
theorem d_We_addToBucket_13 : decode b_We_addToBucket 13 = .ok (.invokevirtual 33, 3) := by decide +kernel
theorem d_We_addToBucket_16 : decode b_We_addToBucket 16 = .ok (.if_icmp .ge 28, 3) := by decide +kernel
theorem d_We_addToBucket_19 : decode b_We_addToBucket 19 = .ok (.aload_n 0, 1) := by decide +kernel
theorem d_We_addToBucket_20 : decode b_We_addToBucket 20 = .ok (.aload_n 0, 1) := by decide +kernel
theorem d_We_addToBucket_21 : decode b_We_addToBucket 21 = .ok (.getfield 30, 3) := by decide +kernel
theorem d_We_addToBucket_24 : decode b_We_addToBucket 24 = .ok (.iload_n 3, 1) := by decide +kernel
theorem d_We_addToBucket_25 : decode b_We_addToBucket 25 = .ok (.invokevirtual 44, 3) := by decide +kernel
theorem d_We_addToBucket_28 : decode b_We_addToBucket 28 = .ok (.checkcast 48, 3) := by decide +kernel
theorem d_We_addToBucket_31 : decode b_We_addToBucket 31 = .ok (.invokevirtual 40, 3) := by decide +kernel
theorem d_We_addToBucket_34 : decode b_We_addToBucket 34 = .ok (.iload_n 2, 1) := by decide +kernel
theorem d_We_addToBucket_35 : decode b_We_addToBucket 35 = .ok (.if_icmp .ge 9, 3) := by decide +kernel
theorem d_We_addToBucket_38 : decode b_We_addToBucket 38 = .ok (.iinc 3 1, 3) := by decide +kernel
theorem d_We_addToBucket_41 : decode b_We_addToBucket 41 = .ok (.goto (-33), 3) := by decide +kernel
theorem d_We_addToBucket_44 : decode b_We_addToBucket 44 = .ok (.aload_n 0, 1) := by decide +kernel
theorem d_We_addToBucket_45 : decode b_We_addToBucket 45 = .ok (.getfield 30, 3) := by decide +kernel
theorem d_We_addToBucket_48 : decode b_We_addToBucket 48 = .ok (.iload_n 3, 1) := by decide +kernel
theorem d_We_addToBucket_49 : decode b_We_addToBucket 49 = .ok (.aload_n 1, 1) := by decide +kernel
theorem d_We_addToBucket_50 : decode b_We_addToBucket 50 = .ok (.invokevirtual 50, 3) := by decide +kernel
theorem d_We_addToBucket_53 : decode b_We_addToBucket 53 = .ok (.return_, 1) := by decide +kernel
theorem d_We_bucketOf_0 : decode b_We_bucketOf 0 = .ok (.aload_n 1, 1) := by decide +kernel
theorem d_We_bucketOf_1 : decode b_We_bucketOf 1 = .ok (.getfield 54, 3) := by decide +kernel
theorem d_We_bucketOf_4 : decode b_We_bucketOf 4 = .ok (.aload_n 1, 1) := by decide +kernel
theorem d_We_bucketOf_5 : decode b_We_bucketOf 5 = .ok (.getfield 54, 3) := by decide +kernel
theorem d_We_bucketOf_8 : decode b_We_bucketOf 8 = .ok (.iconst 4, 1) := by decide +kernel
theorem d_We_bucketOf_9 : decode b_We_bucketOf 9 = .ok (.ishr, 1) := by decide +kernel
theorem d_We_bucketOf_10 : decode b_We_bucketOf 10 = .ok (.ixor, 1) := by decide +kernel
theorem d_We_bucketOf_11 : decode b_We_bucketOf 11 = .ok (.istore_n 2, 1) := by decide +kernel
theorem d_We_bucketOf_12 : decode b_We_bucketOf 12 = .ok (.iload_n 2, 1) := by decide +kernel
theorem d_We_bucketOf_13 : decode b_We_bucketOf 13 = .ok (.aload_n 0, 1) := by decide +kernel
theorem d_We_bucketOf_14 : decode b_We_bucketOf 14 = .ok (.getfield 18, 3) := by decide +kernel
theorem d_We_bucketOf_17 : decode b_We_bucketOf 17 = .ok (.iconst 1, 1) := by decide +kernel
theorem d_We_bucketOf_18 : decode b_We_bucketOf 18 = .ok (.isub, 1) := by decide +kernel
theorem d_We_bucketOf_19 : decode b_We_bucketOf 19 = .ok (.iand, 1) := by decide +kernel
theorem d_We_bucketOf_20 : decode b_We_bucketOf 20 = .ok (.ireturn, 1) := by decide +kernel
theorem d_We_doubleBuckets_0 : decode b_We_doubleBuckets 0 = .ok (.aload_n 0, 1) := by decide +kernel
theorem d_We_doubleBuckets_1 : decode b_We_doubleBuckets 1 = .ok (.getfield 12, 3) := by decide +kernel
theorem d_We_doubleBuckets_4 : decode b_We_doubleBuckets 4 = .ok (.invokevirtual 57, 3) := by decide +kernel
theorem d_We_doubleBuckets_7 : decode b_We_doubleBuckets 7 = .ok (.iconst 0, 1) := by decide +kernel
theorem d_We_doubleBuckets_8 : decode b_We_doubleBuckets 8 = .ok (.istore_n 1, 1) := by decide +kernel
theorem d_We_doubleBuckets_9 : decode b_We_doubleBuckets 9 = .ok (.iload_n 1, 1) := by decide +kernel
theorem d_We_doubleBuckets_10 : decode b_We_doubleBuckets 10 = .ok (.aload_n 0, 1) := by decide +kernel
theorem d_We_doubleBuckets_11 : decode b_We_doubleBuckets 11 = .ok (.getfield 30, 3) := by decide +kernel
theorem d_We_doubleBuckets_14 : decode b_We_doubleBuckets 14 = .ok (.invokevirtual 33, 3) := by decide +kernel
theorem d_We_doubleBuckets_17 : decode b_We_doubleBuckets 17 = .ok (.if_icmp .ge 28, 3) := by decide +kernel
theorem d_We_doubleBuckets_20 : decode b_We_doubleBuckets 20 = .ok (.aload_n 0, 1) := by decide +kernel
theorem d_We_doubleBuckets_21 : decode b_We_doubleBuckets 21 = .ok (.getfield 12, 3) := by decide +kernel
theorem d_We_doubleBuckets_24 : decode b_We_doubleBuckets 24 = .ok (.aload_n 0, 1) := by decide +kernel
theorem d_We_doubleBuckets_25 : decode b_We_doubleBuckets 25 = .ok (.getfield 30, 3) := by decide +kernel
theorem d_We_doubleBuckets_28 : decode b_We_doubleBuckets 28 = .ok (.iload_n 1, 1) := by decide +kernel
theorem d_We_doubleBuckets_29 : decode b_We_doubleBuckets 29 = .ok (.invokevirtual 44, 3) := by decide +kernel
theorem d_We_doubleBuckets_32 : decode b_We_doubleBuckets 32 = .ok (.checkcast 48, 3) := by decide +kernel
theorem d_We_doubleBuckets_35 : decode b_We_doubleBuckets 35 = .ok (.invokevirtual 60, 3) := by decide +kernel
theorem d_We_doubleBuckets_38 : decode b_We_doubleBuckets 38 = .ok (.pop, 1) := by decide +kernel
theorem d_We_doubleBuckets_39 : decode b_We_doubleBuckets 39 = .ok (.iinc 1 1, 3) := by decide +kernel
theorem d_We_doubleBuckets_42 : decode b_We_doubleBuckets 42 = .ok (.goto (-33), 3) := by decide +kernel
theorem d_We_doubleBuckets_45 : decode b_We_doubleBuckets 45 = .ok (.aload_n 0, 1) := by decide +kernel
theorem d_We_doubleBuckets_46 : decode b_We_doubleBuckets 46 = .ok (.getfield 30, 3) := by decide +kernel
theorem d_We_doubleBuckets_49 : decode b_We_doubleBuckets 49 = .ok (.invokevirtual 57, 3) := by decide +kernel
theorem d_We_doubleBuckets_52 : decode b_We_doubleBuckets 52 = .ok (.aload_n 0, 1) := by decide +kernel
theorem d_We_doubleBuckets_53 : decode b_We_doubleBuckets 53 = .ok (.iconst 2, 1) := by decide +kernel
theorem d_We_doubleBuckets_54 : decode b_We_doubleBuckets 54 = .ok (.aload_n 0, 1) := by decide +kernel
theorem d_We_doubleBuckets_55 : decode b_We_doubleBuckets 55 = .ok (.getfield 18, 3) := by decide +kernel
theorem d_We_doubleBuckets_58 : decode b_We_doubleBuckets 58 = .ok (.imul, 1) := by decide +kernel
theorem d_We_doubleBuckets_59 : decode b_We_doubleBuckets 59 = .ok (.putfield 18, 3) := by decide +kernel
theorem d_We_doubleBuckets_62 : decode b_We_doubleBuckets 62 = .ok (.iconst 0, 1) := by decide +kernel
theorem d_We_doubleBuckets_63 : decode b_We_doubleBuckets 63 = .ok (.istore_n 1, 1) := by decide +kernel
theorem d_We_doubleBuckets_64 : decode b_We_doubleBuckets 64 = .ok (.iload_n 1, 1) := by decide +kernel
theorem d_We_doubleBuckets_65 : decode b_We_doubleBuckets 65 = .ok (.aload_n 0, 1) := by decide +kernel
theorem d_We_doubleBuckets_66 : decode b_We_doubleBuckets 66 = .ok (.getfield 12, 3) := by decide +kernel
theorem d_We_doubleBuckets_69 : decode b_We_doubleBuckets 69 = .ok (.invokevirtual 33, 3) := by decide +kernel
theorem d_We_doubleBuckets_72 : decode b_We_doubleBuckets 72 = .ok (.if_icmp .ge 24, 3) := by decide +kernel
theorem d_We_doubleBuckets_75 : decode b_We_doubleBuckets 75 = .ok (.aload_n 0, 1) := by decide +kernel
theorem d_We_doubleBuckets_76 : decode b_We_doubleBuckets 76 = .ok (.aload_n 0, 1) := by decide +kernel
theorem d_We_doubleBuckets_77 : decode b_We_doubleBuckets 77 = .ok (.getfield 12, 3) := by decide +kernel
theorem d_We_doubleBuckets_80 : decode b_We_doubleBuckets 80 = .ok (.iload_n 1, 1) := by decide +kernel
theorem d_We_doubleBuckets_81 : decode b_We_doubleBuckets 81 = .ok (.invokevirtual 44, 3) := by decide +kernel
theorem d_We_doubleBuckets_84 : decode b_We_doubleBuckets 84 = .ok (.checkcast 48, 3) := by decide +kernel
theorem d_We_doubleBuckets_87 : decode b_We_doubleBuckets 87 = .ok (.invokevirtual 22, 3) := by decide +kernel
theorem d_We_doubleBuckets_90 : decode b_We_doubleBuckets 90 = .ok (.iinc 1 1, 3) := by decide +kernel
theorem d_We_doubleBuckets_93 : decode b_We_doubleBuckets 93 = .ok (.goto (-29), 3) := by decide +kernel
theorem d_We_doubleBuckets_96 : decode b_We_doubleBuckets 96 = .ok (.return_, 1) := by decide +kernel
theorem d_La_use_0 : decode b_La_use 0 = .ok (.iload_n 1, 1) := by decide +kernel
theorem d_La_use_1 : decode b_La_use 1 = .ok (.ifCond .lt 38, 3) := by decide +kernel
theorem d_La_use_4 : decode b_La_use 4 = .ok (.iload_n 1, 1) := by decide +kernel
theorem d_La_use_5 : decode b_La_use 5 = .ok (.aload_n 0, 1) := by decide +kernel
theorem d_La_use_6 : decode b_La_use 6 = .ok (.getfield 15, 3) := by decide +kernel
theorem d_La_use_9 : decode b_La_use 9 = .ok (.invokevirtual 19, 3) := by decide +kernel
theorem d_La_use_12 : decode b_La_use 12 = .ok (.iconst 1, 1) := by decide +kernel
theorem d_La_use_13 : decode b_La_use 13 = .ok (.isub, 1) := by decide +kernel
theorem d_La_use_14 : decode b_La_use 14 = .ok (.if_icmp .ge 25, 3) := by decide +kernel
theorem d_La_use_17 : decode b_La_use 17 = .ok (.aload_n 0, 1) := by decide +kernel
theorem d_La_use_18 : decode b_La_use 18 = .ok (.getfield 15, 3) := by decide +kernel
theorem d_La_use_21 : decode b_La_use 21 = .ok (.iload_n 1, 1) := by decide +kernel
theorem d_La_use_22 : decode b_La_use 22 = .ok (.invokevirtual 29, 3) := by decide +kernel
theorem d_La_use_25 : decode b_La_use 25 = .ok (.checkcast 33, 3) := by decide +kernel
theorem d_La_use_28 : decode b_La_use 28 = .ok (.astore_n 2, 1) := by decide +kernel
theorem d_La_use_29 : decode b_La_use 29 = .ok (.aload_n 0, 1) := by decide +kernel
theorem d_La_use_30 : decode b_La_use 30 = .ok (.iload_n 1, 1) := by decide +kernel
theorem d_La_use_31 : decode b_La_use 31 = .ok (.invokevirtual 25, 3) := by decide +kernel
theorem d_La_use_34 : decode b_La_use 34 = .ok (.aload_n 0, 1) := by decide +kernel
theorem d_La_use_35 : decode b_La_use 35 = .ok (.aload_n 2, 1) := by decide +kernel
theorem d_La_use_36 : decode b_La_use 36 = .ok (.invokevirtual 9, 3) := by decide +kernel
theorem d_La_use_39 : decode b_La_use 39 = .ok (.return_, 1) := by decide +kernel
theorem d_So_use_0 : decode b_So_use 0 = .ok (.aload_n 0, 1) := by decide +kernel
theorem d_So_use_1 : decode b_So_use 1 = .ok (.iload_n 1, 1) := by decide +kernel
theorem d_So_use_2 : decode b_So_use 2 = .ok (.invokevirtual 24, 3) := by decide +kernel
theorem d_So_use_5 : decode b_So_use 5 = .ok (.astore_n 2, 1) := by decide +kernel
theorem d_So_use_6 : decode b_So_use 6 = .ok (.aload_n 2, 1) := by decide +kernel
theorem d_So_use_7 : decode b_So_use 7 = .ok (.ifnull 11, 3) := by decide +kernel
theorem d_So_use_10 : decode b_So_use 10 = .ok (.aload_n 2, 1) := by decide +kernel
theorem d_So_use_11 : decode b_So_use 11 = .ok (.aload_n 0, 1) := by decide +kernel
theorem d_So_use_12 : decode b_So_use 12 = .ok (.getfield 9, 3) := by decide +kernel
theorem d_So_use_15 : decode b_So_use 15 = .ok (.putfield 15, 3) := by decide +kernel
theorem d_So_use_18 : decode b_So_use 18 = .ok (.return_, 1) := by decide +kernel
theorem d_Ta_use_0 : decode b_Ta_use 0 = .ok (.return_, 1) := by decide +kernel
theorem d_HM_get_0 : decode b_HM_get 0 = .ok (.aload_n 0, 1) := by decide +kernel
theorem d_HM_get_1 : decode b_HM_get 1 = .ok (.iload_n 1, 1) := by decide +kernel
theorem d_HM_get_2 : decode b_HM_get 2 = .ok (.iload_n 2, 1) := by decide +kernel
theorem d_HM_get_3 : decode b_HM_get 3 = .ok (.invokevirtual 88, 3) := by decide +kernel
theorem d_HM_get_6 : decode b_HM_get 6 = .ok (.ifCond .ne 13, 3) := by decide +kernel
theorem d_HM_get_9 : decode b_HM_get 9 = .ok (.new 45, 3) := by decide +kernel
theorem d_HM_get_12 : decode b_HM_get 12 = .ok (.dup, 1) := by decide +kernel
theorem d_HM_get_13 : decode b_HM_get 13 = .ok (.ldc 135, 2) := by decide +kernel
theorem d_HM_get_15 : decode b_HM_get 15 = .ok (.invokespecial 49, 3) := by decide +kernel
theorem d_HM_get_18 : decode b_HM_get 18 = .ok (.athrow, 1) := by decide +kernel
theorem d_HM_get_19 : decode b_HM_get 19 = .ok (.aload_n 0, 1) := by decide +kernel
theorem d_HM_get_20 : decode b_HM_get 20 = .ok (.getfield 32, 3) := by decide +kernel
theorem d_HM_get_23 : decode b_HM_get 23 = .ok (.iload_n 1, 1) := by decide +kernel
theorem d_HM_get_24 : decode b_HM_get 24 = .ok (.aaload, 1) := by decide +kernel
theorem d_HM_get_25 : decode b_HM_get 25 = .ok (.astore_n 3, 1) := by decide +kernel
theorem d_HM_get_26 : decode b_HM_get 26 = .ok (.aload_n 3, 1) := by decide +kernel
theorem d_HM_get_27 : decode b_HM_get 27 = .ok (.invokevirtual 116, 3) := by decide +kernel
theorem d_HM_get_30 : decode b_HM_get 30 = .ok (.aload_n 3, 1) := by decide +kernel
theorem d_HM_get_31 : decode b_HM_get 31 = .ok (.aload_n 3, 1) := by decide +kernel
theorem d_HM_get_32 : decode b_HM_get 32 = .ok (.iload_n 2, 1) := by decide +kernel
theorem d_HM_get_33 : decode b_HM_get 33 = .ok (.aload_n 0, 1) := by decide +kernel
theorem d_HM_get_34 : decode b_HM_get 34 = .ok (.getfield 10, 3) := by decide +kernel
theorem d_HM_get_37 : decode b_HM_get 37 = .ok (.getfield 61, 3) := by decide +kernel
theorem d_HM_get_40 : decode b_HM_get 40 = .ok (.iload_n 2, 1) := by decide +kernel
theorem d_HM_get_41 : decode b_HM_get 41 = .ok (.aaload, 1) := by decide +kernel
theorem d_HM_get_42 : decode b_HM_get 42 = .ok (.getfield 94, 3) := by decide +kernel
theorem d_HM_get_45 : decode b_HM_get 45 = .ok (.invokevirtual 98, 3) := by decide +kernel
theorem d_HM_get_48 : decode b_HM_get 48 = .ok (.invokevirtual 102, 3) := by decide +kernel
theorem d_HM_get_51 : decode b_HM_get 51 = .ok (.istore 4, 2) := by decide +kernel
theorem d_HM_get_53 : decode b_HM_get 53 = .ok (.aload_n 3, 1) := by decide +kernel
theorem d_HM_get_54 : decode b_HM_get 54 = .ok (.iload 4, 2) := by decide +kernel
theorem d_HM_get_56 : decode b_HM_get 56 = .ok (.invokevirtual 137, 3) := by decide +kernel
theorem d_HM_get_59 : decode b_HM_get 59 = .ok (.istore 5, 2) := by decide +kernel
theorem d_HM_get_61 : decode b_HM_get 61 = .ok (.iload 4, 2) := by decide +kernel
theorem d_HM_get_63 : decode b_HM_get 63 = .ok (.iconst (-1), 1) := by decide +kernel
theorem d_HM_get_64 : decode b_HM_get 64 = .ok (.if_icmp .eq 9, 3) := by decide +kernel
theorem d_HM_get_67 : decode b_HM_get 67 = .ok (.aload_n 3, 1) := by decide +kernel
theorem d_HM_get_68 : decode b_HM_get 68 = .ok (.iload 4, 2) := by decide +kernel
theorem d_HM_get_70 : decode b_HM_get 70 = .ok (.invokevirtual 132, 3) := by decide +kernel
theorem d_HM_get_73 : decode b_HM_get 73 = .ok (.iload 5, 2) := by decide +kernel
theorem d_HM_get_75 : decode b_HM_get 75 = .ok (.ireturn, 1) := by decide +kernel
theorem d_Ta_valueAt_0 : decode b_Ta_valueAt 0 = .ok (.aload_n 0, 1) := by decide +kernel
theorem d_Ta_valueAt_1 : decode b_Ta_valueAt 1 = .ok (.iload_n 1, 1) := by decide +kernel
theorem d_Ta_valueAt_2 : decode b_Ta_valueAt 2 = .ok (.invokevirtual 9, 3) := by decide +kernel
theorem d_Ta_valueAt_5 : decode b_Ta_valueAt 5 = .ok (.astore_n 2, 1) := by decide +kernel
theorem d_Ta_valueAt_6 : decode b_Ta_valueAt 6 = .ok (.aload_n 2, 1) := by decide +kernel
theorem d_Ta_valueAt_7 : decode b_Ta_valueAt 7 = .ok (.ifnonnull 7, 3) := by decide +kernel
theorem d_Ta_valueAt_10 : decode b_Ta_valueAt 10 = .ok (.iconst (-1), 1) := by decide +kernel
theorem d_Ta_valueAt_11 : decode b_Ta_valueAt 11 = .ok (.goto 7, 3) := by decide +kernel
theorem d_Ta_valueAt_14 : decode b_Ta_valueAt 14 = .ok (.aload_n 2, 1) := by decide +kernel
theorem d_Ta_valueAt_15 : decode b_Ta_valueAt 15 = .ok (.getfield 21, 3) := by decide +kernel
theorem d_Ta_valueAt_18 : decode b_Ta_valueAt 18 = .ok (.ireturn, 1) := by decide +kernel
theorem d_HM_remove_0 : decode b_HM_remove 0 = .ok (.aload_n 0, 1) := by decide +kernel
theorem d_HM_remove_1 : decode b_HM_remove 1 = .ok (.iload_n 1, 1) := by decide +kernel
theorem d_HM_remove_2 : decode b_HM_remove 2 = .ok (.iload_n 2, 1) := by decide +kernel
theorem d_HM_remove_3 : decode b_HM_remove 3 = .ok (.invokevirtual 88, 3) := by decide +kernel
theorem d_HM_remove_6 : decode b_HM_remove 6 = .ok (.ifCond .ne 13, 3) := by decide +kernel
theorem d_HM_remove_9 : decode b_HM_remove 9 = .ok (.new 45, 3) := by decide +kernel
theorem d_HM_remove_12 : decode b_HM_remove 12 = .ok (.dup, 1) := by decide +kernel
theorem d_HM_remove_13 : decode b_HM_remove 13 = .ok (.ldc 135, 2) := by decide +kernel
theorem d_HM_remove_15 : decode b_HM_remove 15 = .ok (.invokespecial 49, 3) := by decide +kernel
theorem d_HM_remove_18 : decode b_HM_remove 18 = .ok (.athrow, 1) := by decide +kernel
theorem d_HM_remove_19 : decode b_HM_remove 19 = .ok (.aload_n 0, 1) := by decide +kernel
theorem d_HM_remove_20 : decode b_HM_remove 20 = .ok (.getfield 32, 3) := by decide +kernel
theorem d_HM_remove_23 : decode b_HM_remove 23 = .ok (.iload_n 1, 1) := by decide +kernel
theorem d_HM_remove_24 : decode b_HM_remove 24 = .ok (.aaload, 1) := by decide +kernel
theorem d_HM_remove_25 : decode b_HM_remove 25 = .ok (.astore_n 3, 1) := by decide +kernel
theorem d_HM_remove_26 : decode b_HM_remove 26 = .ok (.aload_n 3, 1) := by decide +kernel
theorem d_HM_remove_27 : decode b_HM_remove 27 = .ok (.aload_n 3, 1) := by decide +kernel
theorem d_HM_remove_28 : decode b_HM_remove 28 = .ok (.iload_n 2, 1) := by decide +kernel
theorem d_HM_remove_29 : decode b_HM_remove 29 = .ok (.aload_n 0, 1) := by decide +kernel
theorem d_HM_remove_30 : decode b_HM_remove 30 = .ok (.getfield 10, 3) := by decide +kernel
theorem d_HM_remove_33 : decode b_HM_remove 33 = .ok (.getfield 61, 3) := by decide +kernel
theorem d_HM_remove_36 : decode b_HM_remove 36 = .ok (.iload_n 2, 1) := by decide +kernel
theorem d_HM_remove_37 : decode b_HM_remove 37 = .ok (.aaload, 1) := by decide +kernel
theorem d_HM_remove_38 : decode b_HM_remove 38 = .ok (.getfield 94, 3) := by decide +kernel
theorem d_HM_remove_41 : decode b_HM_remove 41 = .ok (.invokevirtual 98, 3) := by decide +kernel
theorem d_HM_remove_44 : decode b_HM_remove 44 = .ok (.invokevirtual 102, 3) := by decide +kernel
theorem d_HM_remove_47 : decode b_HM_remove 47 = .ok (.istore 4, 2) := by decide +kernel
theorem d_HM_remove_49 : decode b_HM_remove 49 = .ok (.aload_n 3, 1) := by decide +kernel
theorem d_HM_remove_50 : decode b_HM_remove 50 = .ok (.iload 4, 2) := by decide +kernel
theorem d_HM_remove_52 : decode b_HM_remove 52 = .ok (.invokevirtual 137, 3) := by decide +kernel
theorem d_HM_remove_55 : decode b_HM_remove 55 = .ok (.istore 5, 2) := by decide +kernel
theorem d_HM_remove_57 : decode b_HM_remove 57 = .ok (.iload 4, 2) := by decide +kernel
theorem d_HM_remove_59 : decode b_HM_remove 59 = .ok (.iconst (-1), 1) := by decide +kernel
theorem d_HM_remove_60 : decode b_HM_remove 60 = .ok (.if_icmp .eq 9, 3) := by decide +kernel
theorem d_HM_remove_63 : decode b_HM_remove 63 = .ok (.aload_n 3, 1) := by decide +kernel
theorem d_HM_remove_64 : decode b_HM_remove 64 = .ok (.iload 4, 2) := by decide +kernel
theorem d_HM_remove_66 : decode b_HM_remove 66 = .ok (.invokevirtual 140, 3) := by decide +kernel
theorem d_HM_remove_69 : decode b_HM_remove 69 = .ok (.iload 5, 2) := by decide +kernel
theorem d_HM_remove_71 : decode b_HM_remove 71 = .ok (.ireturn, 1) := by decide +kernel
theorem d_Id_dropAt_0 : decode b_Id_dropAt 0 = .ok (.aload_n 0, 1) := by decide +kernel
theorem d_Id_dropAt_1 : decode b_Id_dropAt 1 = .ok (.iload_n 1, 1) := by decide +kernel
theorem d_Id_dropAt_2 : decode b_Id_dropAt 2 = .ok (.invokevirtual 21, 3) := by decide +kernel
theorem d_Id_dropAt_5 : decode b_Id_dropAt 5 = .ok (.istore_n 2, 1) := by decide +kernel
theorem d_Id_dropAt_6 : decode b_Id_dropAt 6 = .ok (.iload_n 2, 1) := by decide +kernel
theorem d_Id_dropAt_7 : decode b_Id_dropAt 7 = .ok (.iconst (-1), 1) := by decide +kernel
theorem d_Id_dropAt_8 : decode b_Id_dropAt 8 = .ok (.if_icmp .eq 30, 3) := by decide +kernel
theorem d_Id_dropAt_11 : decode b_Id_dropAt 11 = .ok (.aload_n 0, 1) := by decide +kernel
theorem d_Id_dropAt_12 : decode b_Id_dropAt 12 = .ok (.getfield 11, 3) := by decide +kernel
theorem d_Id_dropAt_15 : decode b_Id_dropAt 15 = .ok (.iload_n 2, 1) := by decide +kernel
theorem d_Id_dropAt_16 : decode b_Id_dropAt 16 = .ok (.aconst_null, 1) := by decide +kernel
theorem d_Id_dropAt_17 : decode b_Id_dropAt 17 = .ok (.aastore, 1) := by decide +kernel
theorem d_Id_dropAt_18 : decode b_Id_dropAt 18 = .ok (.aload_n 0, 1) := by decide +kernel
theorem d_Id_dropAt_19 : decode b_Id_dropAt 19 = .ok (.dup, 1) := by decide +kernel
theorem d_Id_dropAt_20 : decode b_Id_dropAt 20 = .ok (.getfield 17, 3) := by decide +kernel
theorem d_Id_dropAt_23 : decode b_Id_dropAt 23 = .ok (.iconst 1, 1) := by decide +kernel
theorem d_Id_dropAt_24 : decode b_Id_dropAt 24 = .ok (.isub, 1) := by decide +kernel
theorem d_Id_dropAt_25 : decode b_Id_dropAt 25 = .ok (.putfield 17, 3) := by decide +kernel
theorem d_Id_dropAt_28 : decode b_Id_dropAt 28 = .ok (.aload_n 0, 1) := by decide +kernel
theorem d_Id_dropAt_29 : decode b_Id_dropAt 29 = .ok (.iconst 1, 1) := by decide +kernel
theorem d_Id_dropAt_30 : decode b_Id_dropAt 30 = .ok (.putfield 29, 3) := by decide +kernel
theorem d_Id_dropAt_33 : decode b_Id_dropAt 33 = .ok (.aload_n 0, 1) := by decide +kernel
theorem d_Id_dropAt_34 : decode b_Id_dropAt 34 = .ok (.iload_n 2, 1) := by decide +kernel
theorem d_Id_dropAt_35 : decode b_Id_dropAt 35 = .ok (.invokevirtual 33, 3) := by decide +kernel
theorem d_Id_dropAt_38 : decode b_Id_dropAt 38 = .ok (.return_, 1) := by decide +kernel
theorem d_Id_closeUp_0 : decode b_Id_closeUp 0 = .ok (.iload_n 1, 1) := by decide +kernel
theorem d_Id_closeUp_1 : decode b_Id_closeUp 1 = .ok (.istore_n 2, 1) := by decide +kernel
theorem d_Id_closeUp_2 : decode b_Id_closeUp 2 = .ok (.iconst 1, 1) := by decide +kernel
theorem d_Id_closeUp_3 : decode b_Id_closeUp 3 = .ok (.istore_n 3, 1) := by decide +kernel
theorem d_Id_closeUp_4 : decode b_Id_closeUp 4 = .ok (.iload_n 3, 1) := by decide +kernel
theorem d_Id_closeUp_5 : decode b_Id_closeUp 5 = .ok (.bipush 16, 2) := by decide +kernel
theorem d_Id_closeUp_7 : decode b_Id_closeUp 7 = .ok (.if_icmp .ge 65, 3) := by decide +kernel
theorem d_Id_closeUp_10 : decode b_Id_closeUp 10 = .ok (.iload_n 1, 1) := by decide +kernel
theorem d_Id_closeUp_11 : decode b_Id_closeUp 11 = .ok (.iload_n 3, 1) := by decide +kernel
theorem d_Id_closeUp_12 : decode b_Id_closeUp 12 = .ok (.iadd, 1) := by decide +kernel
theorem d_Id_closeUp_13 : decode b_Id_closeUp 13 = .ok (.bipush 16, 2) := by decide +kernel
theorem d_Id_closeUp_15 : decode b_Id_closeUp 15 = .ok (.irem, 1) := by decide +kernel
theorem d_Id_closeUp_16 : decode b_Id_closeUp 16 = .ok (.istore 4, 2) := by decide +kernel
theorem d_Id_closeUp_18 : decode b_Id_closeUp 18 = .ok (.aload_n 0, 1) := by decide +kernel
theorem d_Id_closeUp_19 : decode b_Id_closeUp 19 = .ok (.getfield 11, 3) := by decide +kernel
theorem d_Id_closeUp_22 : decode b_Id_closeUp 22 = .ok (.iload 4, 2) := by decide +kernel
theorem d_Id_closeUp_24 : decode b_Id_closeUp 24 = .ok (.aaload, 1) := by decide +kernel
theorem d_Id_closeUp_25 : decode b_Id_closeUp 25 = .ok (.astore 5, 2) := by decide +kernel
theorem d_Id_closeUp_27 : decode b_Id_closeUp 27 = .ok (.aload 5, 2) := by decide +kernel
theorem d_Id_closeUp_29 : decode b_Id_closeUp 29 = .ok (.ifnonnull 4, 3) := by decide +kernel
theorem d_Id_closeUp_32 : decode b_Id_closeUp 32 = .ok (.return_, 1) := by decide +kernel
theorem d_Id_closeUp_33 : decode b_Id_closeUp 33 = .ok (.aload 5, 2) := by decide +kernel
theorem d_Id_closeUp_35 : decode b_Id_closeUp 35 = .ok (.invokestatic 25, 3) := by decide +kernel
theorem d_Id_closeUp_38 : decode b_Id_closeUp 38 = .ok (.iload_n 2, 1) := by decide +kernel
theorem d_Id_closeUp_39 : decode b_Id_closeUp 39 = .ok (.iload 4, 2) := by decide +kernel
theorem d_Id_closeUp_41 : decode b_Id_closeUp 41 = .ok (.invokestatic 40, 3) := by decide +kernel
theorem d_Id_closeUp_44 : decode b_Id_closeUp 44 = .ok (.ifCond .ne 22, 3) := by decide +kernel
theorem d_Id_closeUp_47 : decode b_Id_closeUp 47 = .ok (.aload_n 0, 1) := by decide +kernel
theorem d_Id_closeUp_48 : decode b_Id_closeUp 48 = .ok (.getfield 11, 3) := by decide +kernel
theorem d_Id_closeUp_51 : decode b_Id_closeUp 51 = .ok (.iload_n 2, 1) := by decide +kernel
theorem d_Id_closeUp_52 : decode b_Id_closeUp 52 = .ok (.aload 5, 2) := by decide +kernel
theorem d_Id_closeUp_54 : decode b_Id_closeUp 54 = .ok (.aastore, 1) := by decide +kernel
theorem d_Id_closeUp_55 : decode b_Id_closeUp 55 = .ok (.aload_n 0, 1) := by decide +kernel
theorem d_Id_closeUp_56 : decode b_Id_closeUp 56 = .ok (.getfield 11, 3) := by decide +kernel
theorem d_Id_closeUp_59 : decode b_Id_closeUp 59 = .ok (.iload 4, 2) := by decide +kernel
theorem d_Id_closeUp_61 : decode b_Id_closeUp 61 = .ok (.aconst_null, 1) := by decide +kernel
theorem d_Id_closeUp_62 : decode b_Id_closeUp 62 = .ok (.aastore, 1) := by decide +kernel
theorem d_Id_closeUp_63 : decode b_Id_closeUp 63 = .ok (.iload 4, 2) := by decide +kernel
theorem d_Id_closeUp_65 : decode b_Id_closeUp 65 = .ok (.istore_n 2, 1) := by decide +kernel
theorem d_Id_closeUp_66 : decode b_Id_closeUp 66 = .ok (.iinc 3 1, 3) := by decide +kernel
theorem d_Id_closeUp_69 : decode b_Id_closeUp 69 = .ok (.goto (-65), 3) := by decide +kernel
theorem d_Id_closeUp_72 : decode b_Id_closeUp 72 = .ok (.return_, 1) := by decide +kernel
theorem d_Id_liesBehind_0 : decode b_Id_liesBehind 0 = .ok (.iload_n 0, 1) := by decide +kernel
theorem d_Id_liesBehind_1 : decode b_Id_liesBehind 1 = .ok (.iload_n 1, 1) := by decide +kernel
theorem d_Id_liesBehind_2 : decode b_Id_liesBehind 2 = .ok (.isub, 1) := by decide +kernel
theorem d_Id_liesBehind_3 : decode b_Id_liesBehind 3 = .ok (.bipush 16, 2) := by decide +kernel
theorem d_Id_liesBehind_5 : decode b_Id_liesBehind 5 = .ok (.invokestatic 44, 3) := by decide +kernel
theorem d_Id_liesBehind_8 : decode b_Id_liesBehind 8 = .ok (.istore_n 3, 1) := by decide +kernel
theorem d_Id_liesBehind_9 : decode b_Id_liesBehind 9 = .ok (.iload_n 3, 1) := by decide +kernel
theorem d_Id_liesBehind_10 : decode b_Id_liesBehind 10 = .ok (.ifCond .le 19, 3) := by decide +kernel
theorem d_Id_liesBehind_13 : decode b_Id_liesBehind 13 = .ok (.iload_n 3, 1) := by decide +kernel
theorem d_Id_liesBehind_14 : decode b_Id_liesBehind 14 = .ok (.iload_n 2, 1) := by decide +kernel
theorem d_Id_liesBehind_15 : decode b_Id_liesBehind 15 = .ok (.iload_n 1, 1) := by decide +kernel
theorem d_Id_liesBehind_16 : decode b_Id_liesBehind 16 = .ok (.isub, 1) := by decide +kernel
theorem d_Id_liesBehind_17 : decode b_Id_liesBehind 17 = .ok (.bipush 16, 2) := by decide +kernel
theorem d_Id_liesBehind_19 : decode b_Id_liesBehind 19 = .ok (.invokestatic 44, 3) := by decide +kernel
theorem d_Id_liesBehind_22 : decode b_Id_liesBehind 22 = .ok (.if_icmp .gt 7, 3) := by decide +kernel
theorem d_Id_liesBehind_25 : decode b_Id_liesBehind 25 = .ok (.iconst 1, 1) := by decide +kernel
theorem d_Id_liesBehind_26 : decode b_Id_liesBehind 26 = .ok (.goto 4, 3) := by decide +kernel
theorem d_Id_liesBehind_29 : decode b_Id_liesBehind 29 = .ok (.iconst 0, 1) := by decide +kernel
theorem d_Id_liesBehind_30 : decode b_Id_liesBehind 30 = .ok (.ireturn, 1) := by decide +kernel
theorem d_HM_entry_0 : decode b_HM_entry 0 = .ok (.iload_n 1, 1) := by decide +kernel
theorem d_HM_entry_1 : decode b_HM_entry 1 = .ok (.invokestatic 143, 3) := by decide +kernel
theorem d_HM_entry_4 : decode b_HM_entry 4 = .ok (.ifCond .eq 12, 3) := by decide +kernel
theorem d_HM_entry_7 : decode b_HM_entry 7 = .ok (.iload_n 3, 1) := by decide +kernel
theorem d_HM_entry_8 : decode b_HM_entry 8 = .ok (.ifCond .lt 8, 3) := by decide +kernel
theorem d_HM_entry_11 : decode b_HM_entry 11 = .ok (.iload_n 3, 1) := by decide +kernel
theorem d_HM_entry_12 : decode b_HM_entry 12 = .ok (.iconst 1, 1) := by decide +kernel
theorem d_HM_entry_13 : decode b_HM_entry 13 = .ok (.if_icmp .le 13, 3) := by decide +kernel
theorem d_HM_entry_16 : decode b_HM_entry 16 = .ok (.new 149, 3) := by decide +kernel
theorem d_HM_entry_19 : decode b_HM_entry 19 = .ok (.dup, 1) := by decide +kernel
theorem d_HM_entry_20 : decode b_HM_entry 20 = .ok (.ldc 151, 2) := by decide +kernel
theorem d_HM_entry_22 : decode b_HM_entry 22 = .ok (.invokespecial 153, 3) := by decide +kernel
theorem d_HM_entry_25 : decode b_HM_entry 25 = .ok (.athrow, 1) := by decide +kernel
theorem d_HM_entry_26 : decode b_HM_entry 26 = .ok (.iload_n 3, 1) := by decide +kernel
theorem d_HM_entry_27 : decode b_HM_entry 27 = .ok (.ifCond .ne 16, 3) := by decide +kernel
theorem d_HM_entry_30 : decode b_HM_entry 30 = .ok (.aload_n 0, 1) := by decide +kernel
theorem d_HM_entry_31 : decode b_HM_entry 31 = .ok (.getfield 32, 3) := by decide +kernel
theorem d_HM_entry_34 : decode b_HM_entry 34 = .ok (.iload_n 1, 1) := by decide +kernel
theorem d_HM_entry_35 : decode b_HM_entry 35 = .ok (.aaload, 1) := by decide +kernel
theorem d_HM_entry_36 : decode b_HM_entry 36 = .ok (.iload_n 2, 1) := by decide +kernel
theorem d_HM_entry_37 : decode b_HM_entry 37 = .ok (.invokevirtual 154, 3) := by decide +kernel
theorem d_HM_entry_40 : decode b_HM_entry 40 = .ok (.goto 13, 3) := by decide +kernel
theorem d_HM_entry_43 : decode b_HM_entry 43 = .ok (.aload_n 0, 1) := by decide +kernel
theorem d_HM_entry_44 : decode b_HM_entry 44 = .ok (.getfield 32, 3) := by decide +kernel
theorem d_HM_entry_47 : decode b_HM_entry 47 = .ok (.iload_n 1, 1) := by decide +kernel
theorem d_HM_entry_48 : decode b_HM_entry 48 = .ok (.aaload, 1) := by decide +kernel
theorem d_HM_entry_49 : decode b_HM_entry 49 = .ok (.iload_n 2, 1) := by decide +kernel
theorem d_HM_entry_50 : decode b_HM_entry 50 = .ok (.invokevirtual 137, 3) := by decide +kernel
theorem d_HM_entry_53 : decode b_HM_entry 53 = .ok (.istore 4, 2) := by decide +kernel
theorem d_HM_entry_55 : decode b_HM_entry 55 = .ok (.iload 4, 2) := by decide +kernel
theorem d_HM_entry_57 : decode b_HM_entry 57 = .ok (.iconst (-1), 1) := by decide +kernel
theorem d_HM_entry_58 : decode b_HM_entry 58 = .ok (.if_icmp .ne 13, 3) := by decide +kernel
theorem d_HM_entry_61 : decode b_HM_entry 61 = .ok (.new 149, 3) := by decide +kernel
theorem d_HM_entry_64 : decode b_HM_entry 64 = .ok (.dup, 1) := by decide +kernel
theorem d_HM_entry_65 : decode b_HM_entry 65 = .ok (.ldc 157, 2) := by decide +kernel
theorem d_HM_entry_67 : decode b_HM_entry 67 = .ok (.invokespecial 153, 3) := by decide +kernel
theorem d_HM_entry_70 : decode b_HM_entry 70 = .ok (.athrow, 1) := by decide +kernel
theorem d_HM_entry_71 : decode b_HM_entry 71 = .ok (.iload 4, 2) := by decide +kernel
theorem d_HM_entry_73 : decode b_HM_entry 73 = .ok (.ireturn, 1) := by decide +kernel
theorem d_Ta_keyAt_0 : decode b_Ta_keyAt 0 = .ok (.aload_n 0, 1) := by decide +kernel
theorem d_Ta_keyAt_1 : decode b_Ta_keyAt 1 = .ok (.iload_n 1, 1) := by decide +kernel
theorem d_Ta_keyAt_2 : decode b_Ta_keyAt 2 = .ok (.invokevirtual 9, 3) := by decide +kernel
theorem d_Ta_keyAt_5 : decode b_Ta_keyAt 5 = .ok (.astore_n 2, 1) := by decide +kernel
theorem d_Ta_keyAt_6 : decode b_Ta_keyAt 6 = .ok (.aload_n 2, 1) := by decide +kernel
theorem d_Ta_keyAt_7 : decode b_Ta_keyAt 7 = .ok (.ifnonnull 7, 3) := by decide +kernel
theorem d_Ta_keyAt_10 : decode b_Ta_keyAt 10 = .ok (.iconst (-1), 1) := by decide +kernel
theorem d_Ta_keyAt_11 : decode b_Ta_keyAt 11 = .ok (.goto 7, 3) := by decide +kernel
theorem d_Ta_keyAt_14 : decode b_Ta_keyAt 14 = .ok (.aload_n 2, 1) := by decide +kernel
theorem d_Ta_keyAt_15 : decode b_Ta_keyAt 15 = .ok (.getfield 15, 3) := by decide +kernel
theorem d_Ta_keyAt_18 : decode b_Ta_keyAt 18 = .ok (.ireturn, 1) := by decide +kernel
theorem d_HM_walk_0 : decode b_HM_walk 0 = .ok (.iload_n 1, 1) := by decide +kernel
theorem d_HM_walk_1 : decode b_HM_walk 1 = .ok (.invokestatic 143, 3) := by decide +kernel
theorem d_HM_walk_4 : decode b_HM_walk 4 = .ok (.ifCond .ne 13, 3) := by decide +kernel
theorem d_HM_walk_7 : decode b_HM_walk 7 = .ok (.new 45, 3) := by decide +kernel
theorem d_HM_walk_10 : decode b_HM_walk 10 = .ok (.dup, 1) := by decide +kernel
theorem d_HM_walk_11 : decode b_HM_walk 11 = .ok (.ldc 159, 2) := by decide +kernel
theorem d_HM_walk_13 : decode b_HM_walk 13 = .ok (.invokespecial 49, 3) := by decide +kernel
theorem d_HM_walk_16 : decode b_HM_walk 16 = .ok (.athrow, 1) := by decide +kernel
theorem d_HM_walk_17 : decode b_HM_walk 17 = .ok (.aload_n 0, 1) := by decide +kernel
theorem d_HM_walk_18 : decode b_HM_walk 18 = .ok (.getfield 32, 3) := by decide +kernel
theorem d_HM_walk_21 : decode b_HM_walk 21 = .ok (.iload_n 1, 1) := by decide +kernel
theorem d_HM_walk_22 : decode b_HM_walk 22 = .ok (.aaload, 1) := by decide +kernel
theorem d_HM_walk_23 : decode b_HM_walk 23 = .ok (.astore_n 2, 1) := by decide +kernel
theorem d_HM_walk_24 : decode b_HM_walk 24 = .ok (.aload_n 2, 1) := by decide +kernel
theorem d_HM_walk_25 : decode b_HM_walk 25 = .ok (.iconst 1, 1) := by decide +kernel
theorem d_HM_walk_26 : decode b_HM_walk 26 = .ok (.putfield 161, 3) := by decide +kernel
theorem d_HM_walk_29 : decode b_HM_walk 29 = .ok (.aload_n 2, 1) := by decide +kernel
theorem d_HM_walk_30 : decode b_HM_walk 30 = .ok (.iconst 0, 1) := by decide +kernel
theorem d_HM_walk_31 : decode b_HM_walk 31 = .ok (.putfield 164, 3) := by decide +kernel
theorem d_HM_walk_34 : decode b_HM_walk 34 = .ok (.aload_n 2, 1) := by decide +kernel
theorem d_HM_walk_35 : decode b_HM_walk 35 = .ok (.iconst 0, 1) := by decide +kernel
theorem d_HM_walk_36 : decode b_HM_walk 36 = .ok (.putfield 167, 3) := by decide +kernel
theorem d_HM_walk_39 : decode b_HM_walk 39 = .ok (.return_, 1) := by decide +kernel
theorem d_HM_step_0 : decode b_HM_step 0 = .ok (.iload_n 1, 1) := by decide +kernel
theorem d_HM_step_1 : decode b_HM_step 1 = .ok (.invokestatic 143, 3) := by decide +kernel
theorem d_HM_step_4 : decode b_HM_step 4 = .ok (.ifCond .eq 15, 3) := by decide +kernel
theorem d_HM_step_7 : decode b_HM_step 7 = .ok (.aload_n 0, 1) := by decide +kernel
theorem d_HM_step_8 : decode b_HM_step 8 = .ok (.getfield 32, 3) := by decide +kernel
theorem d_HM_step_11 : decode b_HM_step 11 = .ok (.iload_n 1, 1) := by decide +kernel
theorem d_HM_step_12 : decode b_HM_step 12 = .ok (.aaload, 1) := by decide +kernel
theorem d_HM_step_13 : decode b_HM_step 13 = .ok (.getfield 161, 3) := by decide +kernel
theorem d_HM_step_16 : decode b_HM_step 16 = .ok (.ifCond .ne 13, 3) := by decide +kernel
theorem d_HM_step_19 : decode b_HM_step 19 = .ok (.new 45, 3) := by decide +kernel
theorem d_HM_step_22 : decode b_HM_step 22 = .ok (.dup, 1) := by decide +kernel
theorem d_HM_step_23 : decode b_HM_step 23 = .ok (.ldc 170, 2) := by decide +kernel
theorem d_HM_step_25 : decode b_HM_step 25 = .ok (.invokespecial 49, 3) := by decide +kernel
theorem d_HM_step_28 : decode b_HM_step 28 = .ok (.athrow, 1) := by decide +kernel
theorem d_HM_step_29 : decode b_HM_step 29 = .ok (.aload_n 0, 1) := by decide +kernel
theorem d_HM_step_30 : decode b_HM_step 30 = .ok (.getfield 32, 3) := by decide +kernel
theorem d_HM_step_33 : decode b_HM_step 33 = .ok (.iload_n 1, 1) := by decide +kernel
theorem d_HM_step_34 : decode b_HM_step 34 = .ok (.aaload, 1) := by decide +kernel
theorem d_HM_step_35 : decode b_HM_step 35 = .ok (.astore_n 2, 1) := by decide +kernel
theorem d_HM_step_36 : decode b_HM_step 36 = .ok (.aload_n 2, 1) := by decide +kernel
theorem d_HM_step_37 : decode b_HM_step 37 = .ok (.getfield 164, 3) := by decide +kernel
theorem d_HM_step_40 : decode b_HM_step 40 = .ok (.ifCond .eq 13, 3) := by decide +kernel
theorem d_HM_step_43 : decode b_HM_step 43 = .ok (.new 56, 3) := by decide +kernel
theorem d_HM_step_46 : decode b_HM_step 46 = .ok (.dup, 1) := by decide +kernel
theorem d_HM_step_47 : decode b_HM_step 47 = .ok (.ldc 172, 2) := by decide +kernel
theorem d_HM_step_49 : decode b_HM_step 49 = .ok (.invokespecial 60, 3) := by decide +kernel
theorem d_HM_step_52 : decode b_HM_step 52 = .ok (.athrow, 1) := by decide +kernel
theorem d_HM_step_53 : decode b_HM_step 53 = .ok (.aload_n 2, 1) := by decide +kernel
theorem d_HM_step_54 : decode b_HM_step 54 = .ok (.aload_n 2, 1) := by decide +kernel
theorem d_HM_step_55 : decode b_HM_step 55 = .ok (.getfield 167, 3) := by decide +kernel
theorem d_HM_step_58 : decode b_HM_step 58 = .ok (.invokevirtual 154, 3) := by decide +kernel
theorem d_HM_step_61 : decode b_HM_step 61 = .ok (.istore_n 3, 1) := by decide +kernel
theorem d_HM_step_62 : decode b_HM_step 62 = .ok (.iload_n 3, 1) := by decide +kernel
theorem d_HM_step_63 : decode b_HM_step 63 = .ok (.iconst (-1), 1) := by decide +kernel
theorem d_HM_step_64 : decode b_HM_step 64 = .ok (.if_icmp .ne 13, 3) := by decide +kernel
theorem d_HM_step_67 : decode b_HM_step 67 = .ok (.new 149, 3) := by decide +kernel
theorem d_HM_step_70 : decode b_HM_step 70 = .ok (.dup, 1) := by decide +kernel
theorem d_HM_step_71 : decode b_HM_step 71 = .ok (.ldc 174, 2) := by decide +kernel
theorem d_HM_step_73 : decode b_HM_step 73 = .ok (.invokespecial 153, 3) := by decide +kernel
theorem d_HM_step_76 : decode b_HM_step 76 = .ok (.athrow, 1) := by decide +kernel
theorem d_HM_step_77 : decode b_HM_step 77 = .ok (.aload_n 2, 1) := by decide +kernel
theorem d_HM_step_78 : decode b_HM_step 78 = .ok (.dup, 1) := by decide +kernel
theorem d_HM_step_79 : decode b_HM_step 79 = .ok (.getfield 167, 3) := by decide +kernel
theorem d_HM_step_82 : decode b_HM_step 82 = .ok (.iconst 1, 1) := by decide +kernel
theorem d_HM_step_83 : decode b_HM_step 83 = .ok (.iadd, 1) := by decide +kernel
theorem d_HM_step_84 : decode b_HM_step 84 = .ok (.putfield 167, 3) := by decide +kernel
theorem d_HM_step_87 : decode b_HM_step 87 = .ok (.iload_n 3, 1) := by decide +kernel
theorem d_HM_step_88 : decode b_HM_step 88 = .ok (.ireturn, 1) := by decide +kernel
theorem d_HM_collect_0 : decode b_HM_collect 0 = .ok (.iload_n 1, 1) := by decide +kernel
theorem d_HM_collect_1 : decode b_HM_collect 1 = .ok (.ifCond .lt 8, 3) := by decide +kernel
theorem d_HM_collect_4 : decode b_HM_collect 4 = .ok (.iload_n 1, 1) := by decide +kernel
theorem d_HM_collect_5 : decode b_HM_collect 5 = .ok (.iconst 3, 1) := by decide +kernel
theorem d_HM_collect_6 : decode b_HM_collect 6 = .ok (.if_icmp .le 13, 3) := by decide +kernel
theorem d_HM_collect_9 : decode b_HM_collect 9 = .ok (.new 45, 3) := by decide +kernel
theorem d_HM_collect_12 : decode b_HM_collect 12 = .ok (.dup, 1) := by decide +kernel
theorem d_HM_collect_13 : decode b_HM_collect 13 = .ok (.ldc 176, 2) := by decide +kernel
theorem d_HM_collect_15 : decode b_HM_collect 15 = .ok (.invokespecial 49, 3) := by decide +kernel
theorem d_HM_collect_18 : decode b_HM_collect 18 = .ok (.athrow, 1) := by decide +kernel
theorem d_HM_collect_19 : decode b_HM_collect 19 = .ok (.aload_n 0, 1) := by decide +kernel
theorem d_HM_collect_20 : decode b_HM_collect 20 = .ok (.getfield 10, 3) := by decide +kernel
theorem d_HM_collect_23 : decode b_HM_collect 23 = .ok (.invokevirtual 178, 3) := by decide +kernel
theorem d_HM_collect_26 : decode b_HM_collect 26 = .ok (.aload_n 0, 1) := by decide +kernel
theorem d_HM_collect_27 : decode b_HM_collect 27 = .ok (.invokevirtual 181, 3) := by decide +kernel
theorem d_HM_collect_30 : decode b_HM_collect 30 = .ok (.aload_n 0, 1) := by decide +kernel
theorem d_HM_collect_31 : decode b_HM_collect 31 = .ok (.bipush 12, 2) := by decide +kernel
theorem d_HM_collect_33 : decode b_HM_collect 33 = .ok (.iconst 4, 1) := by decide +kernel
theorem d_HM_collect_34 : decode b_HM_collect 34 = .ok (.iload_n 1, 1) := by decide +kernel
theorem d_HM_collect_35 : decode b_HM_collect 35 = .ok (.imul, 1) := by decide +kernel
theorem d_HM_collect_36 : decode b_HM_collect 36 = .ok (.isub, 1) := by decide +kernel
theorem d_HM_collect_37 : decode b_HM_collect 37 = .ok (.invokevirtual 184, 3) := by decide +kernel
theorem d_HM_collect_40 : decode b_HM_collect 40 = .ok (.aload_n 0, 1) := by decide +kernel
theorem d_HM_collect_41 : decode b_HM_collect 41 = .ok (.invokevirtual 187, 3) := by decide +kernel
theorem d_HM_collect_44 : decode b_HM_collect 44 = .ok (.aload_n 0, 1) := by decide +kernel
theorem d_HM_collect_45 : decode b_HM_collect 45 = .ok (.getfield 10, 3) := by decide +kernel
theorem d_HM_collect_48 : decode b_HM_collect 48 = .ok (.invokevirtual 190, 3) := by decide +kernel
theorem d_HM_collect_51 : decode b_HM_collect 51 = .ok (.ireturn, 1) := by decide +kernel
theorem d_He_holdRootsOnly_0 : decode b_He_holdRootsOnly 0 = .ok (.aload_n 0, 1) := by decide +kernel
theorem d_He_holdRootsOnly_1 : decode b_He_holdRootsOnly 1 = .ok (.iconst 0, 1) := by decide +kernel
theorem d_He_holdRootsOnly_2 : decode b_He_holdRootsOnly 2 = .ok (.putfield 29, 3) := by decide +kernel
theorem d_He_holdRootsOnly_5 : decode b_He_holdRootsOnly 5 = .ok (.iconst 0, 1) := by decide +kernel
theorem d_He_holdRootsOnly_6 : decode b_He_holdRootsOnly 6 = .ok (.istore_n 1, 1) := by decide +kernel
theorem d_He_holdRootsOnly_7 : decode b_He_holdRootsOnly 7 = .ok (.iload_n 1, 1) := by decide +kernel
theorem d_He_holdRootsOnly_8 : decode b_He_holdRootsOnly 8 = .ok (.bipush 32, 2) := by decide +kernel
theorem d_He_holdRootsOnly_10 : decode b_He_holdRootsOnly 10 = .ok (.if_icmp .ge 28, 3) := by decide +kernel
theorem d_He_holdRootsOnly_13 : decode b_He_holdRootsOnly 13 = .ok (.aload_n 0, 1) := by decide +kernel
theorem d_He_holdRootsOnly_14 : decode b_He_holdRootsOnly 14 = .ok (.getfield 11, 3) := by decide +kernel
theorem d_He_holdRootsOnly_17 : decode b_He_holdRootsOnly 17 = .ok (.iload_n 1, 1) := by decide +kernel
theorem d_He_holdRootsOnly_18 : decode b_He_holdRootsOnly 18 = .ok (.aaload, 1) := by decide +kernel
theorem d_He_holdRootsOnly_19 : decode b_He_holdRootsOnly 19 = .ok (.ifnull 13, 3) := by decide +kernel
theorem d_He_holdRootsOnly_22 : decode b_He_holdRootsOnly 22 = .ok (.aload_n 0, 1) := by decide +kernel
theorem d_He_holdRootsOnly_23 : decode b_He_holdRootsOnly 23 = .ok (.getfield 11, 3) := by decide +kernel
theorem d_He_holdRootsOnly_26 : decode b_He_holdRootsOnly 26 = .ok (.iload_n 1, 1) := by decide +kernel
theorem d_He_holdRootsOnly_27 : decode b_He_holdRootsOnly 27 = .ok (.aaload, 1) := by decide +kernel
theorem d_He_holdRootsOnly_28 : decode b_He_holdRootsOnly 28 = .ok (.iconst 0, 1) := by decide +kernel
theorem d_He_holdRootsOnly_29 : decode b_He_holdRootsOnly 29 = .ok (.putfield 25, 3) := by decide +kernel
theorem d_He_holdRootsOnly_32 : decode b_He_holdRootsOnly 32 = .ok (.iinc 1 1, 3) := by decide +kernel
theorem d_He_holdRootsOnly_35 : decode b_He_holdRootsOnly 35 = .ok (.goto (-28), 3) := by decide +kernel
theorem d_He_holdRootsOnly_38 : decode b_He_holdRootsOnly 38 = .ok (.iconst 0, 1) := by decide +kernel
theorem d_He_holdRootsOnly_39 : decode b_He_holdRootsOnly 39 = .ok (.istore_n 1, 1) := by decide +kernel
theorem d_He_holdRootsOnly_40 : decode b_He_holdRootsOnly 40 = .ok (.iload_n 1, 1) := by decide +kernel
theorem d_He_holdRootsOnly_41 : decode b_He_holdRootsOnly 41 = .ok (.bipush 32, 2) := by decide +kernel
theorem d_He_holdRootsOnly_43 : decode b_He_holdRootsOnly 43 = .ok (.if_icmp .ge 35, 3) := by decide +kernel
theorem d_He_holdRootsOnly_46 : decode b_He_holdRootsOnly 46 = .ok (.aload_n 0, 1) := by decide +kernel
theorem d_He_holdRootsOnly_47 : decode b_He_holdRootsOnly 47 = .ok (.getfield 11, 3) := by decide +kernel
theorem d_He_holdRootsOnly_50 : decode b_He_holdRootsOnly 50 = .ok (.iload_n 1, 1) := by decide +kernel
theorem d_He_holdRootsOnly_51 : decode b_He_holdRootsOnly 51 = .ok (.aaload, 1) := by decide +kernel
theorem d_He_holdRootsOnly_52 : decode b_He_holdRootsOnly 52 = .ok (.ifnull 20, 3) := by decide +kernel
theorem d_He_holdRootsOnly_55 : decode b_He_holdRootsOnly 55 = .ok (.aload_n 0, 1) := by decide +kernel
theorem d_He_holdRootsOnly_56 : decode b_He_holdRootsOnly 56 = .ok (.getfield 11, 3) := by decide +kernel
theorem d_He_holdRootsOnly_59 : decode b_He_holdRootsOnly 59 = .ok (.iload_n 1, 1) := by decide +kernel
theorem d_He_holdRootsOnly_60 : decode b_He_holdRootsOnly 60 = .ok (.aaload, 1) := by decide +kernel
theorem d_He_holdRootsOnly_61 : decode b_He_holdRootsOnly 61 = .ok (.getfield 33, 3) := by decide +kernel
theorem d_He_holdRootsOnly_64 : decode b_He_holdRootsOnly 64 = .ok (.ifCond .eq 8, 3) := by decide +kernel
theorem d_He_holdRootsOnly_67 : decode b_He_holdRootsOnly 67 = .ok (.aload_n 0, 1) := by decide +kernel
theorem d_He_holdRootsOnly_68 : decode b_He_holdRootsOnly 68 = .ok (.iload_n 1, 1) := by decide +kernel
theorem d_He_holdRootsOnly_69 : decode b_He_holdRootsOnly 69 = .ok (.invokevirtual 36, 3) := by decide +kernel
theorem d_He_holdRootsOnly_72 : decode b_He_holdRootsOnly 72 = .ok (.iinc 1 1, 3) := by decide +kernel
theorem d_He_holdRootsOnly_75 : decode b_He_holdRootsOnly 75 = .ok (.goto (-35), 3) := by decide +kernel
theorem d_He_holdRootsOnly_78 : decode b_He_holdRootsOnly 78 = .ok (.return_, 1) := by decide +kernel
theorem d_He_hold_0 : decode b_He_hold 0 = .ok (.aload_n 0, 1) := by decide +kernel
theorem d_He_hold_1 : decode b_He_hold 1 = .ok (.getfield 29, 3) := by decide +kernel
theorem d_He_hold_4 : decode b_He_hold 4 = .ok (.istore_n 2, 1) := by decide +kernel
theorem d_He_hold_5 : decode b_He_hold 5 = .ok (.aload_n 0, 1) := by decide +kernel
theorem d_He_hold_6 : decode b_He_hold 6 = .ok (.iload_n 1, 1) := by decide +kernel
theorem d_He_hold_7 : decode b_He_hold 7 = .ok (.invokevirtual 40, 3) := by decide +kernel
theorem d_He_hold_10 : decode b_He_hold 10 = .ok (.iload_n 2, 1) := by decide +kernel
theorem d_He_hold_11 : decode b_He_hold 11 = .ok (.istore_n 3, 1) := by decide +kernel
theorem d_He_hold_12 : decode b_He_hold 12 = .ok (.iload_n 3, 1) := by decide +kernel
theorem d_He_hold_13 : decode b_He_hold 13 = .ok (.bipush 32, 2) := by decide +kernel
theorem d_He_hold_15 : decode b_He_hold 15 = .ok (.if_icmp .ge 27, 3) := by decide +kernel
theorem d_He_hold_18 : decode b_He_hold 18 = .ok (.iload_n 3, 1) := by decide +kernel
theorem d_He_hold_19 : decode b_He_hold 19 = .ok (.aload_n 0, 1) := by decide +kernel
theorem d_He_hold_20 : decode b_He_hold 20 = .ok (.getfield 29, 3) := by decide +kernel
theorem d_He_hold_23 : decode b_He_hold 23 = .ok (.if_icmp .ge 19, 3) := by decide +kernel
theorem d_He_hold_26 : decode b_He_hold 26 = .ok (.aload_n 0, 1) := by decide +kernel
theorem d_He_hold_27 : decode b_He_hold 27 = .ok (.aload_n 0, 1) := by decide +kernel
theorem d_He_hold_28 : decode b_He_hold 28 = .ok (.getfield 17, 3) := by decide +kernel
theorem d_He_hold_31 : decode b_He_hold 31 = .ok (.iload_n 3, 1) := by decide +kernel
theorem d_He_hold_32 : decode b_He_hold 32 = .ok (.iaload, 1) := by decide +kernel
theorem d_He_hold_33 : decode b_He_hold 33 = .ok (.invokevirtual 43, 3) := by decide +kernel
theorem d_He_hold_36 : decode b_He_hold 36 = .ok (.iinc 3 1, 3) := by decide +kernel
theorem d_He_hold_39 : decode b_He_hold 39 = .ok (.goto (-27), 3) := by decide +kernel
theorem d_He_hold_42 : decode b_He_hold 42 = .ok (.return_, 1) := by decide +kernel
theorem d_He_mark_0 : decode b_He_mark 0 = .ok (.aload_n 0, 1) := by decide +kernel
theorem d_He_mark_1 : decode b_He_mark 1 = .ok (.iload_n 1, 1) := by decide +kernel
theorem d_He_mark_2 : decode b_He_mark 2 = .ok (.invokevirtual 21, 3) := by decide +kernel
theorem d_He_mark_5 : decode b_He_mark 5 = .ok (.ifCond .eq 54, 3) := by decide +kernel
theorem d_He_mark_8 : decode b_He_mark 8 = .ok (.aload_n 0, 1) := by decide +kernel
theorem d_He_mark_9 : decode b_He_mark 9 = .ok (.getfield 11, 3) := by decide +kernel
theorem d_He_mark_12 : decode b_He_mark 12 = .ok (.iload_n 1, 1) := by decide +kernel
theorem d_He_mark_13 : decode b_He_mark 13 = .ok (.aaload, 1) := by decide +kernel
theorem d_He_mark_14 : decode b_He_mark 14 = .ok (.getfield 25, 3) := by decide +kernel
theorem d_He_mark_17 : decode b_He_mark 17 = .ok (.ifCond .ne 42, 3) := by decide +kernel
theorem d_He_mark_20 : decode b_He_mark 20 = .ok (.aload_n 0, 1) := by decide +kernel
theorem d_He_mark_21 : decode b_He_mark 21 = .ok (.getfield 29, 3) := by decide +kernel
theorem d_He_mark_24 : decode b_He_mark 24 = .ok (.bipush 32, 2) := by decide +kernel
theorem d_He_mark_26 : decode b_He_mark 26 = .ok (.if_icmp .ge 33, 3) := by decide +kernel
theorem d_He_mark_29 : decode b_He_mark 29 = .ok (.aload_n 0, 1) := by decide +kernel
theorem d_He_mark_30 : decode b_He_mark 30 = .ok (.getfield 11, 3) := by decide +kernel
theorem d_He_mark_33 : decode b_He_mark 33 = .ok (.iload_n 1, 1) := by decide +kernel
theorem d_He_mark_34 : decode b_He_mark 34 = .ok (.aaload, 1) := by decide +kernel
theorem d_He_mark_35 : decode b_He_mark 35 = .ok (.iconst 1, 1) := by decide +kernel
theorem d_He_mark_36 : decode b_He_mark 36 = .ok (.putfield 25, 3) := by decide +kernel
theorem d_He_mark_39 : decode b_He_mark 39 = .ok (.aload_n 0, 1) := by decide +kernel
theorem d_He_mark_40 : decode b_He_mark 40 = .ok (.getfield 17, 3) := by decide +kernel
theorem d_He_mark_43 : decode b_He_mark 43 = .ok (.aload_n 0, 1) := by decide +kernel
theorem d_He_mark_44 : decode b_He_mark 44 = .ok (.getfield 29, 3) := by decide +kernel
theorem d_He_mark_47 : decode b_He_mark 47 = .ok (.iload_n 1, 1) := by decide +kernel
theorem d_He_mark_48 : decode b_He_mark 48 = .ok (.iastore, 1) := by decide +kernel
theorem d_He_mark_49 : decode b_He_mark 49 = .ok (.aload_n 0, 1) := by decide +kernel
theorem d_He_mark_50 : decode b_He_mark 50 = .ok (.dup, 1) := by decide +kernel
theorem d_He_mark_51 : decode b_He_mark 51 = .ok (.getfield 29, 3) := by decide +kernel
theorem d_He_mark_54 : decode b_He_mark 54 = .ok (.iconst 1, 1) := by decide +kernel
theorem d_He_mark_55 : decode b_He_mark 55 = .ok (.iadd, 1) := by decide +kernel
theorem d_He_mark_56 : decode b_He_mark 56 = .ok (.putfield 29, 3) := by decide +kernel
theorem d_He_mark_59 : decode b_He_mark 59 = .ok (.return_, 1) := by decide +kernel
theorem d_He_markWhatItRefersTo_0 : decode b_He_markWhatItRefersTo 0 = .ok (.aload_n 0, 1) := by decide +kernel
theorem d_He_markWhatItRefersTo_1 : decode b_He_markWhatItRefersTo 1 = .ok (.iload_n 1, 1) := by decide +kernel
theorem d_He_markWhatItRefersTo_2 : decode b_He_markWhatItRefersTo 2 = .ok (.invokevirtual 21, 3) := by decide +kernel
theorem d_He_markWhatItRefersTo_5 : decode b_He_markWhatItRefersTo 5 = .ok (.ifCond .eq 31, 3) := by decide +kernel
theorem d_He_markWhatItRefersTo_8 : decode b_He_markWhatItRefersTo 8 = .ok (.iconst 0, 1) := by decide +kernel
theorem d_He_markWhatItRefersTo_9 : decode b_He_markWhatItRefersTo 9 = .ok (.istore_n 2, 1) := by decide +kernel
theorem d_He_markWhatItRefersTo_10 : decode b_He_markWhatItRefersTo 10 = .ok (.iload_n 2, 1) := by decide +kernel
theorem d_He_markWhatItRefersTo_11 : decode b_He_markWhatItRefersTo 11 = .ok (.iconst 2, 1) := by decide +kernel
theorem d_He_markWhatItRefersTo_12 : decode b_He_markWhatItRefersTo 12 = .ok (.if_icmp .ge 24, 3) := by decide +kernel
theorem d_He_markWhatItRefersTo_15 : decode b_He_markWhatItRefersTo 15 = .ok (.aload_n 0, 1) := by decide +kernel
theorem d_He_markWhatItRefersTo_16 : decode b_He_markWhatItRefersTo 16 = .ok (.aload_n 0, 1) := by decide +kernel
theorem d_He_markWhatItRefersTo_17 : decode b_He_markWhatItRefersTo 17 = .ok (.getfield 11, 3) := by decide +kernel
theorem d_He_markWhatItRefersTo_20 : decode b_He_markWhatItRefersTo 20 = .ok (.iload_n 1, 1) := by decide +kernel
theorem d_He_markWhatItRefersTo_21 : decode b_He_markWhatItRefersTo 21 = .ok (.aaload, 1) := by decide +kernel
theorem d_He_markWhatItRefersTo_22 : decode b_He_markWhatItRefersTo 22 = .ok (.getfield 46, 3) := by decide +kernel
theorem d_He_markWhatItRefersTo_25 : decode b_He_markWhatItRefersTo 25 = .ok (.iload_n 2, 1) := by decide +kernel
theorem d_He_markWhatItRefersTo_26 : decode b_He_markWhatItRefersTo 26 = .ok (.iaload, 1) := by decide +kernel
theorem d_He_markWhatItRefersTo_27 : decode b_He_markWhatItRefersTo 27 = .ok (.invokevirtual 40, 3) := by decide +kernel
theorem d_He_markWhatItRefersTo_30 : decode b_He_markWhatItRefersTo 30 = .ok (.iinc 2 1, 3) := by decide +kernel
theorem d_He_markWhatItRefersTo_33 : decode b_He_markWhatItRefersTo 33 = .ok (.goto (-23), 3) := by decide +kernel
theorem d_He_markWhatItRefersTo_36 : decode b_He_markWhatItRefersTo 36 = .ok (.return_, 1) := by decide +kernel
theorem d_HM_holdWhatMapsHold_0 : decode b_HM_holdWhatMapsHold 0 = .ok (.aload_n 0, 1) := by decide +kernel
theorem d_HM_holdWhatMapsHold_1 : decode b_HM_holdWhatMapsHold 1 = .ok (.aload_n 0, 1) := by decide +kernel
theorem d_HM_holdWhatMapsHold_2 : decode b_HM_holdWhatMapsHold 2 = .ok (.getfield 32, 3) := by decide +kernel
theorem d_HM_holdWhatMapsHold_5 : decode b_HM_holdWhatMapsHold 5 = .ok (.iconst 2, 1) := by decide +kernel
theorem d_HM_holdWhatMapsHold_6 : decode b_HM_holdWhatMapsHold 6 = .ok (.aaload, 1) := by decide +kernel
theorem d_HM_holdWhatMapsHold_7 : decode b_HM_holdWhatMapsHold 7 = .ok (.invokevirtual 208, 3) := by decide +kernel
theorem d_HM_holdWhatMapsHold_10 : decode b_HM_holdWhatMapsHold 10 = .ok (.aload_n 0, 1) := by decide +kernel
theorem d_HM_holdWhatMapsHold_11 : decode b_HM_holdWhatMapsHold 11 = .ok (.aload_n 0, 1) := by decide +kernel
theorem d_HM_holdWhatMapsHold_12 : decode b_HM_holdWhatMapsHold 12 = .ok (.getfield 32, 3) := by decide +kernel
theorem d_HM_holdWhatMapsHold_15 : decode b_HM_holdWhatMapsHold 15 = .ok (.iconst 2, 1) := by decide +kernel
theorem d_HM_holdWhatMapsHold_16 : decode b_HM_holdWhatMapsHold 16 = .ok (.aaload, 1) := by decide +kernel
theorem d_HM_holdWhatMapsHold_17 : decode b_HM_holdWhatMapsHold 17 = .ok (.invokevirtual 212, 3) := by decide +kernel
theorem d_HM_holdWhatMapsHold_20 : decode b_HM_holdWhatMapsHold 20 = .ok (.aload_n 0, 1) := by decide +kernel
theorem d_HM_holdWhatMapsHold_21 : decode b_HM_holdWhatMapsHold 21 = .ok (.aload_n 0, 1) := by decide +kernel
theorem d_HM_holdWhatMapsHold_22 : decode b_HM_holdWhatMapsHold 22 = .ok (.getfield 32, 3) := by decide +kernel
theorem d_HM_holdWhatMapsHold_25 : decode b_HM_holdWhatMapsHold 25 = .ok (.iconst 4, 1) := by decide +kernel
theorem d_HM_holdWhatMapsHold_26 : decode b_HM_holdWhatMapsHold 26 = .ok (.aaload, 1) := by decide +kernel
theorem d_HM_holdWhatMapsHold_27 : decode b_HM_holdWhatMapsHold 27 = .ok (.invokevirtual 208, 3) := by decide +kernel
theorem d_HM_holdWhatMapsHold_30 : decode b_HM_holdWhatMapsHold 30 = .ok (.aload_n 0, 1) := by decide +kernel
theorem d_HM_holdWhatMapsHold_31 : decode b_HM_holdWhatMapsHold 31 = .ok (.aload_n 0, 1) := by decide +kernel
theorem d_HM_holdWhatMapsHold_32 : decode b_HM_holdWhatMapsHold 32 = .ok (.getfield 32, 3) := by decide +kernel
theorem d_HM_holdWhatMapsHold_35 : decode b_HM_holdWhatMapsHold 35 = .ok (.iconst 4, 1) := by decide +kernel
theorem d_HM_holdWhatMapsHold_36 : decode b_HM_holdWhatMapsHold 36 = .ok (.aaload, 1) := by decide +kernel
theorem d_HM_holdWhatMapsHold_37 : decode b_HM_holdWhatMapsHold 37 = .ok (.invokevirtual 212, 3) := by decide +kernel
theorem d_HM_holdWhatMapsHold_40 : decode b_HM_holdWhatMapsHold 40 = .ok (.aload_n 0, 1) := by decide +kernel
theorem d_HM_holdWhatMapsHold_41 : decode b_HM_holdWhatMapsHold 41 = .ok (.aload_n 0, 1) := by decide +kernel
theorem d_HM_holdWhatMapsHold_42 : decode b_HM_holdWhatMapsHold 42 = .ok (.getfield 32, 3) := by decide +kernel
theorem d_HM_holdWhatMapsHold_45 : decode b_HM_holdWhatMapsHold 45 = .ok (.iconst 3, 1) := by decide +kernel
theorem d_HM_holdWhatMapsHold_46 : decode b_HM_holdWhatMapsHold 46 = .ok (.aaload, 1) := by decide +kernel
theorem d_HM_holdWhatMapsHold_47 : decode b_HM_holdWhatMapsHold 47 = .ok (.invokevirtual 212, 3) := by decide +kernel
theorem d_HM_holdWhatMapsHold_50 : decode b_HM_holdWhatMapsHold 50 = .ok (.aload_n 0, 1) := by decide +kernel
theorem d_HM_holdWhatMapsHold_51 : decode b_HM_holdWhatMapsHold 51 = .ok (.aload_n 0, 1) := by decide +kernel
theorem d_HM_holdWhatMapsHold_52 : decode b_HM_holdWhatMapsHold 52 = .ok (.getfield 19, 3) := by decide +kernel
theorem d_HM_holdWhatMapsHold_55 : decode b_HM_holdWhatMapsHold 55 = .ok (.invokevirtual 212, 3) := by decide +kernel
theorem d_HM_holdWhatMapsHold_58 : decode b_HM_holdWhatMapsHold 58 = .ok (.aload_n 0, 1) := by decide +kernel
theorem d_HM_holdWhatMapsHold_59 : decode b_HM_holdWhatMapsHold 59 = .ok (.aload_n 0, 1) := by decide +kernel
theorem d_HM_holdWhatMapsHold_60 : decode b_HM_holdWhatMapsHold 60 = .ok (.getfield 26, 3) := by decide +kernel
theorem d_HM_holdWhatMapsHold_63 : decode b_HM_holdWhatMapsHold 63 = .ok (.invokevirtual 208, 3) := by decide +kernel
theorem d_HM_holdWhatMapsHold_66 : decode b_HM_holdWhatMapsHold 66 = .ok (.return_, 1) := by decide +kernel
theorem d_HM_holdKeys_0 : decode b_HM_holdKeys 0 = .ok (.iconst 0, 1) := by decide +kernel
theorem d_HM_holdKeys_1 : decode b_HM_holdKeys 1 = .ok (.istore_n 2, 1) := by decide +kernel
theorem d_HM_holdKeys_2 : decode b_HM_holdKeys 2 = .ok (.iload_n 2, 1) := by decide +kernel
theorem d_HM_holdKeys_3 : decode b_HM_holdKeys 3 = .ok (.aload_n 1, 1) := by decide +kernel
theorem d_HM_holdKeys_4 : decode b_HM_holdKeys 4 = .ok (.invokevirtual 146, 3) := by decide +kernel
theorem d_HM_holdKeys_7 : decode b_HM_holdKeys 7 = .ok (.if_icmp .ge 21, 3) := by decide +kernel
theorem d_HM_holdKeys_10 : decode b_HM_holdKeys 10 = .ok (.aload_n 0, 1) := by decide +kernel
theorem d_HM_holdKeys_11 : decode b_HM_holdKeys 11 = .ok (.getfield 10, 3) := by decide +kernel
theorem d_HM_holdKeys_14 : decode b_HM_holdKeys 14 = .ok (.aload_n 1, 1) := by decide +kernel
theorem d_HM_holdKeys_15 : decode b_HM_holdKeys 15 = .ok (.iload_n 2, 1) := by decide +kernel
theorem d_HM_holdKeys_16 : decode b_HM_holdKeys 16 = .ok (.invokevirtual 154, 3) := by decide +kernel
theorem d_HM_holdKeys_19 : decode b_HM_holdKeys 19 = .ok (.invokevirtual 215, 3) := by decide +kernel
theorem d_HM_holdKeys_22 : decode b_HM_holdKeys 22 = .ok (.iinc 2 1, 3) := by decide +kernel
theorem d_HM_holdKeys_25 : decode b_HM_holdKeys 25 = .ok (.goto (-23), 3) := by decide +kernel
theorem d_HM_holdKeys_28 : decode b_HM_holdKeys 28 = .ok (.return_, 1) := by decide +kernel
theorem d_HM_holdValues_0 : decode b_HM_holdValues 0 = .ok (.iconst 0, 1) := by decide +kernel
theorem d_HM_holdValues_1 : decode b_HM_holdValues 1 = .ok (.istore_n 2, 1) := by decide +kernel
theorem d_HM_holdValues_2 : decode b_HM_holdValues 2 = .ok (.iload_n 2, 1) := by decide +kernel
theorem d_HM_holdValues_3 : decode b_HM_holdValues 3 = .ok (.aload_n 1, 1) := by decide +kernel
theorem d_HM_holdValues_4 : decode b_HM_holdValues 4 = .ok (.invokevirtual 146, 3) := by decide +kernel
theorem d_HM_holdValues_7 : decode b_HM_holdValues 7 = .ok (.if_icmp .ge 21, 3) := by decide +kernel
theorem d_HM_holdValues_10 : decode b_HM_holdValues 10 = .ok (.aload_n 0, 1) := by decide +kernel
theorem d_HM_holdValues_11 : decode b_HM_holdValues 11 = .ok (.getfield 10, 3) := by decide +kernel
theorem d_HM_holdValues_14 : decode b_HM_holdValues 14 = .ok (.aload_n 1, 1) := by decide +kernel
theorem d_HM_holdValues_15 : decode b_HM_holdValues 15 = .ok (.iload_n 2, 1) := by decide +kernel
theorem d_HM_holdValues_16 : decode b_HM_holdValues 16 = .ok (.invokevirtual 137, 3) := by decide +kernel
theorem d_HM_holdValues_19 : decode b_HM_holdValues 19 = .ok (.invokevirtual 215, 3) := by decide +kernel
theorem d_HM_holdValues_22 : decode b_HM_holdValues 22 = .ok (.iinc 2 1, 3) := by decide +kernel
theorem d_HM_holdValues_25 : decode b_HM_holdValues 25 = .ok (.goto (-23), 3) := by decide +kernel
theorem d_HM_holdValues_28 : decode b_HM_holdValues 28 = .ok (.return_, 1) := by decide +kernel
theorem d_HM_dropSoftEntries_0 : decode b_HM_dropSoftEntries 0 = .ok (.aload_n 0, 1) := by decide +kernel
theorem d_HM_dropSoftEntries_1 : decode b_HM_dropSoftEntries 1 = .ok (.getfield 26, 3) := by decide +kernel
theorem d_HM_dropSoftEntries_4 : decode b_HM_dropSoftEntries 4 = .ok (.invokevirtual 218, 3) := by decide +kernel
theorem d_HM_dropSoftEntries_7 : decode b_HM_dropSoftEntries 7 = .ok (.istore_n 2, 1) := by decide +kernel
theorem d_HM_dropSoftEntries_8 : decode b_HM_dropSoftEntries 8 = .ok (.iconst 0, 1) := by decide +kernel
theorem d_HM_dropSoftEntries_9 : decode b_HM_dropSoftEntries 9 = .ok (.istore_n 3, 1) := by decide +kernel
theorem d_HM_dropSoftEntries_10 : decode b_HM_dropSoftEntries 10 = .ok (.iconst 0, 1) := by decide +kernel
theorem d_HM_dropSoftEntries_11 : decode b_HM_dropSoftEntries 11 = .ok (.istore 4, 2) := by decide +kernel
theorem d_HM_dropSoftEntries_13 : decode b_HM_dropSoftEntries 13 = .ok (.iload 4, 2) := by decide +kernel
theorem d_HM_dropSoftEntries_15 : decode b_HM_dropSoftEntries 15 = .ok (.iload_n 2, 1) := by decide +kernel
theorem d_HM_dropSoftEntries_16 : decode b_HM_dropSoftEntries 16 = .ok (.if_icmp .ge 98, 3) := by decide +kernel
theorem d_HM_dropSoftEntries_19 : decode b_HM_dropSoftEntries 19 = .ok (.aload_n 0, 1) := by decide +kernel
theorem d_HM_dropSoftEntries_20 : decode b_HM_dropSoftEntries 20 = .ok (.getfield 26, 3) := by decide +kernel
theorem d_HM_dropSoftEntries_23 : decode b_HM_dropSoftEntries 23 = .ok (.iload_n 3, 1) := by decide +kernel
theorem d_HM_dropSoftEntries_24 : decode b_HM_dropSoftEntries 24 = .ok (.invokevirtual 219, 3) := by decide +kernel
theorem d_HM_dropSoftEntries_27 : decode b_HM_dropSoftEntries 27 = .ok (.istore 5, 2) := by decide +kernel
theorem d_HM_dropSoftEntries_29 : decode b_HM_dropSoftEntries 29 = .ok (.aload_n 0, 1) := by decide +kernel
theorem d_HM_dropSoftEntries_30 : decode b_HM_dropSoftEntries 30 = .ok (.getfield 26, 3) := by decide +kernel
theorem d_HM_dropSoftEntries_33 : decode b_HM_dropSoftEntries 33 = .ok (.iload 5, 2) := by decide +kernel
theorem d_HM_dropSoftEntries_35 : decode b_HM_dropSoftEntries 35 = .ok (.invokevirtual 222, 3) := by decide +kernel
theorem d_HM_dropSoftEntries_38 : decode b_HM_dropSoftEntries 38 = .ok (.astore 6, 2) := by decide +kernel
theorem d_HM_dropSoftEntries_40 : decode b_HM_dropSoftEntries 40 = .ok (.aload 6, 2) := by decide +kernel
theorem d_HM_dropSoftEntries_42 : decode b_HM_dropSoftEntries 42 = .ok (.ifnonnull 4, 3) := by decide +kernel
theorem d_HM_dropSoftEntries_45 : decode b_HM_dropSoftEntries 45 = .ok (.return_, 1) := by decide +kernel
theorem d_HM_dropSoftEntries_46 : decode b_HM_dropSoftEntries 46 = .ok (.aload 6, 2) := by decide +kernel
theorem d_HM_dropSoftEntries_48 : decode b_HM_dropSoftEntries 48 = .ok (.getfield 223, 3) := by decide +kernel
theorem d_HM_dropSoftEntries_51 : decode b_HM_dropSoftEntries 51 = .ok (.istore_n 3, 1) := by decide +kernel
theorem d_HM_dropSoftEntries_52 : decode b_HM_dropSoftEntries 52 = .ok (.aload_n 0, 1) := by decide +kernel
theorem d_HM_dropSoftEntries_53 : decode b_HM_dropSoftEntries 53 = .ok (.getfield 10, 3) := by decide +kernel
theorem d_HM_dropSoftEntries_56 : decode b_HM_dropSoftEntries 56 = .ok (.aload 6, 2) := by decide +kernel
theorem d_HM_dropSoftEntries_58 : decode b_HM_dropSoftEntries 58 = .ok (.getfield 131, 3) := by decide +kernel
theorem d_HM_dropSoftEntries_61 : decode b_HM_dropSoftEntries 61 = .ok (.invokevirtual 225, 3) := by decide +kernel
theorem d_HM_dropSoftEntries_64 : decode b_HM_dropSoftEntries 64 = .ok (.ifCond .ne 32, 3) := by decide +kernel
theorem d_HM_dropSoftEntries_67 : decode b_HM_dropSoftEntries 67 = .ok (.aload_n 0, 1) := by decide +kernel
theorem d_HM_dropSoftEntries_68 : decode b_HM_dropSoftEntries 68 = .ok (.getfield 26, 3) := by decide +kernel
theorem d_HM_dropSoftEntries_71 : decode b_HM_dropSoftEntries 71 = .ok (.getfield 202, 3) := by decide +kernel
theorem d_HM_dropSoftEntries_74 : decode b_HM_dropSoftEntries 74 = .ok (.aload 6, 2) := by decide +kernel
theorem d_HM_dropSoftEntries_76 : decode b_HM_dropSoftEntries 76 = .ok (.getfield 223, 3) := by decide +kernel
theorem d_HM_dropSoftEntries_79 : decode b_HM_dropSoftEntries 79 = .ok (.isub, 1) := by decide +kernel
theorem d_HM_dropSoftEntries_80 : decode b_HM_dropSoftEntries 80 = .ok (.iload_n 1, 1) := by decide +kernel
theorem d_HM_dropSoftEntries_81 : decode b_HM_dropSoftEntries 81 = .ok (.if_icmp .lt 15, 3) := by decide +kernel
theorem d_HM_dropSoftEntries_84 : decode b_HM_dropSoftEntries 84 = .ok (.aload_n 0, 1) := by decide +kernel
theorem d_HM_dropSoftEntries_85 : decode b_HM_dropSoftEntries 85 = .ok (.getfield 26, 3) := by decide +kernel
theorem d_HM_dropSoftEntries_88 : decode b_HM_dropSoftEntries 88 = .ok (.iload 5, 2) := by decide +kernel
theorem d_HM_dropSoftEntries_90 : decode b_HM_dropSoftEntries 90 = .ok (.invokevirtual 228, 3) := by decide +kernel
theorem d_HM_dropSoftEntries_93 : decode b_HM_dropSoftEntries 93 = .ok (.goto 15, 3) := by decide +kernel
theorem d_HM_dropSoftEntries_96 : decode b_HM_dropSoftEntries 96 = .ok (.aload_n 0, 1) := by decide +kernel
theorem d_HM_dropSoftEntries_97 : decode b_HM_dropSoftEntries 97 = .ok (.getfield 10, 3) := by decide +kernel
theorem d_HM_dropSoftEntries_100 : decode b_HM_dropSoftEntries 100 = .ok (.aload 6, 2) := by decide +kernel
theorem d_HM_dropSoftEntries_102 : decode b_HM_dropSoftEntries 102 = .ok (.getfield 131, 3) := by decide +kernel
theorem d_HM_dropSoftEntries_105 : decode b_HM_dropSoftEntries 105 = .ok (.invokevirtual 215, 3) := by decide +kernel
theorem d_HM_dropSoftEntries_108 : decode b_HM_dropSoftEntries 108 = .ok (.iinc 4 1, 3) := by decide +kernel
theorem d_HM_dropSoftEntries_111 : decode b_HM_dropSoftEntries 111 = .ok (.goto (-98), 3) := by decide +kernel
theorem d_HM_dropSoftEntries_114 : decode b_HM_dropSoftEntries 114 = .ok (.return_, 1) := by decide +kernel
theorem d_So_usedFirstAfter_0 : decode b_So_usedFirstAfter 0 = .ok (.iconst (-1), 1) := by decide +kernel
theorem d_So_usedFirstAfter_1 : decode b_So_usedFirstAfter 1 = .ok (.istore_n 2, 1) := by decide +kernel
theorem d_So_usedFirstAfter_2 : decode b_So_usedFirstAfter 2 = .ok (.iconst 0, 1) := by decide +kernel
theorem d_So_usedFirstAfter_3 : decode b_So_usedFirstAfter 3 = .ok (.istore_n 3, 1) := by decide +kernel
theorem d_So_usedFirstAfter_4 : decode b_So_usedFirstAfter 4 = .ok (.iload_n 3, 1) := by decide +kernel
theorem d_So_usedFirstAfter_5 : decode b_So_usedFirstAfter 5 = .ok (.aload_n 0, 1) := by decide +kernel
theorem d_So_usedFirstAfter_6 : decode b_So_usedFirstAfter 6 = .ok (.getfield 28, 3) := by decide +kernel
theorem d_So_usedFirstAfter_9 : decode b_So_usedFirstAfter 9 = .ok (.invokevirtual 32, 3) := by decide +kernel
theorem d_So_usedFirstAfter_12 : decode b_So_usedFirstAfter 12 = .ok (.if_icmp .ge 57, 3) := by decide +kernel
theorem d_So_usedFirstAfter_15 : decode b_So_usedFirstAfter 15 = .ok (.aload_n 0, 1) := by decide +kernel
theorem d_So_usedFirstAfter_16 : decode b_So_usedFirstAfter 16 = .ok (.getfield 28, 3) := by decide +kernel
theorem d_So_usedFirstAfter_19 : decode b_So_usedFirstAfter 19 = .ok (.iload_n 3, 1) := by decide +kernel
theorem d_So_usedFirstAfter_20 : decode b_So_usedFirstAfter 20 = .ok (.invokevirtual 38, 3) := by decide +kernel
theorem d_So_usedFirstAfter_23 : decode b_So_usedFirstAfter 23 = .ok (.checkcast 16, 3) := by decide +kernel
theorem d_So_usedFirstAfter_26 : decode b_So_usedFirstAfter 26 = .ok (.getfield 15, 3) := by decide +kernel
theorem d_So_usedFirstAfter_29 : decode b_So_usedFirstAfter 29 = .ok (.istore 4, 2) := by decide +kernel
theorem d_So_usedFirstAfter_31 : decode b_So_usedFirstAfter 31 = .ok (.iload 4, 2) := by decide +kernel
theorem d_So_usedFirstAfter_33 : decode b_So_usedFirstAfter 33 = .ok (.iload_n 1, 1) := by decide +kernel
theorem d_So_usedFirstAfter_34 : decode b_So_usedFirstAfter 34 = .ok (.if_icmp .le 29, 3) := by decide +kernel
theorem d_So_usedFirstAfter_37 : decode b_So_usedFirstAfter 37 = .ok (.iload_n 2, 1) := by decide +kernel
theorem d_So_usedFirstAfter_38 : decode b_So_usedFirstAfter 38 = .ok (.iconst (-1), 1) := by decide +kernel
theorem d_So_usedFirstAfter_39 : decode b_So_usedFirstAfter 39 = .ok (.if_icmp .eq 22, 3) := by decide +kernel
theorem d_So_usedFirstAfter_42 : decode b_So_usedFirstAfter 42 = .ok (.iload 4, 2) := by decide +kernel
theorem d_So_usedFirstAfter_44 : decode b_So_usedFirstAfter 44 = .ok (.aload_n 0, 1) := by decide +kernel
theorem d_So_usedFirstAfter_45 : decode b_So_usedFirstAfter 45 = .ok (.getfield 28, 3) := by decide +kernel
theorem d_So_usedFirstAfter_48 : decode b_So_usedFirstAfter 48 = .ok (.iload_n 2, 1) := by decide +kernel
theorem d_So_usedFirstAfter_49 : decode b_So_usedFirstAfter 49 = .ok (.invokevirtual 38, 3) := by decide +kernel
theorem d_So_usedFirstAfter_52 : decode b_So_usedFirstAfter 52 = .ok (.checkcast 16, 3) := by decide +kernel
theorem d_So_usedFirstAfter_55 : decode b_So_usedFirstAfter 55 = .ok (.getfield 15, 3) := by decide +kernel
theorem d_So_usedFirstAfter_58 : decode b_So_usedFirstAfter 58 = .ok (.if_icmp .ge 5, 3) := by decide +kernel
theorem d_So_usedFirstAfter_61 : decode b_So_usedFirstAfter 61 = .ok (.iload_n 3, 1) := by decide +kernel
theorem d_So_usedFirstAfter_62 : decode b_So_usedFirstAfter 62 = .ok (.istore_n 2, 1) := by decide +kernel
theorem d_So_usedFirstAfter_63 : decode b_So_usedFirstAfter 63 = .ok (.iinc 3 1, 3) := by decide +kernel
theorem d_So_usedFirstAfter_66 : decode b_So_usedFirstAfter 66 = .ok (.goto (-62), 3) := by decide +kernel
theorem d_So_usedFirstAfter_69 : decode b_So_usedFirstAfter 69 = .ok (.iload_n 2, 1) := by decide +kernel
theorem d_So_usedFirstAfter_70 : decode b_So_usedFirstAfter 70 = .ok (.ireturn, 1) := by decide +kernel
theorem d_He_isHeld_0 : decode b_He_isHeld 0 = .ok (.aload_n 0, 1) := by decide +kernel
theorem d_He_isHeld_1 : decode b_He_isHeld 1 = .ok (.iload_n 1, 1) := by decide +kernel
theorem d_He_isHeld_2 : decode b_He_isHeld 2 = .ok (.invokevirtual 21, 3) := by decide +kernel
theorem d_He_isHeld_5 : decode b_He_isHeld 5 = .ok (.ifCond .eq 19, 3) := by decide +kernel
theorem d_He_isHeld_8 : decode b_He_isHeld 8 = .ok (.aload_n 0, 1) := by decide +kernel
theorem d_He_isHeld_9 : decode b_He_isHeld 9 = .ok (.getfield 11, 3) := by decide +kernel
theorem d_He_isHeld_12 : decode b_He_isHeld 12 = .ok (.iload_n 1, 1) := by decide +kernel
theorem d_He_isHeld_13 : decode b_He_isHeld 13 = .ok (.aaload, 1) := by decide +kernel
theorem d_He_isHeld_14 : decode b_He_isHeld 14 = .ok (.getfield 25, 3) := by decide +kernel
theorem d_He_isHeld_17 : decode b_He_isHeld 17 = .ok (.ifCond .eq 7, 3) := by decide +kernel
theorem d_He_isHeld_20 : decode b_He_isHeld 20 = .ok (.iconst 1, 1) := by decide +kernel
theorem d_He_isHeld_21 : decode b_He_isHeld 21 = .ok (.goto 4, 3) := by decide +kernel
theorem d_He_isHeld_24 : decode b_He_isHeld 24 = .ok (.iconst 0, 1) := by decide +kernel
theorem d_He_isHeld_25 : decode b_He_isHeld 25 = .ok (.ireturn, 1) := by decide +kernel
theorem d_HM_dropWeakEntries_0 : decode b_HM_dropWeakEntries 0 = .ok (.aload_n 0, 1) := by decide +kernel
theorem d_HM_dropWeakEntries_1 : decode b_HM_dropWeakEntries 1 = .ok (.getfield 19, 3) := by decide +kernel
theorem d_HM_dropWeakEntries_4 : decode b_HM_dropWeakEntries 4 = .ok (.invokevirtual 229, 3) := by decide +kernel
theorem d_HM_dropWeakEntries_7 : decode b_HM_dropWeakEntries 7 = .ok (.iconst 1, 1) := by decide +kernel
theorem d_HM_dropWeakEntries_8 : decode b_HM_dropWeakEntries 8 = .ok (.isub, 1) := by decide +kernel
theorem d_HM_dropWeakEntries_9 : decode b_HM_dropWeakEntries 9 = .ok (.istore_n 1, 1) := by decide +kernel
theorem d_HM_dropWeakEntries_10 : decode b_HM_dropWeakEntries 10 = .ok (.iload_n 1, 1) := by decide +kernel
theorem d_HM_dropWeakEntries_11 : decode b_HM_dropWeakEntries 11 = .ok (.ifCond .lt 35, 3) := by decide +kernel
theorem d_HM_dropWeakEntries_14 : decode b_HM_dropWeakEntries 14 = .ok (.aload_n 0, 1) := by decide +kernel
theorem d_HM_dropWeakEntries_15 : decode b_HM_dropWeakEntries 15 = .ok (.getfield 10, 3) := by decide +kernel
theorem d_HM_dropWeakEntries_18 : decode b_HM_dropWeakEntries 18 = .ok (.aload_n 0, 1) := by decide +kernel
theorem d_HM_dropWeakEntries_19 : decode b_HM_dropWeakEntries 19 = .ok (.getfield 19, 3) := by decide +kernel
theorem d_HM_dropWeakEntries_22 : decode b_HM_dropWeakEntries 22 = .ok (.iload_n 1, 1) := by decide +kernel
theorem d_HM_dropWeakEntries_23 : decode b_HM_dropWeakEntries 23 = .ok (.invokevirtual 230, 3) := by decide +kernel
theorem d_HM_dropWeakEntries_26 : decode b_HM_dropWeakEntries 26 = .ok (.invokevirtual 225, 3) := by decide +kernel
theorem d_HM_dropWeakEntries_29 : decode b_HM_dropWeakEntries 29 = .ok (.ifCond .ne 11, 3) := by decide +kernel
theorem d_HM_dropWeakEntries_32 : decode b_HM_dropWeakEntries 32 = .ok (.aload_n 0, 1) := by decide +kernel
theorem d_HM_dropWeakEntries_33 : decode b_HM_dropWeakEntries 33 = .ok (.getfield 19, 3) := by decide +kernel
theorem d_HM_dropWeakEntries_36 : decode b_HM_dropWeakEntries 36 = .ok (.iload_n 1, 1) := by decide +kernel
theorem d_HM_dropWeakEntries_37 : decode b_HM_dropWeakEntries 37 = .ok (.invokevirtual 231, 3) := by decide +kernel
theorem d_HM_dropWeakEntries_40 : decode b_HM_dropWeakEntries 40 = .ok (.iinc 1 (-1), 3) := by decide +kernel
theorem d_HM_dropWeakEntries_43 : decode b_HM_dropWeakEntries 43 = .ok (.goto (-33), 3) := by decide +kernel
theorem d_HM_dropWeakEntries_46 : decode b_HM_dropWeakEntries 46 = .ok (.return_, 1) := by decide +kernel
theorem d_He_sweep_0 : decode b_He_sweep 0 = .ok (.iconst 0, 1) := by decide +kernel
theorem d_He_sweep_1 : decode b_He_sweep 1 = .ok (.istore_n 1, 1) := by decide +kernel
theorem d_He_sweep_2 : decode b_He_sweep 2 = .ok (.iconst 0, 1) := by decide +kernel
theorem d_He_sweep_3 : decode b_He_sweep 3 = .ok (.istore_n 2, 1) := by decide +kernel
theorem d_He_sweep_4 : decode b_He_sweep 4 = .ok (.iload_n 2, 1) := by decide +kernel
theorem d_He_sweep_5 : decode b_He_sweep 5 = .ok (.bipush 32, 2) := by decide +kernel
theorem d_He_sweep_7 : decode b_He_sweep 7 = .ok (.if_icmp .ge 40, 3) := by decide +kernel
theorem d_He_sweep_10 : decode b_He_sweep 10 = .ok (.aload_n 0, 1) := by decide +kernel
theorem d_He_sweep_11 : decode b_He_sweep 11 = .ok (.getfield 11, 3) := by decide +kernel
theorem d_He_sweep_14 : decode b_He_sweep 14 = .ok (.iload_n 2, 1) := by decide +kernel
theorem d_He_sweep_15 : decode b_He_sweep 15 = .ok (.aaload, 1) := by decide +kernel
theorem d_He_sweep_16 : decode b_He_sweep 16 = .ok (.ifnull 25, 3) := by decide +kernel
theorem d_He_sweep_19 : decode b_He_sweep 19 = .ok (.aload_n 0, 1) := by decide +kernel
theorem d_He_sweep_20 : decode b_He_sweep 20 = .ok (.getfield 11, 3) := by decide +kernel
theorem d_He_sweep_23 : decode b_He_sweep 23 = .ok (.iload_n 2, 1) := by decide +kernel
theorem d_He_sweep_24 : decode b_He_sweep 24 = .ok (.aaload, 1) := by decide +kernel
theorem d_He_sweep_25 : decode b_He_sweep 25 = .ok (.getfield 25, 3) := by decide +kernel
theorem d_He_sweep_28 : decode b_He_sweep 28 = .ok (.ifCond .ne 13, 3) := by decide +kernel
theorem d_He_sweep_31 : decode b_He_sweep 31 = .ok (.aload_n 0, 1) := by decide +kernel
theorem d_He_sweep_32 : decode b_He_sweep 32 = .ok (.getfield 11, 3) := by decide +kernel
theorem d_He_sweep_35 : decode b_He_sweep 35 = .ok (.iload_n 2, 1) := by decide +kernel
theorem d_He_sweep_36 : decode b_He_sweep 36 = .ok (.aconst_null, 1) := by decide +kernel
theorem d_He_sweep_37 : decode b_He_sweep 37 = .ok (.aastore, 1) := by decide +kernel
theorem d_He_sweep_38 : decode b_He_sweep 38 = .ok (.iinc 1 1, 3) := by decide +kernel
theorem d_He_sweep_41 : decode b_He_sweep 41 = .ok (.iinc 2 1, 3) := by decide +kernel
theorem d_He_sweep_44 : decode b_He_sweep 44 = .ok (.goto (-40), 3) := by decide +kernel
theorem d_He_sweep_47 : decode b_He_sweep 47 = .ok (.aload_n 0, 1) := by decide +kernel
theorem d_He_sweep_48 : decode b_He_sweep 48 = .ok (.dup, 1) := by decide +kernel
theorem d_He_sweep_49 : decode b_He_sweep 49 = .ok (.getfield 49, 3) := by decide +kernel
theorem d_He_sweep_52 : decode b_He_sweep 52 = .ok (.iload_n 1, 1) := by decide +kernel
theorem d_He_sweep_53 : decode b_He_sweep 53 = .ok (.iadd, 1) := by decide +kernel
theorem d_He_sweep_54 : decode b_He_sweep 54 = .ok (.putfield 49, 3) := by decide +kernel
theorem d_He_sweep_57 : decode b_He_sweep 57 = .ok (.iload_n 1, 1) := by decide +kernel
theorem d_He_sweep_58 : decode b_He_sweep 58 = .ok (.ireturn, 1) := by decide +kernel
