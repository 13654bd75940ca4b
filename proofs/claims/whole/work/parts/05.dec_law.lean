/-! What each instruction decodes to (wip/tools/names.py). -/
theorem d_Lw_make_0 : decode b_Lw_make 0 = .ok (.aload_n 2, 1) := by decide +kernel
theorem d_Lw_make_1 : decode b_Lw_make 1 = .ok (.iconst 0, 1) := by decide +kernel
theorem d_Lw_make_2 : decode b_Lw_make 2 = .ok (.aload_n 0, 1) := by decide +kernel
theorem d_Lw_make_3 : decode b_Lw_make 3 = .ok (.iload_n 1, 1) := by decide +kernel
theorem d_Lw_make_4 : decode b_Lw_make 4 = .ok (.invokevirtual 7, 3) := by decide +kernel
theorem d_Lw_make_7 : decode b_Lw_make 7 = .ok (.i2l, 1) := by decide +kernel
theorem d_Lw_make_8 : decode b_Lw_make 8 = .ok (.lastore, 1) := by decide +kernel
theorem d_Lw_make_9 : decode b_Lw_make 9 = .ok (.goto 9, 3) := by decide +kernel
theorem d_Lw_make_12 : decode b_Lw_make 12 = .ok (.astore_n 3, 1) := by decide +kernel
theorem d_Lw_make_13 : decode b_Lw_make 13 = .ok (.iconst 1, 1) := by decide +kernel
theorem d_Lw_make_14 : decode b_Lw_make 14 = .ok (.ireturn, 1) := by decide +kernel
theorem d_Lw_make_15 : decode b_Lw_make 15 = .ok (.astore_n 3, 1) := by decide +kernel
theorem d_Lw_make_16 : decode b_Lw_make 16 = .ok (.iconst 2, 1) := by decide +kernel
theorem d_Lw_make_17 : decode b_Lw_make 17 = .ok (.ireturn, 1) := by decide +kernel
theorem d_Lw_make_18 : decode b_Lw_make 18 = .ok (.iconst 0, 1) := by decide +kernel
theorem d_Lw_make_19 : decode b_Lw_make 19 = .ok (.ireturn, 1) := by decide +kernel
theorem d_Lw_refer_0 : decode b_Lw_refer 0 = .ok (.aload 4, 2) := by decide +kernel
theorem d_Lw_refer_2 : decode b_Lw_refer 2 = .ok (.iconst 0, 1) := by decide +kernel
theorem d_Lw_refer_3 : decode b_Lw_refer 3 = .ok (.aload_n 0, 1) := by decide +kernel
theorem d_Lw_refer_4 : decode b_Lw_refer 4 = .ok (.iload_n 1, 1) := by decide +kernel
theorem d_Lw_refer_5 : decode b_Lw_refer 5 = .ok (.iload_n 2, 1) := by decide +kernel
theorem d_Lw_refer_6 : decode b_Lw_refer 6 = .ok (.iload_n 3, 1) := by decide +kernel
theorem d_Lw_refer_7 : decode b_Lw_refer 7 = .ok (.invokevirtual 17, 3) := by decide +kernel
theorem d_Lw_refer_10 : decode b_Lw_refer 10 = .ok (.i2l, 1) := by decide +kernel
theorem d_Lw_refer_11 : decode b_Lw_refer 11 = .ok (.lastore, 1) := by decide +kernel
theorem d_Lw_refer_12 : decode b_Lw_refer 12 = .ok (.goto 7, 3) := by decide +kernel
theorem d_Lw_refer_15 : decode b_Lw_refer 15 = .ok (.astore 5, 2) := by decide +kernel
theorem d_Lw_refer_17 : decode b_Lw_refer 17 = .ok (.iconst 1, 1) := by decide +kernel
theorem d_Lw_refer_18 : decode b_Lw_refer 18 = .ok (.ireturn, 1) := by decide +kernel
theorem d_Lw_refer_19 : decode b_Lw_refer 19 = .ok (.iconst 0, 1) := by decide +kernel
theorem d_Lw_refer_20 : decode b_Lw_refer 20 = .ok (.ireturn, 1) := by decide +kernel
theorem d_Lw_root_0 : decode b_Lw_root 0 = .ok (.aload_n 3, 1) := by decide +kernel
theorem d_Lw_root_1 : decode b_Lw_root 1 = .ok (.iconst 0, 1) := by decide +kernel
theorem d_Lw_root_2 : decode b_Lw_root 2 = .ok (.aload_n 0, 1) := by decide +kernel
theorem d_Lw_root_3 : decode b_Lw_root 3 = .ok (.iload_n 1, 1) := by decide +kernel
theorem d_Lw_root_4 : decode b_Lw_root 4 = .ok (.iload_n 2, 1) := by decide +kernel
theorem d_Lw_root_5 : decode b_Lw_root 5 = .ok (.invokevirtual 21, 3) := by decide +kernel
theorem d_Lw_root_8 : decode b_Lw_root 8 = .ok (.ifCond .eq 7, 3) := by decide +kernel
theorem d_Lw_root_11 : decode b_Lw_root 11 = .ok (.lconst 1, 1) := by decide +kernel
theorem d_Lw_root_12 : decode b_Lw_root 12 = .ok (.goto 4, 3) := by decide +kernel
theorem d_Lw_root_15 : decode b_Lw_root 15 = .ok (.lconst 0, 1) := by decide +kernel
theorem d_Lw_root_16 : decode b_Lw_root 16 = .ok (.lastore, 1) := by decide +kernel
theorem d_Lw_root_17 : decode b_Lw_root 17 = .ok (.goto 7, 3) := by decide +kernel
theorem d_Lw_root_20 : decode b_Lw_root 20 = .ok (.astore 4, 2) := by decide +kernel
theorem d_Lw_root_22 : decode b_Lw_root 22 = .ok (.iconst 1, 1) := by decide +kernel
theorem d_Lw_root_23 : decode b_Lw_root 23 = .ok (.ireturn, 1) := by decide +kernel
theorem d_Lw_root_24 : decode b_Lw_root 24 = .ok (.iconst 0, 1) := by decide +kernel
theorem d_Lw_root_25 : decode b_Lw_root 25 = .ok (.ireturn, 1) := by decide +kernel
theorem d_Lw_put_0 : decode b_Lw_put 0 = .ok (.aload 4, 2) := by decide +kernel
theorem d_Lw_put_2 : decode b_Lw_put 2 = .ok (.iconst 0, 1) := by decide +kernel
theorem d_Lw_put_3 : decode b_Lw_put 3 = .ok (.aload_n 0, 1) := by decide +kernel
theorem d_Lw_put_4 : decode b_Lw_put 4 = .ok (.iload_n 1, 1) := by decide +kernel
theorem d_Lw_put_5 : decode b_Lw_put 5 = .ok (.iload_n 2, 1) := by decide +kernel
theorem d_Lw_put_6 : decode b_Lw_put 6 = .ok (.iload_n 3, 1) := by decide +kernel
theorem d_Lw_put_7 : decode b_Lw_put 7 = .ok (.invokevirtual 25, 3) := by decide +kernel
theorem d_Lw_put_10 : decode b_Lw_put 10 = .ok (.i2l, 1) := by decide +kernel
theorem d_Lw_put_11 : decode b_Lw_put 11 = .ok (.lastore, 1) := by decide +kernel
theorem d_Lw_put_12 : decode b_Lw_put 12 = .ok (.goto 11, 3) := by decide +kernel
theorem d_Lw_put_15 : decode b_Lw_put 15 = .ok (.astore 5, 2) := by decide +kernel
theorem d_Lw_put_17 : decode b_Lw_put 17 = .ok (.iconst 1, 1) := by decide +kernel
theorem d_Lw_put_18 : decode b_Lw_put 18 = .ok (.ireturn, 1) := by decide +kernel
theorem d_Lw_put_19 : decode b_Lw_put 19 = .ok (.astore 5, 2) := by decide +kernel
theorem d_Lw_put_21 : decode b_Lw_put 21 = .ok (.iconst 2, 1) := by decide +kernel
theorem d_Lw_put_22 : decode b_Lw_put 22 = .ok (.ireturn, 1) := by decide +kernel
theorem d_Lw_put_23 : decode b_Lw_put 23 = .ok (.iconst 0, 1) := by decide +kernel
theorem d_Lw_put_24 : decode b_Lw_put 24 = .ok (.ireturn, 1) := by decide +kernel
theorem d_Lw_get_0 : decode b_Lw_get 0 = .ok (.aload_n 3, 1) := by decide +kernel
theorem d_Lw_get_1 : decode b_Lw_get 1 = .ok (.iconst 0, 1) := by decide +kernel
theorem d_Lw_get_2 : decode b_Lw_get 2 = .ok (.aload_n 0, 1) := by decide +kernel
theorem d_Lw_get_3 : decode b_Lw_get 3 = .ok (.iload_n 1, 1) := by decide +kernel
theorem d_Lw_get_4 : decode b_Lw_get 4 = .ok (.iload_n 2, 1) := by decide +kernel
theorem d_Lw_get_5 : decode b_Lw_get 5 = .ok (.invokevirtual 28, 3) := by decide +kernel
theorem d_Lw_get_8 : decode b_Lw_get 8 = .ok (.i2l, 1) := by decide +kernel
theorem d_Lw_get_9 : decode b_Lw_get 9 = .ok (.lastore, 1) := by decide +kernel
theorem d_Lw_get_10 : decode b_Lw_get 10 = .ok (.goto 7, 3) := by decide +kernel
theorem d_Lw_get_13 : decode b_Lw_get 13 = .ok (.astore 4, 2) := by decide +kernel
theorem d_Lw_get_15 : decode b_Lw_get 15 = .ok (.iconst 1, 1) := by decide +kernel
theorem d_Lw_get_16 : decode b_Lw_get 16 = .ok (.ireturn, 1) := by decide +kernel
theorem d_Lw_get_17 : decode b_Lw_get 17 = .ok (.iconst 0, 1) := by decide +kernel
theorem d_Lw_get_18 : decode b_Lw_get 18 = .ok (.ireturn, 1) := by decide +kernel
theorem d_Lw_remove_0 : decode b_Lw_remove 0 = .ok (.aload_n 3, 1) := by decide +kernel
theorem d_Lw_remove_1 : decode b_Lw_remove 1 = .ok (.iconst 0, 1) := by decide +kernel
theorem d_Lw_remove_2 : decode b_Lw_remove 2 = .ok (.aload_n 0, 1) := by decide +kernel
theorem d_Lw_remove_3 : decode b_Lw_remove 3 = .ok (.iload_n 1, 1) := by decide +kernel
theorem d_Lw_remove_4 : decode b_Lw_remove 4 = .ok (.iload_n 2, 1) := by decide +kernel
theorem d_Lw_remove_5 : decode b_Lw_remove 5 = .ok (.invokevirtual 32, 3) := by decide +kernel
theorem d_Lw_remove_8 : decode b_Lw_remove 8 = .ok (.i2l, 1) := by decide +kernel
theorem d_Lw_remove_9 : decode b_Lw_remove 9 = .ok (.lastore, 1) := by decide +kernel
theorem d_Lw_remove_10 : decode b_Lw_remove 10 = .ok (.goto 7, 3) := by decide +kernel
theorem d_Lw_remove_13 : decode b_Lw_remove 13 = .ok (.astore 4, 2) := by decide +kernel
theorem d_Lw_remove_15 : decode b_Lw_remove 15 = .ok (.iconst 1, 1) := by decide +kernel
theorem d_Lw_remove_16 : decode b_Lw_remove 16 = .ok (.ireturn, 1) := by decide +kernel
theorem d_Lw_remove_17 : decode b_Lw_remove 17 = .ok (.iconst 0, 1) := by decide +kernel
theorem d_Lw_remove_18 : decode b_Lw_remove 18 = .ok (.ireturn, 1) := by decide +kernel
theorem d_Lw_entry_0 : decode b_Lw_entry 0 = .ok (.aload 4, 2) := by decide +kernel
theorem d_Lw_entry_2 : decode b_Lw_entry 2 = .ok (.iconst 0, 1) := by decide +kernel
theorem d_Lw_entry_3 : decode b_Lw_entry 3 = .ok (.aload_n 0, 1) := by decide +kernel
theorem d_Lw_entry_4 : decode b_Lw_entry 4 = .ok (.iload_n 1, 1) := by decide +kernel
theorem d_Lw_entry_5 : decode b_Lw_entry 5 = .ok (.iload_n 2, 1) := by decide +kernel
theorem d_Lw_entry_6 : decode b_Lw_entry 6 = .ok (.iload_n 3, 1) := by decide +kernel
theorem d_Lw_entry_7 : decode b_Lw_entry 7 = .ok (.invokevirtual 35, 3) := by decide +kernel
theorem d_Lw_entry_10 : decode b_Lw_entry 10 = .ok (.i2l, 1) := by decide +kernel
theorem d_Lw_entry_11 : decode b_Lw_entry 11 = .ok (.lastore, 1) := by decide +kernel
theorem d_Lw_entry_12 : decode b_Lw_entry 12 = .ok (.goto 7, 3) := by decide +kernel
theorem d_Lw_entry_15 : decode b_Lw_entry 15 = .ok (.astore 5, 2) := by decide +kernel
theorem d_Lw_entry_17 : decode b_Lw_entry 17 = .ok (.iconst 1, 1) := by decide +kernel
theorem d_Lw_entry_18 : decode b_Lw_entry 18 = .ok (.ireturn, 1) := by decide +kernel
theorem d_Lw_entry_19 : decode b_Lw_entry 19 = .ok (.iconst 0, 1) := by decide +kernel
theorem d_Lw_entry_20 : decode b_Lw_entry 20 = .ok (.ireturn, 1) := by decide +kernel
theorem d_Lw_walk_0 : decode b_Lw_walk 0 = .ok (.aload_n 0, 1) := by decide +kernel
theorem d_Lw_walk_1 : decode b_Lw_walk 1 = .ok (.iload_n 1, 1) := by decide +kernel
theorem d_Lw_walk_2 : decode b_Lw_walk 2 = .ok (.invokevirtual 40, 3) := by decide +kernel
theorem d_Lw_walk_5 : decode b_Lw_walk 5 = .ok (.goto 6, 3) := by decide +kernel
theorem d_Lw_walk_8 : decode b_Lw_walk 8 = .ok (.astore_n 2, 1) := by decide +kernel
theorem d_Lw_walk_9 : decode b_Lw_walk 9 = .ok (.iconst 1, 1) := by decide +kernel
theorem d_Lw_walk_10 : decode b_Lw_walk 10 = .ok (.ireturn, 1) := by decide +kernel
theorem d_Lw_walk_11 : decode b_Lw_walk 11 = .ok (.iconst 0, 1) := by decide +kernel
theorem d_Lw_walk_12 : decode b_Lw_walk 12 = .ok (.ireturn, 1) := by decide +kernel
theorem d_Lw_step_0 : decode b_Lw_step 0 = .ok (.aload_n 2, 1) := by decide +kernel
theorem d_Lw_step_1 : decode b_Lw_step 1 = .ok (.iconst 0, 1) := by decide +kernel
theorem d_Lw_step_2 : decode b_Lw_step 2 = .ok (.aload_n 0, 1) := by decide +kernel
theorem d_Lw_step_3 : decode b_Lw_step 3 = .ok (.iload_n 1, 1) := by decide +kernel
theorem d_Lw_step_4 : decode b_Lw_step 4 = .ok (.invokevirtual 44, 3) := by decide +kernel
theorem d_Lw_step_7 : decode b_Lw_step 7 = .ok (.i2l, 1) := by decide +kernel
theorem d_Lw_step_8 : decode b_Lw_step 8 = .ok (.lastore, 1) := by decide +kernel
theorem d_Lw_step_9 : decode b_Lw_step 9 = .ok (.goto 12, 3) := by decide +kernel
theorem d_Lw_step_12 : decode b_Lw_step 12 = .ok (.astore_n 3, 1) := by decide +kernel
theorem d_Lw_step_13 : decode b_Lw_step 13 = .ok (.iconst 1, 1) := by decide +kernel
theorem d_Lw_step_14 : decode b_Lw_step 14 = .ok (.ireturn, 1) := by decide +kernel
theorem d_Lw_step_15 : decode b_Lw_step 15 = .ok (.astore_n 3, 1) := by decide +kernel
theorem d_Lw_step_16 : decode b_Lw_step 16 = .ok (.iconst 2, 1) := by decide +kernel
theorem d_Lw_step_17 : decode b_Lw_step 17 = .ok (.ireturn, 1) := by decide +kernel
theorem d_Lw_step_18 : decode b_Lw_step 18 = .ok (.astore_n 3, 1) := by decide +kernel
theorem d_Lw_step_19 : decode b_Lw_step 19 = .ok (.iconst 3, 1) := by decide +kernel
theorem d_Lw_step_20 : decode b_Lw_step 20 = .ok (.ireturn, 1) := by decide +kernel
theorem d_Lw_step_21 : decode b_Lw_step 21 = .ok (.iconst 0, 1) := by decide +kernel
theorem d_Lw_step_22 : decode b_Lw_step 22 = .ok (.ireturn, 1) := by decide +kernel
theorem d_Lw_collect_0 : decode b_Lw_collect 0 = .ok (.aload_n 2, 1) := by decide +kernel
theorem d_Lw_collect_1 : decode b_Lw_collect 1 = .ok (.iconst 0, 1) := by decide +kernel
theorem d_Lw_collect_2 : decode b_Lw_collect 2 = .ok (.aload_n 0, 1) := by decide +kernel
theorem d_Lw_collect_3 : decode b_Lw_collect 3 = .ok (.iload_n 1, 1) := by decide +kernel
theorem d_Lw_collect_4 : decode b_Lw_collect 4 = .ok (.invokevirtual 47, 3) := by decide +kernel
theorem d_Lw_collect_7 : decode b_Lw_collect 7 = .ok (.i2l, 1) := by decide +kernel
theorem d_Lw_collect_8 : decode b_Lw_collect 8 = .ok (.lastore, 1) := by decide +kernel
theorem d_Lw_collect_9 : decode b_Lw_collect 9 = .ok (.goto 6, 3) := by decide +kernel
theorem d_Lw_collect_12 : decode b_Lw_collect 12 = .ok (.astore_n 3, 1) := by decide +kernel
theorem d_Lw_collect_13 : decode b_Lw_collect 13 = .ok (.iconst 1, 1) := by decide +kernel
theorem d_Lw_collect_14 : decode b_Lw_collect 14 = .ok (.ireturn, 1) := by decide +kernel
theorem d_Lw_collect_15 : decode b_Lw_collect 15 = .ok (.iconst 0, 1) := by decide +kernel
theorem d_Lw_collect_16 : decode b_Lw_collect 16 = .ok (.ireturn, 1) := by decide +kernel
