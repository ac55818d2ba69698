theorem dX0_init_0 : decode cX0_init 0 = .ok (.aload_n 0, 1) := by decide +kernel
theorem dX0_init_1 : decode cX0_init 1 = .ok (.invokespecial 1, 3) := by decide +kernel
theorem dX0_init_4 : decode cX0_init 4 = .ok (.aload_n 0, 1) := by decide +kernel
theorem dX0_init_5 : decode cX0_init 5 = .ok (.iconst 4, 1) := by decide +kernel
theorem dX0_init_6 : decode cX0_init 6 = .ok (.anewarray 9, 3) := by decide +kernel
theorem dX0_init_9 : decode cX0_init 9 = .ok (.putfield 11, 3) := by decide +kernel
theorem dX0_init_12 : decode cX0_init 12 = .ok (.aload_n 0, 1) := by decide +kernel
theorem dX0_init_13 : decode cX0_init 13 = .ok (.iload_n 1, 1) := by decide +kernel
theorem dX0_init_14 : decode cX0_init 14 = .ok (.putfield 15, 3) := by decide +kernel
theorem dX0_init_17 : decode cX0_init 17 = .ok (.iconst 0, 1) := by decide +kernel
theorem dX0_init_18 : decode cX0_init 18 = .ok (.istore_n 2, 1) := by decide +kernel
theorem dX0_init_19 : decode cX0_init 19 = .ok (.iload_n 2, 1) := by decide +kernel
theorem dX0_init_20 : decode cX0_init 20 = .ok (.iconst 4, 1) := by decide +kernel
theorem dX0_init_21 : decode cX0_init 21 = .ok (.if_icmp .ge 22, 3) := by decide +kernel
theorem dX0_init_24 : decode cX0_init 24 = .ok (.aload_n 0, 1) := by decide +kernel
theorem dX0_init_25 : decode cX0_init 25 = .ok (.getfield 11, 3) := by decide +kernel
theorem dX0_init_28 : decode cX0_init 28 = .ok (.iload_n 2, 1) := by decide +kernel
theorem dX0_init_29 : decode cX0_init 29 = .ok (.new 9, 3) := by decide +kernel
theorem dX0_init_32 : decode cX0_init 32 = .ok (.dup, 1) := by decide +kernel
theorem dX0_init_33 : decode cX0_init 33 = .ok (.invokespecial 19, 3) := by decide +kernel
theorem dX0_init_36 : decode cX0_init 36 = .ok (.aastore, 1) := by decide +kernel
theorem dX0_init_37 : decode cX0_init 37 = .ok (.iinc 2 1, 3) := by decide +kernel
theorem dX0_init_40 : decode cX0_init 40 = .ok (.goto (-21), 3) := by decide +kernel
theorem dX0_init_43 : decode cX0_init 43 = .ok (.return_, 1) := by decide +kernel
theorem dX0_serves_0 : decode cX0_serves 0 = .ok (.iconst 0, 1) := by decide +kernel
theorem dX0_serves_1 : decode cX0_serves 1 = .ok (.istore_n 3, 1) := by decide +kernel
theorem dX0_serves_2 : decode cX0_serves 2 = .ok (.iload_n 3, 1) := by decide +kernel
theorem dX0_serves_3 : decode cX0_serves 3 = .ok (.aload_n 0, 1) := by decide +kernel
theorem dX0_serves_4 : decode cX0_serves 4 = .ok (.getfield 20, 3) := by decide +kernel
theorem dX0_serves_7 : decode cX0_serves 7 = .ok (.if_icmp .ge 49, 3) := by decide +kernel
theorem dX0_serves_10 : decode cX0_serves 10 = .ok (.iload_n 3, 1) := by decide +kernel
theorem dX0_serves_11 : decode cX0_serves 11 = .ok (.iconst 4, 1) := by decide +kernel
theorem dX0_serves_12 : decode cX0_serves 12 = .ok (.if_icmp .ge 44, 3) := by decide +kernel
theorem dX0_serves_15 : decode cX0_serves 15 = .ok (.aload_n 0, 1) := by decide +kernel
theorem dX0_serves_16 : decode cX0_serves 16 = .ok (.getfield 11, 3) := by decide +kernel
theorem dX0_serves_19 : decode cX0_serves 19 = .ok (.iload_n 3, 1) := by decide +kernel
theorem dX0_serves_20 : decode cX0_serves 20 = .ok (.aaload, 1) := by decide +kernel
theorem dX0_serves_21 : decode cX0_serves 21 = .ok (.getfield 23, 3) := by decide +kernel
theorem dX0_serves_24 : decode cX0_serves 24 = .ok (.aload_n 1, 1) := by decide +kernel
theorem dX0_serves_25 : decode cX0_serves 25 = .ok (.if_acmp .ne 25, 3) := by decide +kernel
theorem dX0_serves_28 : decode cX0_serves 28 = .ok (.iload_n 2, 1) := by decide +kernel
theorem dX0_serves_29 : decode cX0_serves 29 = .ok (.ifCond .eq 15, 3) := by decide +kernel
theorem dX0_serves_32 : decode cX0_serves 32 = .ok (.aload_n 0, 1) := by decide +kernel
theorem dX0_serves_33 : decode cX0_serves 33 = .ok (.getfield 11, 3) := by decide +kernel
theorem dX0_serves_36 : decode cX0_serves 36 = .ok (.iload_n 3, 1) := by decide +kernel
theorem dX0_serves_37 : decode cX0_serves 37 = .ok (.aaload, 1) := by decide +kernel
theorem dX0_serves_38 : decode cX0_serves 38 = .ok (.getfield 27, 3) := by decide +kernel
theorem dX0_serves_41 : decode cX0_serves 41 = .ok (.ifCond .eq 7, 3) := by decide +kernel
theorem dX0_serves_44 : decode cX0_serves 44 = .ok (.iconst 1, 1) := by decide +kernel
theorem dX0_serves_45 : decode cX0_serves 45 = .ok (.goto 4, 3) := by decide +kernel
theorem dX0_serves_48 : decode cX0_serves 48 = .ok (.iconst 0, 1) := by decide +kernel
theorem dX0_serves_49 : decode cX0_serves 49 = .ok (.ireturn, 1) := by decide +kernel
theorem dX0_serves_50 : decode cX0_serves 50 = .ok (.iinc 3 1, 3) := by decide +kernel
theorem dX0_serves_53 : decode cX0_serves 53 = .ok (.goto (-51), 3) := by decide +kernel
theorem dX0_serves_56 : decode cX0_serves 56 = .ok (.iconst 0, 1) := by decide +kernel
theorem dX0_serves_57 : decode cX0_serves 57 = .ok (.ireturn, 1) := by decide +kernel
theorem dX0_holds_0 : decode cX0_holds 0 = .ok (.iconst 0, 1) := by decide +kernel
theorem dX0_holds_1 : decode cX0_holds 1 = .ok (.istore_n 2, 1) := by decide +kernel
theorem dX0_holds_2 : decode cX0_holds 2 = .ok (.iload_n 2, 1) := by decide +kernel
theorem dX0_holds_3 : decode cX0_holds 3 = .ok (.aload_n 0, 1) := by decide +kernel
theorem dX0_holds_4 : decode cX0_holds 4 = .ok (.getfield 20, 3) := by decide +kernel
theorem dX0_holds_7 : decode cX0_holds 7 = .ok (.if_icmp .ge 29, 3) := by decide +kernel
theorem dX0_holds_10 : decode cX0_holds 10 = .ok (.iload_n 2, 1) := by decide +kernel
theorem dX0_holds_11 : decode cX0_holds 11 = .ok (.iconst 4, 1) := by decide +kernel
theorem dX0_holds_12 : decode cX0_holds 12 = .ok (.if_icmp .ge 24, 3) := by decide +kernel
theorem dX0_holds_15 : decode cX0_holds 15 = .ok (.aload_n 0, 1) := by decide +kernel
theorem dX0_holds_16 : decode cX0_holds 16 = .ok (.getfield 11, 3) := by decide +kernel
theorem dX0_holds_19 : decode cX0_holds 19 = .ok (.iload_n 2, 1) := by decide +kernel
theorem dX0_holds_20 : decode cX0_holds 20 = .ok (.aaload, 1) := by decide +kernel
theorem dX0_holds_21 : decode cX0_holds 21 = .ok (.getfield 31, 3) := by decide +kernel
theorem dX0_holds_24 : decode cX0_holds 24 = .ok (.iload_n 1, 1) := by decide +kernel
theorem dX0_holds_25 : decode cX0_holds 25 = .ok (.if_icmp .ne 5, 3) := by decide +kernel
theorem dX0_holds_28 : decode cX0_holds 28 = .ok (.iconst 1, 1) := by decide +kernel
theorem dX0_holds_29 : decode cX0_holds 29 = .ok (.ireturn, 1) := by decide +kernel
theorem dX0_holds_30 : decode cX0_holds 30 = .ok (.iinc 2 1, 3) := by decide +kernel
theorem dX0_holds_33 : decode cX0_holds 33 = .ok (.goto (-31), 3) := by decide +kernel
theorem dX0_holds_36 : decode cX0_holds 36 = .ok (.iconst 0, 1) := by decide +kernel
theorem dX0_holds_37 : decode cX0_holds 37 = .ok (.ireturn, 1) := by decide +kernel
theorem dX0_messages_0 : decode cX0_messages 0 = .ok (.iconst 0, 1) := by decide +kernel
theorem dX0_messages_1 : decode cX0_messages 1 = .ok (.istore_n 1, 1) := by decide +kernel
theorem dX0_messages_2 : decode cX0_messages 2 = .ok (.iconst 0, 1) := by decide +kernel
theorem dX0_messages_3 : decode cX0_messages 3 = .ok (.istore_n 2, 1) := by decide +kernel
theorem dX0_messages_4 : decode cX0_messages 4 = .ok (.iload_n 2, 1) := by decide +kernel
theorem dX0_messages_5 : decode cX0_messages 5 = .ok (.aload_n 0, 1) := by decide +kernel
theorem dX0_messages_6 : decode cX0_messages 6 = .ok (.getfield 20, 3) := by decide +kernel
theorem dX0_messages_9 : decode cX0_messages 9 = .ok (.if_icmp .ge 38, 3) := by decide +kernel
theorem dX0_messages_12 : decode cX0_messages 12 = .ok (.iload_n 2, 1) := by decide +kernel
theorem dX0_messages_13 : decode cX0_messages 13 = .ok (.iconst 4, 1) := by decide +kernel
theorem dX0_messages_14 : decode cX0_messages 14 = .ok (.if_icmp .ge 33, 3) := by decide +kernel
theorem dX0_messages_17 : decode cX0_messages 17 = .ok (.iload_n 1, 1) := by decide +kernel
theorem dX0_messages_18 : decode cX0_messages 18 = .ok (.aload_n 0, 1) := by decide +kernel
theorem dX0_messages_19 : decode cX0_messages 19 = .ok (.aload_n 0, 1) := by decide +kernel
theorem dX0_messages_20 : decode cX0_messages 20 = .ok (.getfield 11, 3) := by decide +kernel
theorem dX0_messages_23 : decode cX0_messages 23 = .ok (.iload_n 2, 1) := by decide +kernel
theorem dX0_messages_24 : decode cX0_messages 24 = .ok (.aaload, 1) := by decide +kernel
theorem dX0_messages_25 : decode cX0_messages 25 = .ok (.getfield 23, 3) := by decide +kernel
theorem dX0_messages_28 : decode cX0_messages 28 = .ok (.invokevirtual 34, 3) := by decide +kernel
theorem dX0_messages_31 : decode cX0_messages 31 = .ok (.ifCond .eq 7, 3) := by decide +kernel
theorem dX0_messages_34 : decode cX0_messages 34 = .ok (.iconst 1, 1) := by decide +kernel
theorem dX0_messages_35 : decode cX0_messages 35 = .ok (.goto 4, 3) := by decide +kernel
theorem dX0_messages_38 : decode cX0_messages 38 = .ok (.iconst 0, 1) := by decide +kernel
theorem dX0_messages_39 : decode cX0_messages 39 = .ok (.iadd, 1) := by decide +kernel
theorem dX0_messages_40 : decode cX0_messages 40 = .ok (.istore_n 1, 1) := by decide +kernel
theorem dX0_messages_41 : decode cX0_messages 41 = .ok (.iinc 2 1, 3) := by decide +kernel
theorem dX0_messages_44 : decode cX0_messages 44 = .ok (.goto (-40), 3) := by decide +kernel
theorem dX0_messages_47 : decode cX0_messages 47 = .ok (.iload_n 1, 1) := by decide +kernel
theorem dX0_messages_48 : decode cX0_messages 48 = .ok (.ireturn, 1) := by decide +kernel
theorem dX0_obey_0 : decode cX0_obey 0 = .ok (.iconst 0, 1) := by decide +kernel
theorem dX0_obey_1 : decode cX0_obey 1 = .ok (.istore_n 1, 1) := by decide +kernel
theorem dX0_obey_2 : decode cX0_obey 2 = .ok (.aload_n 0, 1) := by decide +kernel
theorem dX0_obey_3 : decode cX0_obey 3 = .ok (.getfield 20, 3) := by decide +kernel
theorem dX0_obey_6 : decode cX0_obey 6 = .ok (.iconst 1, 1) := by decide +kernel
theorem dX0_obey_7 : decode cX0_obey 7 = .ok (.isub, 1) := by decide +kernel
theorem dX0_obey_8 : decode cX0_obey 8 = .ok (.istore_n 2, 1) := by decide +kernel
theorem dX0_obey_9 : decode cX0_obey 9 = .ok (.iload_n 2, 1) := by decide +kernel
theorem dX0_obey_10 : decode cX0_obey 10 = .ok (.ifCond .lt 38, 3) := by decide +kernel
theorem dX0_obey_13 : decode cX0_obey 13 = .ok (.iload_n 2, 1) := by decide +kernel
theorem dX0_obey_14 : decode cX0_obey 14 = .ok (.iconst 4, 1) := by decide +kernel
theorem dX0_obey_15 : decode cX0_obey 15 = .ok (.if_icmp .ge 33, 3) := by decide +kernel
theorem dX0_obey_18 : decode cX0_obey 18 = .ok (.aload_n 0, 1) := by decide +kernel
theorem dX0_obey_19 : decode cX0_obey 19 = .ok (.aload_n 0, 1) := by decide +kernel
theorem dX0_obey_20 : decode cX0_obey 20 = .ok (.getfield 11, 3) := by decide +kernel
theorem dX0_obey_23 : decode cX0_obey 23 = .ok (.iload_n 2, 1) := by decide +kernel
theorem dX0_obey_24 : decode cX0_obey 24 = .ok (.aaload, 1) := by decide +kernel
theorem dX0_obey_25 : decode cX0_obey 25 = .ok (.getfield 23, 3) := by decide +kernel
theorem dX0_obey_28 : decode cX0_obey 28 = .ok (.invokevirtual 34, 3) := by decide +kernel
theorem dX0_obey_31 : decode cX0_obey 31 = .ok (.ifCond .eq 11, 3) := by decide +kernel
theorem dX0_obey_34 : decode cX0_obey 34 = .ok (.iinc 1 1, 3) := by decide +kernel
theorem dX0_obey_37 : decode cX0_obey 37 = .ok (.aload_n 0, 1) := by decide +kernel
theorem dX0_obey_38 : decode cX0_obey 38 = .ok (.iload_n 2, 1) := by decide +kernel
theorem dX0_obey_39 : decode cX0_obey 39 = .ok (.invokevirtual 38, 3) := by decide +kernel
theorem dX0_obey_42 : decode cX0_obey 42 = .ok (.iinc 2 (-1), 3) := by decide +kernel
theorem dX0_obey_45 : decode cX0_obey 45 = .ok (.goto (-36), 3) := by decide +kernel
theorem dX0_obey_48 : decode cX0_obey 48 = .ok (.iload_n 1, 1) := by decide +kernel
theorem dX0_obey_49 : decode cX0_obey 49 = .ok (.ireturn, 1) := by decide +kernel
theorem dX0_take_0 : decode cX0_take 0 = .ok (.iconst 0, 1) := by decide +kernel
theorem dX0_take_1 : decode cX0_take 1 = .ok (.istore_n 3, 1) := by decide +kernel
theorem dX0_take_2 : decode cX0_take 2 = .ok (.iload_n 3, 1) := by decide +kernel
theorem dX0_take_3 : decode cX0_take 3 = .ok (.aload_n 0, 1) := by decide +kernel
theorem dX0_take_4 : decode cX0_take 4 = .ok (.getfield 20, 3) := by decide +kernel
theorem dX0_take_7 : decode cX0_take 7 = .ok (.if_icmp .ge 27, 3) := by decide +kernel
theorem dX0_take_10 : decode cX0_take 10 = .ok (.iload_n 3, 1) := by decide +kernel
theorem dX0_take_11 : decode cX0_take 11 = .ok (.iconst 4, 1) := by decide +kernel
theorem dX0_take_12 : decode cX0_take 12 = .ok (.if_icmp .ge 22, 3) := by decide +kernel
theorem dX0_take_15 : decode cX0_take 15 = .ok (.aload_n 0, 1) := by decide +kernel
theorem dX0_take_16 : decode cX0_take 16 = .ok (.getfield 11, 3) := by decide +kernel
theorem dX0_take_19 : decode cX0_take 19 = .ok (.iload_n 3, 1) := by decide +kernel
theorem dX0_take_20 : decode cX0_take 20 = .ok (.aaload, 1) := by decide +kernel
theorem dX0_take_21 : decode cX0_take 21 = .ok (.getfield 23, 3) := by decide +kernel
theorem dX0_take_24 : decode cX0_take 24 = .ok (.aload_n 1, 1) := by decide +kernel
theorem dX0_take_25 : decode cX0_take 25 = .ok (.if_acmp .eq 9, 3) := by decide +kernel
theorem dX0_take_28 : decode cX0_take 28 = .ok (.iinc 3 1, 3) := by decide +kernel
theorem dX0_take_31 : decode cX0_take 31 = .ok (.goto (-29), 3) := by decide +kernel
theorem dX0_take_34 : decode cX0_take 34 = .ok (.iload_n 3, 1) := by decide +kernel
theorem dX0_take_35 : decode cX0_take 35 = .ok (.iconst 4, 1) := by decide +kernel
theorem dX0_take_36 : decode cX0_take 36 = .ok (.if_icmp .lt 10, 3) := by decide +kernel
theorem dX0_take_39 : decode cX0_take 39 = .ok (.aload_n 0, 1) := by decide +kernel
theorem dX0_take_40 : decode cX0_take 40 = .ok (.iconst 0, 1) := by decide +kernel
theorem dX0_take_41 : decode cX0_take 41 = .ok (.invokevirtual 38, 3) := by decide +kernel
theorem dX0_take_44 : decode cX0_take 44 = .ok (.iconst 3, 1) := by decide +kernel
theorem dX0_take_45 : decode cX0_take 45 = .ok (.istore_n 3, 1) := by decide +kernel
theorem dX0_take_46 : decode cX0_take 46 = .ok (.aload_n 0, 1) := by decide +kernel
theorem dX0_take_47 : decode cX0_take 47 = .ok (.aload_n 0, 1) := by decide +kernel
theorem dX0_take_48 : decode cX0_take 48 = .ok (.getfield 20, 3) := by decide +kernel
theorem dX0_take_51 : decode cX0_take 51 = .ok (.iload_n 3, 1) := by decide +kernel
theorem dX0_take_52 : decode cX0_take 52 = .ok (.iconst 1, 1) := by decide +kernel
theorem dX0_take_53 : decode cX0_take 53 = .ok (.iadd, 1) := by decide +kernel
theorem dX0_take_54 : decode cX0_take 54 = .ok (.invokestatic 42, 3) := by decide +kernel
theorem dX0_take_57 : decode cX0_take 57 = .ok (.putfield 20, 3) := by decide +kernel
theorem dX0_take_60 : decode cX0_take 60 = .ok (.aload_n 0, 1) := by decide +kernel
theorem dX0_take_61 : decode cX0_take 61 = .ok (.getfield 11, 3) := by decide +kernel
theorem dX0_take_64 : decode cX0_take 64 = .ok (.iload_n 3, 1) := by decide +kernel
theorem dX0_take_65 : decode cX0_take 65 = .ok (.aaload, 1) := by decide +kernel
theorem dX0_take_66 : decode cX0_take 66 = .ok (.astore 4, 2) := by decide +kernel
theorem dX0_take_68 : decode cX0_take 68 = .ok (.aload 4, 2) := by decide +kernel
theorem dX0_take_70 : decode cX0_take 70 = .ok (.aload_n 1, 1) := by decide +kernel
theorem dX0_take_71 : decode cX0_take 71 = .ok (.putfield 23, 3) := by decide +kernel
theorem dX0_take_74 : decode cX0_take 74 = .ok (.aload 4, 2) := by decide +kernel
theorem dX0_take_76 : decode cX0_take 76 = .ok (.aload_n 2, 1) := by decide +kernel
theorem dX0_take_77 : decode cX0_take 77 = .ok (.getfield 48, 3) := by decide +kernel
theorem dX0_take_80 : decode cX0_take 80 = .ok (.putfield 31, 3) := by decide +kernel
theorem dX0_take_83 : decode cX0_take 83 = .ok (.aload 4, 2) := by decide +kernel
theorem dX0_take_85 : decode cX0_take 85 = .ok (.aload_n 1, 1) := by decide +kernel
theorem dX0_take_86 : decode cX0_take 86 = .ok (.getfield 51, 3) := by decide +kernel
theorem dX0_take_89 : decode cX0_take 89 = .ok (.putfield 27, 3) := by decide +kernel
theorem dX0_take_92 : decode cX0_take 92 = .ok (.aload_n 1, 1) := by decide +kernel
theorem dX0_take_93 : decode cX0_take 93 = .ok (.dup, 1) := by decide +kernel
theorem dX0_take_94 : decode cX0_take 94 = .ok (.getfield 54, 3) := by decide +kernel
theorem dX0_take_97 : decode cX0_take 97 = .ok (.aload_n 0, 1) := by decide +kernel
theorem dX0_take_98 : decode cX0_take 98 = .ok (.getfield 15, 3) := by decide +kernel
theorem dX0_take_101 : decode cX0_take 101 = .ok (.iconst (-1), 1) := by decide +kernel
theorem dX0_take_102 : decode cX0_take 102 = .ok (.ixor, 1) := by decide +kernel
theorem dX0_take_103 : decode cX0_take 103 = .ok (.iand, 1) := by decide +kernel
theorem dX0_take_104 : decode cX0_take 104 = .ok (.putfield 54, 3) := by decide +kernel
theorem dX0_take_107 : decode cX0_take 107 = .ok (.return_, 1) := by decide +kernel
theorem dX0_isTold_0 : decode cX0_isTold 0 = .ok (.aload_n 1, 1) := by decide +kernel
theorem dX0_isTold_1 : decode cX0_isTold 1 = .ok (.ifnull 19, 3) := by decide +kernel
theorem dX0_isTold_4 : decode cX0_isTold 4 = .ok (.aload_n 1, 1) := by decide +kernel
theorem dX0_isTold_5 : decode cX0_isTold 5 = .ok (.getfield 54, 3) := by decide +kernel
theorem dX0_isTold_8 : decode cX0_isTold 8 = .ok (.aload_n 0, 1) := by decide +kernel
theorem dX0_isTold_9 : decode cX0_isTold 9 = .ok (.getfield 15, 3) := by decide +kernel
theorem dX0_isTold_12 : decode cX0_isTold 12 = .ok (.iand, 1) := by decide +kernel
theorem dX0_isTold_13 : decode cX0_isTold 13 = .ok (.ifCond .eq 7, 3) := by decide +kernel
theorem dX0_isTold_16 : decode cX0_isTold 16 = .ok (.iconst 1, 1) := by decide +kernel
theorem dX0_isTold_17 : decode cX0_isTold 17 = .ok (.goto 4, 3) := by decide +kernel
theorem dX0_isTold_20 : decode cX0_isTold 20 = .ok (.iconst 0, 1) := by decide +kernel
theorem dX0_isTold_21 : decode cX0_isTold 21 = .ok (.ireturn, 1) := by decide +kernel
theorem dX0_dismiss_0 : decode cX0_dismiss 0 = .ok (.iload_n 1, 1) := by decide +kernel
theorem dX0_dismiss_1 : decode cX0_dismiss 1 = .ok (.ifCond .lt 19, 3) := by decide +kernel
theorem dX0_dismiss_4 : decode cX0_dismiss 4 = .ok (.iload_n 1, 1) := by decide +kernel
theorem dX0_dismiss_5 : decode cX0_dismiss 5 = .ok (.aload_n 0, 1) := by decide +kernel
theorem dX0_dismiss_6 : decode cX0_dismiss 6 = .ok (.getfield 20, 3) := by decide +kernel
theorem dX0_dismiss_9 : decode cX0_dismiss 9 = .ok (.if_icmp .ge 11, 3) := by decide +kernel
theorem dX0_dismiss_12 : decode cX0_dismiss 12 = .ok (.aload_n 0, 1) := by decide +kernel
theorem dX0_dismiss_13 : decode cX0_dismiss 13 = .ok (.getfield 20, 3) := by decide +kernel
theorem dX0_dismiss_16 : decode cX0_dismiss 16 = .ok (.iconst 4, 1) := by decide +kernel
theorem dX0_dismiss_17 : decode cX0_dismiss 17 = .ok (.if_icmp .le 4, 3) := by decide +kernel
theorem dX0_dismiss_20 : decode cX0_dismiss 20 = .ok (.return_, 1) := by decide +kernel
theorem dX0_dismiss_21 : decode cX0_dismiss 21 = .ok (.aload_n 0, 1) := by decide +kernel
theorem dX0_dismiss_22 : decode cX0_dismiss 22 = .ok (.getfield 11, 3) := by decide +kernel
theorem dX0_dismiss_25 : decode cX0_dismiss 25 = .ok (.iload_n 1, 1) := by decide +kernel
theorem dX0_dismiss_26 : decode cX0_dismiss 26 = .ok (.aaload, 1) := by decide +kernel
theorem dX0_dismiss_27 : decode cX0_dismiss 27 = .ok (.astore_n 2, 1) := by decide +kernel
theorem dX0_dismiss_28 : decode cX0_dismiss 28 = .ok (.iload_n 1, 1) := by decide +kernel
theorem dX0_dismiss_29 : decode cX0_dismiss 29 = .ok (.istore_n 3, 1) := by decide +kernel
theorem dX0_dismiss_30 : decode cX0_dismiss 30 = .ok (.iload_n 3, 1) := by decide +kernel
theorem dX0_dismiss_31 : decode cX0_dismiss 31 = .ok (.aload_n 0, 1) := by decide +kernel
theorem dX0_dismiss_32 : decode cX0_dismiss 32 = .ok (.getfield 20, 3) := by decide +kernel
theorem dX0_dismiss_35 : decode cX0_dismiss 35 = .ok (.iconst 1, 1) := by decide +kernel
theorem dX0_dismiss_36 : decode cX0_dismiss 36 = .ok (.isub, 1) := by decide +kernel
theorem dX0_dismiss_37 : decode cX0_dismiss 37 = .ok (.if_icmp .ge 28, 3) := by decide +kernel
theorem dX0_dismiss_40 : decode cX0_dismiss 40 = .ok (.iload_n 3, 1) := by decide +kernel
theorem dX0_dismiss_41 : decode cX0_dismiss 41 = .ok (.iconst 3, 1) := by decide +kernel
theorem dX0_dismiss_42 : decode cX0_dismiss 42 = .ok (.if_icmp .ge 23, 3) := by decide +kernel
theorem dX0_dismiss_45 : decode cX0_dismiss 45 = .ok (.aload_n 0, 1) := by decide +kernel
theorem dX0_dismiss_46 : decode cX0_dismiss 46 = .ok (.getfield 11, 3) := by decide +kernel
theorem dX0_dismiss_49 : decode cX0_dismiss 49 = .ok (.iload_n 3, 1) := by decide +kernel
theorem dX0_dismiss_50 : decode cX0_dismiss 50 = .ok (.aload_n 0, 1) := by decide +kernel
theorem dX0_dismiss_51 : decode cX0_dismiss 51 = .ok (.getfield 11, 3) := by decide +kernel
theorem dX0_dismiss_54 : decode cX0_dismiss 54 = .ok (.iload_n 3, 1) := by decide +kernel
theorem dX0_dismiss_55 : decode cX0_dismiss 55 = .ok (.iconst 1, 1) := by decide +kernel
theorem dX0_dismiss_56 : decode cX0_dismiss 56 = .ok (.iadd, 1) := by decide +kernel
theorem dX0_dismiss_57 : decode cX0_dismiss 57 = .ok (.aaload, 1) := by decide +kernel
theorem dX0_dismiss_58 : decode cX0_dismiss 58 = .ok (.aastore, 1) := by decide +kernel
theorem dX0_dismiss_59 : decode cX0_dismiss 59 = .ok (.iinc 3 1, 3) := by decide +kernel
theorem dX0_dismiss_62 : decode cX0_dismiss 62 = .ok (.goto (-32), 3) := by decide +kernel
theorem dX0_dismiss_65 : decode cX0_dismiss 65 = .ok (.aload_n 0, 1) := by decide +kernel
theorem dX0_dismiss_66 : decode cX0_dismiss 66 = .ok (.dup, 1) := by decide +kernel
theorem dX0_dismiss_67 : decode cX0_dismiss 67 = .ok (.getfield 20, 3) := by decide +kernel
theorem dX0_dismiss_70 : decode cX0_dismiss 70 = .ok (.iconst 1, 1) := by decide +kernel
theorem dX0_dismiss_71 : decode cX0_dismiss 71 = .ok (.isub, 1) := by decide +kernel
theorem dX0_dismiss_72 : decode cX0_dismiss 72 = .ok (.putfield 20, 3) := by decide +kernel
theorem dX0_dismiss_75 : decode cX0_dismiss 75 = .ok (.aload_n 0, 1) := by decide +kernel
theorem dX0_dismiss_76 : decode cX0_dismiss 76 = .ok (.getfield 11, 3) := by decide +kernel
theorem dX0_dismiss_79 : decode cX0_dismiss 79 = .ok (.aload_n 0, 1) := by decide +kernel
theorem dX0_dismiss_80 : decode cX0_dismiss 80 = .ok (.getfield 20, 3) := by decide +kernel
theorem dX0_dismiss_83 : decode cX0_dismiss 83 = .ok (.aload_n 2, 1) := by decide +kernel
theorem dX0_dismiss_84 : decode cX0_dismiss 84 = .ok (.aastore, 1) := by decide +kernel
theorem dX0_dismiss_85 : decode cX0_dismiss 85 = .ok (.return_, 1) := by decide +kernel
theorem dX1_init_0 : decode cX1_init 0 = .ok (.aload_n 0, 1) := by decide +kernel
theorem dX1_init_1 : decode cX1_init 1 = .ok (.invokespecial 3, 3) := by decide +kernel
theorem dX1_init_4 : decode cX1_init 4 = .ok (.aload_n 0, 1) := by decide +kernel
theorem dX1_init_5 : decode cX1_init 5 = .ok (.iconst (-1), 1) := by decide +kernel
theorem dX1_init_6 : decode cX1_init 6 = .ok (.putfield 9, 3) := by decide +kernel
theorem dX1_init_9 : decode cX1_init 9 = .ok (.aload_n 0, 1) := by decide +kernel
theorem dX1_init_10 : decode cX1_init 10 = .ok (.iconst 0, 1) := by decide +kernel
theorem dX1_init_11 : decode cX1_init 11 = .ok (.putfield 15, 3) := by decide +kernel
theorem dX1_init_14 : decode cX1_init 14 = .ok (.aload_n 0, 1) := by decide +kernel
theorem dX1_init_15 : decode cX1_init 15 = .ok (.iload_n 1, 1) := by decide +kernel
theorem dX1_init_16 : decode cX1_init 16 = .ok (.putfield 18, 3) := by decide +kernel
theorem dX1_init_19 : decode cX1_init 19 = .ok (.return_, 1) := by decide +kernel
theorem dX1_tellProcessors_0 : decode cX1_tellProcessors 0 = .ok (.aload_n 0, 1) := by decide +kernel
theorem dX1_tellProcessors_1 : decode cX1_tellProcessors 1 = .ok (.getfield 15, 3) := by decide +kernel
theorem dX1_tellProcessors_4 : decode cX1_tellProcessors 4 = .ok (.iconst 1, 1) := by decide +kernel
theorem dX1_tellProcessors_5 : decode cX1_tellProcessors 5 = .ok (.if_icmp .ne 8, 3) := by decide +kernel
theorem dX1_tellProcessors_8 : decode cX1_tellProcessors 8 = .ok (.aload_n 0, 1) := by decide +kernel
theorem dX1_tellProcessors_9 : decode cX1_tellProcessors 9 = .ok (.iconst 3, 1) := by decide +kernel
theorem dX1_tellProcessors_10 : decode cX1_tellProcessors 10 = .ok (.putfield 21, 3) := by decide +kernel
theorem dX1_tellProcessors_13 : decode cX1_tellProcessors 13 = .ok (.return_, 1) := by decide +kernel
theorem dX1_forbidStores_0 : decode cX1_forbidStores 0 = .ok (.aload_n 0, 1) := by decide +kernel
theorem dX1_forbidStores_1 : decode cX1_forbidStores 1 = .ok (.getfield 24, 3) := by decide +kernel
theorem dX1_forbidStores_4 : decode cX1_forbidStores 4 = .ok (.ifCond .eq 12, 3) := by decide +kernel
theorem dX1_forbidStores_7 : decode cX1_forbidStores 7 = .ok (.aload_n 0, 1) := by decide +kernel
theorem dX1_forbidStores_8 : decode cX1_forbidStores 8 = .ok (.invokevirtual 28, 3) := by decide +kernel
theorem dX1_forbidStores_11 : decode cX1_forbidStores 11 = .ok (.aload_n 0, 1) := by decide +kernel
theorem dX1_forbidStores_12 : decode cX1_forbidStores 12 = .ok (.iconst 0, 1) := by decide +kernel
theorem dX1_forbidStores_13 : decode cX1_forbidStores 13 = .ok (.putfield 24, 3) := by decide +kernel
theorem dX1_forbidStores_16 : decode cX1_forbidStores 16 = .ok (.return_, 1) := by decide +kernel
theorem dX1_establish_0 : decode cX1_establish 0 = .ok (.aload_n 0, 1) := by decide +kernel
theorem dX1_establish_1 : decode cX1_establish 1 = .ok (.iconst 1, 1) := by decide +kernel
theorem dX1_establish_2 : decode cX1_establish 2 = .ok (.putfield 31, 3) := by decide +kernel
theorem dX1_establish_5 : decode cX1_establish 5 = .ok (.aload_n 0, 1) := by decide +kernel
theorem dX1_establish_6 : decode cX1_establish 6 = .ok (.iload_n 1, 1) := by decide +kernel
theorem dX1_establish_7 : decode cX1_establish 7 = .ok (.putfield 34, 3) := by decide +kernel
theorem dX1_establish_10 : decode cX1_establish 10 = .ok (.aload_n 0, 1) := by decide +kernel
theorem dX1_establish_11 : decode cX1_establish 11 = .ok (.iload_n 2, 1) := by decide +kernel
theorem dX1_establish_12 : decode cX1_establish 12 = .ok (.putfield 9, 3) := by decide +kernel
theorem dX1_establish_15 : decode cX1_establish 15 = .ok (.aload_n 0, 1) := by decide +kernel
theorem dX1_establish_16 : decode cX1_establish 16 = .ok (.iload_n 2, 1) := by decide +kernel
theorem dX1_establish_17 : decode cX1_establish 17 = .ok (.iconst (-1), 1) := by decide +kernel
theorem dX1_establish_18 : decode cX1_establish 18 = .ok (.if_icmp .ne 7, 3) := by decide +kernel
theorem dX1_establish_21 : decode cX1_establish 21 = .ok (.iconst 0, 1) := by decide +kernel
theorem dX1_establish_22 : decode cX1_establish 22 = .ok (.goto 4, 3) := by decide +kernel
theorem dX1_establish_25 : decode cX1_establish 25 = .ok (.iload_n 3, 1) := by decide +kernel
theorem dX1_establish_26 : decode cX1_establish 26 = .ok (.putfield 37, 3) := by decide +kernel
theorem dX1_establish_29 : decode cX1_establish 29 = .ok (.aload_n 0, 1) := by decide +kernel
theorem dX1_establish_30 : decode cX1_establish 30 = .ok (.iload_n 2, 1) := by decide +kernel
theorem dX1_establish_31 : decode cX1_establish 31 = .ok (.iconst (-1), 1) := by decide +kernel
theorem dX1_establish_32 : decode cX1_establish 32 = .ok (.if_icmp .eq 12, 3) := by decide +kernel
theorem dX1_establish_35 : decode cX1_establish 35 = .ok (.iload 4, 2) := by decide +kernel
theorem dX1_establish_37 : decode cX1_establish 37 = .ok (.ifCond .eq 7, 3) := by decide +kernel
theorem dX1_establish_40 : decode cX1_establish 40 = .ok (.iconst 1, 1) := by decide +kernel
theorem dX1_establish_41 : decode cX1_establish 41 = .ok (.goto 4, 3) := by decide +kernel
theorem dX1_establish_44 : decode cX1_establish 44 = .ok (.iconst 0, 1) := by decide +kernel
theorem dX1_establish_45 : decode cX1_establish 45 = .ok (.putfield 40, 3) := by decide +kernel
theorem dX1_establish_48 : decode cX1_establish 48 = .ok (.aload_n 0, 1) := by decide +kernel
theorem dX1_establish_49 : decode cX1_establish 49 = .ok (.iload 5, 2) := by decide +kernel
theorem dX1_establish_51 : decode cX1_establish 51 = .ok (.putfield 43, 3) := by decide +kernel
theorem dX1_establish_54 : decode cX1_establish 54 = .ok (.return_, 1) := by decide +kernel
theorem dX1_clear_0 : decode cX1_clear 0 = .ok (.aload_n 0, 1) := by decide +kernel
theorem dX1_clear_1 : decode cX1_clear 1 = .ok (.iconst 0, 1) := by decide +kernel
theorem dX1_clear_2 : decode cX1_clear 2 = .ok (.putfield 31, 3) := by decide +kernel
theorem dX1_clear_5 : decode cX1_clear 5 = .ok (.aload_n 0, 1) := by decide +kernel
theorem dX1_clear_6 : decode cX1_clear 6 = .ok (.iconst 0, 1) := by decide +kernel
theorem dX1_clear_7 : decode cX1_clear 7 = .ok (.putfield 34, 3) := by decide +kernel
theorem dX1_clear_10 : decode cX1_clear 10 = .ok (.aload_n 0, 1) := by decide +kernel
theorem dX1_clear_11 : decode cX1_clear 11 = .ok (.iconst (-1), 1) := by decide +kernel
theorem dX1_clear_12 : decode cX1_clear 12 = .ok (.putfield 9, 3) := by decide +kernel
theorem dX1_clear_15 : decode cX1_clear 15 = .ok (.aload_n 0, 1) := by decide +kernel
theorem dX1_clear_16 : decode cX1_clear 16 = .ok (.iconst 0, 1) := by decide +kernel
theorem dX1_clear_17 : decode cX1_clear 17 = .ok (.putfield 37, 3) := by decide +kernel
theorem dX1_clear_20 : decode cX1_clear 20 = .ok (.aload_n 0, 1) := by decide +kernel
theorem dX1_clear_21 : decode cX1_clear 21 = .ok (.iconst 0, 1) := by decide +kernel
theorem dX1_clear_22 : decode cX1_clear 22 = .ok (.putfield 40, 3) := by decide +kernel
theorem dX1_clear_25 : decode cX1_clear 25 = .ok (.aload_n 0, 1) := by decide +kernel
theorem dX1_clear_26 : decode cX1_clear 26 = .ok (.iconst 0, 1) := by decide +kernel
theorem dX1_clear_27 : decode cX1_clear 27 = .ok (.putfield 43, 3) := by decide +kernel
theorem dX1_clear_30 : decode cX1_clear 30 = .ok (.aload_n 0, 1) := by decide +kernel
theorem dX1_clear_31 : decode cX1_clear 31 = .ok (.iconst 0, 1) := by decide +kernel
theorem dX1_clear_32 : decode cX1_clear 32 = .ok (.putfield 46, 3) := by decide +kernel
theorem dX1_clear_35 : decode cX1_clear 35 = .ok (.aload_n 0, 1) := by decide +kernel
theorem dX1_clear_36 : decode cX1_clear 36 = .ok (.invokevirtual 49, 3) := by decide +kernel
theorem dX1_clear_39 : decode cX1_clear 39 = .ok (.return_, 1) := by decide +kernel
theorem dX1_becomeAbsent_0 : decode cX1_becomeAbsent 0 = .ok (.aload_n 0, 1) := by decide +kernel
theorem dX1_becomeAbsent_1 : decode cX1_becomeAbsent 1 = .ok (.iconst 0, 1) := by decide +kernel
theorem dX1_becomeAbsent_2 : decode cX1_becomeAbsent 2 = .ok (.putfield 15, 3) := by decide +kernel
theorem dX1_becomeAbsent_5 : decode cX1_becomeAbsent 5 = .ok (.aload_n 0, 1) := by decide +kernel
theorem dX1_becomeAbsent_6 : decode cX1_becomeAbsent 6 = .ok (.aconst_null, 1) := by decide +kernel
theorem dX1_becomeAbsent_7 : decode cX1_becomeAbsent 7 = .ok (.putfield 52, 3) := by decide +kernel
theorem dX1_becomeAbsent_10 : decode cX1_becomeAbsent 10 = .ok (.aload_n 0, 1) := by decide +kernel
theorem dX1_becomeAbsent_11 : decode cX1_becomeAbsent 11 = .ok (.iconst 0, 1) := by decide +kernel
theorem dX1_becomeAbsent_12 : decode cX1_becomeAbsent 12 = .ok (.putfield 24, 3) := by decide +kernel
theorem dX1_becomeAbsent_15 : decode cX1_becomeAbsent 15 = .ok (.aload_n 0, 1) := by decide +kernel
theorem dX1_becomeAbsent_16 : decode cX1_becomeAbsent 16 = .ok (.aconst_null, 1) := by decide +kernel
theorem dX1_becomeAbsent_17 : decode cX1_becomeAbsent 17 = .ok (.putfield 56, 3) := by decide +kernel
theorem dX1_becomeAbsent_20 : decode cX1_becomeAbsent 20 = .ok (.return_, 1) := by decide +kernel
theorem dX1_becomeOut_0 : decode cX1_becomeOut 0 = .ok (.aload_n 0, 1) := by decide +kernel
theorem dX1_becomeOut_1 : decode cX1_becomeOut 1 = .ok (.invokevirtual 49, 3) := by decide +kernel
theorem dX1_becomeOut_4 : decode cX1_becomeOut 4 = .ok (.aload_n 1, 1) := by decide +kernel
theorem dX1_becomeOut_5 : decode cX1_becomeOut 5 = .ok (.ifnull 23, 3) := by decide +kernel
theorem dX1_becomeOut_8 : decode cX1_becomeOut 8 = .ok (.aload_n 0, 1) := by decide +kernel
theorem dX1_becomeOut_9 : decode cX1_becomeOut 9 = .ok (.iconst 2, 1) := by decide +kernel
theorem dX1_becomeOut_10 : decode cX1_becomeOut 10 = .ok (.putfield 15, 3) := by decide +kernel
theorem dX1_becomeOut_13 : decode cX1_becomeOut 13 = .ok (.aload_n 0, 1) := by decide +kernel
theorem dX1_becomeOut_14 : decode cX1_becomeOut 14 = .ok (.aload_n 1, 1) := by decide +kernel
theorem dX1_becomeOut_15 : decode cX1_becomeOut 15 = .ok (.putfield 56, 3) := by decide +kernel
theorem dX1_becomeOut_18 : decode cX1_becomeOut 18 = .ok (.aload_n 1, 1) := by decide +kernel
theorem dX1_becomeOut_19 : decode cX1_becomeOut 19 = .ok (.dup, 1) := by decide +kernel
theorem dX1_becomeOut_20 : decode cX1_becomeOut 20 = .ok (.getfield 60, 3) := by decide +kernel
theorem dX1_becomeOut_23 : decode cX1_becomeOut 23 = .ok (.iconst 1, 1) := by decide +kernel
theorem dX1_becomeOut_24 : decode cX1_becomeOut 24 = .ok (.iadd, 1) := by decide +kernel
theorem dX1_becomeOut_25 : decode cX1_becomeOut 25 = .ok (.putfield 60, 3) := by decide +kernel
theorem dX1_becomeOut_28 : decode cX1_becomeOut 28 = .ok (.return_, 1) := by decide +kernel
theorem dX1_takeOver_0 : decode cX1_takeOver 0 = .ok (.aload_n 0, 1) := by decide +kernel
theorem dX1_takeOver_1 : decode cX1_takeOver 1 = .ok (.aload_n 1, 1) := by decide +kernel
theorem dX1_takeOver_2 : decode cX1_takeOver 2 = .ok (.getfield 34, 3) := by decide +kernel
theorem dX1_takeOver_5 : decode cX1_takeOver 5 = .ok (.aload_n 1, 1) := by decide +kernel
theorem dX1_takeOver_6 : decode cX1_takeOver 6 = .ok (.getfield 9, 3) := by decide +kernel
theorem dX1_takeOver_9 : decode cX1_takeOver 9 = .ok (.aload_n 1, 1) := by decide +kernel
theorem dX1_takeOver_10 : decode cX1_takeOver 10 = .ok (.getfield 37, 3) := by decide +kernel
theorem dX1_takeOver_13 : decode cX1_takeOver 13 = .ok (.aload_n 1, 1) := by decide +kernel
theorem dX1_takeOver_14 : decode cX1_takeOver 14 = .ok (.getfield 40, 3) := by decide +kernel
theorem dX1_takeOver_17 : decode cX1_takeOver 17 = .ok (.aload_n 1, 1) := by decide +kernel
theorem dX1_takeOver_18 : decode cX1_takeOver 18 = .ok (.getfield 43, 3) := by decide +kernel
theorem dX1_takeOver_21 : decode cX1_takeOver 21 = .ok (.invokevirtual 65, 3) := by decide +kernel
theorem dX1_takeOver_24 : decode cX1_takeOver 24 = .ok (.aload_n 0, 1) := by decide +kernel
theorem dX1_takeOver_25 : decode cX1_takeOver 25 = .ok (.aload_n 1, 1) := by decide +kernel
theorem dX1_takeOver_26 : decode cX1_takeOver 26 = .ok (.getfield 15, 3) := by decide +kernel
theorem dX1_takeOver_29 : decode cX1_takeOver 29 = .ok (.putfield 15, 3) := by decide +kernel
theorem dX1_takeOver_32 : decode cX1_takeOver 32 = .ok (.aload_n 0, 1) := by decide +kernel
theorem dX1_takeOver_33 : decode cX1_takeOver 33 = .ok (.aload_n 1, 1) := by decide +kernel
theorem dX1_takeOver_34 : decode cX1_takeOver 34 = .ok (.getfield 52, 3) := by decide +kernel
theorem dX1_takeOver_37 : decode cX1_takeOver 37 = .ok (.putfield 52, 3) := by decide +kernel
theorem dX1_takeOver_40 : decode cX1_takeOver 40 = .ok (.aload_n 0, 1) := by decide +kernel
theorem dX1_takeOver_41 : decode cX1_takeOver 41 = .ok (.aload_n 1, 1) := by decide +kernel
theorem dX1_takeOver_42 : decode cX1_takeOver 42 = .ok (.getfield 24, 3) := by decide +kernel
theorem dX1_takeOver_45 : decode cX1_takeOver 45 = .ok (.putfield 24, 3) := by decide +kernel
theorem dX1_takeOver_48 : decode cX1_takeOver 48 = .ok (.aload_n 0, 1) := by decide +kernel
theorem dX1_takeOver_49 : decode cX1_takeOver 49 = .ok (.aload_n 1, 1) := by decide +kernel
theorem dX1_takeOver_50 : decode cX1_takeOver 50 = .ok (.getfield 56, 3) := by decide +kernel
theorem dX1_takeOver_53 : decode cX1_takeOver 53 = .ok (.putfield 56, 3) := by decide +kernel
theorem dX1_takeOver_56 : decode cX1_takeOver 56 = .ok (.aload_n 0, 1) := by decide +kernel
theorem dX1_takeOver_57 : decode cX1_takeOver 57 = .ok (.iconst 0, 1) := by decide +kernel
theorem dX1_takeOver_58 : decode cX1_takeOver 58 = .ok (.putfield 46, 3) := by decide +kernel
theorem dX1_takeOver_61 : decode cX1_takeOver 61 = .ok (.aload_n 1, 1) := by decide +kernel
theorem dX1_takeOver_62 : decode cX1_takeOver 62 = .ok (.invokevirtual 69, 3) := by decide +kernel
theorem dX1_takeOver_65 : decode cX1_takeOver 65 = .ok (.return_, 1) := by decide +kernel
theorem dX1_resemble_0 : decode cX1_resemble 0 = .ok (.aload_n 1, 1) := by decide +kernel
theorem dX1_resemble_1 : decode cX1_resemble 1 = .ok (.getfield 31, 3) := by decide +kernel
theorem dX1_resemble_4 : decode cX1_resemble 4 = .ok (.ifCond .ne 4, 3) := by decide +kernel
theorem dX1_resemble_7 : decode cX1_resemble 7 = .ok (.return_, 1) := by decide +kernel
theorem dX1_resemble_8 : decode cX1_resemble 8 = .ok (.aload_n 0, 1) := by decide +kernel
theorem dX1_resemble_9 : decode cX1_resemble 9 = .ok (.aload_n 1, 1) := by decide +kernel
theorem dX1_resemble_10 : decode cX1_resemble 10 = .ok (.getfield 34, 3) := by decide +kernel
theorem dX1_resemble_13 : decode cX1_resemble 13 = .ok (.aload_n 1, 1) := by decide +kernel
theorem dX1_resemble_14 : decode cX1_resemble 14 = .ok (.getfield 9, 3) := by decide +kernel
theorem dX1_resemble_17 : decode cX1_resemble 17 = .ok (.aload_n 1, 1) := by decide +kernel
theorem dX1_resemble_18 : decode cX1_resemble 18 = .ok (.getfield 37, 3) := by decide +kernel
theorem dX1_resemble_21 : decode cX1_resemble 21 = .ok (.aload_n 1, 1) := by decide +kernel
theorem dX1_resemble_22 : decode cX1_resemble 22 = .ok (.getfield 40, 3) := by decide +kernel
theorem dX1_resemble_25 : decode cX1_resemble 25 = .ok (.aload_n 1, 1) := by decide +kernel
theorem dX1_resemble_26 : decode cX1_resemble 26 = .ok (.getfield 43, 3) := by decide +kernel
theorem dX1_resemble_29 : decode cX1_resemble 29 = .ok (.invokevirtual 65, 3) := by decide +kernel
theorem dX1_resemble_32 : decode cX1_resemble 32 = .ok (.aload_n 0, 1) := by decide +kernel
theorem dX1_resemble_33 : decode cX1_resemble 33 = .ok (.aload_n 1, 1) := by decide +kernel
theorem dX1_resemble_34 : decode cX1_resemble 34 = .ok (.getfield 15, 3) := by decide +kernel
theorem dX1_resemble_37 : decode cX1_resemble 37 = .ok (.putfield 15, 3) := by decide +kernel
theorem dX1_resemble_40 : decode cX1_resemble 40 = .ok (.aload_n 0, 1) := by decide +kernel
theorem dX1_resemble_41 : decode cX1_resemble 41 = .ok (.aload_n 1, 1) := by decide +kernel
theorem dX1_resemble_42 : decode cX1_resemble 42 = .ok (.getfield 52, 3) := by decide +kernel
theorem dX1_resemble_45 : decode cX1_resemble 45 = .ok (.putfield 52, 3) := by decide +kernel
theorem dX1_resemble_48 : decode cX1_resemble 48 = .ok (.aload_n 0, 1) := by decide +kernel
theorem dX1_resemble_49 : decode cX1_resemble 49 = .ok (.aload_n 1, 1) := by decide +kernel
theorem dX1_resemble_50 : decode cX1_resemble 50 = .ok (.getfield 56, 3) := by decide +kernel
theorem dX1_resemble_53 : decode cX1_resemble 53 = .ok (.putfield 56, 3) := by decide +kernel
theorem dX1_resemble_56 : decode cX1_resemble 56 = .ok (.aload_n 0, 1) := by decide +kernel
theorem dX1_resemble_57 : decode cX1_resemble 57 = .ok (.getfield 52, 3) := by decide +kernel
theorem dX1_resemble_60 : decode cX1_resemble 60 = .ok (.ifnull 16, 3) := by decide +kernel
theorem dX1_resemble_63 : decode cX1_resemble 63 = .ok (.aload_n 0, 1) := by decide +kernel
theorem dX1_resemble_64 : decode cX1_resemble 64 = .ok (.getfield 52, 3) := by decide +kernel
theorem dX1_resemble_67 : decode cX1_resemble 67 = .ok (.dup, 1) := by decide +kernel
theorem dX1_resemble_68 : decode cX1_resemble 68 = .ok (.getfield 72, 3) := by decide +kernel
theorem dX1_resemble_71 : decode cX1_resemble 71 = .ok (.iconst 1, 1) := by decide +kernel
theorem dX1_resemble_72 : decode cX1_resemble 72 = .ok (.iadd, 1) := by decide +kernel
theorem dX1_resemble_73 : decode cX1_resemble 73 = .ok (.putfield 72, 3) := by decide +kernel
theorem dX1_resemble_76 : decode cX1_resemble 76 = .ok (.aload_n 0, 1) := by decide +kernel
theorem dX1_resemble_77 : decode cX1_resemble 77 = .ok (.getfield 56, 3) := by decide +kernel
theorem dX1_resemble_80 : decode cX1_resemble 80 = .ok (.ifnull 16, 3) := by decide +kernel
theorem dX1_resemble_83 : decode cX1_resemble 83 = .ok (.aload_n 0, 1) := by decide +kernel
theorem dX1_resemble_84 : decode cX1_resemble 84 = .ok (.getfield 56, 3) := by decide +kernel
theorem dX1_resemble_87 : decode cX1_resemble 87 = .ok (.dup, 1) := by decide +kernel
theorem dX1_resemble_88 : decode cX1_resemble 88 = .ok (.getfield 60, 3) := by decide +kernel
theorem dX1_resemble_91 : decode cX1_resemble 91 = .ok (.iconst 1, 1) := by decide +kernel
theorem dX1_resemble_92 : decode cX1_resemble 92 = .ok (.iadd, 1) := by decide +kernel
theorem dX1_resemble_93 : decode cX1_resemble 93 = .ok (.putfield 60, 3) := by decide +kernel
theorem dX1_resemble_96 : decode cX1_resemble 96 = .ok (.return_, 1) := by decide +kernel
theorem dX1_continues_0 : decode cX1_continues 0 = .ok (.aload_n 0, 1) := by decide +kernel
theorem dX1_continues_1 : decode cX1_continues 1 = .ok (.getfield 31, 3) := by decide +kernel
theorem dX1_continues_4 : decode cX1_continues 4 = .ok (.ifCond .eq 79, 3) := by decide +kernel
theorem dX1_continues_7 : decode cX1_continues 7 = .ok (.aload_n 1, 1) := by decide +kernel
theorem dX1_continues_8 : decode cX1_continues 8 = .ok (.getfield 31, 3) := by decide +kernel
theorem dX1_continues_11 : decode cX1_continues 11 = .ok (.ifCond .eq 72, 3) := by decide +kernel
theorem dX1_continues_14 : decode cX1_continues 14 = .ok (.aload_n 0, 1) := by decide +kernel
theorem dX1_continues_15 : decode cX1_continues 15 = .ok (.getfield 34, 3) := by decide +kernel
theorem dX1_continues_18 : decode cX1_continues 18 = .ok (.aload_n 1, 1) := by decide +kernel
theorem dX1_continues_19 : decode cX1_continues 19 = .ok (.getfield 34, 3) := by decide +kernel
theorem dX1_continues_22 : decode cX1_continues 22 = .ok (.if_icmp .ne 61, 3) := by decide +kernel
theorem dX1_continues_25 : decode cX1_continues 25 = .ok (.aload_n 0, 1) := by decide +kernel
theorem dX1_continues_26 : decode cX1_continues 26 = .ok (.getfield 9, 3) := by decide +kernel
theorem dX1_continues_29 : decode cX1_continues 29 = .ok (.aload_n 1, 1) := by decide +kernel
theorem dX1_continues_30 : decode cX1_continues 30 = .ok (.getfield 9, 3) := by decide +kernel
theorem dX1_continues_33 : decode cX1_continues 33 = .ok (.if_icmp .ne 50, 3) := by decide +kernel
theorem dX1_continues_36 : decode cX1_continues 36 = .ok (.aload_n 0, 1) := by decide +kernel
theorem dX1_continues_37 : decode cX1_continues 37 = .ok (.getfield 40, 3) := by decide +kernel
theorem dX1_continues_40 : decode cX1_continues 40 = .ok (.aload_n 1, 1) := by decide +kernel
theorem dX1_continues_41 : decode cX1_continues 41 = .ok (.getfield 40, 3) := by decide +kernel
theorem dX1_continues_44 : decode cX1_continues 44 = .ok (.if_icmp .ne 39, 3) := by decide +kernel
theorem dX1_continues_47 : decode cX1_continues 47 = .ok (.aload_n 0, 1) := by decide +kernel
theorem dX1_continues_48 : decode cX1_continues 48 = .ok (.getfield 43, 3) := by decide +kernel
theorem dX1_continues_51 : decode cX1_continues 51 = .ok (.aload_n 1, 1) := by decide +kernel
theorem dX1_continues_52 : decode cX1_continues 52 = .ok (.getfield 43, 3) := by decide +kernel
theorem dX1_continues_55 : decode cX1_continues 55 = .ok (.if_icmp .ne 28, 3) := by decide +kernel
theorem dX1_continues_58 : decode cX1_continues 58 = .ok (.aload_n 0, 1) := by decide +kernel
theorem dX1_continues_59 : decode cX1_continues 59 = .ok (.getfield 9, 3) := by decide +kernel
theorem dX1_continues_62 : decode cX1_continues 62 = .ok (.iconst (-1), 1) := by decide +kernel
theorem dX1_continues_63 : decode cX1_continues 63 = .ok (.if_icmp .eq 16, 3) := by decide +kernel
theorem dX1_continues_66 : decode cX1_continues 66 = .ok (.aload_n 0, 1) := by decide +kernel
theorem dX1_continues_67 : decode cX1_continues 67 = .ok (.getfield 37, 3) := by decide +kernel
theorem dX1_continues_70 : decode cX1_continues 70 = .ok (.aload_n 1, 1) := by decide +kernel
theorem dX1_continues_71 : decode cX1_continues 71 = .ok (.getfield 37, 3) := by decide +kernel
theorem dX1_continues_74 : decode cX1_continues 74 = .ok (.iconst 1, 1) := by decide +kernel
theorem dX1_continues_75 : decode cX1_continues 75 = .ok (.iadd, 1) := by decide +kernel
theorem dX1_continues_76 : decode cX1_continues 76 = .ok (.if_icmp .ne 7, 3) := by decide +kernel
theorem dX1_continues_79 : decode cX1_continues 79 = .ok (.iconst 1, 1) := by decide +kernel
theorem dX1_continues_80 : decode cX1_continues 80 = .ok (.goto 4, 3) := by decide +kernel
theorem dX1_continues_83 : decode cX1_continues 83 = .ok (.iconst 0, 1) := by decide +kernel
theorem dX1_continues_84 : decode cX1_continues 84 = .ok (.ireturn, 1) := by decide +kernel
theorem dX2_init_0 : decode cX2_init 0 = .ok (.aload_n 0, 1) := by decide +kernel
theorem dX2_init_1 : decode cX2_init 1 = .ok (.invokespecial 3, 3) := by decide +kernel
theorem dX2_init_4 : decode cX2_init 4 = .ok (.aload_n 0, 1) := by decide +kernel
theorem dX2_init_5 : decode cX2_init 5 = .ok (.iconst 0, 1) := by decide +kernel
theorem dX2_init_6 : decode cX2_init 6 = .ok (.putfield 9, 3) := by decide +kernel
theorem dX2_init_9 : decode cX2_init 9 = .ok (.aload_n 0, 1) := by decide +kernel
theorem dX2_init_10 : decode cX2_init 10 = .ok (.iload_n 1, 1) := by decide +kernel
theorem dX2_init_11 : decode cX2_init 11 = .ok (.putfield 15, 3) := by decide +kernel
theorem dX2_init_14 : decode cX2_init 14 = .ok (.return_, 1) := by decide +kernel
theorem dX2_begin_0 : decode cX2_begin 0 = .ok (.aload_n 0, 1) := by decide +kernel
theorem dX2_begin_1 : decode cX2_begin 1 = .ok (.iload_n 1, 1) := by decide +kernel
theorem dX2_begin_2 : decode cX2_begin 2 = .ok (.putfield 9, 3) := by decide +kernel
theorem dX2_begin_5 : decode cX2_begin 5 = .ok (.aload_n 0, 1) := by decide +kernel
theorem dX2_begin_6 : decode cX2_begin 6 = .ok (.iload_n 2, 1) := by decide +kernel
theorem dX2_begin_7 : decode cX2_begin 7 = .ok (.putfield 18, 3) := by decide +kernel
theorem dX2_begin_10 : decode cX2_begin 10 = .ok (.aload_n 0, 1) := by decide +kernel
theorem dX2_begin_11 : decode cX2_begin 11 = .ok (.iload_n 3, 1) := by decide +kernel
theorem dX2_begin_12 : decode cX2_begin 12 = .ok (.putfield 21, 3) := by decide +kernel
theorem dX2_begin_15 : decode cX2_begin 15 = .ok (.aload_n 0, 1) := by decide +kernel
theorem dX2_begin_16 : decode cX2_begin 16 = .ok (.iconst 0, 1) := by decide +kernel
theorem dX2_begin_17 : decode cX2_begin 17 = .ok (.putfield 24, 3) := by decide +kernel
theorem dX2_begin_20 : decode cX2_begin 20 = .ok (.aload_n 0, 1) := by decide +kernel
theorem dX2_begin_21 : decode cX2_begin 21 = .ok (.iconst 0, 1) := by decide +kernel
theorem dX2_begin_22 : decode cX2_begin 22 = .ok (.putfield 28, 3) := by decide +kernel
theorem dX2_begin_25 : decode cX2_begin 25 = .ok (.aload_n 0, 1) := by decide +kernel
theorem dX2_begin_26 : decode cX2_begin 26 = .ok (.iconst 0, 1) := by decide +kernel
theorem dX2_begin_27 : decode cX2_begin 27 = .ok (.putfield 31, 3) := by decide +kernel
theorem dX2_begin_30 : decode cX2_begin 30 = .ok (.aload_n 0, 1) := by decide +kernel
theorem dX2_begin_31 : decode cX2_begin 31 = .ok (.iconst 0, 1) := by decide +kernel
theorem dX2_begin_32 : decode cX2_begin 32 = .ok (.putfield 34, 3) := by decide +kernel
theorem dX2_begin_35 : decode cX2_begin 35 = .ok (.return_, 1) := by decide +kernel
theorem dX2_isMember_0 : decode cX2_isMember 0 = .ok (.aload_n 0, 1) := by decide +kernel
theorem dX2_isMember_1 : decode cX2_isMember 1 = .ok (.getfield 9, 3) := by decide +kernel
theorem dX2_isMember_4 : decode cX2_isMember 4 = .ok (.ifCond .eq 28, 3) := by decide +kernel
theorem dX2_isMember_7 : decode cX2_isMember 7 = .ok (.aload_n 0, 1) := by decide +kernel
theorem dX2_isMember_8 : decode cX2_isMember 8 = .ok (.getfield 37, 3) := by decide +kernel
theorem dX2_isMember_11 : decode cX2_isMember 11 = .ok (.iload_n 1, 1) := by decide +kernel
theorem dX2_isMember_12 : decode cX2_isMember 12 = .ok (.if_icmp .ne 20, 3) := by decide +kernel
theorem dX2_isMember_15 : decode cX2_isMember 15 = .ok (.iload_n 2, 1) := by decide +kernel
theorem dX2_isMember_16 : decode cX2_isMember 16 = .ok (.iconst (-1), 1) := by decide +kernel
theorem dX2_isMember_17 : decode cX2_isMember 17 = .ok (.if_icmp .eq 11, 3) := by decide +kernel
theorem dX2_isMember_20 : decode cX2_isMember 20 = .ok (.aload_n 0, 1) := by decide +kernel
theorem dX2_isMember_21 : decode cX2_isMember 21 = .ok (.getfield 21, 3) := by decide +kernel
theorem dX2_isMember_24 : decode cX2_isMember 24 = .ok (.iload_n 2, 1) := by decide +kernel
theorem dX2_isMember_25 : decode cX2_isMember 25 = .ok (.if_icmp .ne 7, 3) := by decide +kernel
theorem dX2_isMember_28 : decode cX2_isMember 28 = .ok (.iconst 1, 1) := by decide +kernel
theorem dX2_isMember_29 : decode cX2_isMember 29 = .ok (.goto 4, 3) := by decide +kernel
theorem dX2_isMember_32 : decode cX2_isMember 32 = .ok (.iconst 0, 1) := by decide +kernel
theorem dX2_isMember_33 : decode cX2_isMember 33 = .ok (.ireturn, 1) := by decide +kernel
theorem dX2_isMergeable_0 : decode cX2_isMergeable 0 = .ok (.aload_n 0, 1) := by decide +kernel
theorem dX2_isMergeable_1 : decode cX2_isMergeable 1 = .ok (.getfield 9, 3) := by decide +kernel
theorem dX2_isMergeable_4 : decode cX2_isMergeable 4 = .ok (.iconst 1, 1) := by decide +kernel
theorem dX2_isMergeable_5 : decode cX2_isMergeable 5 = .ok (.if_icmp .ne 14, 3) := by decide +kernel
theorem dX2_isMergeable_8 : decode cX2_isMergeable 8 = .ok (.aload_n 0, 1) := by decide +kernel
theorem dX2_isMergeable_9 : decode cX2_isMergeable 9 = .ok (.getfield 31, 3) := by decide +kernel
theorem dX2_isMergeable_12 : decode cX2_isMergeable 12 = .ok (.ifCond .ne 7, 3) := by decide +kernel
theorem dX2_isMergeable_15 : decode cX2_isMergeable 15 = .ok (.iconst 1, 1) := by decide +kernel
theorem dX2_isMergeable_16 : decode cX2_isMergeable 16 = .ok (.goto 4, 3) := by decide +kernel
theorem dX2_isMergeable_19 : decode cX2_isMergeable 19 = .ok (.iconst 0, 1) := by decide +kernel
theorem dX2_isMergeable_20 : decode cX2_isMergeable 20 = .ok (.ireturn, 1) := by decide +kernel
theorem dX2_number_0 : decode cX2_number 0 = .ok (.iload_n 1, 1) := by decide +kernel
theorem dX2_number_1 : decode cX2_number 1 = .ok (.tableswitch 90 1 6 #[39, 44, 49, 57, 62, 67], 39) := by decide +kernel
theorem dX2_number_40 : decode cX2_number 40 = .ok (.aload_n 0, 1) := by decide +kernel
theorem dX2_number_41 : decode cX2_number 41 = .ok (.getfield 18, 3) := by decide +kernel
theorem dX2_number_44 : decode cX2_number 44 = .ok (.ireturn, 1) := by decide +kernel
theorem dX2_number_45 : decode cX2_number 45 = .ok (.aload_n 0, 1) := by decide +kernel
theorem dX2_number_46 : decode cX2_number 46 = .ok (.getfield 37, 3) := by decide +kernel
theorem dX2_number_49 : decode cX2_number 49 = .ok (.ireturn, 1) := by decide +kernel
theorem dX2_number_50 : decode cX2_number 50 = .ok (.aload_n 0, 1) := by decide +kernel
theorem dX2_number_51 : decode cX2_number 51 = .ok (.getfield 24, 3) := by decide +kernel
theorem dX2_number_54 : decode cX2_number 54 = .ok (.invokestatic 40, 3) := by decide +kernel
theorem dX2_number_57 : decode cX2_number 57 = .ok (.ireturn, 1) := by decide +kernel
theorem dX2_number_58 : decode cX2_number 58 = .ok (.aload_n 0, 1) := by decide +kernel
theorem dX2_number_59 : decode cX2_number 59 = .ok (.getfield 28, 3) := by decide +kernel
theorem dX2_number_62 : decode cX2_number 62 = .ok (.ireturn, 1) := by decide +kernel
theorem dX2_number_63 : decode cX2_number 63 = .ok (.aload_n 0, 1) := by decide +kernel
theorem dX2_number_64 : decode cX2_number 64 = .ok (.getfield 21, 3) := by decide +kernel
theorem dX2_number_67 : decode cX2_number 67 = .ok (.ireturn, 1) := by decide +kernel
theorem dX2_number_68 : decode cX2_number 68 = .ok (.aload_n 0, 1) := by decide +kernel
theorem dX2_number_69 : decode cX2_number 69 = .ok (.getfield 9, 3) := by decide +kernel
theorem dX2_number_72 : decode cX2_number 72 = .ok (.iconst 2, 1) := by decide +kernel
theorem dX2_number_73 : decode cX2_number 73 = .ok (.if_icmp .ne 10, 3) := by decide +kernel
theorem dX2_number_76 : decode cX2_number 76 = .ok (.aload_n 0, 1) := by decide +kernel
theorem dX2_number_77 : decode cX2_number 77 = .ok (.getfield 34, 3) := by decide +kernel
theorem dX2_number_80 : decode cX2_number 80 = .ok (.goto 7, 3) := by decide +kernel
theorem dX2_number_83 : decode cX2_number 83 = .ok (.aload_n 0, 1) := by decide +kernel
theorem dX2_number_84 : decode cX2_number 84 = .ok (.getfield 31, 3) := by decide +kernel
theorem dX2_number_87 : decode cX2_number 87 = .ok (.invokestatic 40, 3) := by decide +kernel
theorem dX2_number_90 : decode cX2_number 90 = .ok (.ireturn, 1) := by decide +kernel
theorem dX2_number_91 : decode cX2_number 91 = .ok (.aload_n 0, 1) := by decide +kernel
theorem dX2_number_92 : decode cX2_number 92 = .ok (.getfield 9, 3) := by decide +kernel
theorem dX2_number_95 : decode cX2_number 95 = .ok (.iconst 2, 1) := by decide +kernel
theorem dX2_number_96 : decode cX2_number 96 = .ok (.if_icmp .ne 18, 3) := by decide +kernel
theorem dX2_number_99 : decode cX2_number 99 = .ok (.bipush 10, 2) := by decide +kernel
theorem dX2_number_101 : decode cX2_number 101 = .ok (.aload_n 0, 1) := by decide +kernel
theorem dX2_number_102 : decode cX2_number 102 = .ok (.getfield 44, 3) := by decide +kernel
theorem dX2_number_105 : decode cX2_number 105 = .ok (.imul, 1) := by decide +kernel
theorem dX2_number_106 : decode cX2_number 106 = .ok (.aload_n 0, 1) := by decide +kernel
theorem dX2_number_107 : decode cX2_number 107 = .ok (.getfield 47, 3) := by decide +kernel
theorem dX2_number_110 : decode cX2_number 110 = .ok (.iadd, 1) := by decide +kernel
theorem dX2_number_111 : decode cX2_number 111 = .ok (.goto 4, 3) := by decide +kernel
theorem dX2_number_114 : decode cX2_number 114 = .ok (.iconst (-1), 1) := by decide +kernel
theorem dX2_number_115 : decode cX2_number 115 = .ok (.ireturn, 1) := by decide +kernel
theorem dX3_init_0 : decode cX3_init 0 = .ok (.aload_n 0, 1) := by decide +kernel
theorem dX3_init_1 : decode cX3_init 1 = .ok (.invokespecial 1, 3) := by decide +kernel
theorem dX3_init_4 : decode cX3_init 4 = .ok (.return_, 1) := by decide +kernel
theorem dX4_init_0 : decode cX4_init 0 = .ok (.aload_n 0, 1) := by decide +kernel
theorem dX4_init_1 : decode cX4_init 1 = .ok (.invokespecial 5, 3) := by decide +kernel
theorem dX4_init_4 : decode cX4_init 4 = .ok (.aload_n 0, 1) := by decide +kernel
theorem dX4_init_5 : decode cX4_init 5 = .ok (.bipush 18, 2) := by decide +kernel
theorem dX4_init_7 : decode cX4_init 7 = .ok (.anewarray 11, 3) := by decide +kernel
theorem dX4_init_10 : decode cX4_init 10 = .ok (.putfield 13, 3) := by decide +kernel
theorem dX4_init_13 : decode cX4_init 13 = .ok (.aload_n 0, 1) := by decide +kernel
theorem dX4_init_14 : decode cX4_init 14 = .ok (.bipush 10, 2) := by decide +kernel
theorem dX4_init_16 : decode cX4_init 16 = .ok (.newarray .boolean, 2) := by decide +kernel
theorem dX4_init_18 : decode cX4_init 18 = .ok (.putfield 17, 3) := by decide +kernel
theorem dX4_init_21 : decode cX4_init 21 = .ok (.iconst 0, 1) := by decide +kernel
theorem dX4_init_22 : decode cX4_init 22 = .ok (.istore_n 1, 1) := by decide +kernel
theorem dX4_init_23 : decode cX4_init 23 = .ok (.iload_n 1, 1) := by decide +kernel
theorem dX4_init_24 : decode cX4_init 24 = .ok (.bipush 18, 2) := by decide +kernel
theorem dX4_init_26 : decode cX4_init 26 = .ok (.if_icmp .ge 22, 3) := by decide +kernel
theorem dX4_init_29 : decode cX4_init 29 = .ok (.aload_n 0, 1) := by decide +kernel
theorem dX4_init_30 : decode cX4_init 30 = .ok (.getfield 13, 3) := by decide +kernel
theorem dX4_init_33 : decode cX4_init 33 = .ok (.iload_n 1, 1) := by decide +kernel
theorem dX4_init_34 : decode cX4_init 34 = .ok (.new 11, 3) := by decide +kernel
theorem dX4_init_37 : decode cX4_init 37 = .ok (.dup, 1) := by decide +kernel
theorem dX4_init_38 : decode cX4_init 38 = .ok (.invokespecial 21, 3) := by decide +kernel
theorem dX4_init_41 : decode cX4_init 41 = .ok (.aastore, 1) := by decide +kernel
theorem dX4_init_42 : decode cX4_init 42 = .ok (.iinc 1 1, 3) := by decide +kernel
theorem dX4_init_45 : decode cX4_init 45 = .ok (.goto (-22), 3) := by decide +kernel
theorem dX4_init_48 : decode cX4_init 48 = .ok (.return_, 1) := by decide +kernel
theorem dX4_keep_0 : decode cX4_keep 0 = .ok (.iload_n 1, 1) := by decide +kernel
theorem dX4_keep_1 : decode cX4_keep 1 = .ok (.sipush 10000, 3) := by decide +kernel
theorem dX4_keep_4 : decode cX4_keep 4 = .ok (.if_icmp .lt 7, 3) := by decide +kernel
theorem dX4_keep_7 : decode cX4_keep 7 = .ok (.iconst 1, 1) := by decide +kernel
theorem dX4_keep_8 : decode cX4_keep 8 = .ok (.goto 4, 3) := by decide +kernel
theorem dX4_keep_11 : decode cX4_keep 11 = .ok (.iconst 0, 1) := by decide +kernel
theorem dX4_keep_12 : decode cX4_keep 12 = .ok (.istore_n 2, 1) := by decide +kernel
theorem dX4_keep_13 : decode cX4_keep 13 = .ok (.iload_n 1, 1) := by decide +kernel
theorem dX4_keep_14 : decode cX4_keep 14 = .ok (.bipush 100, 2) := by decide +kernel
theorem dX4_keep_16 : decode cX4_keep 16 = .ok (.if_icmp .ge 7, 3) := by decide +kernel
theorem dX4_keep_19 : decode cX4_keep 19 = .ok (.iconst 1, 1) := by decide +kernel
theorem dX4_keep_20 : decode cX4_keep 20 = .ok (.goto 4, 3) := by decide +kernel
theorem dX4_keep_23 : decode cX4_keep 23 = .ok (.iconst 2, 1) := by decide +kernel
theorem dX4_keep_24 : decode cX4_keep 24 = .ok (.istore_n 3, 1) := by decide +kernel
theorem dX4_keep_25 : decode cX4_keep 25 = .ok (.iconst 0, 1) := by decide +kernel
theorem dX4_keep_26 : decode cX4_keep 26 = .ok (.istore 4, 2) := by decide +kernel
theorem dX4_keep_28 : decode cX4_keep 28 = .ok (.iload_n 2, 1) := by decide +kernel
theorem dX4_keep_29 : decode cX4_keep 29 = .ok (.ifCond .ne 88, 3) := by decide +kernel
theorem dX4_keep_32 : decode cX4_keep 32 = .ok (.aload_n 0, 1) := by decide +kernel
theorem dX4_keep_33 : decode cX4_keep 33 = .ok (.getfield 22, 3) := by decide +kernel
theorem dX4_keep_36 : decode cX4_keep 36 = .ok (.iload_n 3, 1) := by decide +kernel
theorem dX4_keep_37 : decode cX4_keep 37 = .ok (.iadd, 1) := by decide +kernel
theorem dX4_keep_38 : decode cX4_keep 38 = .ok (.bipush 8, 2) := by decide +kernel
theorem dX4_keep_40 : decode cX4_keep 40 = .ok (.if_icmp .le 77, 3) := by decide +kernel
theorem dX4_keep_43 : decode cX4_keep 43 = .ok (.iload 4, 2) := by decide +kernel
theorem dX4_keep_45 : decode cX4_keep 45 = .ok (.bipush 18, 2) := by decide +kernel
theorem dX4_keep_47 : decode cX4_keep 47 = .ok (.if_icmp .ge 70, 3) := by decide +kernel
theorem dX4_keep_50 : decode cX4_keep 50 = .ok (.aload_n 0, 1) := by decide +kernel
theorem dX4_keep_51 : decode cX4_keep 51 = .ok (.invokevirtual 26, 3) := by decide +kernel
theorem dX4_keep_54 : decode cX4_keep 54 = .ok (.astore 5, 2) := by decide +kernel
theorem dX4_keep_56 : decode cX4_keep 56 = .ok (.aload_n 0, 1) := by decide +kernel
theorem dX4_keep_57 : decode cX4_keep 57 = .ok (.invokevirtual 30, 3) := by decide +kernel
theorem dX4_keep_60 : decode cX4_keep 60 = .ok (.istore 6, 2) := by decide +kernel
theorem dX4_keep_62 : decode cX4_keep 62 = .ok (.aload 5, 2) := by decide +kernel
theorem dX4_keep_64 : decode cX4_keep 64 = .ok (.ifnull 53, 3) := by decide +kernel
theorem dX4_keep_67 : decode cX4_keep 67 = .ok (.iload 6, 2) := by decide +kernel
theorem dX4_keep_69 : decode cX4_keep 69 = .ok (.ifCond .lt 48, 3) := by decide +kernel
theorem dX4_keep_72 : decode cX4_keep 72 = .ok (.iload 6, 2) := by decide +kernel
theorem dX4_keep_74 : decode cX4_keep 74 = .ok (.bipush 10, 2) := by decide +kernel
theorem dX4_keep_76 : decode cX4_keep 76 = .ok (.if_icmp .lt 6, 3) := by decide +kernel
theorem dX4_keep_79 : decode cX4_keep 79 = .ok (.goto 38, 3) := by decide +kernel
theorem dX4_keep_82 : decode cX4_keep 82 = .ok (.aload_n 0, 1) := by decide +kernel
theorem dX4_keep_83 : decode cX4_keep 83 = .ok (.getfield 17, 3) := by decide +kernel
theorem dX4_keep_86 : decode cX4_keep 86 = .ok (.iload 6, 2) := by decide +kernel
theorem dX4_keep_88 : decode cX4_keep 88 = .ok (.iconst 1, 1) := by decide +kernel
theorem dX4_keep_89 : decode cX4_keep 89 = .ok (.bastore, 1) := by decide +kernel
theorem dX4_keep_90 : decode cX4_keep 90 = .ok (.aload 5, 2) := by decide +kernel
theorem dX4_keep_92 : decode cX4_keep 92 = .ok (.iload 6, 2) := by decide +kernel
theorem dX4_keep_94 : decode cX4_keep 94 = .ok (.putfield 34, 3) := by decide +kernel
theorem dX4_keep_97 : decode cX4_keep 97 = .ok (.aload_n 0, 1) := by decide +kernel
theorem dX4_keep_98 : decode cX4_keep 98 = .ok (.dup, 1) := by decide +kernel
theorem dX4_keep_99 : decode cX4_keep 99 = .ok (.getfield 22, 3) := by decide +kernel
theorem dX4_keep_102 : decode cX4_keep 102 = .ok (.aload 5, 2) := by decide +kernel
theorem dX4_keep_104 : decode cX4_keep 104 = .ok (.getfield 37, 3) := by decide +kernel
theorem dX4_keep_107 : decode cX4_keep 107 = .ok (.isub, 1) := by decide +kernel
theorem dX4_keep_108 : decode cX4_keep 108 = .ok (.putfield 22, 3) := by decide +kernel
theorem dX4_keep_111 : decode cX4_keep 111 = .ok (.iinc 4 1, 3) := by decide +kernel
theorem dX4_keep_114 : decode cX4_keep 114 = .ok (.goto (-86), 3) := by decide +kernel
theorem dX4_keep_117 : decode cX4_keep 117 = .ok (.iload_n 2, 1) := by decide +kernel
theorem dX4_keep_118 : decode cX4_keep 118 = .ok (.ifCond .ne 19, 3) := by decide +kernel
theorem dX4_keep_121 : decode cX4_keep 121 = .ok (.aload_n 0, 1) := by decide +kernel
theorem dX4_keep_122 : decode cX4_keep 122 = .ok (.getfield 22, 3) := by decide +kernel
theorem dX4_keep_125 : decode cX4_keep 125 = .ok (.iload_n 3, 1) := by decide +kernel
theorem dX4_keep_126 : decode cX4_keep 126 = .ok (.iadd, 1) := by decide +kernel
theorem dX4_keep_127 : decode cX4_keep 127 = .ok (.bipush 8, 2) := by decide +kernel
theorem dX4_keep_129 : decode cX4_keep 129 = .ok (.if_icmp .gt 8, 3) := by decide +kernel
theorem dX4_keep_132 : decode cX4_keep 132 = .ok (.bipush 10, 2) := by decide +kernel
theorem dX4_keep_134 : decode cX4_keep 134 = .ok (.goto 7, 3) := by decide +kernel
theorem dX4_keep_137 : decode cX4_keep 137 = .ok (.aload_n 0, 1) := by decide +kernel
theorem dX4_keep_138 : decode cX4_keep 138 = .ok (.invokevirtual 30, 3) := by decide +kernel
theorem dX4_keep_141 : decode cX4_keep 141 = .ok (.istore 4, 2) := by decide +kernel
theorem dX4_keep_143 : decode cX4_keep 143 = .ok (.aload_n 0, 1) := by decide +kernel
theorem dX4_keep_144 : decode cX4_keep 144 = .ok (.invokevirtual 40, 3) := by decide +kernel
theorem dX4_keep_147 : decode cX4_keep 147 = .ok (.astore 5, 2) := by decide +kernel
theorem dX4_keep_149 : decode cX4_keep 149 = .ok (.aload 5, 2) := by decide +kernel
theorem dX4_keep_151 : decode cX4_keep 151 = .ok (.ifnull 9, 3) := by decide +kernel
theorem dX4_keep_154 : decode cX4_keep 154 = .ok (.iload 4, 2) := by decide +kernel
theorem dX4_keep_156 : decode cX4_keep 156 = .ok (.iconst (-1), 1) := by decide +kernel
theorem dX4_keep_157 : decode cX4_keep 157 = .ok (.if_icmp .ne 5, 3) := by decide +kernel
theorem dX4_keep_160 : decode cX4_keep 160 = .ok (.aconst_null, 1) := by decide +kernel
theorem dX4_keep_161 : decode cX4_keep 161 = .ok (.areturn, 1) := by decide +kernel
theorem dX4_keep_162 : decode cX4_keep 162 = .ok (.iload 4, 2) := by decide +kernel
theorem dX4_keep_164 : decode cX4_keep 164 = .ok (.bipush 10, 2) := by decide +kernel
theorem dX4_keep_166 : decode cX4_keep 166 = .ok (.if_icmp .ne 16, 3) := by decide +kernel
theorem dX4_keep_169 : decode cX4_keep 169 = .ok (.aload_n 0, 1) := by decide +kernel
theorem dX4_keep_170 : decode cX4_keep 170 = .ok (.dup, 1) := by decide +kernel
theorem dX4_keep_171 : decode cX4_keep 171 = .ok (.getfield 22, 3) := by decide +kernel
theorem dX4_keep_174 : decode cX4_keep 174 = .ok (.iload_n 3, 1) := by decide +kernel
theorem dX4_keep_175 : decode cX4_keep 175 = .ok (.iadd, 1) := by decide +kernel
theorem dX4_keep_176 : decode cX4_keep 176 = .ok (.putfield 22, 3) := by decide +kernel
theorem dX4_keep_179 : decode cX4_keep 179 = .ok (.goto 23, 3) := by decide +kernel
theorem dX4_keep_182 : decode cX4_keep 182 = .ok (.iload 4, 2) := by decide +kernel
theorem dX4_keep_184 : decode cX4_keep 184 = .ok (.ifCond .lt 18, 3) := by decide +kernel
theorem dX4_keep_187 : decode cX4_keep 187 = .ok (.iload 4, 2) := by decide +kernel
theorem dX4_keep_189 : decode cX4_keep 189 = .ok (.bipush 10, 2) := by decide +kernel
theorem dX4_keep_191 : decode cX4_keep 191 = .ok (.if_icmp .ge 11, 3) := by decide +kernel
theorem dX4_keep_194 : decode cX4_keep 194 = .ok (.aload_n 0, 1) := by decide +kernel
theorem dX4_keep_195 : decode cX4_keep 195 = .ok (.getfield 17, 3) := by decide +kernel
theorem dX4_keep_198 : decode cX4_keep 198 = .ok (.iload 4, 2) := by decide +kernel
theorem dX4_keep_200 : decode cX4_keep 200 = .ok (.iconst 1, 1) := by decide +kernel
theorem dX4_keep_201 : decode cX4_keep 201 = .ok (.bastore, 1) := by decide +kernel
theorem dX4_keep_202 : decode cX4_keep 202 = .ok (.aload_n 0, 1) := by decide +kernel
theorem dX4_keep_203 : decode cX4_keep 203 = .ok (.dup, 1) := by decide +kernel
theorem dX4_keep_204 : decode cX4_keep 204 = .ok (.getfield 43, 3) := by decide +kernel
theorem dX4_keep_207 : decode cX4_keep 207 = .ok (.iconst 1, 1) := by decide +kernel
theorem dX4_keep_208 : decode cX4_keep 208 = .ok (.iadd, 1) := by decide +kernel
theorem dX4_keep_209 : decode cX4_keep 209 = .ok (.putfield 43, 3) := by decide +kernel
theorem dX4_keep_212 : decode cX4_keep 212 = .ok (.aload 5, 2) := by decide +kernel
theorem dX4_keep_214 : decode cX4_keep 214 = .ok (.aload_n 0, 1) := by decide +kernel
theorem dX4_keep_215 : decode cX4_keep 215 = .ok (.getfield 43, 3) := by decide +kernel
theorem dX4_keep_218 : decode cX4_keep 218 = .ok (.putfield 46, 3) := by decide +kernel
theorem dX4_keep_221 : decode cX4_keep 221 = .ok (.aload 5, 2) := by decide +kernel
theorem dX4_keep_223 : decode cX4_keep 223 = .ok (.iload_n 1, 1) := by decide +kernel
theorem dX4_keep_224 : decode cX4_keep 224 = .ok (.putfield 49, 3) := by decide +kernel
theorem dX4_keep_227 : decode cX4_keep 227 = .ok (.aload 5, 2) := by decide +kernel
theorem dX4_keep_229 : decode cX4_keep 229 = .ok (.iload_n 3, 1) := by decide +kernel
theorem dX4_keep_230 : decode cX4_keep 230 = .ok (.putfield 37, 3) := by decide +kernel
theorem dX4_keep_233 : decode cX4_keep 233 = .ok (.aload 5, 2) := by decide +kernel
theorem dX4_keep_235 : decode cX4_keep 235 = .ok (.iload 4, 2) := by decide +kernel
theorem dX4_keep_237 : decode cX4_keep 237 = .ok (.putfield 34, 3) := by decide +kernel
theorem dX4_keep_240 : decode cX4_keep 240 = .ok (.aload 5, 2) := by decide +kernel
theorem dX4_keep_242 : decode cX4_keep 242 = .ok (.areturn, 1) := by decide +kernel
theorem dX4_release_0 : decode cX4_release 0 = .ok (.aload_n 1, 1) := by decide +kernel
theorem dX4_release_1 : decode cX4_release 1 = .ok (.dup, 1) := by decide +kernel
theorem dX4_release_2 : decode cX4_release 2 = .ok (.getfield 52, 3) := by decide +kernel
theorem dX4_release_5 : decode cX4_release 5 = .ok (.iconst 1, 1) := by decide +kernel
theorem dX4_release_6 : decode cX4_release 6 = .ok (.isub, 1) := by decide +kernel
theorem dX4_release_7 : decode cX4_release 7 = .ok (.putfield 52, 3) := by decide +kernel
theorem dX4_release_10 : decode cX4_release 10 = .ok (.aload_n 1, 1) := by decide +kernel
theorem dX4_release_11 : decode cX4_release 11 = .ok (.getfield 52, 3) := by decide +kernel
theorem dX4_release_14 : decode cX4_release 14 = .ok (.ifCond .le 4, 3) := by decide +kernel
theorem dX4_release_17 : decode cX4_release 17 = .ok (.return_, 1) := by decide +kernel
theorem dX4_release_18 : decode cX4_release 18 = .ok (.aload_n 1, 1) := by decide +kernel
theorem dX4_release_19 : decode cX4_release 19 = .ok (.getfield 34, 3) := by decide +kernel
theorem dX4_release_22 : decode cX4_release 22 = .ok (.bipush 10, 2) := by decide +kernel
theorem dX4_release_24 : decode cX4_release 24 = .ok (.if_icmp .ne 19, 3) := by decide +kernel
theorem dX4_release_27 : decode cX4_release 27 = .ok (.aload_n 0, 1) := by decide +kernel
theorem dX4_release_28 : decode cX4_release 28 = .ok (.dup, 1) := by decide +kernel
theorem dX4_release_29 : decode cX4_release 29 = .ok (.getfield 22, 3) := by decide +kernel
theorem dX4_release_32 : decode cX4_release 32 = .ok (.aload_n 1, 1) := by decide +kernel
theorem dX4_release_33 : decode cX4_release 33 = .ok (.getfield 37, 3) := by decide +kernel
theorem dX4_release_36 : decode cX4_release 36 = .ok (.isub, 1) := by decide +kernel
theorem dX4_release_37 : decode cX4_release 37 = .ok (.putfield 22, 3) := by decide +kernel
theorem dX4_release_40 : decode cX4_release 40 = .ok (.goto 29, 3) := by decide +kernel
theorem dX4_release_43 : decode cX4_release 43 = .ok (.aload_n 1, 1) := by decide +kernel
theorem dX4_release_44 : decode cX4_release 44 = .ok (.getfield 34, 3) := by decide +kernel
theorem dX4_release_47 : decode cX4_release 47 = .ok (.ifCond .lt 22, 3) := by decide +kernel
theorem dX4_release_50 : decode cX4_release 50 = .ok (.aload_n 1, 1) := by decide +kernel
theorem dX4_release_51 : decode cX4_release 51 = .ok (.getfield 34, 3) := by decide +kernel
theorem dX4_release_54 : decode cX4_release 54 = .ok (.bipush 10, 2) := by decide +kernel
theorem dX4_release_56 : decode cX4_release 56 = .ok (.if_icmp .ge 13, 3) := by decide +kernel
theorem dX4_release_59 : decode cX4_release 59 = .ok (.aload_n 0, 1) := by decide +kernel
theorem dX4_release_60 : decode cX4_release 60 = .ok (.getfield 17, 3) := by decide +kernel
theorem dX4_release_63 : decode cX4_release 63 = .ok (.aload_n 1, 1) := by decide +kernel
theorem dX4_release_64 : decode cX4_release 64 = .ok (.getfield 34, 3) := by decide +kernel
theorem dX4_release_67 : decode cX4_release 67 = .ok (.iconst 0, 1) := by decide +kernel
theorem dX4_release_68 : decode cX4_release 68 = .ok (.bastore, 1) := by decide +kernel
theorem dX4_release_69 : decode cX4_release 69 = .ok (.return_, 1) := by decide +kernel
theorem dX4_placesTaken_0 : decode cX4_placesTaken 0 = .ok (.iconst 0, 1) := by decide +kernel
theorem dX4_placesTaken_1 : decode cX4_placesTaken 1 = .ok (.istore_n 1, 1) := by decide +kernel
theorem dX4_placesTaken_2 : decode cX4_placesTaken 2 = .ok (.aload_n 0, 1) := by decide +kernel
theorem dX4_placesTaken_3 : decode cX4_placesTaken 3 = .ok (.getfield 17, 3) := by decide +kernel
theorem dX4_placesTaken_6 : decode cX4_placesTaken 6 = .ok (.astore_n 2, 1) := by decide +kernel
theorem dX4_placesTaken_7 : decode cX4_placesTaken 7 = .ok (.aload_n 2, 1) := by decide +kernel
theorem dX4_placesTaken_8 : decode cX4_placesTaken 8 = .ok (.arraylength, 1) := by decide +kernel
theorem dX4_placesTaken_9 : decode cX4_placesTaken 9 = .ok (.istore_n 3, 1) := by decide +kernel
theorem dX4_placesTaken_10 : decode cX4_placesTaken 10 = .ok (.iconst 0, 1) := by decide +kernel
theorem dX4_placesTaken_11 : decode cX4_placesTaken 11 = .ok (.istore 4, 2) := by decide +kernel
theorem dX4_placesTaken_13 : decode cX4_placesTaken 13 = .ok (.iload 4, 2) := by decide +kernel
theorem dX4_placesTaken_15 : decode cX4_placesTaken 15 = .ok (.iload_n 3, 1) := by decide +kernel
theorem dX4_placesTaken_16 : decode cX4_placesTaken 16 = .ok (.if_icmp .ge 28, 3) := by decide +kernel
theorem dX4_placesTaken_19 : decode cX4_placesTaken 19 = .ok (.aload_n 2, 1) := by decide +kernel
theorem dX4_placesTaken_20 : decode cX4_placesTaken 20 = .ok (.iload 4, 2) := by decide +kernel
theorem dX4_placesTaken_22 : decode cX4_placesTaken 22 = .ok (.baload, 1) := by decide +kernel
theorem dX4_placesTaken_23 : decode cX4_placesTaken 23 = .ok (.istore 5, 2) := by decide +kernel
theorem dX4_placesTaken_25 : decode cX4_placesTaken 25 = .ok (.iload_n 1, 1) := by decide +kernel
theorem dX4_placesTaken_26 : decode cX4_placesTaken 26 = .ok (.iload 5, 2) := by decide +kernel
theorem dX4_placesTaken_28 : decode cX4_placesTaken 28 = .ok (.ifCond .eq 7, 3) := by decide +kernel
theorem dX4_placesTaken_31 : decode cX4_placesTaken 31 = .ok (.iconst 1, 1) := by decide +kernel
theorem dX4_placesTaken_32 : decode cX4_placesTaken 32 = .ok (.goto 4, 3) := by decide +kernel
theorem dX4_placesTaken_35 : decode cX4_placesTaken 35 = .ok (.iconst 0, 1) := by decide +kernel
theorem dX4_placesTaken_36 : decode cX4_placesTaken 36 = .ok (.iadd, 1) := by decide +kernel
theorem dX4_placesTaken_37 : decode cX4_placesTaken 37 = .ok (.istore_n 1, 1) := by decide +kernel
theorem dX4_placesTaken_38 : decode cX4_placesTaken 38 = .ok (.iinc 4 1, 3) := by decide +kernel
theorem dX4_placesTaken_41 : decode cX4_placesTaken 41 = .ok (.goto (-28), 3) := by decide +kernel
theorem dX4_placesTaken_44 : decode cX4_placesTaken 44 = .ok (.iload_n 1, 1) := by decide +kernel
theorem dX4_placesTaken_45 : decode cX4_placesTaken 45 = .ok (.ireturn, 1) := by decide +kernel
theorem dX4_unused_0 : decode cX4_unused 0 = .ok (.aload_n 0, 1) := by decide +kernel
theorem dX4_unused_1 : decode cX4_unused 1 = .ok (.getfield 13, 3) := by decide +kernel
theorem dX4_unused_4 : decode cX4_unused 4 = .ok (.astore_n 1, 1) := by decide +kernel
theorem dX4_unused_5 : decode cX4_unused 5 = .ok (.aload_n 1, 1) := by decide +kernel
theorem dX4_unused_6 : decode cX4_unused 6 = .ok (.arraylength, 1) := by decide +kernel
theorem dX4_unused_7 : decode cX4_unused 7 = .ok (.istore_n 2, 1) := by decide +kernel
theorem dX4_unused_8 : decode cX4_unused 8 = .ok (.iconst 0, 1) := by decide +kernel
theorem dX4_unused_9 : decode cX4_unused 9 = .ok (.istore_n 3, 1) := by decide +kernel
theorem dX4_unused_10 : decode cX4_unused 10 = .ok (.iload_n 3, 1) := by decide +kernel
theorem dX4_unused_11 : decode cX4_unused 11 = .ok (.iload_n 2, 1) := by decide +kernel
theorem dX4_unused_12 : decode cX4_unused 12 = .ok (.if_icmp .ge 25, 3) := by decide +kernel
theorem dX4_unused_15 : decode cX4_unused 15 = .ok (.aload_n 1, 1) := by decide +kernel
theorem dX4_unused_16 : decode cX4_unused 16 = .ok (.iload_n 3, 1) := by decide +kernel
theorem dX4_unused_17 : decode cX4_unused 17 = .ok (.aaload, 1) := by decide +kernel
theorem dX4_unused_18 : decode cX4_unused 18 = .ok (.astore 4, 2) := by decide +kernel
theorem dX4_unused_20 : decode cX4_unused 20 = .ok (.aload 4, 2) := by decide +kernel
theorem dX4_unused_22 : decode cX4_unused 22 = .ok (.getfield 52, 3) := by decide +kernel
theorem dX4_unused_25 : decode cX4_unused 25 = .ok (.ifCond .ne 6, 3) := by decide +kernel
theorem dX4_unused_28 : decode cX4_unused 28 = .ok (.aload 4, 2) := by decide +kernel
theorem dX4_unused_30 : decode cX4_unused 30 = .ok (.areturn, 1) := by decide +kernel
theorem dX4_unused_31 : decode cX4_unused 31 = .ok (.iinc 3 1, 3) := by decide +kernel
theorem dX4_unused_34 : decode cX4_unused 34 = .ok (.goto (-24), 3) := by decide +kernel
theorem dX4_unused_37 : decode cX4_unused 37 = .ok (.aconst_null, 1) := by decide +kernel
theorem dX4_unused_38 : decode cX4_unused 38 = .ok (.areturn, 1) := by decide +kernel
theorem dX4_oldestStored_0 : decode cX4_oldestStored 0 = .ok (.aconst_null, 1) := by decide +kernel
theorem dX4_oldestStored_1 : decode cX4_oldestStored 1 = .ok (.astore_n 1, 1) := by decide +kernel
theorem dX4_oldestStored_2 : decode cX4_oldestStored 2 = .ok (.aload_n 0, 1) := by decide +kernel
theorem dX4_oldestStored_3 : decode cX4_oldestStored 3 = .ok (.getfield 13, 3) := by decide +kernel
theorem dX4_oldestStored_6 : decode cX4_oldestStored 6 = .ok (.astore_n 2, 1) := by decide +kernel
theorem dX4_oldestStored_7 : decode cX4_oldestStored 7 = .ok (.aload_n 2, 1) := by decide +kernel
theorem dX4_oldestStored_8 : decode cX4_oldestStored 8 = .ok (.arraylength, 1) := by decide +kernel
theorem dX4_oldestStored_9 : decode cX4_oldestStored 9 = .ok (.istore_n 3, 1) := by decide +kernel
theorem dX4_oldestStored_10 : decode cX4_oldestStored 10 = .ok (.iconst 0, 1) := by decide +kernel
theorem dX4_oldestStored_11 : decode cX4_oldestStored 11 = .ok (.istore 4, 2) := by decide +kernel
theorem dX4_oldestStored_13 : decode cX4_oldestStored 13 = .ok (.iload 4, 2) := by decide +kernel
theorem dX4_oldestStored_15 : decode cX4_oldestStored 15 = .ok (.iload_n 3, 1) := by decide +kernel
theorem dX4_oldestStored_16 : decode cX4_oldestStored 16 = .ok (.if_icmp .ge 64, 3) := by decide +kernel
theorem dX4_oldestStored_19 : decode cX4_oldestStored 19 = .ok (.aload_n 2, 1) := by decide +kernel
theorem dX4_oldestStored_20 : decode cX4_oldestStored 20 = .ok (.iload 4, 2) := by decide +kernel
theorem dX4_oldestStored_22 : decode cX4_oldestStored 22 = .ok (.aaload, 1) := by decide +kernel
theorem dX4_oldestStored_23 : decode cX4_oldestStored 23 = .ok (.astore 5, 2) := by decide +kernel
theorem dX4_oldestStored_25 : decode cX4_oldestStored 25 = .ok (.aload 5, 2) := by decide +kernel
theorem dX4_oldestStored_27 : decode cX4_oldestStored 27 = .ok (.getfield 52, 3) := by decide +kernel
theorem dX4_oldestStored_30 : decode cX4_oldestStored 30 = .ok (.ifCond .le 17, 3) := by decide +kernel
theorem dX4_oldestStored_33 : decode cX4_oldestStored 33 = .ok (.aload 5, 2) := by decide +kernel
theorem dX4_oldestStored_35 : decode cX4_oldestStored 35 = .ok (.getfield 34, 3) := by decide +kernel
theorem dX4_oldestStored_38 : decode cX4_oldestStored 38 = .ok (.bipush 10, 2) := by decide +kernel
theorem dX4_oldestStored_40 : decode cX4_oldestStored 40 = .ok (.if_icmp .ne 7, 3) := by decide +kernel
theorem dX4_oldestStored_43 : decode cX4_oldestStored 43 = .ok (.iconst 1, 1) := by decide +kernel
theorem dX4_oldestStored_44 : decode cX4_oldestStored 44 = .ok (.goto 4, 3) := by decide +kernel
theorem dX4_oldestStored_47 : decode cX4_oldestStored 47 = .ok (.iconst 0, 1) := by decide +kernel
theorem dX4_oldestStored_48 : decode cX4_oldestStored 48 = .ok (.istore 6, 2) := by decide +kernel
theorem dX4_oldestStored_50 : decode cX4_oldestStored 50 = .ok (.iload 6, 2) := by decide +kernel
theorem dX4_oldestStored_52 : decode cX4_oldestStored 52 = .ok (.ifCond .eq 22, 3) := by decide +kernel
theorem dX4_oldestStored_55 : decode cX4_oldestStored 55 = .ok (.aload_n 1, 1) := by decide +kernel
theorem dX4_oldestStored_56 : decode cX4_oldestStored 56 = .ok (.ifnull 15, 3) := by decide +kernel
theorem dX4_oldestStored_59 : decode cX4_oldestStored 59 = .ok (.aload 5, 2) := by decide +kernel
theorem dX4_oldestStored_61 : decode cX4_oldestStored 61 = .ok (.getfield 46, 3) := by decide +kernel
theorem dX4_oldestStored_64 : decode cX4_oldestStored 64 = .ok (.aload_n 1, 1) := by decide +kernel
theorem dX4_oldestStored_65 : decode cX4_oldestStored 65 = .ok (.getfield 46, 3) := by decide +kernel
theorem dX4_oldestStored_68 : decode cX4_oldestStored 68 = .ok (.if_icmp .ge 6, 3) := by decide +kernel
theorem dX4_oldestStored_71 : decode cX4_oldestStored 71 = .ok (.aload 5, 2) := by decide +kernel
theorem dX4_oldestStored_73 : decode cX4_oldestStored 73 = .ok (.astore_n 1, 1) := by decide +kernel
theorem dX4_oldestStored_74 : decode cX4_oldestStored 74 = .ok (.iinc 4 1, 3) := by decide +kernel
theorem dX4_oldestStored_77 : decode cX4_oldestStored 77 = .ok (.goto (-64), 3) := by decide +kernel
theorem dX4_oldestStored_80 : decode cX4_oldestStored 80 = .ok (.aload_n 1, 1) := by decide +kernel
theorem dX4_oldestStored_81 : decode cX4_oldestStored 81 = .ok (.areturn, 1) := by decide +kernel
theorem dX4_freePlace_0 : decode cX4_freePlace 0 = .ok (.iconst 0, 1) := by decide +kernel
theorem dX4_freePlace_1 : decode cX4_freePlace 1 = .ok (.istore_n 1, 1) := by decide +kernel
theorem dX4_freePlace_2 : decode cX4_freePlace 2 = .ok (.iload_n 1, 1) := by decide +kernel
theorem dX4_freePlace_3 : decode cX4_freePlace 3 = .ok (.bipush 10, 2) := by decide +kernel
theorem dX4_freePlace_5 : decode cX4_freePlace 5 = .ok (.if_icmp .ge 20, 3) := by decide +kernel
theorem dX4_freePlace_8 : decode cX4_freePlace 8 = .ok (.aload_n 0, 1) := by decide +kernel
theorem dX4_freePlace_9 : decode cX4_freePlace 9 = .ok (.getfield 17, 3) := by decide +kernel
theorem dX4_freePlace_12 : decode cX4_freePlace 12 = .ok (.iload_n 1, 1) := by decide +kernel
theorem dX4_freePlace_13 : decode cX4_freePlace 13 = .ok (.baload, 1) := by decide +kernel
theorem dX4_freePlace_14 : decode cX4_freePlace 14 = .ok (.ifCond .ne 5, 3) := by decide +kernel
theorem dX4_freePlace_17 : decode cX4_freePlace 17 = .ok (.iload_n 1, 1) := by decide +kernel
theorem dX4_freePlace_18 : decode cX4_freePlace 18 = .ok (.ireturn, 1) := by decide +kernel
theorem dX4_freePlace_19 : decode cX4_freePlace 19 = .ok (.iinc 1 1, 3) := by decide +kernel
theorem dX4_freePlace_22 : decode cX4_freePlace 22 = .ok (.goto (-20), 3) := by decide +kernel
theorem dX4_freePlace_25 : decode cX4_freePlace 25 = .ok (.iconst (-1), 1) := by decide +kernel
theorem dX4_freePlace_26 : decode cX4_freePlace 26 = .ok (.ireturn, 1) := by decide +kernel
theorem dX5_init_0 : decode cX5_init 0 = .ok (.aload_n 0, 1) := by decide +kernel
theorem dX5_init_1 : decode cX5_init 1 = .ok (.invokespecial 3, 3) := by decide +kernel
theorem dX5_init_4 : decode cX5_init 4 = .ok (.aload_n 0, 1) := by decide +kernel
theorem dX5_init_5 : decode cX5_init 5 = .ok (.bipush 32, 2) := by decide +kernel
theorem dX5_init_7 : decode cX5_init 7 = .ok (.anewarray 9, 3) := by decide +kernel
theorem dX5_init_10 : decode cX5_init 10 = .ok (.putfield 11, 3) := by decide +kernel
theorem dX5_init_13 : decode cX5_init 13 = .ok (.aload_n 0, 1) := by decide +kernel
theorem dX5_init_14 : decode cX5_init 14 = .ok (.iload_n 1, 1) := by decide +kernel
theorem dX5_init_15 : decode cX5_init 15 = .ok (.putfield 17, 3) := by decide +kernel
theorem dX5_init_18 : decode cX5_init 18 = .ok (.iconst 0, 1) := by decide +kernel
theorem dX5_init_19 : decode cX5_init 19 = .ok (.istore_n 2, 1) := by decide +kernel
theorem dX5_init_20 : decode cX5_init 20 = .ok (.iload_n 2, 1) := by decide +kernel
theorem dX5_init_21 : decode cX5_init 21 = .ok (.bipush 32, 2) := by decide +kernel
theorem dX5_init_23 : decode cX5_init 23 = .ok (.if_icmp .ge 30, 3) := by decide +kernel
theorem dX5_init_26 : decode cX5_init 26 = .ok (.aload_n 0, 1) := by decide +kernel
theorem dX5_init_27 : decode cX5_init 27 = .ok (.getfield 11, 3) := by decide +kernel
theorem dX5_init_30 : decode cX5_init 30 = .ok (.iload_n 2, 1) := by decide +kernel
theorem dX5_init_31 : decode cX5_init 31 = .ok (.new 9, 3) := by decide +kernel
theorem dX5_init_34 : decode cX5_init 34 = .ok (.dup, 1) := by decide +kernel
theorem dX5_init_35 : decode cX5_init 35 = .ok (.iload_n 1, 1) := by decide +kernel
theorem dX5_init_36 : decode cX5_init 36 = .ok (.bipush 32, 2) := by decide +kernel
theorem dX5_init_38 : decode cX5_init 38 = .ok (.imul, 1) := by decide +kernel
theorem dX5_init_39 : decode cX5_init 39 = .ok (.iload_n 2, 1) := by decide +kernel
theorem dX5_init_40 : decode cX5_init 40 = .ok (.iadd, 1) := by decide +kernel
theorem dX5_init_41 : decode cX5_init 41 = .ok (.iconst 4, 1) := by decide +kernel
theorem dX5_init_42 : decode cX5_init 42 = .ok (.idiv, 1) := by decide +kernel
theorem dX5_init_43 : decode cX5_init 43 = .ok (.invokespecial 21, 3) := by decide +kernel
theorem dX5_init_46 : decode cX5_init 46 = .ok (.aastore, 1) := by decide +kernel
theorem dX5_init_47 : decode cX5_init 47 = .ok (.iinc 2 1, 3) := by decide +kernel
theorem dX5_init_50 : decode cX5_init 50 = .ok (.goto (-30), 3) := by decide +kernel
theorem dX5_init_53 : decode cX5_init 53 = .ok (.return_, 1) := by decide +kernel
theorem dX5_isScanned_0 : decode cX5_isScanned 0 = .ok (.aload_n 0, 1) := by decide +kernel
theorem dX5_isScanned_1 : decode cX5_isScanned 1 = .ok (.getfield 24, 3) := by decide +kernel
theorem dX5_isScanned_4 : decode cX5_isScanned 4 = .ok (.ifCond .eq 14, 3) := by decide +kernel
theorem dX5_isScanned_7 : decode cX5_isScanned 7 = .ok (.aload_n 0, 1) := by decide +kernel
theorem dX5_isScanned_8 : decode cX5_isScanned 8 = .ok (.getfield 28, 3) := by decide +kernel
theorem dX5_isScanned_11 : decode cX5_isScanned 11 = .ok (.ifCond .eq 7, 3) := by decide +kernel
theorem dX5_isScanned_14 : decode cX5_isScanned 14 = .ok (.iconst 1, 1) := by decide +kernel
theorem dX5_isScanned_15 : decode cX5_isScanned 15 = .ok (.goto 4, 3) := by decide +kernel
theorem dX5_isScanned_18 : decode cX5_isScanned 18 = .ok (.iconst 0, 1) := by decide +kernel
theorem dX5_isScanned_19 : decode cX5_isScanned 19 = .ok (.ireturn, 1) := by decide +kernel
theorem dX5_mapped_0 : decode cX5_mapped 0 = .ok (.iconst 0, 1) := by decide +kernel
theorem dX5_mapped_1 : decode cX5_mapped 1 = .ok (.istore_n 3, 1) := by decide +kernel
theorem dX5_mapped_2 : decode cX5_mapped 2 = .ok (.iload_n 1, 1) := by decide +kernel
theorem dX5_mapped_3 : decode cX5_mapped 3 = .ok (.istore 4, 2) := by decide +kernel
theorem dX5_mapped_5 : decode cX5_mapped 5 = .ok (.iload 4, 2) := by decide +kernel
theorem dX5_mapped_7 : decode cX5_mapped 7 = .ok (.ifCond .lt 45, 3) := by decide +kernel
theorem dX5_mapped_10 : decode cX5_mapped 10 = .ok (.iload 4, 2) := by decide +kernel
theorem dX5_mapped_12 : decode cX5_mapped 12 = .ok (.iload_n 1, 1) := by decide +kernel
theorem dX5_mapped_13 : decode cX5_mapped 13 = .ok (.iload_n 2, 1) := by decide +kernel
theorem dX5_mapped_14 : decode cX5_mapped 14 = .ok (.iadd, 1) := by decide +kernel
theorem dX5_mapped_15 : decode cX5_mapped 15 = .ok (.if_icmp .ge 37, 3) := by decide +kernel
theorem dX5_mapped_18 : decode cX5_mapped 18 = .ok (.iload 4, 2) := by decide +kernel
theorem dX5_mapped_20 : decode cX5_mapped 20 = .ok (.bipush 32, 2) := by decide +kernel
theorem dX5_mapped_22 : decode cX5_mapped 22 = .ok (.if_icmp .ge 30, 3) := by decide +kernel
theorem dX5_mapped_25 : decode cX5_mapped 25 = .ok (.iload_n 3, 1) := by decide +kernel
theorem dX5_mapped_26 : decode cX5_mapped 26 = .ok (.aload_n 0, 1) := by decide +kernel
theorem dX5_mapped_27 : decode cX5_mapped 27 = .ok (.getfield 11, 3) := by decide +kernel
theorem dX5_mapped_30 : decode cX5_mapped 30 = .ok (.iload 4, 2) := by decide +kernel
theorem dX5_mapped_32 : decode cX5_mapped 32 = .ok (.aaload, 1) := by decide +kernel
theorem dX5_mapped_33 : decode cX5_mapped 33 = .ok (.getfield 31, 3) := by decide +kernel
theorem dX5_mapped_36 : decode cX5_mapped 36 = .ok (.ifCond .eq 7, 3) := by decide +kernel
theorem dX5_mapped_39 : decode cX5_mapped 39 = .ok (.iconst 1, 1) := by decide +kernel
theorem dX5_mapped_40 : decode cX5_mapped 40 = .ok (.goto 4, 3) := by decide +kernel
theorem dX5_mapped_43 : decode cX5_mapped 43 = .ok (.iconst 0, 1) := by decide +kernel
theorem dX5_mapped_44 : decode cX5_mapped 44 = .ok (.iadd, 1) := by decide +kernel
theorem dX5_mapped_45 : decode cX5_mapped 45 = .ok (.istore_n 3, 1) := by decide +kernel
theorem dX5_mapped_46 : decode cX5_mapped 46 = .ok (.iinc 4 1, 3) := by decide +kernel
theorem dX5_mapped_49 : decode cX5_mapped 49 = .ok (.goto (-44), 3) := by decide +kernel
theorem dX5_mapped_52 : decode cX5_mapped 52 = .ok (.iload_n 3, 1) := by decide +kernel
theorem dX5_mapped_53 : decode cX5_mapped 53 = .ok (.ireturn, 1) := by decide +kernel
theorem dX5_regions_0 : decode cX5_regions 0 = .ok (.iconst 0, 1) := by decide +kernel
theorem dX5_regions_1 : decode cX5_regions 1 = .ok (.istore_n 1, 1) := by decide +kernel
theorem dX5_regions_2 : decode cX5_regions 2 = .ok (.iconst 0, 1) := by decide +kernel
theorem dX5_regions_3 : decode cX5_regions 3 = .ok (.istore_n 2, 1) := by decide +kernel
theorem dX5_regions_4 : decode cX5_regions 4 = .ok (.iload_n 2, 1) := by decide +kernel
theorem dX5_regions_5 : decode cX5_regions 5 = .ok (.bipush 32, 2) := by decide +kernel
theorem dX5_regions_7 : decode cX5_regions 7 = .ok (.if_icmp .ge 63, 3) := by decide +kernel
theorem dX5_regions_10 : decode cX5_regions 10 = .ok (.iload_n 2, 1) := by decide +kernel
theorem dX5_regions_11 : decode cX5_regions 11 = .ok (.ifCond .eq 23, 3) := by decide +kernel
theorem dX5_regions_14 : decode cX5_regions 14 = .ok (.aload_n 0, 1) := by decide +kernel
theorem dX5_regions_15 : decode cX5_regions 15 = .ok (.getfield 11, 3) := by decide +kernel
theorem dX5_regions_18 : decode cX5_regions 18 = .ok (.iload_n 2, 1) := by decide +kernel
theorem dX5_regions_19 : decode cX5_regions 19 = .ok (.aaload, 1) := by decide +kernel
theorem dX5_regions_20 : decode cX5_regions 20 = .ok (.aload_n 0, 1) := by decide +kernel
theorem dX5_regions_21 : decode cX5_regions 21 = .ok (.getfield 11, 3) := by decide +kernel
theorem dX5_regions_24 : decode cX5_regions 24 = .ok (.iload_n 2, 1) := by decide +kernel
theorem dX5_regions_25 : decode cX5_regions 25 = .ok (.iconst 1, 1) := by decide +kernel
theorem dX5_regions_26 : decode cX5_regions 26 = .ok (.isub, 1) := by decide +kernel
theorem dX5_regions_27 : decode cX5_regions 27 = .ok (.aaload, 1) := by decide +kernel
theorem dX5_regions_28 : decode cX5_regions 28 = .ok (.invokevirtual 34, 3) := by decide +kernel
theorem dX5_regions_31 : decode cX5_regions 31 = .ok (.ifCond .ne 7, 3) := by decide +kernel
theorem dX5_regions_34 : decode cX5_regions 34 = .ok (.iconst 1, 1) := by decide +kernel
theorem dX5_regions_35 : decode cX5_regions 35 = .ok (.goto 4, 3) := by decide +kernel
theorem dX5_regions_38 : decode cX5_regions 38 = .ok (.iconst 0, 1) := by decide +kernel
theorem dX5_regions_39 : decode cX5_regions 39 = .ok (.istore_n 3, 1) := by decide +kernel
theorem dX5_regions_40 : decode cX5_regions 40 = .ok (.iload_n 1, 1) := by decide +kernel
theorem dX5_regions_41 : decode cX5_regions 41 = .ok (.aload_n 0, 1) := by decide +kernel
theorem dX5_regions_42 : decode cX5_regions 42 = .ok (.getfield 11, 3) := by decide +kernel
theorem dX5_regions_45 : decode cX5_regions 45 = .ok (.iload_n 2, 1) := by decide +kernel
theorem dX5_regions_46 : decode cX5_regions 46 = .ok (.aaload, 1) := by decide +kernel
theorem dX5_regions_47 : decode cX5_regions 47 = .ok (.getfield 31, 3) := by decide +kernel
theorem dX5_regions_50 : decode cX5_regions 50 = .ok (.ifCond .eq 11, 3) := by decide +kernel
theorem dX5_regions_53 : decode cX5_regions 53 = .ok (.iload_n 3, 1) := by decide +kernel
theorem dX5_regions_54 : decode cX5_regions 54 = .ok (.ifCond .eq 7, 3) := by decide +kernel
theorem dX5_regions_57 : decode cX5_regions 57 = .ok (.iconst 1, 1) := by decide +kernel
theorem dX5_regions_58 : decode cX5_regions 58 = .ok (.goto 4, 3) := by decide +kernel
theorem dX5_regions_61 : decode cX5_regions 61 = .ok (.iconst 0, 1) := by decide +kernel
theorem dX5_regions_62 : decode cX5_regions 62 = .ok (.iadd, 1) := by decide +kernel
theorem dX5_regions_63 : decode cX5_regions 63 = .ok (.istore_n 1, 1) := by decide +kernel
theorem dX5_regions_64 : decode cX5_regions 64 = .ok (.iinc 2 1, 3) := by decide +kernel
theorem dX5_regions_67 : decode cX5_regions 67 = .ok (.goto (-63), 3) := by decide +kernel
theorem dX5_regions_70 : decode cX5_regions 70 = .ok (.iload_n 1, 1) := by decide +kernel
theorem dX5_regions_71 : decode cX5_regions 71 = .ok (.ireturn, 1) := by decide +kernel
theorem dX5_having_0 : decode cX5_having 0 = .ok (.iconst 0, 1) := by decide +kernel
theorem dX5_having_1 : decode cX5_having 1 = .ok (.istore_n 2, 1) := by decide +kernel
theorem dX5_having_2 : decode cX5_having 2 = .ok (.aload_n 0, 1) := by decide +kernel
theorem dX5_having_3 : decode cX5_having 3 = .ok (.getfield 11, 3) := by decide +kernel
theorem dX5_having_6 : decode cX5_having 6 = .ok (.astore_n 3, 1) := by decide +kernel
theorem dX5_having_7 : decode cX5_having 7 = .ok (.aload_n 3, 1) := by decide +kernel
theorem dX5_having_8 : decode cX5_having 8 = .ok (.arraylength, 1) := by decide +kernel
theorem dX5_having_9 : decode cX5_having 9 = .ok (.istore 4, 2) := by decide +kernel
theorem dX5_having_11 : decode cX5_having 11 = .ok (.iconst 0, 1) := by decide +kernel
theorem dX5_having_12 : decode cX5_having 12 = .ok (.istore 5, 2) := by decide +kernel
theorem dX5_having_14 : decode cX5_having 14 = .ok (.iload 5, 2) := by decide +kernel
theorem dX5_having_16 : decode cX5_having 16 = .ok (.iload 4, 2) := by decide +kernel
theorem dX5_having_18 : decode cX5_having 18 = .ok (.if_icmp .ge 40, 3) := by decide +kernel
theorem dX5_having_21 : decode cX5_having 21 = .ok (.aload_n 3, 1) := by decide +kernel
theorem dX5_having_22 : decode cX5_having 22 = .ok (.iload 5, 2) := by decide +kernel
theorem dX5_having_24 : decode cX5_having 24 = .ok (.aaload, 1) := by decide +kernel
theorem dX5_having_25 : decode cX5_having 25 = .ok (.astore 6, 2) := by decide +kernel
theorem dX5_having_27 : decode cX5_having 27 = .ok (.iload_n 2, 1) := by decide +kernel
theorem dX5_having_28 : decode cX5_having 28 = .ok (.aload 6, 2) := by decide +kernel
theorem dX5_having_30 : decode cX5_having 30 = .ok (.getfield 31, 3) := by decide +kernel
theorem dX5_having_33 : decode cX5_having 33 = .ok (.ifCond .eq 16, 3) := by decide +kernel
theorem dX5_having_36 : decode cX5_having 36 = .ok (.aload 6, 2) := by decide +kernel
theorem dX5_having_38 : decode cX5_having 38 = .ok (.getfield 38, 3) := by decide +kernel
theorem dX5_having_41 : decode cX5_having 41 = .ok (.iload_n 1, 1) := by decide +kernel
theorem dX5_having_42 : decode cX5_having 42 = .ok (.if_icmp .ne 7, 3) := by decide +kernel
theorem dX5_having_45 : decode cX5_having 45 = .ok (.iconst 1, 1) := by decide +kernel
theorem dX5_having_46 : decode cX5_having 46 = .ok (.goto 4, 3) := by decide +kernel
theorem dX5_having_49 : decode cX5_having 49 = .ok (.iconst 0, 1) := by decide +kernel
theorem dX5_having_50 : decode cX5_having 50 = .ok (.iadd, 1) := by decide +kernel
theorem dX5_having_51 : decode cX5_having 51 = .ok (.istore_n 2, 1) := by decide +kernel
theorem dX5_having_52 : decode cX5_having 52 = .ok (.iinc 5 1, 3) := by decide +kernel
theorem dX5_having_55 : decode cX5_having 55 = .ok (.goto (-41), 3) := by decide +kernel
theorem dX5_having_58 : decode cX5_having 58 = .ok (.iload_n 2, 1) := by decide +kernel
theorem dX5_having_59 : decode cX5_having 59 = .ok (.ireturn, 1) := by decide +kernel
theorem dX5_score_0 : decode cX5_score 0 = .ok (.aload_n 0, 1) := by decide +kernel
theorem dX5_score_1 : decode cX5_score 1 = .ok (.iconst 1, 1) := by decide +kernel
theorem dX5_score_2 : decode cX5_score 2 = .ok (.invokevirtual 41, 3) := by decide +kernel
theorem dX5_score_5 : decode cX5_score 5 = .ok (.aload_n 0, 1) := by decide +kernel
theorem dX5_score_6 : decode cX5_score 6 = .ok (.iconst 2, 1) := by decide +kernel
theorem dX5_score_7 : decode cX5_score 7 = .ok (.invokevirtual 41, 3) := by decide +kernel
theorem dX5_score_10 : decode cX5_score 10 = .ok (.iadd, 1) := by decide +kernel
theorem dX5_score_11 : decode cX5_score 11 = .ok (.aload_n 0, 1) := by decide +kernel
theorem dX5_score_12 : decode cX5_score 12 = .ok (.getfield 45, 3) := by decide +kernel
theorem dX5_score_15 : decode cX5_score 15 = .ok (.iadd, 1) := by decide +kernel
theorem dX5_score_16 : decode cX5_score 16 = .ok (.ireturn, 1) := by decide +kernel
theorem dX5_grow_0 : decode cX5_grow 0 = .ok (.iload_n 1, 1) := by decide +kernel
theorem dX5_grow_1 : decode cX5_grow 1 = .ok (.ifCond .lt 11, 3) := by decide +kernel
theorem dX5_grow_4 : decode cX5_grow 4 = .ok (.iload_n 1, 1) := by decide +kernel
theorem dX5_grow_5 : decode cX5_grow 5 = .ok (.iconst 1, 1) := by decide +kernel
theorem dX5_grow_6 : decode cX5_grow 6 = .ok (.iadd, 1) := by decide +kernel
theorem dX5_grow_7 : decode cX5_grow 7 = .ok (.bipush 32, 2) := by decide +kernel
theorem dX5_grow_9 : decode cX5_grow 9 = .ok (.if_icmp .lt 5, 3) := by decide +kernel
theorem dX5_grow_12 : decode cX5_grow 12 = .ok (.iconst 0, 1) := by decide +kernel
theorem dX5_grow_13 : decode cX5_grow 13 = .ok (.ireturn, 1) := by decide +kernel
theorem dX5_grow_14 : decode cX5_grow 14 = .ok (.aload_n 0, 1) := by decide +kernel
theorem dX5_grow_15 : decode cX5_grow 15 = .ok (.getfield 11, 3) := by decide +kernel
theorem dX5_grow_18 : decode cX5_grow 18 = .ok (.iload_n 1, 1) := by decide +kernel
theorem dX5_grow_19 : decode cX5_grow 19 = .ok (.iconst 1, 1) := by decide +kernel
theorem dX5_grow_20 : decode cX5_grow 20 = .ok (.iadd, 1) := by decide +kernel
theorem dX5_grow_21 : decode cX5_grow 21 = .ok (.aaload, 1) := by decide +kernel
theorem dX5_grow_22 : decode cX5_grow 22 = .ok (.astore_n 2, 1) := by decide +kernel
theorem dX5_grow_23 : decode cX5_grow 23 = .ok (.iload_n 1, 1) := by decide +kernel
theorem dX5_grow_24 : decode cX5_grow 24 = .ok (.ifCond .le 21, 3) := by decide +kernel
theorem dX5_grow_27 : decode cX5_grow 27 = .ok (.aload_n 0, 1) := by decide +kernel
theorem dX5_grow_28 : decode cX5_grow 28 = .ok (.getfield 11, 3) := by decide +kernel
theorem dX5_grow_31 : decode cX5_grow 31 = .ok (.iload_n 1, 1) := by decide +kernel
theorem dX5_grow_32 : decode cX5_grow 32 = .ok (.iconst 1, 1) := by decide +kernel
theorem dX5_grow_33 : decode cX5_grow 33 = .ok (.isub, 1) := by decide +kernel
theorem dX5_grow_34 : decode cX5_grow 34 = .ok (.aaload, 1) := by decide +kernel
theorem dX5_grow_35 : decode cX5_grow 35 = .ok (.getfield 31, 3) := by decide +kernel
theorem dX5_grow_38 : decode cX5_grow 38 = .ok (.ifCond .eq 7, 3) := by decide +kernel
theorem dX5_grow_41 : decode cX5_grow 41 = .ok (.iconst 1, 1) := by decide +kernel
theorem dX5_grow_42 : decode cX5_grow 42 = .ok (.goto 4, 3) := by decide +kernel
theorem dX5_grow_45 : decode cX5_grow 45 = .ok (.iconst 0, 1) := by decide +kernel
theorem dX5_grow_46 : decode cX5_grow 46 = .ok (.istore_n 3, 1) := by decide +kernel
theorem dX5_grow_47 : decode cX5_grow 47 = .ok (.aload_n 2, 1) := by decide +kernel
theorem dX5_grow_48 : decode cX5_grow 48 = .ok (.getfield 31, 3) := by decide +kernel
theorem dX5_grow_51 : decode cX5_grow 51 = .ok (.ifCond .eq 29, 3) := by decide +kernel
theorem dX5_grow_54 : decode cX5_grow 54 = .ok (.aload_n 2, 1) := by decide +kernel
theorem dX5_grow_55 : decode cX5_grow 55 = .ok (.getfield 48, 3) := by decide +kernel
theorem dX5_grow_58 : decode cX5_grow 58 = .ok (.ifCond .eq 22, 3) := by decide +kernel
theorem dX5_grow_61 : decode cX5_grow 61 = .ok (.iload_n 3, 1) := by decide +kernel
theorem dX5_grow_62 : decode cX5_grow 62 = .ok (.ifCond .ne 18, 3) := by decide +kernel
theorem dX5_grow_65 : decode cX5_grow 65 = .ok (.aload_n 2, 1) := by decide +kernel
theorem dX5_grow_66 : decode cX5_grow 66 = .ok (.getfield 51, 3) := by decide +kernel
theorem dX5_grow_69 : decode cX5_grow 69 = .ok (.iconst (-1), 1) := by decide +kernel
theorem dX5_grow_70 : decode cX5_grow 70 = .ok (.if_icmp .eq 12, 3) := by decide +kernel
theorem dX5_grow_73 : decode cX5_grow 73 = .ok (.aload_n 2, 1) := by decide +kernel
theorem dX5_grow_74 : decode cX5_grow 74 = .ok (.getfield 54, 3) := by decide +kernel
theorem dX5_grow_77 : decode cX5_grow 77 = .ok (.ifCond .ne 5, 3) := by decide +kernel
theorem dX5_grow_80 : decode cX5_grow 80 = .ok (.iconst 0, 1) := by decide +kernel
theorem dX5_grow_81 : decode cX5_grow 81 = .ok (.ireturn, 1) := by decide +kernel
theorem dX5_grow_82 : decode cX5_grow 82 = .ok (.aload_n 0, 1) := by decide +kernel
theorem dX5_grow_83 : decode cX5_grow 83 = .ok (.getfield 11, 3) := by decide +kernel
theorem dX5_grow_86 : decode cX5_grow 86 = .ok (.iload_n 1, 1) := by decide +kernel
theorem dX5_grow_87 : decode cX5_grow 87 = .ok (.aaload, 1) := by decide +kernel
theorem dX5_grow_88 : decode cX5_grow 88 = .ok (.aload_n 2, 1) := by decide +kernel
theorem dX5_grow_89 : decode cX5_grow 89 = .ok (.getfield 57, 3) := by decide +kernel
theorem dX5_grow_92 : decode cX5_grow 92 = .ok (.aload_n 2, 1) := by decide +kernel
theorem dX5_grow_93 : decode cX5_grow 93 = .ok (.getfield 51, 3) := by decide +kernel
theorem dX5_grow_96 : decode cX5_grow 96 = .ok (.aload_n 2, 1) := by decide +kernel
theorem dX5_grow_97 : decode cX5_grow 97 = .ok (.getfield 54, 3) := by decide +kernel
theorem dX5_grow_100 : decode cX5_grow 100 = .ok (.iconst 1, 1) := by decide +kernel
theorem dX5_grow_101 : decode cX5_grow 101 = .ok (.isub, 1) := by decide +kernel
theorem dX5_grow_102 : decode cX5_grow 102 = .ok (.aload_n 2, 1) := by decide +kernel
theorem dX5_grow_103 : decode cX5_grow 103 = .ok (.getfield 60, 3) := by decide +kernel
theorem dX5_grow_106 : decode cX5_grow 106 = .ok (.iconst 1, 1) := by decide +kernel
theorem dX5_grow_107 : decode cX5_grow 107 = .ok (.invokevirtual 63, 3) := by decide +kernel
theorem dX5_grow_110 : decode cX5_grow 110 = .ok (.iconst 1, 1) := by decide +kernel
theorem dX5_grow_111 : decode cX5_grow 111 = .ok (.ireturn, 1) := by decide +kernel
theorem dX6_init_0 : decode cX6_init 0 = .ok (.aload_n 0, 1) := by decide +kernel
theorem dX6_init_1 : decode cX6_init 1 = .ok (.invokespecial 1, 3) := by decide +kernel
theorem dX6_init_4 : decode cX6_init 4 = .ok (.return_, 1) := by decide +kernel
