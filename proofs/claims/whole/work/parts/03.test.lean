theorem dX0_init_0 : decode cX0_init 0 = .ok (.aload_n 0, 1) := by decide +kernel
theorem dX0_init_1 : decode cX0_init 1 = .ok (.invokespecial 5, 3) := by decide +kernel
theorem dX0_init_4 : decode cX0_init 4 = .ok (.aload_n 0, 1) := by decide +kernel
theorem dX0_init_5 : decode cX0_init 5 = .ok (.bipush 23, 2) := by decide +kernel
theorem dX0_init_7 : decode cX0_init 7 = .ok (.newarray .int, 2) := by decide +kernel
theorem dX0_init_9 : decode cX0_init 9 = .ok (.putfield 11, 3) := by decide +kernel
theorem dX0_init_12 : decode cX0_init 12 = .ok (.aload_n 0, 1) := by decide +kernel
theorem dX0_init_13 : decode cX0_init 13 = .ok (.aload_n 1, 1) := by decide +kernel
theorem dX0_init_14 : decode cX0_init 14 = .ok (.putfield 15, 3) := by decide +kernel
theorem dX0_init_17 : decode cX0_init 17 = .ok (.return_, 1) := by decide +kernel
theorem dX0_sewAllAsTold_0 : decode cX0_sewAllAsTold 0 = .ok (.iconst 0, 1) := by decide +kernel
theorem dX0_sewAllAsTold_1 : decode cX0_sewAllAsTold 1 = .ok (.istore_n 1, 1) := by decide +kernel
theorem dX0_sewAllAsTold_2 : decode cX0_sewAllAsTold 2 = .ok (.iload_n 1, 1) := by decide +kernel
theorem dX0_sewAllAsTold_3 : decode cX0_sewAllAsTold 3 = .ok (.bipush 10, 2) := by decide +kernel
theorem dX0_sewAllAsTold_5 : decode cX0_sewAllAsTold 5 = .ok (.if_icmp .ge 34, 3) := by decide +kernel
theorem dX0_sewAllAsTold_8 : decode cX0_sewAllAsTold 8 = .ok (.aload_n 0, 1) := by decide +kernel
theorem dX0_sewAllAsTold_9 : decode cX0_sewAllAsTold 9 = .ok (.getfield 11, 3) := by decide +kernel
theorem dX0_sewAllAsTold_12 : decode cX0_sewAllAsTold 12 = .ok (.iload_n 1, 1) := by decide +kernel
theorem dX0_sewAllAsTold_13 : decode cX0_sewAllAsTold 13 = .ok (.iconst 0, 1) := by decide +kernel
theorem dX0_sewAllAsTold_14 : decode cX0_sewAllAsTold 14 = .ok (.iastore, 1) := by decide +kernel
theorem dX0_sewAllAsTold_15 : decode cX0_sewAllAsTold 15 = .ok (.aload_n 0, 1) := by decide +kernel
theorem dX0_sewAllAsTold_16 : decode cX0_sewAllAsTold 16 = .ok (.getfield 11, 3) := by decide +kernel
theorem dX0_sewAllAsTold_19 : decode cX0_sewAllAsTold 19 = .ok (.bipush 10, 2) := by decide +kernel
theorem dX0_sewAllAsTold_21 : decode cX0_sewAllAsTold 21 = .ok (.iload_n 1, 1) := by decide +kernel
theorem dX0_sewAllAsTold_22 : decode cX0_sewAllAsTold 22 = .ok (.iadd, 1) := by decide +kernel
theorem dX0_sewAllAsTold_23 : decode cX0_sewAllAsTold 23 = .ok (.aload_n 0, 1) := by decide +kernel
theorem dX0_sewAllAsTold_24 : decode cX0_sewAllAsTold 24 = .ok (.getfield 15, 3) := by decide +kernel
theorem dX0_sewAllAsTold_27 : decode cX0_sewAllAsTold 27 = .ok (.getfield 19, 3) := by decide +kernel
theorem dX0_sewAllAsTold_30 : decode cX0_sewAllAsTold 30 = .ok (.iload_n 1, 1) := by decide +kernel
theorem dX0_sewAllAsTold_31 : decode cX0_sewAllAsTold 31 = .ok (.iaload, 1) := by decide +kernel
theorem dX0_sewAllAsTold_32 : decode cX0_sewAllAsTold 32 = .ok (.iastore, 1) := by decide +kernel
theorem dX0_sewAllAsTold_33 : decode cX0_sewAllAsTold 33 = .ok (.iinc 1 1, 3) := by decide +kernel
theorem dX0_sewAllAsTold_36 : decode cX0_sewAllAsTold 36 = .ok (.goto (-34), 3) := by decide +kernel
theorem dX0_sewAllAsTold_39 : decode cX0_sewAllAsTold 39 = .ok (.aload_n 0, 1) := by decide +kernel
theorem dX0_sewAllAsTold_40 : decode cX0_sewAllAsTold 40 = .ok (.getfield 11, 3) := by decide +kernel
theorem dX0_sewAllAsTold_43 : decode cX0_sewAllAsTold 43 = .ok (.bipush 20, 2) := by decide +kernel
theorem dX0_sewAllAsTold_45 : decode cX0_sewAllAsTold 45 = .ok (.iconst 0, 1) := by decide +kernel
theorem dX0_sewAllAsTold_46 : decode cX0_sewAllAsTold 46 = .ok (.iastore, 1) := by decide +kernel
theorem dX0_sewAllAsTold_47 : decode cX0_sewAllAsTold 47 = .ok (.aload_n 0, 1) := by decide +kernel
theorem dX0_sewAllAsTold_48 : decode cX0_sewAllAsTold 48 = .ok (.getfield 11, 3) := by decide +kernel
theorem dX0_sewAllAsTold_51 : decode cX0_sewAllAsTold 51 = .ok (.bipush 21, 2) := by decide +kernel
theorem dX0_sewAllAsTold_53 : decode cX0_sewAllAsTold 53 = .ok (.aload_n 0, 1) := by decide +kernel
theorem dX0_sewAllAsTold_54 : decode cX0_sewAllAsTold 54 = .ok (.getfield 15, 3) := by decide +kernel
theorem dX0_sewAllAsTold_57 : decode cX0_sewAllAsTold 57 = .ok (.getfield 24, 3) := by decide +kernel
theorem dX0_sewAllAsTold_60 : decode cX0_sewAllAsTold 60 = .ok (.iastore, 1) := by decide +kernel
theorem dX0_sewAllAsTold_61 : decode cX0_sewAllAsTold 61 = .ok (.aload_n 0, 1) := by decide +kernel
theorem dX0_sewAllAsTold_62 : decode cX0_sewAllAsTold 62 = .ok (.getfield 11, 3) := by decide +kernel
theorem dX0_sewAllAsTold_65 : decode cX0_sewAllAsTold 65 = .ok (.bipush 22, 2) := by decide +kernel
theorem dX0_sewAllAsTold_67 : decode cX0_sewAllAsTold 67 = .ok (.iconst 0, 1) := by decide +kernel
theorem dX0_sewAllAsTold_68 : decode cX0_sewAllAsTold 68 = .ok (.iastore, 1) := by decide +kernel
theorem dX0_sewAllAsTold_69 : decode cX0_sewAllAsTold 69 = .ok (.return_, 1) := by decide +kernel
theorem dX0_stateOf_0 : decode cX0_stateOf 0 = .ok (.aload_n 0, 1) := by decide +kernel
theorem dX0_stateOf_1 : decode cX0_stateOf 1 = .ok (.getfield 11, 3) := by decide +kernel
theorem dX0_stateOf_4 : decode cX0_stateOf 4 = .ok (.iload_n 1, 1) := by decide +kernel
theorem dX0_stateOf_5 : decode cX0_stateOf 5 = .ok (.iaload, 1) := by decide +kernel
theorem dX0_stateOf_6 : decode cX0_stateOf 6 = .ok (.ireturn, 1) := by decide +kernel
theorem dX0_threadOf_0 : decode cX0_threadOf 0 = .ok (.aload_n 0, 1) := by decide +kernel
theorem dX0_threadOf_1 : decode cX0_threadOf 1 = .ok (.getfield 11, 3) := by decide +kernel
theorem dX0_threadOf_4 : decode cX0_threadOf 4 = .ok (.bipush 10, 2) := by decide +kernel
theorem dX0_threadOf_6 : decode cX0_threadOf 6 = .ok (.iload_n 1, 1) := by decide +kernel
theorem dX0_threadOf_7 : decode cX0_threadOf 7 = .ok (.iadd, 1) := by decide +kernel
theorem dX0_threadOf_8 : decode cX0_threadOf 8 = .ok (.iaload, 1) := by decide +kernel
theorem dX0_threadOf_9 : decode cX0_threadOf 9 = .ok (.ireturn, 1) := by decide +kernel
theorem dX0_today_0 : decode cX0_today 0 = .ok (.aload_n 0, 1) := by decide +kernel
theorem dX0_today_1 : decode cX0_today 1 = .ok (.getfield 11, 3) := by decide +kernel
theorem dX0_today_4 : decode cX0_today 4 = .ok (.bipush 20, 2) := by decide +kernel
theorem dX0_today_6 : decode cX0_today 6 = .ok (.iaload, 1) := by decide +kernel
theorem dX0_today_7 : decode cX0_today 7 = .ok (.ireturn, 1) := by decide +kernel
theorem dX0_seed_0 : decode cX0_seed 0 = .ok (.aload_n 0, 1) := by decide +kernel
theorem dX0_seed_1 : decode cX0_seed 1 = .ok (.getfield 11, 3) := by decide +kernel
theorem dX0_seed_4 : decode cX0_seed 4 = .ok (.bipush 21, 2) := by decide +kernel
theorem dX0_seed_6 : decode cX0_seed 6 = .ok (.iaload, 1) := by decide +kernel
theorem dX0_seed_7 : decode cX0_seed 7 = .ok (.ireturn, 1) := by decide +kernel
theorem dX0_cuts_0 : decode cX0_cuts 0 = .ok (.aload_n 0, 1) := by decide +kernel
theorem dX0_cuts_1 : decode cX0_cuts 1 = .ok (.getfield 11, 3) := by decide +kernel
theorem dX0_cuts_4 : decode cX0_cuts 4 = .ok (.bipush 22, 2) := by decide +kernel
theorem dX0_cuts_6 : decode cX0_cuts 6 = .ok (.iaload, 1) := by decide +kernel
theorem dX0_cuts_7 : decode cX0_cuts 7 = .ok (.ireturn, 1) := by decide +kernel
theorem dX0_isOn_0 : decode cX0_isOn 0 = .ok (.aload_n 0, 1) := by decide +kernel
theorem dX0_isOn_1 : decode cX0_isOn 1 = .ok (.getfield 11, 3) := by decide +kernel
theorem dX0_isOn_4 : decode cX0_isOn 4 = .ok (.iload_n 1, 1) := by decide +kernel
theorem dX0_isOn_5 : decode cX0_isOn 5 = .ok (.iaload, 1) := by decide +kernel
theorem dX0_isOn_6 : decode cX0_isOn 6 = .ok (.ifCond .ne 7, 3) := by decide +kernel
theorem dX0_isOn_9 : decode cX0_isOn 9 = .ok (.iconst 1, 1) := by decide +kernel
theorem dX0_isOn_10 : decode cX0_isOn 10 = .ok (.goto 4, 3) := by decide +kernel
theorem dX0_isOn_13 : decode cX0_isOn 13 = .ok (.iconst 0, 1) := by decide +kernel
theorem dX0_isOn_14 : decode cX0_isOn 14 = .ok (.ireturn, 1) := by decide +kernel
theorem dX0_isOnMan_0 : decode cX0_isOnMan 0 = .ok (.aload_n 0, 1) := by decide +kernel
theorem dX0_isOnMan_1 : decode cX0_isOnMan 1 = .ok (.getfield 11, 3) := by decide +kernel
theorem dX0_isOnMan_4 : decode cX0_isOnMan 4 = .ok (.iload_n 1, 1) := by decide +kernel
theorem dX0_isOnMan_5 : decode cX0_isOnMan 5 = .ok (.iaload, 1) := by decide +kernel
theorem dX0_isOnMan_6 : decode cX0_isOnMan 6 = .ok (.ifCond .ne 20, 3) := by decide +kernel
theorem dX0_isOnMan_9 : decode cX0_isOnMan 9 = .ok (.aload_n 0, 1) := by decide +kernel
theorem dX0_isOnMan_10 : decode cX0_isOnMan 10 = .ok (.getfield 15, 3) := by decide +kernel
theorem dX0_isOnMan_13 : decode cX0_isOnMan 13 = .ok (.getfield 28, 3) := by decide +kernel
theorem dX0_isOnMan_16 : decode cX0_isOnMan 16 = .ok (.iload_n 1, 1) := by decide +kernel
theorem dX0_isOnMan_17 : decode cX0_isOnMan 17 = .ok (.iaload, 1) := by decide +kernel
theorem dX0_isOnMan_18 : decode cX0_isOnMan 18 = .ok (.iload_n 2, 1) := by decide +kernel
theorem dX0_isOnMan_19 : decode cX0_isOnMan 19 = .ok (.if_icmp .ne 7, 3) := by decide +kernel
theorem dX0_isOnMan_22 : decode cX0_isOnMan 22 = .ok (.iconst 1, 1) := by decide +kernel
theorem dX0_isOnMan_23 : decode cX0_isOnMan 23 = .ok (.goto 4, 3) := by decide +kernel
theorem dX0_isOnMan_26 : decode cX0_isOnMan 26 = .ok (.iconst 0, 1) := by decide +kernel
theorem dX0_isOnMan_27 : decode cX0_isOnMan 27 = .ok (.ireturn, 1) := by decide +kernel
theorem dX0_waits_0 : decode cX0_waits 0 = .ok (.aload_n 0, 1) := by decide +kernel
theorem dX0_waits_1 : decode cX0_waits 1 = .ok (.getfield 15, 3) := by decide +kernel
theorem dX0_waits_4 : decode cX0_waits 4 = .ok (.getfield 31, 3) := by decide +kernel
theorem dX0_waits_7 : decode cX0_waits 7 = .ok (.iload_n 1, 1) := by decide +kernel
theorem dX0_waits_8 : decode cX0_waits 8 = .ok (.iaload, 1) := by decide +kernel
theorem dX0_waits_9 : decode cX0_waits 9 = .ok (.istore_n 2, 1) := by decide +kernel
theorem dX0_waits_10 : decode cX0_waits 10 = .ok (.aload_n 0, 1) := by decide +kernel
theorem dX0_waits_11 : decode cX0_waits 11 = .ok (.getfield 15, 3) := by decide +kernel
theorem dX0_waits_14 : decode cX0_waits 14 = .ok (.iload_n 2, 1) := by decide +kernel
theorem dX0_waits_15 : decode cX0_waits 15 = .ok (.invokevirtual 34, 3) := by decide +kernel
theorem dX0_waits_18 : decode cX0_waits 18 = .ok (.ifCond .eq 15, 3) := by decide +kernel
theorem dX0_waits_21 : decode cX0_waits 21 = .ok (.aload_n 0, 1) := by decide +kernel
theorem dX0_waits_22 : decode cX0_waits 22 = .ok (.iload_n 2, 1) := by decide +kernel
theorem dX0_waits_23 : decode cX0_waits 23 = .ok (.invokevirtual 38, 3) := by decide +kernel
theorem dX0_waits_26 : decode cX0_waits 26 = .ok (.ifCond .eq 7, 3) := by decide +kernel
theorem dX0_waits_29 : decode cX0_waits 29 = .ok (.iconst 1, 1) := by decide +kernel
theorem dX0_waits_30 : decode cX0_waits 30 = .ok (.goto 4, 3) := by decide +kernel
theorem dX0_waits_33 : decode cX0_waits 33 = .ok (.iconst 0, 1) := by decide +kernel
theorem dX0_waits_34 : decode cX0_waits 34 = .ok (.ireturn, 1) := by decide +kernel
theorem dX0_doDeed_0 : decode cX0_doDeed 0 = .ok (.iconst 0, 1) := by decide +kernel
theorem dX0_doDeed_1 : decode cX0_doDeed 1 = .ok (.istore_n 3, 1) := by decide +kernel
theorem dX0_doDeed_2 : decode cX0_doDeed 2 = .ok (.iconst 0, 1) := by decide +kernel
theorem dX0_doDeed_3 : decode cX0_doDeed 3 = .ok (.istore 4, 2) := by decide +kernel
theorem dX0_doDeed_5 : decode cX0_doDeed 5 = .ok (.iconst 0, 1) := by decide +kernel
theorem dX0_doDeed_6 : decode cX0_doDeed 6 = .ok (.istore 5, 2) := by decide +kernel
theorem dX0_doDeed_8 : decode cX0_doDeed 8 = .ok (.iload 5, 2) := by decide +kernel
theorem dX0_doDeed_10 : decode cX0_doDeed 10 = .ok (.aload_n 0, 1) := by decide +kernel
theorem dX0_doDeed_11 : decode cX0_doDeed 11 = .ok (.getfield 15, 3) := by decide +kernel
theorem dX0_doDeed_14 : decode cX0_doDeed 14 = .ok (.getfield 41, 3) := by decide +kernel
theorem dX0_doDeed_17 : decode cX0_doDeed 17 = .ok (.if_icmp .ge 72, 3) := by decide +kernel
theorem dX0_doDeed_20 : decode cX0_doDeed 20 = .ok (.aload_n 0, 1) := by decide +kernel
theorem dX0_doDeed_21 : decode cX0_doDeed 21 = .ok (.iload 5, 2) := by decide +kernel
theorem dX0_doDeed_23 : decode cX0_doDeed 23 = .ok (.iload_n 1, 1) := by decide +kernel
theorem dX0_doDeed_24 : decode cX0_doDeed 24 = .ok (.invokevirtual 44, 3) := by decide +kernel
theorem dX0_doDeed_27 : decode cX0_doDeed 27 = .ok (.ifCond .eq 56, 3) := by decide +kernel
theorem dX0_doDeed_30 : decode cX0_doDeed 30 = .ok (.aload_n 0, 1) := by decide +kernel
theorem dX0_doDeed_31 : decode cX0_doDeed 31 = .ok (.getfield 15, 3) := by decide +kernel
theorem dX0_doDeed_34 : decode cX0_doDeed 34 = .ok (.getfield 48, 3) := by decide +kernel
theorem dX0_doDeed_37 : decode cX0_doDeed 37 = .ok (.iload 5, 2) := by decide +kernel
theorem dX0_doDeed_39 : decode cX0_doDeed 39 = .ok (.iaload, 1) := by decide +kernel
theorem dX0_doDeed_40 : decode cX0_doDeed 40 = .ok (.iload_n 2, 1) := by decide +kernel
theorem dX0_doDeed_41 : decode cX0_doDeed 41 = .ok (.if_icmp .ne 42, 3) := by decide +kernel
theorem dX0_doDeed_44 : decode cX0_doDeed 44 = .ok (.aload_n 0, 1) := by decide +kernel
theorem dX0_doDeed_45 : decode cX0_doDeed 45 = .ok (.getfield 15, 3) := by decide +kernel
theorem dX0_doDeed_48 : decode cX0_doDeed 48 = .ok (.getfield 51, 3) := by decide +kernel
theorem dX0_doDeed_51 : decode cX0_doDeed 51 = .ok (.iload 5, 2) := by decide +kernel
theorem dX0_doDeed_53 : decode cX0_doDeed 53 = .ok (.iaload, 1) := by decide +kernel
theorem dX0_doDeed_54 : decode cX0_doDeed 54 = .ok (.iconst 1, 1) := by decide +kernel
theorem dX0_doDeed_55 : decode cX0_doDeed 55 = .ok (.if_icmp .ne 17, 3) := by decide +kernel
theorem dX0_doDeed_58 : decode cX0_doDeed 58 = .ok (.aload_n 0, 1) := by decide +kernel
theorem dX0_doDeed_59 : decode cX0_doDeed 59 = .ok (.getfield 11, 3) := by decide +kernel
theorem dX0_doDeed_62 : decode cX0_doDeed 62 = .ok (.iload 5, 2) := by decide +kernel
theorem dX0_doDeed_64 : decode cX0_doDeed 64 = .ok (.iconst 1, 1) := by decide +kernel
theorem dX0_doDeed_65 : decode cX0_doDeed 65 = .ok (.iastore, 1) := by decide +kernel
theorem dX0_doDeed_66 : decode cX0_doDeed 66 = .ok (.iinc 3 1, 3) := by decide +kernel
theorem dX0_doDeed_69 : decode cX0_doDeed 69 = .ok (.goto 14, 3) := by decide +kernel
theorem dX0_doDeed_72 : decode cX0_doDeed 72 = .ok (.aload_n 0, 1) := by decide +kernel
theorem dX0_doDeed_73 : decode cX0_doDeed 73 = .ok (.getfield 11, 3) := by decide +kernel
theorem dX0_doDeed_76 : decode cX0_doDeed 76 = .ok (.iload 5, 2) := by decide +kernel
theorem dX0_doDeed_78 : decode cX0_doDeed 78 = .ok (.iconst 3, 1) := by decide +kernel
theorem dX0_doDeed_79 : decode cX0_doDeed 79 = .ok (.iastore, 1) := by decide +kernel
theorem dX0_doDeed_80 : decode cX0_doDeed 80 = .ok (.iinc 4 1, 3) := by decide +kernel
theorem dX0_doDeed_83 : decode cX0_doDeed 83 = .ok (.iinc 5 1, 3) := by decide +kernel
theorem dX0_doDeed_86 : decode cX0_doDeed 86 = .ok (.goto (-78), 3) := by decide +kernel
theorem dX0_doDeed_89 : decode cX0_doDeed 89 = .ok (.bipush 100, 2) := by decide +kernel
theorem dX0_doDeed_91 : decode cX0_doDeed 91 = .ok (.iload_n 3, 1) := by decide +kernel
theorem dX0_doDeed_92 : decode cX0_doDeed 92 = .ok (.imul, 1) := by decide +kernel
theorem dX0_doDeed_93 : decode cX0_doDeed 93 = .ok (.iload 4, 2) := by decide +kernel
theorem dX0_doDeed_95 : decode cX0_doDeed 95 = .ok (.iadd, 1) := by decide +kernel
theorem dX0_doDeed_96 : decode cX0_doDeed 96 = .ok (.ireturn, 1) := by decide +kernel
theorem dX0_unbutton_0 : decode cX0_unbutton 0 = .ok (.aload_n 0, 1) := by decide +kernel
theorem dX0_unbutton_1 : decode cX0_unbutton 1 = .ok (.getfield 11, 3) := by decide +kernel
theorem dX0_unbutton_4 : decode cX0_unbutton 4 = .ok (.iload_n 1, 1) := by decide +kernel
theorem dX0_unbutton_5 : decode cX0_unbutton 5 = .ok (.iconst 2, 1) := by decide +kernel
theorem dX0_unbutton_6 : decode cX0_unbutton 6 = .ok (.iastore, 1) := by decide +kernel
theorem dX0_unbutton_7 : decode cX0_unbutton 7 = .ok (.return_, 1) := by decide +kernel
theorem dX0_cutOff_0 : decode cX0_cutOff 0 = .ok (.aload_n 0, 1) := by decide +kernel
theorem dX0_cutOff_1 : decode cX0_cutOff 1 = .ok (.getfield 11, 3) := by decide +kernel
theorem dX0_cutOff_4 : decode cX0_cutOff 4 = .ok (.iload_n 1, 1) := by decide +kernel
theorem dX0_cutOff_5 : decode cX0_cutOff 5 = .ok (.iconst 2, 1) := by decide +kernel
theorem dX0_cutOff_6 : decode cX0_cutOff 6 = .ok (.iastore, 1) := by decide +kernel
theorem dX0_cutOff_7 : decode cX0_cutOff 7 = .ok (.aload_n 0, 1) := by decide +kernel
theorem dX0_cutOff_8 : decode cX0_cutOff 8 = .ok (.getfield 11, 3) := by decide +kernel
theorem dX0_cutOff_11 : decode cX0_cutOff 11 = .ok (.bipush 22, 2) := by decide +kernel
theorem dX0_cutOff_13 : decode cX0_cutOff 13 = .ok (.dup2, 1) := by decide +kernel
theorem dX0_cutOff_14 : decode cX0_cutOff 14 = .ok (.iaload, 1) := by decide +kernel
theorem dX0_cutOff_15 : decode cX0_cutOff 15 = .ok (.iconst 1, 1) := by decide +kernel
theorem dX0_cutOff_16 : decode cX0_cutOff 16 = .ok (.iadd, 1) := by decide +kernel
theorem dX0_cutOff_17 : decode cX0_cutOff 17 = .ok (.iastore, 1) := by decide +kernel
theorem dX0_cutOff_18 : decode cX0_cutOff 18 = .ok (.return_, 1) := by decide +kernel
theorem dX0_sewAnew_0 : decode cX0_sewAnew 0 = .ok (.aload_n 0, 1) := by decide +kernel
theorem dX0_sewAnew_1 : decode cX0_sewAnew 1 = .ok (.getfield 11, 3) := by decide +kernel
theorem dX0_sewAnew_4 : decode cX0_sewAnew 4 = .ok (.iload_n 1, 1) := by decide +kernel
theorem dX0_sewAnew_5 : decode cX0_sewAnew 5 = .ok (.iconst 0, 1) := by decide +kernel
theorem dX0_sewAnew_6 : decode cX0_sewAnew 6 = .ok (.iastore, 1) := by decide +kernel
theorem dX0_sewAnew_7 : decode cX0_sewAnew 7 = .ok (.aload_n 0, 1) := by decide +kernel
theorem dX0_sewAnew_8 : decode cX0_sewAnew 8 = .ok (.getfield 11, 3) := by decide +kernel
theorem dX0_sewAnew_11 : decode cX0_sewAnew 11 = .ok (.bipush 10, 2) := by decide +kernel
theorem dX0_sewAnew_13 : decode cX0_sewAnew 13 = .ok (.iload_n 1, 1) := by decide +kernel
theorem dX0_sewAnew_14 : decode cX0_sewAnew 14 = .ok (.iadd, 1) := by decide +kernel
theorem dX0_sewAnew_15 : decode cX0_sewAnew 15 = .ok (.aload_n 0, 1) := by decide +kernel
theorem dX0_sewAnew_16 : decode cX0_sewAnew 16 = .ok (.getfield 15, 3) := by decide +kernel
theorem dX0_sewAnew_19 : decode cX0_sewAnew 19 = .ok (.getfield 19, 3) := by decide +kernel
theorem dX0_sewAnew_22 : decode cX0_sewAnew 22 = .ok (.iload_n 1, 1) := by decide +kernel
theorem dX0_sewAnew_23 : decode cX0_sewAnew 23 = .ok (.iaload, 1) := by decide +kernel
theorem dX0_sewAnew_24 : decode cX0_sewAnew 24 = .ok (.iastore, 1) := by decide +kernel
theorem dX0_sewAnew_25 : decode cX0_sewAnew 25 = .ok (.return_, 1) := by decide +kernel
theorem dX0_passDay_0 : decode cX0_passDay 0 = .ok (.aload_n 0, 1) := by decide +kernel
theorem dX0_passDay_1 : decode cX0_passDay 1 = .ok (.invokevirtual 54, 3) := by decide +kernel
theorem dX0_passDay_4 : decode cX0_passDay 4 = .ok (.invokestatic 58, 3) := by decide +kernel
theorem dX0_passDay_7 : decode cX0_passDay 7 = .ok (.istore_n 1, 1) := by decide +kernel
theorem dX0_passDay_8 : decode cX0_passDay 8 = .ok (.aload_n 0, 1) := by decide +kernel
theorem dX0_passDay_9 : decode cX0_passDay 9 = .ok (.iload_n 1, 1) := by decide +kernel
theorem dX0_passDay_10 : decode cX0_passDay 10 = .ok (.invokevirtual 62, 3) := by decide +kernel
theorem dX0_passDay_13 : decode cX0_passDay 13 = .ok (.istore_n 2, 1) := by decide +kernel
theorem dX0_passDay_14 : decode cX0_passDay 14 = .ok (.iconst 0, 1) := by decide +kernel
theorem dX0_passDay_15 : decode cX0_passDay 15 = .ok (.istore_n 3, 1) := by decide +kernel
theorem dX0_passDay_16 : decode cX0_passDay 16 = .ok (.iconst 0, 1) := by decide +kernel
theorem dX0_passDay_17 : decode cX0_passDay 17 = .ok (.istore 4, 2) := by decide +kernel
theorem dX0_passDay_19 : decode cX0_passDay 19 = .ok (.iload 4, 2) := by decide +kernel
theorem dX0_passDay_21 : decode cX0_passDay 21 = .ok (.aload_n 0, 1) := by decide +kernel
theorem dX0_passDay_22 : decode cX0_passDay 22 = .ok (.getfield 15, 3) := by decide +kernel
theorem dX0_passDay_25 : decode cX0_passDay 25 = .ok (.getfield 41, 3) := by decide +kernel
theorem dX0_passDay_28 : decode cX0_passDay 28 = .ok (.if_icmp .ge 84, 3) := by decide +kernel
theorem dX0_passDay_31 : decode cX0_passDay 31 = .ok (.aload_n 0, 1) := by decide +kernel
theorem dX0_passDay_32 : decode cX0_passDay 32 = .ok (.iload 4, 2) := by decide +kernel
theorem dX0_passDay_34 : decode cX0_passDay 34 = .ok (.invokevirtual 38, 3) := by decide +kernel
theorem dX0_passDay_37 : decode cX0_passDay 37 = .ok (.ifCond .eq 69, 3) := by decide +kernel
theorem dX0_passDay_40 : decode cX0_passDay 40 = .ok (.aload_n 0, 1) := by decide +kernel
theorem dX0_passDay_41 : decode cX0_passDay 41 = .ok (.iload 4, 2) := by decide +kernel
theorem dX0_passDay_43 : decode cX0_passDay 43 = .ok (.aload_n 0, 1) := by decide +kernel
theorem dX0_passDay_44 : decode cX0_passDay 44 = .ok (.iload 4, 2) := by decide +kernel
theorem dX0_passDay_46 : decode cX0_passDay 46 = .ok (.invokevirtual 65, 3) := by decide +kernel
theorem dX0_passDay_49 : decode cX0_passDay 49 = .ok (.iload_n 2, 1) := by decide +kernel
theorem dX0_passDay_50 : decode cX0_passDay 50 = .ok (.aload_n 0, 1) := by decide +kernel
theorem dX0_passDay_51 : decode cX0_passDay 51 = .ok (.invokevirtual 68, 3) := by decide +kernel
theorem dX0_passDay_54 : decode cX0_passDay 54 = .ok (.invokevirtual 71, 3) := by decide +kernel
theorem dX0_passDay_57 : decode cX0_passDay 57 = .ok (.istore 5, 2) := by decide +kernel
theorem dX0_passDay_59 : decode cX0_passDay 59 = .ok (.aload_n 0, 1) := by decide +kernel
theorem dX0_passDay_60 : decode cX0_passDay 60 = .ok (.getfield 11, 3) := by decide +kernel
theorem dX0_passDay_63 : decode cX0_passDay 63 = .ok (.bipush 10, 2) := by decide +kernel
theorem dX0_passDay_65 : decode cX0_passDay 65 = .ok (.iload 4, 2) := by decide +kernel
theorem dX0_passDay_67 : decode cX0_passDay 67 = .ok (.iadd, 1) := by decide +kernel
theorem dX0_passDay_68 : decode cX0_passDay 68 = .ok (.iload 5, 2) := by decide +kernel
theorem dX0_passDay_70 : decode cX0_passDay 70 = .ok (.iastore, 1) := by decide +kernel
theorem dX0_passDay_71 : decode cX0_passDay 71 = .ok (.aload_n 0, 1) := by decide +kernel
theorem dX0_passDay_72 : decode cX0_passDay 72 = .ok (.getfield 11, 3) := by decide +kernel
theorem dX0_passDay_75 : decode cX0_passDay 75 = .ok (.iload 4, 2) := by decide +kernel
theorem dX0_passDay_77 : decode cX0_passDay 77 = .ok (.aload_n 0, 1) := by decide +kernel
theorem dX0_passDay_78 : decode cX0_passDay 78 = .ok (.iload 4, 2) := by decide +kernel
theorem dX0_passDay_80 : decode cX0_passDay 80 = .ok (.iload 5, 2) := by decide +kernel
theorem dX0_passDay_82 : decode cX0_passDay 82 = .ok (.aload_n 0, 1) := by decide +kernel
theorem dX0_passDay_83 : decode cX0_passDay 83 = .ok (.invokevirtual 68, 3) := by decide +kernel
theorem dX0_passDay_86 : decode cX0_passDay 86 = .ok (.iconst 1, 1) := by decide +kernel
theorem dX0_passDay_87 : decode cX0_passDay 87 = .ok (.iadd, 1) := by decide +kernel
theorem dX0_passDay_88 : decode cX0_passDay 88 = .ok (.invokevirtual 75, 3) := by decide +kernel
theorem dX0_passDay_91 : decode cX0_passDay 91 = .ok (.iastore, 1) := by decide +kernel
theorem dX0_passDay_92 : decode cX0_passDay 92 = .ok (.aload_n 0, 1) := by decide +kernel
theorem dX0_passDay_93 : decode cX0_passDay 93 = .ok (.getfield 11, 3) := by decide +kernel
theorem dX0_passDay_96 : decode cX0_passDay 96 = .ok (.iload 4, 2) := by decide +kernel
theorem dX0_passDay_98 : decode cX0_passDay 98 = .ok (.iaload, 1) := by decide +kernel
theorem dX0_passDay_99 : decode cX0_passDay 99 = .ok (.iconst 4, 1) := by decide +kernel
theorem dX0_passDay_100 : decode cX0_passDay 100 = .ok (.if_icmp .ne 6, 3) := by decide +kernel
theorem dX0_passDay_103 : decode cX0_passDay 103 = .ok (.iinc 3 1, 3) := by decide +kernel
theorem dX0_passDay_106 : decode cX0_passDay 106 = .ok (.iinc 4 1, 3) := by decide +kernel
theorem dX0_passDay_109 : decode cX0_passDay 109 = .ok (.goto (-90), 3) := by decide +kernel
theorem dX0_passDay_112 : decode cX0_passDay 112 = .ok (.aload_n 0, 1) := by decide +kernel
theorem dX0_passDay_113 : decode cX0_passDay 113 = .ok (.getfield 11, 3) := by decide +kernel
theorem dX0_passDay_116 : decode cX0_passDay 116 = .ok (.bipush 21, 2) := by decide +kernel
theorem dX0_passDay_118 : decode cX0_passDay 118 = .ok (.iload_n 1, 1) := by decide +kernel
theorem dX0_passDay_119 : decode cX0_passDay 119 = .ok (.iastore, 1) := by decide +kernel
theorem dX0_passDay_120 : decode cX0_passDay 120 = .ok (.aload_n 0, 1) := by decide +kernel
theorem dX0_passDay_121 : decode cX0_passDay 121 = .ok (.getfield 11, 3) := by decide +kernel
theorem dX0_passDay_124 : decode cX0_passDay 124 = .ok (.bipush 20, 2) := by decide +kernel
theorem dX0_passDay_126 : decode cX0_passDay 126 = .ok (.dup2, 1) := by decide +kernel
theorem dX0_passDay_127 : decode cX0_passDay 127 = .ok (.iaload, 1) := by decide +kernel
theorem dX0_passDay_128 : decode cX0_passDay 128 = .ok (.iconst 1, 1) := by decide +kernel
theorem dX0_passDay_129 : decode cX0_passDay 129 = .ok (.iadd, 1) := by decide +kernel
theorem dX0_passDay_130 : decode cX0_passDay 130 = .ok (.iastore, 1) := by decide +kernel
theorem dX0_passDay_131 : decode cX0_passDay 131 = .ok (.iload_n 3, 1) := by decide +kernel
theorem dX0_passDay_132 : decode cX0_passDay 132 = .ok (.ireturn, 1) := by decide +kernel
theorem dX0_nextSeed_0 : decode cX0_nextSeed 0 = .ok (.iload_n 0, 1) := by decide +kernel
theorem dX0_nextSeed_1 : decode cX0_nextSeed 1 = .ok (.sipush 137, 3) := by decide +kernel
theorem dX0_nextSeed_4 : decode cX0_nextSeed 4 = .ok (.imul, 1) := by decide +kernel
theorem dX0_nextSeed_5 : decode cX0_nextSeed 5 = .ok (.bipush 71, 2) := by decide +kernel
theorem dX0_nextSeed_7 : decode cX0_nextSeed 7 = .ok (.iadd, 1) := by decide +kernel
theorem dX0_nextSeed_8 : decode cX0_nextSeed 8 = .ok (.sipush 1000, 3) := by decide +kernel
theorem dX0_nextSeed_11 : decode cX0_nextSeed 11 = .ok (.irem, 1) := by decide +kernel
theorem dX0_nextSeed_12 : decode cX0_nextSeed 12 = .ok (.ireturn, 1) := by decide +kernel
theorem dX0_stormBy_0 : decode cX0_stormBy 0 = .ok (.iload_n 1, 1) := by decide +kernel
theorem dX0_stormBy_1 : decode cX0_stormBy 1 = .ok (.bipush 100, 2) := by decide +kernel
theorem dX0_stormBy_3 : decode cX0_stormBy 3 = .ok (.irem, 1) := by decide +kernel
theorem dX0_stormBy_4 : decode cX0_stormBy 4 = .ok (.aload_n 0, 1) := by decide +kernel
theorem dX0_stormBy_5 : decode cX0_stormBy 5 = .ok (.getfield 15, 3) := by decide +kernel
theorem dX0_stormBy_8 : decode cX0_stormBy 8 = .ok (.getfield 79, 3) := by decide +kernel
theorem dX0_stormBy_11 : decode cX0_stormBy 11 = .ok (.if_icmp .ge 7, 3) := by decide +kernel
theorem dX0_stormBy_14 : decode cX0_stormBy 14 = .ok (.iconst 1, 1) := by decide +kernel
theorem dX0_stormBy_15 : decode cX0_stormBy 15 = .ok (.goto 4, 3) := by decide +kernel
theorem dX0_stormBy_18 : decode cX0_stormBy 18 = .ok (.iconst 0, 1) := by decide +kernel
theorem dX0_stormBy_19 : decode cX0_stormBy 19 = .ok (.ireturn, 1) := by decide +kernel
theorem dX0_worn_0 : decode cX0_worn 0 = .ok (.aload_n 0, 1) := by decide +kernel
theorem dX0_worn_1 : decode cX0_worn 1 = .ok (.getfield 15, 3) := by decide +kernel
theorem dX0_worn_4 : decode cX0_worn 4 = .ok (.getfield 82, 3) := by decide +kernel
theorem dX0_worn_7 : decode cX0_worn 7 = .ok (.iload_n 1, 1) := by decide +kernel
theorem dX0_worn_8 : decode cX0_worn 8 = .ok (.iaload, 1) := by decide +kernel
theorem dX0_worn_9 : decode cX0_worn 9 = .ok (.istore 5, 2) := by decide +kernel
theorem dX0_worn_11 : decode cX0_worn 11 = .ok (.aload_n 0, 1) := by decide +kernel
theorem dX0_worn_12 : decode cX0_worn 12 = .ok (.getfield 15, 3) := by decide +kernel
theorem dX0_worn_15 : decode cX0_worn 15 = .ok (.iload 5, 2) := by decide +kernel
theorem dX0_worn_17 : decode cX0_worn 17 = .ok (.invokevirtual 85, 3) := by decide +kernel
theorem dX0_worn_20 : decode cX0_worn 20 = .ok (.ifCond .eq 16, 3) := by decide +kernel
theorem dX0_worn_23 : decode cX0_worn 23 = .ok (.aload_n 0, 1) := by decide +kernel
theorem dX0_worn_24 : decode cX0_worn 24 = .ok (.getfield 15, 3) := by decide +kernel
theorem dX0_worn_27 : decode cX0_worn 27 = .ok (.getfield 88, 3) := by decide +kernel
theorem dX0_worn_30 : decode cX0_worn 30 = .ok (.iload 5, 2) := by decide +kernel
theorem dX0_worn_32 : decode cX0_worn 32 = .ok (.iaload, 1) := by decide +kernel
theorem dX0_worn_33 : decode cX0_worn 33 = .ok (.goto 4, 3) := by decide +kernel
theorem dX0_worn_36 : decode cX0_worn 36 = .ok (.iconst 0, 1) := by decide +kernel
theorem dX0_worn_37 : decode cX0_worn 37 = .ok (.istore 6, 2) := by decide +kernel
theorem dX0_worn_39 : decode cX0_worn 39 = .ok (.aload_n 0, 1) := by decide +kernel
theorem dX0_worn_40 : decode cX0_worn 40 = .ok (.getfield 15, 3) := by decide +kernel
theorem dX0_worn_43 : decode cX0_worn 43 = .ok (.getfield 91, 3) := by decide +kernel
theorem dX0_worn_46 : decode cX0_worn 46 = .ok (.iload_n 2, 1) := by decide +kernel
theorem dX0_worn_47 : decode cX0_worn 47 = .ok (.iload 6, 2) := by decide +kernel
theorem dX0_worn_49 : decode cX0_worn 49 = .ok (.iload_n 3, 1) := by decide +kernel
theorem dX0_worn_50 : decode cX0_worn 50 = .ok (.iload 4, 2) := by decide +kernel
theorem dX0_worn_52 : decode cX0_worn 52 = .ok (.invokevirtual 95, 3) := by decide +kernel
theorem dX0_worn_55 : decode cX0_worn 55 = .ok (.istore 7, 2) := by decide +kernel
theorem dX0_worn_57 : decode cX0_worn 57 = .ok (.iload_n 2, 1) := by decide +kernel
theorem dX0_worn_58 : decode cX0_worn 58 = .ok (.iconst 0, 1) := by decide +kernel
theorem dX0_worn_59 : decode cX0_worn 59 = .ok (.iload 7, 2) := by decide +kernel
theorem dX0_worn_61 : decode cX0_worn 61 = .ok (.iload_n 2, 1) := by decide +kernel
theorem dX0_worn_62 : decode cX0_worn 62 = .ok (.invokestatic 100, 3) := by decide +kernel
theorem dX0_worn_65 : decode cX0_worn 65 = .ok (.invokestatic 106, 3) := by decide +kernel
theorem dX0_worn_68 : decode cX0_worn 68 = .ok (.isub, 1) := by decide +kernel
theorem dX0_worn_69 : decode cX0_worn 69 = .ok (.ireturn, 1) := by decide +kernel
theorem dX0_stateAfterWear_0 : decode cX0_stateAfterWear 0 = .ok (.iload_n 2, 1) := by decide +kernel
theorem dX0_stateAfterWear_1 : decode cX0_stateAfterWear 1 = .ok (.ifCond .gt 5, 3) := by decide +kernel
theorem dX0_stateAfterWear_4 : decode cX0_stateAfterWear 4 = .ok (.iconst 4, 1) := by decide +kernel
theorem dX0_stateAfterWear_5 : decode cX0_stateAfterWear 5 = .ok (.ireturn, 1) := by decide +kernel
theorem dX0_stateAfterWear_6 : decode cX0_stateAfterWear 6 = .ok (.aload_n 0, 1) := by decide +kernel
theorem dX0_stateAfterWear_7 : decode cX0_stateAfterWear 7 = .ok (.getfield 15, 3) := by decide +kernel
theorem dX0_stateAfterWear_10 : decode cX0_stateAfterWear 10 = .ok (.getfield 109, 3) := by decide +kernel
theorem dX0_stateAfterWear_13 : decode cX0_stateAfterWear 13 = .ok (.iload_n 1, 1) := by decide +kernel
theorem dX0_stateAfterWear_14 : decode cX0_stateAfterWear 14 = .ok (.iaload, 1) := by decide +kernel
theorem dX0_stateAfterWear_15 : decode cX0_stateAfterWear 15 = .ok (.iload_n 3, 1) := by decide +kernel
theorem dX0_stateAfterWear_16 : decode cX0_stateAfterWear 16 = .ok (.if_icmp .lt 5, 3) := by decide +kernel
theorem dX0_stateAfterWear_19 : decode cX0_stateAfterWear 19 = .ok (.iconst 0, 1) := by decide +kernel
theorem dX0_stateAfterWear_20 : decode cX0_stateAfterWear 20 = .ok (.ireturn, 1) := by decide +kernel
theorem dX0_stateAfterWear_21 : decode cX0_stateAfterWear 21 = .ok (.aload_n 0, 1) := by decide +kernel
theorem dX0_stateAfterWear_22 : decode cX0_stateAfterWear 22 = .ok (.getfield 15, 3) := by decide +kernel
theorem dX0_stateAfterWear_25 : decode cX0_stateAfterWear 25 = .ok (.getfield 51, 3) := by decide +kernel
theorem dX0_stateAfterWear_28 : decode cX0_stateAfterWear 28 = .ok (.iload_n 1, 1) := by decide +kernel
theorem dX0_stateAfterWear_29 : decode cX0_stateAfterWear 29 = .ok (.iaload, 1) := by decide +kernel
theorem dX0_stateAfterWear_30 : decode cX0_stateAfterWear 30 = .ok (.iconst 1, 1) := by decide +kernel
theorem dX0_stateAfterWear_31 : decode cX0_stateAfterWear 31 = .ok (.if_icmp .ne 7, 3) := by decide +kernel
theorem dX0_stateAfterWear_34 : decode cX0_stateAfterWear 34 = .ok (.iconst 3, 1) := by decide +kernel
theorem dX0_stateAfterWear_35 : decode cX0_stateAfterWear 35 = .ok (.goto 4, 3) := by decide +kernel
theorem dX0_stateAfterWear_38 : decode cX0_stateAfterWear 38 = .ok (.iconst 1, 1) := by decide +kernel
theorem dX0_stateAfterWear_39 : decode cX0_stateAfterWear 39 = .ok (.ireturn, 1) := by decide +kernel
theorem dX0_leaveBits_0 : decode cX0_leaveBits 0 = .ok (.iconst 0, 1) := by decide +kernel
theorem dX0_leaveBits_1 : decode cX0_leaveBits 1 = .ok (.istore_n 3, 1) := by decide +kernel
theorem dX0_leaveBits_2 : decode cX0_leaveBits 2 = .ok (.aload_n 0, 1) := by decide +kernel
theorem dX0_leaveBits_3 : decode cX0_leaveBits 3 = .ok (.getfield 15, 3) := by decide +kernel
theorem dX0_leaveBits_6 : decode cX0_leaveBits 6 = .ok (.getfield 41, 3) := by decide +kernel
theorem dX0_leaveBits_9 : decode cX0_leaveBits 9 = .ok (.iconst 1, 1) := by decide +kernel
theorem dX0_leaveBits_10 : decode cX0_leaveBits 10 = .ok (.isub, 1) := by decide +kernel
theorem dX0_leaveBits_11 : decode cX0_leaveBits 11 = .ok (.istore 4, 2) := by decide +kernel
theorem dX0_leaveBits_13 : decode cX0_leaveBits 13 = .ok (.iload 4, 2) := by decide +kernel
theorem dX0_leaveBits_15 : decode cX0_leaveBits 15 = .ok (.ifCond .lt 103, 3) := by decide +kernel
theorem dX0_leaveBits_18 : decode cX0_leaveBits 18 = .ok (.aload_n 0, 1) := by decide +kernel
theorem dX0_leaveBits_19 : decode cX0_leaveBits 19 = .ok (.iload 4, 2) := by decide +kernel
theorem dX0_leaveBits_21 : decode cX0_leaveBits 21 = .ok (.iload_n 1, 1) := by decide +kernel
theorem dX0_leaveBits_22 : decode cX0_leaveBits 22 = .ok (.invokevirtual 44, 3) := by decide +kernel
theorem dX0_leaveBits_25 : decode cX0_leaveBits 25 = .ok (.ifCond .eq 54, 3) := by decide +kernel
theorem dX0_leaveBits_28 : decode cX0_leaveBits 28 = .ok (.aload_n 0, 1) := by decide +kernel
theorem dX0_leaveBits_29 : decode cX0_leaveBits 29 = .ok (.getfield 15, 3) := by decide +kernel
theorem dX0_leaveBits_32 : decode cX0_leaveBits 32 = .ok (.getfield 48, 3) := by decide +kernel
theorem dX0_leaveBits_35 : decode cX0_leaveBits 35 = .ok (.iload 4, 2) := by decide +kernel
theorem dX0_leaveBits_37 : decode cX0_leaveBits 37 = .ok (.iaload, 1) := by decide +kernel
theorem dX0_leaveBits_38 : decode cX0_leaveBits 38 = .ok (.iload_n 2, 1) := by decide +kernel
theorem dX0_leaveBits_39 : decode cX0_leaveBits 39 = .ok (.if_icmp .ne 40, 3) := by decide +kernel
theorem dX0_leaveBits_42 : decode cX0_leaveBits 42 = .ok (.aload_n 0, 1) := by decide +kernel
theorem dX0_leaveBits_43 : decode cX0_leaveBits 43 = .ok (.getfield 15, 3) := by decide +kernel
theorem dX0_leaveBits_46 : decode cX0_leaveBits 46 = .ok (.getfield 51, 3) := by decide +kernel
theorem dX0_leaveBits_49 : decode cX0_leaveBits 49 = .ok (.iload 4, 2) := by decide +kernel
theorem dX0_leaveBits_51 : decode cX0_leaveBits 51 = .ok (.iaload, 1) := by decide +kernel
theorem dX0_leaveBits_52 : decode cX0_leaveBits 52 = .ok (.ifCond .ne 27, 3) := by decide +kernel
theorem dX0_leaveBits_55 : decode cX0_leaveBits 55 = .ok (.aload_n 0, 1) := by decide +kernel
theorem dX0_leaveBits_56 : decode cX0_leaveBits 56 = .ok (.getfield 15, 3) := by decide +kernel
theorem dX0_leaveBits_59 : decode cX0_leaveBits 59 = .ok (.getfield 109, 3) := by decide +kernel
theorem dX0_leaveBits_62 : decode cX0_leaveBits 62 = .ok (.iload 4, 2) := by decide +kernel
theorem dX0_leaveBits_64 : decode cX0_leaveBits 64 = .ok (.iaload, 1) := by decide +kernel
theorem dX0_leaveBits_65 : decode cX0_leaveBits 65 = .ok (.aload_n 0, 1) := by decide +kernel
theorem dX0_leaveBits_66 : decode cX0_leaveBits 66 = .ok (.invokevirtual 68, 3) := by decide +kernel
theorem dX0_leaveBits_69 : decode cX0_leaveBits 69 = .ok (.if_icmp .lt 10, 3) := by decide +kernel
theorem dX0_leaveBits_72 : decode cX0_leaveBits 72 = .ok (.iload_n 3, 1) := by decide +kernel
theorem dX0_leaveBits_73 : decode cX0_leaveBits 73 = .ok (.iconst 1, 1) := by decide +kernel
theorem dX0_leaveBits_74 : decode cX0_leaveBits 74 = .ok (.iload 4, 2) := by decide +kernel
theorem dX0_leaveBits_76 : decode cX0_leaveBits 76 = .ok (.ishl, 1) := by decide +kernel
theorem dX0_leaveBits_77 : decode cX0_leaveBits 77 = .ok (.ior, 1) := by decide +kernel
theorem dX0_leaveBits_78 : decode cX0_leaveBits 78 = .ok (.istore_n 3, 1) := by decide +kernel
theorem dX0_leaveBits_79 : decode cX0_leaveBits 79 = .ok (.iload_n 3, 1) := by decide +kernel
theorem dX0_leaveBits_80 : decode cX0_leaveBits 80 = .ok (.iconst 1, 1) := by decide +kernel
theorem dX0_leaveBits_81 : decode cX0_leaveBits 81 = .ok (.iload 4, 2) := by decide +kernel
theorem dX0_leaveBits_83 : decode cX0_leaveBits 83 = .ok (.ishl, 1) := by decide +kernel
theorem dX0_leaveBits_84 : decode cX0_leaveBits 84 = .ok (.iand, 1) := by decide +kernel
theorem dX0_leaveBits_85 : decode cX0_leaveBits 85 = .ok (.ifCond .eq 27, 3) := by decide +kernel
theorem dX0_leaveBits_88 : decode cX0_leaveBits 88 = .ok (.aload_n 0, 1) := by decide +kernel
theorem dX0_leaveBits_89 : decode cX0_leaveBits 89 = .ok (.iload 4, 2) := by decide +kernel
theorem dX0_leaveBits_91 : decode cX0_leaveBits 91 = .ok (.invokevirtual 112, 3) := by decide +kernel
theorem dX0_leaveBits_94 : decode cX0_leaveBits 94 = .ok (.ifCond .eq 18, 3) := by decide +kernel
theorem dX0_leaveBits_97 : decode cX0_leaveBits 97 = .ok (.iload_n 3, 1) := by decide +kernel
theorem dX0_leaveBits_98 : decode cX0_leaveBits 98 = .ok (.iconst 1, 1) := by decide +kernel
theorem dX0_leaveBits_99 : decode cX0_leaveBits 99 = .ok (.aload_n 0, 1) := by decide +kernel
theorem dX0_leaveBits_100 : decode cX0_leaveBits 100 = .ok (.getfield 15, 3) := by decide +kernel
theorem dX0_leaveBits_103 : decode cX0_leaveBits 103 = .ok (.getfield 31, 3) := by decide +kernel
theorem dX0_leaveBits_106 : decode cX0_leaveBits 106 = .ok (.iload 4, 2) := by decide +kernel
theorem dX0_leaveBits_108 : decode cX0_leaveBits 108 = .ok (.iaload, 1) := by decide +kernel
theorem dX0_leaveBits_109 : decode cX0_leaveBits 109 = .ok (.ishl, 1) := by decide +kernel
theorem dX0_leaveBits_110 : decode cX0_leaveBits 110 = .ok (.ior, 1) := by decide +kernel
theorem dX0_leaveBits_111 : decode cX0_leaveBits 111 = .ok (.istore_n 3, 1) := by decide +kernel
theorem dX0_leaveBits_112 : decode cX0_leaveBits 112 = .ok (.iinc 4 (-1), 3) := by decide +kernel
theorem dX0_leaveBits_115 : decode cX0_leaveBits 115 = .ok (.goto (-102), 3) := by decide +kernel
theorem dX0_leaveBits_118 : decode cX0_leaveBits 118 = .ok (.iload_n 3, 1) := by decide +kernel
theorem dX0_leaveBits_119 : decode cX0_leaveBits 119 = .ok (.ireturn, 1) := by decide +kernel
