theorem dX0_init_0 : decode cX0_init 0 = .ok (.aload_n 0, 1) := by decide +kernel
theorem dX0_init_1 : decode cX0_init 1 = .ok (.invokespecial 3, 3) := by decide +kernel
theorem dX0_init_4 : decode cX0_init 4 = .ok (.aload_n 0, 1) := by decide +kernel
theorem dX0_init_5 : decode cX0_init 5 = .ok (.iconst 4, 1) := by decide +kernel
theorem dX0_init_6 : decode cX0_init 6 = .ok (.newarray .int, 2) := by decide +kernel
theorem dX0_init_8 : decode cX0_init 8 = .ok (.putfield 9, 3) := by decide +kernel
theorem dX0_init_11 : decode cX0_init 11 = .ok (.aload_n 0, 1) := by decide +kernel
theorem dX0_init_12 : decode cX0_init 12 = .ok (.iconst 4, 1) := by decide +kernel
theorem dX0_init_13 : decode cX0_init 13 = .ok (.newarray .int, 2) := by decide +kernel
theorem dX0_init_15 : decode cX0_init 15 = .ok (.putfield 15, 3) := by decide +kernel
theorem dX0_init_18 : decode cX0_init 18 = .ok (.aload_n 0, 1) := by decide +kernel
theorem dX0_init_19 : decode cX0_init 19 = .ok (.iconst 4, 1) := by decide +kernel
theorem dX0_init_20 : decode cX0_init 20 = .ok (.newarray .int, 2) := by decide +kernel
theorem dX0_init_22 : decode cX0_init 22 = .ok (.putfield 18, 3) := by decide +kernel
theorem dX0_init_25 : decode cX0_init 25 = .ok (.aload_n 0, 1) := by decide +kernel
theorem dX0_init_26 : decode cX0_init 26 = .ok (.iconst 4, 1) := by decide +kernel
theorem dX0_init_27 : decode cX0_init 27 = .ok (.newarray .int, 2) := by decide +kernel
theorem dX0_init_29 : decode cX0_init 29 = .ok (.putfield 21, 3) := by decide +kernel
theorem dX0_init_32 : decode cX0_init 32 = .ok (.aload_n 0, 1) := by decide +kernel
theorem dX0_init_33 : decode cX0_init 33 = .ok (.iconst 4, 1) := by decide +kernel
theorem dX0_init_34 : decode cX0_init 34 = .ok (.newarray .int, 2) := by decide +kernel
theorem dX0_init_36 : decode cX0_init 36 = .ok (.putfield 24, 3) := by decide +kernel
theorem dX0_init_39 : decode cX0_init 39 = .ok (.aload_n 0, 1) := by decide +kernel
theorem dX0_init_40 : decode cX0_init 40 = .ok (.iconst 4, 1) := by decide +kernel
theorem dX0_init_41 : decode cX0_init 41 = .ok (.newarray .int, 2) := by decide +kernel
theorem dX0_init_43 : decode cX0_init 43 = .ok (.putfield 27, 3) := by decide +kernel
theorem dX0_init_46 : decode cX0_init 46 = .ok (.aload_n 0, 1) := by decide +kernel
theorem dX0_init_47 : decode cX0_init 47 = .ok (.sipush 1200, 3) := by decide +kernel
theorem dX0_init_50 : decode cX0_init 50 = .ok (.newarray .int, 2) := by decide +kernel
theorem dX0_init_52 : decode cX0_init 52 = .ok (.putfield 30, 3) := by decide +kernel
theorem dX0_init_55 : decode cX0_init 55 = .ok (.aload_n 0, 1) := by decide +kernel
theorem dX0_init_56 : decode cX0_init 56 = .ok (.sipush 300, 3) := by decide +kernel
theorem dX0_init_59 : decode cX0_init 59 = .ok (.newarray .int, 2) := by decide +kernel
theorem dX0_init_61 : decode cX0_init 61 = .ok (.putfield 33, 3) := by decide +kernel
theorem dX0_init_64 : decode cX0_init 64 = .ok (.aload_n 0, 1) := by decide +kernel
theorem dX0_init_65 : decode cX0_init 65 = .ok (.sipush 300, 3) := by decide +kernel
theorem dX0_init_68 : decode cX0_init 68 = .ok (.newarray .boolean, 2) := by decide +kernel
theorem dX0_init_70 : decode cX0_init 70 = .ok (.putfield 36, 3) := by decide +kernel
theorem dX0_init_73 : decode cX0_init 73 = .ok (.aload_n 0, 1) := by decide +kernel
theorem dX0_init_74 : decode cX0_init 74 = .ok (.sipush 300, 3) := by decide +kernel
theorem dX0_init_77 : decode cX0_init 77 = .ok (.newarray .int, 2) := by decide +kernel
theorem dX0_init_79 : decode cX0_init 79 = .ok (.putfield 40, 3) := by decide +kernel
theorem dX0_init_82 : decode cX0_init 82 = .ok (.aload_n 0, 1) := by decide +kernel
theorem dX0_init_83 : decode cX0_init 83 = .ok (.sipush 300, 3) := by decide +kernel
theorem dX0_init_86 : decode cX0_init 86 = .ok (.newarray .char, 2) := by decide +kernel
theorem dX0_init_88 : decode cX0_init 88 = .ok (.putfield 43, 3) := by decide +kernel
theorem dX0_init_91 : decode cX0_init 91 = .ok (.return_, 1) := by decide +kernel
theorem dX0_admitTenant_0 : decode cX0_admitTenant 0 = .ok (.aload_n 0, 1) := by decide +kernel
theorem dX0_admitTenant_1 : decode cX0_admitTenant 1 = .ok (.getfield 9, 3) := by decide +kernel
theorem dX0_admitTenant_4 : decode cX0_admitTenant 4 = .ok (.aload_n 0, 1) := by decide +kernel
theorem dX0_admitTenant_5 : decode cX0_admitTenant 5 = .ok (.getfield 47, 3) := by decide +kernel
theorem dX0_admitTenant_8 : decode cX0_admitTenant 8 = .ok (.iload_n 1, 1) := by decide +kernel
theorem dX0_admitTenant_9 : decode cX0_admitTenant 9 = .ok (.iastore, 1) := by decide +kernel
theorem dX0_admitTenant_10 : decode cX0_admitTenant 10 = .ok (.aload_n 0, 1) := by decide +kernel
theorem dX0_admitTenant_11 : decode cX0_admitTenant 11 = .ok (.dup, 1) := by decide +kernel
theorem dX0_admitTenant_12 : decode cX0_admitTenant 12 = .ok (.getfield 47, 3) := by decide +kernel
theorem dX0_admitTenant_15 : decode cX0_admitTenant 15 = .ok (.dup_x1, 1) := by decide +kernel
theorem dX0_admitTenant_16 : decode cX0_admitTenant 16 = .ok (.iconst 1, 1) := by decide +kernel
theorem dX0_admitTenant_17 : decode cX0_admitTenant 17 = .ok (.iadd, 1) := by decide +kernel
theorem dX0_admitTenant_18 : decode cX0_admitTenant 18 = .ok (.putfield 47, 3) := by decide +kernel
theorem dX0_admitTenant_21 : decode cX0_admitTenant 21 = .ok (.ireturn, 1) := by decide +kernel
theorem dX0_enqueue_0 : decode cX0_enqueue 0 = .ok (.aload_n 0, 1) := by decide +kernel
theorem dX0_enqueue_1 : decode cX0_enqueue 1 = .ok (.getfield 51, 3) := by decide +kernel
theorem dX0_enqueue_4 : decode cX0_enqueue 4 = .ok (.istore 5, 2) := by decide +kernel
theorem dX0_enqueue_6 : decode cX0_enqueue 6 = .ok (.aload_n 0, 1) := by decide +kernel
theorem dX0_enqueue_7 : decode cX0_enqueue 7 = .ok (.getfield 33, 3) := by decide +kernel
theorem dX0_enqueue_10 : decode cX0_enqueue 10 = .ok (.iload 5, 2) := by decide +kernel
theorem dX0_enqueue_12 : decode cX0_enqueue 12 = .ok (.iload_n 2, 1) := by decide +kernel
theorem dX0_enqueue_13 : decode cX0_enqueue 13 = .ok (.iastore, 1) := by decide +kernel
theorem dX0_enqueue_14 : decode cX0_enqueue 14 = .ok (.aload_n 0, 1) := by decide +kernel
theorem dX0_enqueue_15 : decode cX0_enqueue 15 = .ok (.getfield 36, 3) := by decide +kernel
theorem dX0_enqueue_18 : decode cX0_enqueue 18 = .ok (.iload 5, 2) := by decide +kernel
theorem dX0_enqueue_20 : decode cX0_enqueue 20 = .ok (.iload_n 3, 1) := by decide +kernel
theorem dX0_enqueue_21 : decode cX0_enqueue 21 = .ok (.bastore, 1) := by decide +kernel
theorem dX0_enqueue_22 : decode cX0_enqueue 22 = .ok (.aload_n 0, 1) := by decide +kernel
theorem dX0_enqueue_23 : decode cX0_enqueue 23 = .ok (.getfield 40, 3) := by decide +kernel
theorem dX0_enqueue_26 : decode cX0_enqueue 26 = .ok (.iload 5, 2) := by decide +kernel
theorem dX0_enqueue_28 : decode cX0_enqueue 28 = .ok (.iload 4, 2) := by decide +kernel
theorem dX0_enqueue_30 : decode cX0_enqueue 30 = .ok (.iastore, 1) := by decide +kernel
theorem dX0_enqueue_31 : decode cX0_enqueue 31 = .ok (.aload_n 0, 1) := by decide +kernel
theorem dX0_enqueue_32 : decode cX0_enqueue 32 = .ok (.getfield 43, 3) := by decide +kernel
theorem dX0_enqueue_35 : decode cX0_enqueue 35 = .ok (.iload 5, 2) := by decide +kernel
theorem dX0_enqueue_37 : decode cX0_enqueue 37 = .ok (.bipush 119, 2) := by decide +kernel
theorem dX0_enqueue_39 : decode cX0_enqueue 39 = .ok (.castore, 1) := by decide +kernel
theorem dX0_enqueue_40 : decode cX0_enqueue 40 = .ok (.aload_n 0, 1) := by decide +kernel
theorem dX0_enqueue_41 : decode cX0_enqueue 41 = .ok (.getfield 30, 3) := by decide +kernel
theorem dX0_enqueue_44 : decode cX0_enqueue 44 = .ok (.iload_n 1, 1) := by decide +kernel
theorem dX0_enqueue_45 : decode cX0_enqueue 45 = .ok (.sipush 300, 3) := by decide +kernel
theorem dX0_enqueue_48 : decode cX0_enqueue 48 = .ok (.imul, 1) := by decide +kernel
theorem dX0_enqueue_49 : decode cX0_enqueue 49 = .ok (.aload_n 0, 1) := by decide +kernel
theorem dX0_enqueue_50 : decode cX0_enqueue 50 = .ok (.getfield 15, 3) := by decide +kernel
theorem dX0_enqueue_53 : decode cX0_enqueue 53 = .ok (.iload_n 1, 1) := by decide +kernel
theorem dX0_enqueue_54 : decode cX0_enqueue 54 = .ok (.iaload, 1) := by decide +kernel
theorem dX0_enqueue_55 : decode cX0_enqueue 55 = .ok (.iadd, 1) := by decide +kernel
theorem dX0_enqueue_56 : decode cX0_enqueue 56 = .ok (.iload 5, 2) := by decide +kernel
theorem dX0_enqueue_58 : decode cX0_enqueue 58 = .ok (.iastore, 1) := by decide +kernel
theorem dX0_enqueue_59 : decode cX0_enqueue 59 = .ok (.aload_n 0, 1) := by decide +kernel
theorem dX0_enqueue_60 : decode cX0_enqueue 60 = .ok (.getfield 15, 3) := by decide +kernel
theorem dX0_enqueue_63 : decode cX0_enqueue 63 = .ok (.iload_n 1, 1) := by decide +kernel
theorem dX0_enqueue_64 : decode cX0_enqueue 64 = .ok (.dup2, 1) := by decide +kernel
theorem dX0_enqueue_65 : decode cX0_enqueue 65 = .ok (.iaload, 1) := by decide +kernel
theorem dX0_enqueue_66 : decode cX0_enqueue 66 = .ok (.iconst 1, 1) := by decide +kernel
theorem dX0_enqueue_67 : decode cX0_enqueue 67 = .ok (.iadd, 1) := by decide +kernel
theorem dX0_enqueue_68 : decode cX0_enqueue 68 = .ok (.iastore, 1) := by decide +kernel
theorem dX0_enqueue_69 : decode cX0_enqueue 69 = .ok (.aload_n 0, 1) := by decide +kernel
theorem dX0_enqueue_70 : decode cX0_enqueue 70 = .ok (.dup, 1) := by decide +kernel
theorem dX0_enqueue_71 : decode cX0_enqueue 71 = .ok (.getfield 54, 3) := by decide +kernel
theorem dX0_enqueue_74 : decode cX0_enqueue 74 = .ok (.iconst 1, 1) := by decide +kernel
theorem dX0_enqueue_75 : decode cX0_enqueue 75 = .ok (.iadd, 1) := by decide +kernel
theorem dX0_enqueue_76 : decode cX0_enqueue 76 = .ok (.putfield 54, 3) := by decide +kernel
theorem dX0_enqueue_79 : decode cX0_enqueue 79 = .ok (.aload_n 0, 1) := by decide +kernel
theorem dX0_enqueue_80 : decode cX0_enqueue 80 = .ok (.dup, 1) := by decide +kernel
theorem dX0_enqueue_81 : decode cX0_enqueue 81 = .ok (.getfield 51, 3) := by decide +kernel
theorem dX0_enqueue_84 : decode cX0_enqueue 84 = .ok (.iconst 1, 1) := by decide +kernel
theorem dX0_enqueue_85 : decode cX0_enqueue 85 = .ok (.iadd, 1) := by decide +kernel
theorem dX0_enqueue_86 : decode cX0_enqueue 86 = .ok (.putfield 51, 3) := by decide +kernel
theorem dX0_enqueue_89 : decode cX0_enqueue 89 = .ok (.iload 5, 2) := by decide +kernel
theorem dX0_enqueue_91 : decode cX0_enqueue 91 = .ok (.ireturn, 1) := by decide +kernel
theorem dX0_countWaiting_0 : decode cX0_countWaiting 0 = .ok (.aload_n 0, 1) := by decide +kernel
theorem dX0_countWaiting_1 : decode cX0_countWaiting 1 = .ok (.getfield 15, 3) := by decide +kernel
theorem dX0_countWaiting_4 : decode cX0_countWaiting 4 = .ok (.iload_n 1, 1) := by decide +kernel
theorem dX0_countWaiting_5 : decode cX0_countWaiting 5 = .ok (.iaload, 1) := by decide +kernel
theorem dX0_countWaiting_6 : decode cX0_countWaiting 6 = .ok (.aload_n 0, 1) := by decide +kernel
theorem dX0_countWaiting_7 : decode cX0_countWaiting 7 = .ok (.getfield 18, 3) := by decide +kernel
theorem dX0_countWaiting_10 : decode cX0_countWaiting 10 = .ok (.iload_n 1, 1) := by decide +kernel
theorem dX0_countWaiting_11 : decode cX0_countWaiting 11 = .ok (.iaload, 1) := by decide +kernel
theorem dX0_countWaiting_12 : decode cX0_countWaiting 12 = .ok (.isub, 1) := by decide +kernel
theorem dX0_countWaiting_13 : decode cX0_countWaiting 13 = .ok (.ireturn, 1) := by decide +kernel
theorem dX0_oldestWaiting_0 : decode cX0_oldestWaiting 0 = .ok (.aload_n 0, 1) := by decide +kernel
theorem dX0_oldestWaiting_1 : decode cX0_oldestWaiting 1 = .ok (.getfield 30, 3) := by decide +kernel
theorem dX0_oldestWaiting_4 : decode cX0_oldestWaiting 4 = .ok (.iload_n 1, 1) := by decide +kernel
theorem dX0_oldestWaiting_5 : decode cX0_oldestWaiting 5 = .ok (.sipush 300, 3) := by decide +kernel
theorem dX0_oldestWaiting_8 : decode cX0_oldestWaiting 8 = .ok (.imul, 1) := by decide +kernel
theorem dX0_oldestWaiting_9 : decode cX0_oldestWaiting 9 = .ok (.aload_n 0, 1) := by decide +kernel
theorem dX0_oldestWaiting_10 : decode cX0_oldestWaiting 10 = .ok (.getfield 18, 3) := by decide +kernel
theorem dX0_oldestWaiting_13 : decode cX0_oldestWaiting 13 = .ok (.iload_n 1, 1) := by decide +kernel
theorem dX0_oldestWaiting_14 : decode cX0_oldestWaiting 14 = .ok (.iaload, 1) := by decide +kernel
theorem dX0_oldestWaiting_15 : decode cX0_oldestWaiting 15 = .ok (.iadd, 1) := by decide +kernel
theorem dX0_oldestWaiting_16 : decode cX0_oldestWaiting 16 = .ok (.iaload, 1) := by decide +kernel
theorem dX0_oldestWaiting_17 : decode cX0_oldestWaiting 17 = .ok (.ireturn, 1) := by decide +kernel
theorem dX0_markServed_0 : decode cX0_markServed 0 = .ok (.aload_n 0, 1) := by decide +kernel
theorem dX0_markServed_1 : decode cX0_markServed 1 = .ok (.getfield 43, 3) := by decide +kernel
theorem dX0_markServed_4 : decode cX0_markServed 4 = .ok (.iload_n 2, 1) := by decide +kernel
theorem dX0_markServed_5 : decode cX0_markServed 5 = .ok (.iload_n 3, 1) := by decide +kernel
theorem dX0_markServed_6 : decode cX0_markServed 6 = .ok (.ifCond .eq 8, 3) := by decide +kernel
theorem dX0_markServed_9 : decode cX0_markServed 9 = .ok (.bipush 100, 2) := by decide +kernel
theorem dX0_markServed_11 : decode cX0_markServed 11 = .ok (.goto 5, 3) := by decide +kernel
theorem dX0_markServed_14 : decode cX0_markServed 14 = .ok (.bipush 120, 2) := by decide +kernel
theorem dX0_markServed_16 : decode cX0_markServed 16 = .ok (.castore, 1) := by decide +kernel
theorem dX0_markServed_17 : decode cX0_markServed 17 = .ok (.aload_n 0, 1) := by decide +kernel
theorem dX0_markServed_18 : decode cX0_markServed 18 = .ok (.getfield 18, 3) := by decide +kernel
theorem dX0_markServed_21 : decode cX0_markServed 21 = .ok (.iload_n 1, 1) := by decide +kernel
theorem dX0_markServed_22 : decode cX0_markServed 22 = .ok (.dup2, 1) := by decide +kernel
theorem dX0_markServed_23 : decode cX0_markServed 23 = .ok (.iaload, 1) := by decide +kernel
theorem dX0_markServed_24 : decode cX0_markServed 24 = .ok (.iconst 1, 1) := by decide +kernel
theorem dX0_markServed_25 : decode cX0_markServed 25 = .ok (.iadd, 1) := by decide +kernel
theorem dX0_markServed_26 : decode cX0_markServed 26 = .ok (.iastore, 1) := by decide +kernel
theorem dX0_markServed_27 : decode cX0_markServed 27 = .ok (.aload_n 0, 1) := by decide +kernel
theorem dX0_markServed_28 : decode cX0_markServed 28 = .ok (.dup, 1) := by decide +kernel
theorem dX0_markServed_29 : decode cX0_markServed 29 = .ok (.getfield 54, 3) := by decide +kernel
theorem dX0_markServed_32 : decode cX0_markServed 32 = .ok (.iconst 1, 1) := by decide +kernel
theorem dX0_markServed_33 : decode cX0_markServed 33 = .ok (.isub, 1) := by decide +kernel
theorem dX0_markServed_34 : decode cX0_markServed 34 = .ok (.putfield 54, 3) := by decide +kernel
theorem dX0_markServed_37 : decode cX0_markServed 37 = .ok (.return_, 1) := by decide +kernel
theorem dX0_beginTick_0 : decode cX0_beginTick 0 = .ok (.iconst 0, 1) := by decide +kernel
theorem dX0_beginTick_1 : decode cX0_beginTick 1 = .ok (.istore_n 1, 1) := by decide +kernel
theorem dX0_beginTick_2 : decode cX0_beginTick 2 = .ok (.iload_n 1, 1) := by decide +kernel
theorem dX0_beginTick_3 : decode cX0_beginTick 3 = .ok (.aload_n 0, 1) := by decide +kernel
theorem dX0_beginTick_4 : decode cX0_beginTick 4 = .ok (.getfield 47, 3) := by decide +kernel
theorem dX0_beginTick_7 : decode cX0_beginTick 7 = .ok (.if_icmp .ge 36, 3) := by decide +kernel
theorem dX0_beginTick_10 : decode cX0_beginTick 10 = .ok (.aload_n 0, 1) := by decide +kernel
theorem dX0_beginTick_11 : decode cX0_beginTick 11 = .ok (.getfield 21, 3) := by decide +kernel
theorem dX0_beginTick_14 : decode cX0_beginTick 14 = .ok (.iload_n 1, 1) := by decide +kernel
theorem dX0_beginTick_15 : decode cX0_beginTick 15 = .ok (.aload_n 0, 1) := by decide +kernel
theorem dX0_beginTick_16 : decode cX0_beginTick 16 = .ok (.getfield 18, 3) := by decide +kernel
theorem dX0_beginTick_19 : decode cX0_beginTick 19 = .ok (.iload_n 1, 1) := by decide +kernel
theorem dX0_beginTick_20 : decode cX0_beginTick 20 = .ok (.iaload, 1) := by decide +kernel
theorem dX0_beginTick_21 : decode cX0_beginTick 21 = .ok (.aload_n 0, 1) := by decide +kernel
theorem dX0_beginTick_22 : decode cX0_beginTick 22 = .ok (.getfield 9, 3) := by decide +kernel
theorem dX0_beginTick_25 : decode cX0_beginTick 25 = .ok (.iload_n 1, 1) := by decide +kernel
theorem dX0_beginTick_26 : decode cX0_beginTick 26 = .ok (.iaload, 1) := by decide +kernel
theorem dX0_beginTick_27 : decode cX0_beginTick 27 = .ok (.aload_n 0, 1) := by decide +kernel
theorem dX0_beginTick_28 : decode cX0_beginTick 28 = .ok (.iload_n 1, 1) := by decide +kernel
theorem dX0_beginTick_29 : decode cX0_beginTick 29 = .ok (.invokevirtual 57, 3) := by decide +kernel
theorem dX0_beginTick_32 : decode cX0_beginTick 32 = .ok (.invokestatic 61, 3) := by decide +kernel
theorem dX0_beginTick_35 : decode cX0_beginTick 35 = .ok (.iadd, 1) := by decide +kernel
theorem dX0_beginTick_36 : decode cX0_beginTick 36 = .ok (.iastore, 1) := by decide +kernel
theorem dX0_beginTick_37 : decode cX0_beginTick 37 = .ok (.iinc 1 1, 3) := by decide +kernel
theorem dX0_beginTick_40 : decode cX0_beginTick 40 = .ok (.goto (-38), 3) := by decide +kernel
theorem dX0_beginTick_43 : decode cX0_beginTick 43 = .ok (.return_, 1) := by decide +kernel
theorem dX0_giveCredits_0 : decode cX0_giveCredits 0 = .ok (.iconst 0, 1) := by decide +kernel
theorem dX0_giveCredits_1 : decode cX0_giveCredits 1 = .ok (.istore_n 1, 1) := by decide +kernel
theorem dX0_giveCredits_2 : decode cX0_giveCredits 2 = .ok (.iload_n 1, 1) := by decide +kernel
theorem dX0_giveCredits_3 : decode cX0_giveCredits 3 = .ok (.aload_n 0, 1) := by decide +kernel
theorem dX0_giveCredits_4 : decode cX0_giveCredits 4 = .ok (.getfield 47, 3) := by decide +kernel
theorem dX0_giveCredits_7 : decode cX0_giveCredits 7 = .ok (.if_icmp .ge 47, 3) := by decide +kernel
theorem dX0_giveCredits_10 : decode cX0_giveCredits 10 = .ok (.aload_n 0, 1) := by decide +kernel
theorem dX0_giveCredits_11 : decode cX0_giveCredits 11 = .ok (.getfield 21, 3) := by decide +kernel
theorem dX0_giveCredits_14 : decode cX0_giveCredits 14 = .ok (.iload_n 1, 1) := by decide +kernel
theorem dX0_giveCredits_15 : decode cX0_giveCredits 15 = .ok (.iaload, 1) := by decide +kernel
theorem dX0_giveCredits_16 : decode cX0_giveCredits 16 = .ok (.aload_n 0, 1) := by decide +kernel
theorem dX0_giveCredits_17 : decode cX0_giveCredits 17 = .ok (.getfield 18, 3) := by decide +kernel
theorem dX0_giveCredits_20 : decode cX0_giveCredits 20 = .ok (.iload_n 1, 1) := by decide +kernel
theorem dX0_giveCredits_21 : decode cX0_giveCredits 21 = .ok (.iaload, 1) := by decide +kernel
theorem dX0_giveCredits_22 : decode cX0_giveCredits 22 = .ok (.isub, 1) := by decide +kernel
theorem dX0_giveCredits_23 : decode cX0_giveCredits 23 = .ok (.istore_n 2, 1) := by decide +kernel
theorem dX0_giveCredits_24 : decode cX0_giveCredits 24 = .ok (.iload_n 2, 1) := by decide +kernel
theorem dX0_giveCredits_25 : decode cX0_giveCredits 25 = .ok (.ifCond .le 23, 3) := by decide +kernel
theorem dX0_giveCredits_28 : decode cX0_giveCredits 28 = .ok (.aload_n 0, 1) := by decide +kernel
theorem dX0_giveCredits_29 : decode cX0_giveCredits 29 = .ok (.getfield 24, 3) := by decide +kernel
theorem dX0_giveCredits_32 : decode cX0_giveCredits 32 = .ok (.iload_n 1, 1) := by decide +kernel
theorem dX0_giveCredits_33 : decode cX0_giveCredits 33 = .ok (.dup2, 1) := by decide +kernel
theorem dX0_giveCredits_34 : decode cX0_giveCredits 34 = .ok (.iaload, 1) := by decide +kernel
theorem dX0_giveCredits_35 : decode cX0_giveCredits 35 = .ok (.iload_n 2, 1) := by decide +kernel
theorem dX0_giveCredits_36 : decode cX0_giveCredits 36 = .ok (.iadd, 1) := by decide +kernel
theorem dX0_giveCredits_37 : decode cX0_giveCredits 37 = .ok (.iastore, 1) := by decide +kernel
theorem dX0_giveCredits_38 : decode cX0_giveCredits 38 = .ok (.aload_n 0, 1) := by decide +kernel
theorem dX0_giveCredits_39 : decode cX0_giveCredits 39 = .ok (.getfield 27, 3) := by decide +kernel
theorem dX0_giveCredits_42 : decode cX0_giveCredits 42 = .ok (.iload_n 1, 1) := by decide +kernel
theorem dX0_giveCredits_43 : decode cX0_giveCredits 43 = .ok (.dup2, 1) := by decide +kernel
theorem dX0_giveCredits_44 : decode cX0_giveCredits 44 = .ok (.iaload, 1) := by decide +kernel
theorem dX0_giveCredits_45 : decode cX0_giveCredits 45 = .ok (.iconst 1, 1) := by decide +kernel
theorem dX0_giveCredits_46 : decode cX0_giveCredits 46 = .ok (.iadd, 1) := by decide +kernel
theorem dX0_giveCredits_47 : decode cX0_giveCredits 47 = .ok (.iastore, 1) := by decide +kernel
theorem dX0_giveCredits_48 : decode cX0_giveCredits 48 = .ok (.iinc 1 1, 3) := by decide +kernel
theorem dX0_giveCredits_51 : decode cX0_giveCredits 51 = .ok (.goto (-49), 3) := by decide +kernel
theorem dX0_giveCredits_54 : decode cX0_giveCredits 54 = .ok (.return_, 1) := by decide +kernel
theorem dX1_init_0 : decode cX1_init 0 = .ok (.aload_n 0, 1) := by decide +kernel
theorem dX1_init_1 : decode cX1_init 1 = .ok (.invokespecial 3, 3) := by decide +kernel
theorem dX1_init_4 : decode cX1_init 4 = .ok (.aload_n 0, 1) := by decide +kernel
theorem dX1_init_5 : decode cX1_init 5 = .ok (.bipush 8, 2) := by decide +kernel
theorem dX1_init_7 : decode cX1_init 7 = .ok (.newarray .int, 2) := by decide +kernel
theorem dX1_init_9 : decode cX1_init 9 = .ok (.putfield 9, 3) := by decide +kernel
theorem dX1_init_12 : decode cX1_init 12 = .ok (.aload_n 0, 1) := by decide +kernel
theorem dX1_init_13 : decode cX1_init 13 = .ok (.bipush 8, 2) := by decide +kernel
theorem dX1_init_15 : decode cX1_init 15 = .ok (.newarray .int, 2) := by decide +kernel
theorem dX1_init_17 : decode cX1_init 17 = .ok (.putfield 15, 3) := by decide +kernel
theorem dX1_init_20 : decode cX1_init 20 = .ok (.aload_n 0, 1) := by decide +kernel
theorem dX1_init_21 : decode cX1_init 21 = .ok (.bipush 8, 2) := by decide +kernel
theorem dX1_init_23 : decode cX1_init 23 = .ok (.newarray .char, 2) := by decide +kernel
theorem dX1_init_25 : decode cX1_init 25 = .ok (.putfield 18, 3) := by decide +kernel
theorem dX1_init_28 : decode cX1_init 28 = .ok (.aload_n 0, 1) := by decide +kernel
theorem dX1_init_29 : decode cX1_init 29 = .ok (.sipush 256, 3) := by decide +kernel
theorem dX1_init_32 : decode cX1_init 32 = .ok (.newarray .int, 2) := by decide +kernel
theorem dX1_init_34 : decode cX1_init 34 = .ok (.putfield 22, 3) := by decide +kernel
theorem dX1_init_37 : decode cX1_init 37 = .ok (.aload_n 0, 1) := by decide +kernel
theorem dX1_init_38 : decode cX1_init 38 = .ok (.sipush 256, 3) := by decide +kernel
theorem dX1_init_41 : decode cX1_init 41 = .ok (.newarray .boolean, 2) := by decide +kernel
theorem dX1_init_43 : decode cX1_init 43 = .ok (.putfield 25, 3) := by decide +kernel
theorem dX1_init_46 : decode cX1_init 46 = .ok (.aload_n 0, 1) := by decide +kernel
theorem dX1_init_47 : decode cX1_init 47 = .ok (.iconst 4, 1) := by decide +kernel
theorem dX1_init_48 : decode cX1_init 48 = .ok (.newarray .int, 2) := by decide +kernel
theorem dX1_init_50 : decode cX1_init 50 = .ok (.putfield 29, 3) := by decide +kernel
theorem dX1_init_53 : decode cX1_init 53 = .ok (.aload_n 0, 1) := by decide +kernel
theorem dX1_init_54 : decode cX1_init 54 = .ok (.sipush 400, 3) := by decide +kernel
theorem dX1_init_57 : decode cX1_init 57 = .ok (.newarray .int, 2) := by decide +kernel
theorem dX1_init_59 : decode cX1_init 59 = .ok (.putfield 32, 3) := by decide +kernel
theorem dX1_init_62 : decode cX1_init 62 = .ok (.aload_n 0, 1) := by decide +kernel
theorem dX1_init_63 : decode cX1_init 63 = .ok (.sipush 400, 3) := by decide +kernel
theorem dX1_init_66 : decode cX1_init 66 = .ok (.newarray .int, 2) := by decide +kernel
theorem dX1_init_68 : decode cX1_init 68 = .ok (.putfield 35, 3) := by decide +kernel
theorem dX1_init_71 : decode cX1_init 71 = .ok (.aload_n 0, 1) := by decide +kernel
theorem dX1_init_72 : decode cX1_init 72 = .ok (.sipush 1200, 3) := by decide +kernel
theorem dX1_init_75 : decode cX1_init 75 = .ok (.newarray .int, 2) := by decide +kernel
theorem dX1_init_77 : decode cX1_init 77 = .ok (.putfield 38, 3) := by decide +kernel
theorem dX1_init_80 : decode cX1_init 80 = .ok (.aload_n 0, 1) := by decide +kernel
theorem dX1_init_81 : decode cX1_init 81 = .ok (.sipush 400, 3) := by decide +kernel
theorem dX1_init_84 : decode cX1_init 84 = .ok (.newarray .int, 2) := by decide +kernel
theorem dX1_init_86 : decode cX1_init 86 = .ok (.putfield 41, 3) := by decide +kernel
theorem dX1_init_89 : decode cX1_init 89 = .ok (.aload_n 0, 1) := by decide +kernel
theorem dX1_init_90 : decode cX1_init 90 = .ok (.sipush 400, 3) := by decide +kernel
theorem dX1_init_93 : decode cX1_init 93 = .ok (.newarray .int, 2) := by decide +kernel
theorem dX1_init_95 : decode cX1_init 95 = .ok (.putfield 44, 3) := by decide +kernel
theorem dX1_init_98 : decode cX1_init 98 = .ok (.aload_n 0, 1) := by decide +kernel
theorem dX1_init_99 : decode cX1_init 99 = .ok (.getfield 22, 3) := by decide +kernel
theorem dX1_init_102 : decode cX1_init 102 = .ok (.iconst (-1), 1) := by decide +kernel
theorem dX1_init_103 : decode cX1_init 103 = .ok (.invokestatic 47, 3) := by decide +kernel
theorem dX1_init_106 : decode cX1_init 106 = .ok (.aload_n 0, 1) := by decide +kernel
theorem dX1_init_107 : decode cX1_init 107 = .ok (.getfield 32, 3) := by decide +kernel
theorem dX1_init_110 : decode cX1_init 110 = .ok (.iconst (-1), 1) := by decide +kernel
theorem dX1_init_111 : decode cX1_init 111 = .ok (.invokestatic 47, 3) := by decide +kernel
theorem dX1_init_114 : decode cX1_init 114 = .ok (.return_, 1) := by decide +kernel
theorem dX1_copyFrom_0 : decode cX1_copyFrom 0 = .ok (.aload_n 0, 1) := by decide +kernel
theorem dX1_copyFrom_1 : decode cX1_copyFrom 1 = .ok (.aload_n 1, 1) := by decide +kernel
theorem dX1_copyFrom_2 : decode cX1_copyFrom 2 = .ok (.getfield 53, 3) := by decide +kernel
theorem dX1_copyFrom_5 : decode cX1_copyFrom 5 = .ok (.putfield 53, 3) := by decide +kernel
theorem dX1_copyFrom_8 : decode cX1_copyFrom 8 = .ok (.aload_n 0, 1) := by decide +kernel
theorem dX1_copyFrom_9 : decode cX1_copyFrom 9 = .ok (.aload_n 1, 1) := by decide +kernel
theorem dX1_copyFrom_10 : decode cX1_copyFrom 10 = .ok (.getfield 57, 3) := by decide +kernel
theorem dX1_copyFrom_13 : decode cX1_copyFrom 13 = .ok (.putfield 57, 3) := by decide +kernel
theorem dX1_copyFrom_16 : decode cX1_copyFrom 16 = .ok (.iconst 0, 1) := by decide +kernel
theorem dX1_copyFrom_17 : decode cX1_copyFrom 17 = .ok (.istore_n 2, 1) := by decide +kernel
theorem dX1_copyFrom_18 : decode cX1_copyFrom 18 = .ok (.iload_n 2, 1) := by decide +kernel
theorem dX1_copyFrom_19 : decode cX1_copyFrom 19 = .ok (.bipush 8, 2) := by decide +kernel
theorem dX1_copyFrom_21 : decode cX1_copyFrom 21 = .ok (.if_icmp .ge 45, 3) := by decide +kernel
theorem dX1_copyFrom_24 : decode cX1_copyFrom 24 = .ok (.aload_n 0, 1) := by decide +kernel
theorem dX1_copyFrom_25 : decode cX1_copyFrom 25 = .ok (.getfield 9, 3) := by decide +kernel
theorem dX1_copyFrom_28 : decode cX1_copyFrom 28 = .ok (.iload_n 2, 1) := by decide +kernel
theorem dX1_copyFrom_29 : decode cX1_copyFrom 29 = .ok (.aload_n 1, 1) := by decide +kernel
theorem dX1_copyFrom_30 : decode cX1_copyFrom 30 = .ok (.getfield 9, 3) := by decide +kernel
theorem dX1_copyFrom_33 : decode cX1_copyFrom 33 = .ok (.iload_n 2, 1) := by decide +kernel
theorem dX1_copyFrom_34 : decode cX1_copyFrom 34 = .ok (.iaload, 1) := by decide +kernel
theorem dX1_copyFrom_35 : decode cX1_copyFrom 35 = .ok (.iastore, 1) := by decide +kernel
theorem dX1_copyFrom_36 : decode cX1_copyFrom 36 = .ok (.aload_n 0, 1) := by decide +kernel
theorem dX1_copyFrom_37 : decode cX1_copyFrom 37 = .ok (.getfield 15, 3) := by decide +kernel
theorem dX1_copyFrom_40 : decode cX1_copyFrom 40 = .ok (.iload_n 2, 1) := by decide +kernel
theorem dX1_copyFrom_41 : decode cX1_copyFrom 41 = .ok (.aload_n 1, 1) := by decide +kernel
theorem dX1_copyFrom_42 : decode cX1_copyFrom 42 = .ok (.getfield 15, 3) := by decide +kernel
theorem dX1_copyFrom_45 : decode cX1_copyFrom 45 = .ok (.iload_n 2, 1) := by decide +kernel
theorem dX1_copyFrom_46 : decode cX1_copyFrom 46 = .ok (.iaload, 1) := by decide +kernel
theorem dX1_copyFrom_47 : decode cX1_copyFrom 47 = .ok (.iastore, 1) := by decide +kernel
theorem dX1_copyFrom_48 : decode cX1_copyFrom 48 = .ok (.aload_n 0, 1) := by decide +kernel
theorem dX1_copyFrom_49 : decode cX1_copyFrom 49 = .ok (.getfield 18, 3) := by decide +kernel
theorem dX1_copyFrom_52 : decode cX1_copyFrom 52 = .ok (.iload_n 2, 1) := by decide +kernel
theorem dX1_copyFrom_53 : decode cX1_copyFrom 53 = .ok (.aload_n 1, 1) := by decide +kernel
theorem dX1_copyFrom_54 : decode cX1_copyFrom 54 = .ok (.getfield 18, 3) := by decide +kernel
theorem dX1_copyFrom_57 : decode cX1_copyFrom 57 = .ok (.iload_n 2, 1) := by decide +kernel
theorem dX1_copyFrom_58 : decode cX1_copyFrom 58 = .ok (.caload, 1) := by decide +kernel
theorem dX1_copyFrom_59 : decode cX1_copyFrom 59 = .ok (.castore, 1) := by decide +kernel
theorem dX1_copyFrom_60 : decode cX1_copyFrom 60 = .ok (.iinc 2 1, 3) := by decide +kernel
theorem dX1_copyFrom_63 : decode cX1_copyFrom 63 = .ok (.goto (-45), 3) := by decide +kernel
theorem dX1_copyFrom_66 : decode cX1_copyFrom 66 = .ok (.iconst 0, 1) := by decide +kernel
theorem dX1_copyFrom_67 : decode cX1_copyFrom 67 = .ok (.istore_n 2, 1) := by decide +kernel
theorem dX1_copyFrom_68 : decode cX1_copyFrom 68 = .ok (.iload_n 2, 1) := by decide +kernel
theorem dX1_copyFrom_69 : decode cX1_copyFrom 69 = .ok (.sipush 256, 3) := by decide +kernel
theorem dX1_copyFrom_72 : decode cX1_copyFrom 72 = .ok (.if_icmp .ge 21, 3) := by decide +kernel
theorem dX1_copyFrom_75 : decode cX1_copyFrom 75 = .ok (.aload_n 0, 1) := by decide +kernel
theorem dX1_copyFrom_76 : decode cX1_copyFrom 76 = .ok (.getfield 25, 3) := by decide +kernel
theorem dX1_copyFrom_79 : decode cX1_copyFrom 79 = .ok (.iload_n 2, 1) := by decide +kernel
theorem dX1_copyFrom_80 : decode cX1_copyFrom 80 = .ok (.aload_n 1, 1) := by decide +kernel
theorem dX1_copyFrom_81 : decode cX1_copyFrom 81 = .ok (.getfield 25, 3) := by decide +kernel
theorem dX1_copyFrom_84 : decode cX1_copyFrom 84 = .ok (.iload_n 2, 1) := by decide +kernel
theorem dX1_copyFrom_85 : decode cX1_copyFrom 85 = .ok (.baload, 1) := by decide +kernel
theorem dX1_copyFrom_86 : decode cX1_copyFrom 86 = .ok (.bastore, 1) := by decide +kernel
theorem dX1_copyFrom_87 : decode cX1_copyFrom 87 = .ok (.iinc 2 1, 3) := by decide +kernel
theorem dX1_copyFrom_90 : decode cX1_copyFrom 90 = .ok (.goto (-22), 3) := by decide +kernel
theorem dX1_copyFrom_93 : decode cX1_copyFrom 93 = .ok (.aload_n 1, 1) := by decide +kernel
theorem dX1_copyFrom_94 : decode cX1_copyFrom 94 = .ok (.getfield 22, 3) := by decide +kernel
theorem dX1_copyFrom_97 : decode cX1_copyFrom 97 = .ok (.iconst 0, 1) := by decide +kernel
theorem dX1_copyFrom_98 : decode cX1_copyFrom 98 = .ok (.aload_n 0, 1) := by decide +kernel
theorem dX1_copyFrom_99 : decode cX1_copyFrom 99 = .ok (.getfield 22, 3) := by decide +kernel
theorem dX1_copyFrom_102 : decode cX1_copyFrom 102 = .ok (.iconst 0, 1) := by decide +kernel
theorem dX1_copyFrom_103 : decode cX1_copyFrom 103 = .ok (.sipush 256, 3) := by decide +kernel
theorem dX1_copyFrom_106 : decode cX1_copyFrom 106 = .ok (.invokestatic 60, 3) := by decide +kernel
theorem dX1_copyFrom_109 : decode cX1_copyFrom 109 = .ok (.aload_n 1, 1) := by decide +kernel
theorem dX1_copyFrom_110 : decode cX1_copyFrom 110 = .ok (.getfield 29, 3) := by decide +kernel
theorem dX1_copyFrom_113 : decode cX1_copyFrom 113 = .ok (.iconst 0, 1) := by decide +kernel
theorem dX1_copyFrom_114 : decode cX1_copyFrom 114 = .ok (.aload_n 0, 1) := by decide +kernel
theorem dX1_copyFrom_115 : decode cX1_copyFrom 115 = .ok (.getfield 29, 3) := by decide +kernel
theorem dX1_copyFrom_118 : decode cX1_copyFrom 118 = .ok (.iconst 0, 1) := by decide +kernel
theorem dX1_copyFrom_119 : decode cX1_copyFrom 119 = .ok (.iconst 4, 1) := by decide +kernel
theorem dX1_copyFrom_120 : decode cX1_copyFrom 120 = .ok (.invokestatic 60, 3) := by decide +kernel
theorem dX1_copyFrom_123 : decode cX1_copyFrom 123 = .ok (.aload_n 1, 1) := by decide +kernel
theorem dX1_copyFrom_124 : decode cX1_copyFrom 124 = .ok (.getfield 32, 3) := by decide +kernel
theorem dX1_copyFrom_127 : decode cX1_copyFrom 127 = .ok (.iconst 0, 1) := by decide +kernel
theorem dX1_copyFrom_128 : decode cX1_copyFrom 128 = .ok (.aload_n 0, 1) := by decide +kernel
theorem dX1_copyFrom_129 : decode cX1_copyFrom 129 = .ok (.getfield 32, 3) := by decide +kernel
theorem dX1_copyFrom_132 : decode cX1_copyFrom 132 = .ok (.iconst 0, 1) := by decide +kernel
theorem dX1_copyFrom_133 : decode cX1_copyFrom 133 = .ok (.sipush 400, 3) := by decide +kernel
theorem dX1_copyFrom_136 : decode cX1_copyFrom 136 = .ok (.invokestatic 60, 3) := by decide +kernel
theorem dX1_copyFrom_139 : decode cX1_copyFrom 139 = .ok (.aload_n 1, 1) := by decide +kernel
theorem dX1_copyFrom_140 : decode cX1_copyFrom 140 = .ok (.getfield 35, 3) := by decide +kernel
theorem dX1_copyFrom_143 : decode cX1_copyFrom 143 = .ok (.iconst 0, 1) := by decide +kernel
theorem dX1_copyFrom_144 : decode cX1_copyFrom 144 = .ok (.aload_n 0, 1) := by decide +kernel
theorem dX1_copyFrom_145 : decode cX1_copyFrom 145 = .ok (.getfield 35, 3) := by decide +kernel
theorem dX1_copyFrom_148 : decode cX1_copyFrom 148 = .ok (.iconst 0, 1) := by decide +kernel
theorem dX1_copyFrom_149 : decode cX1_copyFrom 149 = .ok (.sipush 400, 3) := by decide +kernel
theorem dX1_copyFrom_152 : decode cX1_copyFrom 152 = .ok (.invokestatic 60, 3) := by decide +kernel
theorem dX1_copyFrom_155 : decode cX1_copyFrom 155 = .ok (.aload_n 1, 1) := by decide +kernel
theorem dX1_copyFrom_156 : decode cX1_copyFrom 156 = .ok (.getfield 38, 3) := by decide +kernel
theorem dX1_copyFrom_159 : decode cX1_copyFrom 159 = .ok (.iconst 0, 1) := by decide +kernel
theorem dX1_copyFrom_160 : decode cX1_copyFrom 160 = .ok (.aload_n 0, 1) := by decide +kernel
theorem dX1_copyFrom_161 : decode cX1_copyFrom 161 = .ok (.getfield 38, 3) := by decide +kernel
theorem dX1_copyFrom_164 : decode cX1_copyFrom 164 = .ok (.iconst 0, 1) := by decide +kernel
theorem dX1_copyFrom_165 : decode cX1_copyFrom 165 = .ok (.sipush 1200, 3) := by decide +kernel
theorem dX1_copyFrom_168 : decode cX1_copyFrom 168 = .ok (.invokestatic 60, 3) := by decide +kernel
theorem dX1_copyFrom_171 : decode cX1_copyFrom 171 = .ok (.aload_n 1, 1) := by decide +kernel
theorem dX1_copyFrom_172 : decode cX1_copyFrom 172 = .ok (.getfield 41, 3) := by decide +kernel
theorem dX1_copyFrom_175 : decode cX1_copyFrom 175 = .ok (.iconst 0, 1) := by decide +kernel
theorem dX1_copyFrom_176 : decode cX1_copyFrom 176 = .ok (.aload_n 0, 1) := by decide +kernel
theorem dX1_copyFrom_177 : decode cX1_copyFrom 177 = .ok (.getfield 41, 3) := by decide +kernel
theorem dX1_copyFrom_180 : decode cX1_copyFrom 180 = .ok (.iconst 0, 1) := by decide +kernel
theorem dX1_copyFrom_181 : decode cX1_copyFrom 181 = .ok (.sipush 400, 3) := by decide +kernel
theorem dX1_copyFrom_184 : decode cX1_copyFrom 184 = .ok (.invokestatic 60, 3) := by decide +kernel
theorem dX1_copyFrom_187 : decode cX1_copyFrom 187 = .ok (.return_, 1) := by decide +kernel
theorem dX1_installDisk_0 : decode cX1_installDisk 0 = .ok (.aload_n 0, 1) := by decide +kernel
theorem dX1_installDisk_1 : decode cX1_installDisk 1 = .ok (.getfield 9, 3) := by decide +kernel
theorem dX1_installDisk_4 : decode cX1_installDisk 4 = .ok (.aload_n 0, 1) := by decide +kernel
theorem dX1_installDisk_5 : decode cX1_installDisk 5 = .ok (.getfield 53, 3) := by decide +kernel
theorem dX1_installDisk_8 : decode cX1_installDisk 8 = .ok (.iload_n 1, 1) := by decide +kernel
theorem dX1_installDisk_9 : decode cX1_installDisk 9 = .ok (.iastore, 1) := by decide +kernel
theorem dX1_installDisk_10 : decode cX1_installDisk 10 = .ok (.aload_n 0, 1) := by decide +kernel
theorem dX1_installDisk_11 : decode cX1_installDisk 11 = .ok (.getfield 18, 3) := by decide +kernel
theorem dX1_installDisk_14 : decode cX1_installDisk 14 = .ok (.aload_n 0, 1) := by decide +kernel
theorem dX1_installDisk_15 : decode cX1_installDisk 15 = .ok (.getfield 53, 3) := by decide +kernel
theorem dX1_installDisk_18 : decode cX1_installDisk 18 = .ok (.bipush 115, 2) := by decide +kernel
theorem dX1_installDisk_20 : decode cX1_installDisk 20 = .ok (.castore, 1) := by decide +kernel
theorem dX1_installDisk_21 : decode cX1_installDisk 21 = .ok (.aload_n 0, 1) := by decide +kernel
theorem dX1_installDisk_22 : decode cX1_installDisk 22 = .ok (.dup, 1) := by decide +kernel
theorem dX1_installDisk_23 : decode cX1_installDisk 23 = .ok (.getfield 53, 3) := by decide +kernel
theorem dX1_installDisk_26 : decode cX1_installDisk 26 = .ok (.dup_x1, 1) := by decide +kernel
theorem dX1_installDisk_27 : decode cX1_installDisk 27 = .ok (.iconst 1, 1) := by decide +kernel
theorem dX1_installDisk_28 : decode cX1_installDisk 28 = .ok (.iadd, 1) := by decide +kernel
theorem dX1_installDisk_29 : decode cX1_installDisk 29 = .ok (.putfield 53, 3) := by decide +kernel
theorem dX1_installDisk_32 : decode cX1_installDisk 32 = .ok (.ireturn, 1) := by decide +kernel
theorem dX1_disksInState_0 : decode cX1_disksInState 0 = .ok (.iconst 0, 1) := by decide +kernel
theorem dX1_disksInState_1 : decode cX1_disksInState 1 = .ok (.istore_n 2, 1) := by decide +kernel
theorem dX1_disksInState_2 : decode cX1_disksInState 2 = .ok (.iconst 0, 1) := by decide +kernel
theorem dX1_disksInState_3 : decode cX1_disksInState 3 = .ok (.istore_n 3, 1) := by decide +kernel
theorem dX1_disksInState_4 : decode cX1_disksInState 4 = .ok (.iload_n 3, 1) := by decide +kernel
theorem dX1_disksInState_5 : decode cX1_disksInState 5 = .ok (.aload_n 0, 1) := by decide +kernel
theorem dX1_disksInState_6 : decode cX1_disksInState 6 = .ok (.getfield 53, 3) := by decide +kernel
theorem dX1_disksInState_9 : decode cX1_disksInState 9 = .ok (.if_icmp .ge 25, 3) := by decide +kernel
theorem dX1_disksInState_12 : decode cX1_disksInState 12 = .ok (.aload_n 0, 1) := by decide +kernel
theorem dX1_disksInState_13 : decode cX1_disksInState 13 = .ok (.getfield 18, 3) := by decide +kernel
theorem dX1_disksInState_16 : decode cX1_disksInState 16 = .ok (.iload_n 3, 1) := by decide +kernel
theorem dX1_disksInState_17 : decode cX1_disksInState 17 = .ok (.caload, 1) := by decide +kernel
theorem dX1_disksInState_18 : decode cX1_disksInState 18 = .ok (.iload_n 1, 1) := by decide +kernel
theorem dX1_disksInState_19 : decode cX1_disksInState 19 = .ok (.if_icmp .ne 9, 3) := by decide +kernel
theorem dX1_disksInState_22 : decode cX1_disksInState 22 = .ok (.iload_n 2, 1) := by decide +kernel
theorem dX1_disksInState_23 : decode cX1_disksInState 23 = .ok (.iconst 1, 1) := by decide +kernel
theorem dX1_disksInState_24 : decode cX1_disksInState 24 = .ok (.iload_n 3, 1) := by decide +kernel
theorem dX1_disksInState_25 : decode cX1_disksInState 25 = .ok (.ishl, 1) := by decide +kernel
theorem dX1_disksInState_26 : decode cX1_disksInState 26 = .ok (.ior, 1) := by decide +kernel
theorem dX1_disksInState_27 : decode cX1_disksInState 27 = .ok (.istore_n 2, 1) := by decide +kernel
theorem dX1_disksInState_28 : decode cX1_disksInState 28 = .ok (.iinc 3 1, 3) := by decide +kernel
theorem dX1_disksInState_31 : decode cX1_disksInState 31 = .ok (.goto (-27), 3) := by decide +kernel
theorem dX1_disksInState_34 : decode cX1_disksInState 34 = .ok (.iload_n 2, 1) := by decide +kernel
theorem dX1_disksInState_35 : decode cX1_disksInState 35 = .ok (.ireturn, 1) := by decide +kernel
theorem dX1_wantedOf_0 : decode cX1_wantedOf 0 = .ok (.aload_n 0, 1) := by decide +kernel
theorem dX1_wantedOf_1 : decode cX1_wantedOf 1 = .ok (.getfield 29, 3) := by decide +kernel
theorem dX1_wantedOf_4 : decode cX1_wantedOf 4 = .ok (.iload_n 1, 1) := by decide +kernel
theorem dX1_wantedOf_5 : decode cX1_wantedOf 5 = .ok (.bipush 100, 2) := by decide +kernel
theorem dX1_wantedOf_7 : decode cX1_wantedOf 7 = .ok (.idiv, 1) := by decide +kernel
theorem dX1_wantedOf_8 : decode cX1_wantedOf 8 = .ok (.iaload, 1) := by decide +kernel
theorem dX1_wantedOf_9 : decode cX1_wantedOf 9 = .ok (.ireturn, 1) := by decide +kernel
theorem dX1_addressOf_0 : decode cX1_addressOf 0 = .ok (.aload_n 0, 1) := by decide +kernel
theorem dX1_addressOf_1 : decode cX1_addressOf 1 = .ok (.getfield 38, 3) := by decide +kernel
theorem dX1_addressOf_4 : decode cX1_addressOf 4 = .ok (.iload_n 1, 1) := by decide +kernel
theorem dX1_addressOf_5 : decode cX1_addressOf 5 = .ok (.iconst 3, 1) := by decide +kernel
theorem dX1_addressOf_6 : decode cX1_addressOf 6 = .ok (.imul, 1) := by decide +kernel
theorem dX1_addressOf_7 : decode cX1_addressOf 7 = .ok (.iload_n 2, 1) := by decide +kernel
theorem dX1_addressOf_8 : decode cX1_addressOf 8 = .ok (.iadd, 1) := by decide +kernel
theorem dX1_addressOf_9 : decode cX1_addressOf 9 = .ok (.iaload, 1) := by decide +kernel
theorem dX1_addressOf_10 : decode cX1_addressOf 10 = .ok (.ireturn, 1) := by decide +kernel
theorem dX1_disksWithCopy_0 : decode cX1_disksWithCopy 0 = .ok (.iconst 0, 1) := by decide +kernel
theorem dX1_disksWithCopy_1 : decode cX1_disksWithCopy 1 = .ok (.istore_n 2, 1) := by decide +kernel
theorem dX1_disksWithCopy_2 : decode cX1_disksWithCopy 2 = .ok (.iconst 0, 1) := by decide +kernel
theorem dX1_disksWithCopy_3 : decode cX1_disksWithCopy 3 = .ok (.istore_n 3, 1) := by decide +kernel
theorem dX1_disksWithCopy_4 : decode cX1_disksWithCopy 4 = .ok (.iload_n 3, 1) := by decide +kernel
theorem dX1_disksWithCopy_5 : decode cX1_disksWithCopy 5 = .ok (.aload_n 0, 1) := by decide +kernel
theorem dX1_disksWithCopy_6 : decode cX1_disksWithCopy 6 = .ok (.getfield 35, 3) := by decide +kernel
theorem dX1_disksWithCopy_9 : decode cX1_disksWithCopy 9 = .ok (.iload_n 1, 1) := by decide +kernel
theorem dX1_disksWithCopy_10 : decode cX1_disksWithCopy 10 = .ok (.iaload, 1) := by decide +kernel
theorem dX1_disksWithCopy_11 : decode cX1_disksWithCopy 11 = .ok (.if_icmp .ge 23, 3) := by decide +kernel
theorem dX1_disksWithCopy_14 : decode cX1_disksWithCopy 14 = .ok (.iload_n 2, 1) := by decide +kernel
theorem dX1_disksWithCopy_15 : decode cX1_disksWithCopy 15 = .ok (.iconst 1, 1) := by decide +kernel
theorem dX1_disksWithCopy_16 : decode cX1_disksWithCopy 16 = .ok (.aload_n 0, 1) := by decide +kernel
theorem dX1_disksWithCopy_17 : decode cX1_disksWithCopy 17 = .ok (.iload_n 1, 1) := by decide +kernel
theorem dX1_disksWithCopy_18 : decode cX1_disksWithCopy 18 = .ok (.iload_n 3, 1) := by decide +kernel
theorem dX1_disksWithCopy_19 : decode cX1_disksWithCopy 19 = .ok (.invokevirtual 66, 3) := by decide +kernel
theorem dX1_disksWithCopy_22 : decode cX1_disksWithCopy 22 = .ok (.bipush 32, 2) := by decide +kernel
theorem dX1_disksWithCopy_24 : decode cX1_disksWithCopy 24 = .ok (.idiv, 1) := by decide +kernel
theorem dX1_disksWithCopy_25 : decode cX1_disksWithCopy 25 = .ok (.ishl, 1) := by decide +kernel
theorem dX1_disksWithCopy_26 : decode cX1_disksWithCopy 26 = .ok (.ior, 1) := by decide +kernel
theorem dX1_disksWithCopy_27 : decode cX1_disksWithCopy 27 = .ok (.istore_n 2, 1) := by decide +kernel
theorem dX1_disksWithCopy_28 : decode cX1_disksWithCopy 28 = .ok (.iinc 3 1, 3) := by decide +kernel
theorem dX1_disksWithCopy_31 : decode cX1_disksWithCopy 31 = .ok (.goto (-27), 3) := by decide +kernel
theorem dX1_disksWithCopy_34 : decode cX1_disksWithCopy 34 = .ok (.iload_n 2, 1) := by decide +kernel
theorem dX1_disksWithCopy_35 : decode cX1_disksWithCopy 35 = .ok (.ireturn, 1) := by decide +kernel
theorem dX1_disksWithGoodCopy_0 : decode cX1_disksWithGoodCopy 0 = .ok (.iconst 0, 1) := by decide +kernel
theorem dX1_disksWithGoodCopy_1 : decode cX1_disksWithGoodCopy 1 = .ok (.istore_n 2, 1) := by decide +kernel
theorem dX1_disksWithGoodCopy_2 : decode cX1_disksWithGoodCopy 2 = .ok (.iconst 0, 1) := by decide +kernel
theorem dX1_disksWithGoodCopy_3 : decode cX1_disksWithGoodCopy 3 = .ok (.istore_n 3, 1) := by decide +kernel
theorem dX1_disksWithGoodCopy_4 : decode cX1_disksWithGoodCopy 4 = .ok (.iload_n 3, 1) := by decide +kernel
theorem dX1_disksWithGoodCopy_5 : decode cX1_disksWithGoodCopy 5 = .ok (.aload_n 0, 1) := by decide +kernel
theorem dX1_disksWithGoodCopy_6 : decode cX1_disksWithGoodCopy 6 = .ok (.getfield 35, 3) := by decide +kernel
theorem dX1_disksWithGoodCopy_9 : decode cX1_disksWithGoodCopy 9 = .ok (.iload_n 1, 1) := by decide +kernel
theorem dX1_disksWithGoodCopy_10 : decode cX1_disksWithGoodCopy 10 = .ok (.iaload, 1) := by decide +kernel
theorem dX1_disksWithGoodCopy_11 : decode cX1_disksWithGoodCopy 11 = .ok (.if_icmp .ge 37, 3) := by decide +kernel
theorem dX1_disksWithGoodCopy_14 : decode cX1_disksWithGoodCopy 14 = .ok (.aload_n 0, 1) := by decide +kernel
theorem dX1_disksWithGoodCopy_15 : decode cX1_disksWithGoodCopy 15 = .ok (.iload_n 1, 1) := by decide +kernel
theorem dX1_disksWithGoodCopy_16 : decode cX1_disksWithGoodCopy 16 = .ok (.iload_n 3, 1) := by decide +kernel
theorem dX1_disksWithGoodCopy_17 : decode cX1_disksWithGoodCopy 17 = .ok (.invokevirtual 66, 3) := by decide +kernel
theorem dX1_disksWithGoodCopy_20 : decode cX1_disksWithGoodCopy 20 = .ok (.istore 4, 2) := by decide +kernel
theorem dX1_disksWithGoodCopy_22 : decode cX1_disksWithGoodCopy 22 = .ok (.aload_n 0, 1) := by decide +kernel
theorem dX1_disksWithGoodCopy_23 : decode cX1_disksWithGoodCopy 23 = .ok (.getfield 25, 3) := by decide +kernel
theorem dX1_disksWithGoodCopy_26 : decode cX1_disksWithGoodCopy 26 = .ok (.iload 4, 2) := by decide +kernel
theorem dX1_disksWithGoodCopy_28 : decode cX1_disksWithGoodCopy 28 = .ok (.baload, 1) := by decide +kernel
theorem dX1_disksWithGoodCopy_29 : decode cX1_disksWithGoodCopy 29 = .ok (.ifCond .ne 13, 3) := by decide +kernel
theorem dX1_disksWithGoodCopy_32 : decode cX1_disksWithGoodCopy 32 = .ok (.iload_n 2, 1) := by decide +kernel
theorem dX1_disksWithGoodCopy_33 : decode cX1_disksWithGoodCopy 33 = .ok (.iconst 1, 1) := by decide +kernel
theorem dX1_disksWithGoodCopy_34 : decode cX1_disksWithGoodCopy 34 = .ok (.iload 4, 2) := by decide +kernel
theorem dX1_disksWithGoodCopy_36 : decode cX1_disksWithGoodCopy 36 = .ok (.bipush 32, 2) := by decide +kernel
theorem dX1_disksWithGoodCopy_38 : decode cX1_disksWithGoodCopy 38 = .ok (.idiv, 1) := by decide +kernel
theorem dX1_disksWithGoodCopy_39 : decode cX1_disksWithGoodCopy 39 = .ok (.ishl, 1) := by decide +kernel
theorem dX1_disksWithGoodCopy_40 : decode cX1_disksWithGoodCopy 40 = .ok (.ior, 1) := by decide +kernel
theorem dX1_disksWithGoodCopy_41 : decode cX1_disksWithGoodCopy 41 = .ok (.istore_n 2, 1) := by decide +kernel
theorem dX1_disksWithGoodCopy_42 : decode cX1_disksWithGoodCopy 42 = .ok (.iinc 3 1, 3) := by decide +kernel
theorem dX1_disksWithGoodCopy_45 : decode cX1_disksWithGoodCopy 45 = .ok (.goto (-41), 3) := by decide +kernel
theorem dX1_disksWithGoodCopy_48 : decode cX1_disksWithGoodCopy 48 = .ok (.iload_n 2, 1) := by decide +kernel
theorem dX1_disksWithGoodCopy_49 : decode cX1_disksWithGoodCopy 49 = .ok (.ireturn, 1) := by decide +kernel
theorem dX1_hasLost_0 : decode cX1_hasLost 0 = .ok (.aload_n 0, 1) := by decide +kernel
theorem dX1_hasLost_1 : decode cX1_hasLost 1 = .ok (.getfield 32, 3) := by decide +kernel
theorem dX1_hasLost_4 : decode cX1_hasLost 4 = .ok (.iload_n 1, 1) := by decide +kernel
theorem dX1_hasLost_5 : decode cX1_hasLost 5 = .ok (.iaload, 1) := by decide +kernel
theorem dX1_hasLost_6 : decode cX1_hasLost 6 = .ok (.iconst (-1), 1) := by decide +kernel
theorem dX1_hasLost_7 : decode cX1_hasLost 7 = .ok (.if_icmp .eq 15, 3) := by decide +kernel
theorem dX1_hasLost_10 : decode cX1_hasLost 10 = .ok (.aload_n 0, 1) := by decide +kernel
theorem dX1_hasLost_11 : decode cX1_hasLost 11 = .ok (.iload_n 1, 1) := by decide +kernel
theorem dX1_hasLost_12 : decode cX1_hasLost 12 = .ok (.invokevirtual 70, 3) := by decide +kernel
theorem dX1_hasLost_15 : decode cX1_hasLost 15 = .ok (.ifCond .ne 7, 3) := by decide +kernel
theorem dX1_hasLost_18 : decode cX1_hasLost 18 = .ok (.iconst 1, 1) := by decide +kernel
theorem dX1_hasLost_19 : decode cX1_hasLost 19 = .ok (.goto 4, 3) := by decide +kernel
theorem dX1_hasLost_22 : decode cX1_hasLost 22 = .ok (.iconst 0, 1) := by decide +kernel
theorem dX1_hasLost_23 : decode cX1_hasLost 23 = .ok (.ireturn, 1) := by decide +kernel
theorem dX1_countWritten_0 : decode cX1_countWritten 0 = .ok (.iconst 0, 1) := by decide +kernel
theorem dX1_countWritten_1 : decode cX1_countWritten 1 = .ok (.istore_n 2, 1) := by decide +kernel
theorem dX1_countWritten_2 : decode cX1_countWritten 2 = .ok (.iconst 0, 1) := by decide +kernel
theorem dX1_countWritten_3 : decode cX1_countWritten 3 = .ok (.istore_n 3, 1) := by decide +kernel
theorem dX1_countWritten_4 : decode cX1_countWritten 4 = .ok (.iload_n 3, 1) := by decide +kernel
theorem dX1_countWritten_5 : decode cX1_countWritten 5 = .ok (.aload_n 0, 1) := by decide +kernel
theorem dX1_countWritten_6 : decode cX1_countWritten 6 = .ok (.getfield 57, 3) := by decide +kernel
theorem dX1_countWritten_9 : decode cX1_countWritten 9 = .ok (.if_icmp .ge 25, 3) := by decide +kernel
theorem dX1_countWritten_12 : decode cX1_countWritten 12 = .ok (.aload_n 0, 1) := by decide +kernel
theorem dX1_countWritten_13 : decode cX1_countWritten 13 = .ok (.getfield 41, 3) := by decide +kernel
theorem dX1_countWritten_16 : decode cX1_countWritten 16 = .ok (.iload_n 3, 1) := by decide +kernel
theorem dX1_countWritten_17 : decode cX1_countWritten 17 = .ok (.iaload, 1) := by decide +kernel
theorem dX1_countWritten_18 : decode cX1_countWritten 18 = .ok (.bipush 100, 2) := by decide +kernel
theorem dX1_countWritten_20 : decode cX1_countWritten 20 = .ok (.idiv, 1) := by decide +kernel
theorem dX1_countWritten_21 : decode cX1_countWritten 21 = .ok (.iload_n 1, 1) := by decide +kernel
theorem dX1_countWritten_22 : decode cX1_countWritten 22 = .ok (.if_icmp .ne 6, 3) := by decide +kernel
theorem dX1_countWritten_25 : decode cX1_countWritten 25 = .ok (.iinc 2 1, 3) := by decide +kernel
theorem dX1_countWritten_28 : decode cX1_countWritten 28 = .ok (.iinc 3 1, 3) := by decide +kernel
theorem dX1_countWritten_31 : decode cX1_countWritten 31 = .ok (.goto (-27), 3) := by decide +kernel
theorem dX1_countWritten_34 : decode cX1_countWritten 34 = .ok (.iload_n 2, 1) := by decide +kernel
theorem dX1_countWritten_35 : decode cX1_countWritten 35 = .ok (.ireturn, 1) := by decide +kernel
theorem dX1_countLost_0 : decode cX1_countLost 0 = .ok (.iconst 0, 1) := by decide +kernel
theorem dX1_countLost_1 : decode cX1_countLost 1 = .ok (.istore_n 1, 1) := by decide +kernel
theorem dX1_countLost_2 : decode cX1_countLost 2 = .ok (.iconst 0, 1) := by decide +kernel
theorem dX1_countLost_3 : decode cX1_countLost 3 = .ok (.istore_n 2, 1) := by decide +kernel
theorem dX1_countLost_4 : decode cX1_countLost 4 = .ok (.iload_n 2, 1) := by decide +kernel
theorem dX1_countLost_5 : decode cX1_countLost 5 = .ok (.aload_n 0, 1) := by decide +kernel
theorem dX1_countLost_6 : decode cX1_countLost 6 = .ok (.getfield 57, 3) := by decide +kernel
theorem dX1_countLost_9 : decode cX1_countLost 9 = .ok (.if_icmp .ge 25, 3) := by decide +kernel
theorem dX1_countLost_12 : decode cX1_countLost 12 = .ok (.aload_n 0, 1) := by decide +kernel
theorem dX1_countLost_13 : decode cX1_countLost 13 = .ok (.aload_n 0, 1) := by decide +kernel
theorem dX1_countLost_14 : decode cX1_countLost 14 = .ok (.getfield 41, 3) := by decide +kernel
theorem dX1_countLost_17 : decode cX1_countLost 17 = .ok (.iload_n 2, 1) := by decide +kernel
theorem dX1_countLost_18 : decode cX1_countLost 18 = .ok (.iaload, 1) := by decide +kernel
theorem dX1_countLost_19 : decode cX1_countLost 19 = .ok (.invokevirtual 74, 3) := by decide +kernel
theorem dX1_countLost_22 : decode cX1_countLost 22 = .ok (.ifCond .eq 6, 3) := by decide +kernel
theorem dX1_countLost_25 : decode cX1_countLost 25 = .ok (.iinc 1 1, 3) := by decide +kernel
theorem dX1_countLost_28 : decode cX1_countLost 28 = .ok (.iinc 2 1, 3) := by decide +kernel
theorem dX1_countLost_31 : decode cX1_countLost 31 = .ok (.goto (-27), 3) := by decide +kernel
theorem dX1_countLost_34 : decode cX1_countLost 34 = .ok (.iload_n 1, 1) := by decide +kernel
theorem dX1_countLost_35 : decode cX1_countLost 35 = .ok (.ireturn, 1) := by decide +kernel
theorem dX1_countDegraded_0 : decode cX1_countDegraded 0 = .ok (.iconst 0, 1) := by decide +kernel
theorem dX1_countDegraded_1 : decode cX1_countDegraded 1 = .ok (.istore_n 1, 1) := by decide +kernel
theorem dX1_countDegraded_2 : decode cX1_countDegraded 2 = .ok (.iconst 0, 1) := by decide +kernel
theorem dX1_countDegraded_3 : decode cX1_countDegraded 3 = .ok (.istore_n 2, 1) := by decide +kernel
theorem dX1_countDegraded_4 : decode cX1_countDegraded 4 = .ok (.iload_n 2, 1) := by decide +kernel
theorem dX1_countDegraded_5 : decode cX1_countDegraded 5 = .ok (.aload_n 0, 1) := by decide +kernel
theorem dX1_countDegraded_6 : decode cX1_countDegraded 6 = .ok (.getfield 57, 3) := by decide +kernel
theorem dX1_countDegraded_9 : decode cX1_countDegraded 9 = .ok (.if_icmp .ge 36, 3) := by decide +kernel
theorem dX1_countDegraded_12 : decode cX1_countDegraded 12 = .ok (.aload_n 0, 1) := by decide +kernel
theorem dX1_countDegraded_13 : decode cX1_countDegraded 13 = .ok (.getfield 35, 3) := by decide +kernel
theorem dX1_countDegraded_16 : decode cX1_countDegraded 16 = .ok (.aload_n 0, 1) := by decide +kernel
theorem dX1_countDegraded_17 : decode cX1_countDegraded 17 = .ok (.getfield 41, 3) := by decide +kernel
theorem dX1_countDegraded_20 : decode cX1_countDegraded 20 = .ok (.iload_n 2, 1) := by decide +kernel
theorem dX1_countDegraded_21 : decode cX1_countDegraded 21 = .ok (.iaload, 1) := by decide +kernel
theorem dX1_countDegraded_22 : decode cX1_countDegraded 22 = .ok (.iaload, 1) := by decide +kernel
theorem dX1_countDegraded_23 : decode cX1_countDegraded 23 = .ok (.aload_n 0, 1) := by decide +kernel
theorem dX1_countDegraded_24 : decode cX1_countDegraded 24 = .ok (.aload_n 0, 1) := by decide +kernel
theorem dX1_countDegraded_25 : decode cX1_countDegraded 25 = .ok (.getfield 41, 3) := by decide +kernel
theorem dX1_countDegraded_28 : decode cX1_countDegraded 28 = .ok (.iload_n 2, 1) := by decide +kernel
theorem dX1_countDegraded_29 : decode cX1_countDegraded 29 = .ok (.iaload, 1) := by decide +kernel
theorem dX1_countDegraded_30 : decode cX1_countDegraded 30 = .ok (.invokevirtual 78, 3) := by decide +kernel
theorem dX1_countDegraded_33 : decode cX1_countDegraded 33 = .ok (.if_icmp .ge 6, 3) := by decide +kernel
theorem dX1_countDegraded_36 : decode cX1_countDegraded 36 = .ok (.iinc 1 1, 3) := by decide +kernel
theorem dX1_countDegraded_39 : decode cX1_countDegraded 39 = .ok (.iinc 2 1, 3) := by decide +kernel
theorem dX1_countDegraded_42 : decode cX1_countDegraded 42 = .ok (.goto (-38), 3) := by decide +kernel
theorem dX1_countDegraded_45 : decode cX1_countDegraded 45 = .ok (.iload_n 1, 1) := by decide +kernel
theorem dX1_countDegraded_46 : decode cX1_countDegraded 46 = .ok (.ireturn, 1) := by decide +kernel
theorem dX1_countInSlots_0 : decode cX1_countInSlots 0 = .ok (.iconst 0, 1) := by decide +kernel
theorem dX1_countInSlots_1 : decode cX1_countInSlots 1 = .ok (.istore_n 2, 1) := by decide +kernel
theorem dX1_countInSlots_2 : decode cX1_countInSlots 2 = .ok (.iconst 0, 1) := by decide +kernel
theorem dX1_countInSlots_3 : decode cX1_countInSlots 3 = .ok (.istore_n 3, 1) := by decide +kernel
theorem dX1_countInSlots_4 : decode cX1_countInSlots 4 = .ok (.iload_n 3, 1) := by decide +kernel
theorem dX1_countInSlots_5 : decode cX1_countInSlots 5 = .ok (.sipush 256, 3) := by decide +kernel
theorem dX1_countInSlots_8 : decode cX1_countInSlots 8 = .ok (.if_icmp .ge 22, 3) := by decide +kernel
theorem dX1_countInSlots_11 : decode cX1_countInSlots 11 = .ok (.aload_n 0, 1) := by decide +kernel
theorem dX1_countInSlots_12 : decode cX1_countInSlots 12 = .ok (.getfield 22, 3) := by decide +kernel
theorem dX1_countInSlots_15 : decode cX1_countInSlots 15 = .ok (.iload_n 3, 1) := by decide +kernel
theorem dX1_countInSlots_16 : decode cX1_countInSlots 16 = .ok (.iaload, 1) := by decide +kernel
theorem dX1_countInSlots_17 : decode cX1_countInSlots 17 = .ok (.iload_n 1, 1) := by decide +kernel
theorem dX1_countInSlots_18 : decode cX1_countInSlots 18 = .ok (.if_icmp .ne 6, 3) := by decide +kernel
theorem dX1_countInSlots_21 : decode cX1_countInSlots 21 = .ok (.iinc 2 1, 3) := by decide +kernel
theorem dX1_countInSlots_24 : decode cX1_countInSlots 24 = .ok (.iinc 3 1, 3) := by decide +kernel
theorem dX1_countInSlots_27 : decode cX1_countInSlots 27 = .ok (.goto (-23), 3) := by decide +kernel
theorem dX1_countInSlots_30 : decode cX1_countInSlots 30 = .ok (.iload_n 2, 1) := by decide +kernel
theorem dX1_countInSlots_31 : decode cX1_countInSlots 31 = .ok (.ireturn, 1) := by decide +kernel
theorem dX1_freeOn_0 : decode cX1_freeOn 0 = .ok (.aload_n 0, 1) := by decide +kernel
theorem dX1_freeOn_1 : decode cX1_freeOn 1 = .ok (.getfield 9, 3) := by decide +kernel
theorem dX1_freeOn_4 : decode cX1_freeOn 4 = .ok (.iload_n 1, 1) := by decide +kernel
theorem dX1_freeOn_5 : decode cX1_freeOn 5 = .ok (.iaload, 1) := by decide +kernel
theorem dX1_freeOn_6 : decode cX1_freeOn 6 = .ok (.aload_n 0, 1) := by decide +kernel
theorem dX1_freeOn_7 : decode cX1_freeOn 7 = .ok (.getfield 15, 3) := by decide +kernel
theorem dX1_freeOn_10 : decode cX1_freeOn 10 = .ok (.iload_n 1, 1) := by decide +kernel
theorem dX1_freeOn_11 : decode cX1_freeOn 11 = .ok (.iaload, 1) := by decide +kernel
theorem dX1_freeOn_12 : decode cX1_freeOn 12 = .ok (.isub, 1) := by decide +kernel
theorem dX1_freeOn_13 : decode cX1_freeOn 13 = .ok (.ireturn, 1) := by decide +kernel
theorem dX1_findPlace_0 : decode cX1_findPlace 0 = .ok (.iconst (-1), 1) := by decide +kernel
theorem dX1_findPlace_1 : decode cX1_findPlace 1 = .ok (.istore_n 2, 1) := by decide +kernel
theorem dX1_findPlace_2 : decode cX1_findPlace 2 = .ok (.iconst 0, 1) := by decide +kernel
theorem dX1_findPlace_3 : decode cX1_findPlace 3 = .ok (.istore_n 3, 1) := by decide +kernel
theorem dX1_findPlace_4 : decode cX1_findPlace 4 = .ok (.iconst 0, 1) := by decide +kernel
theorem dX1_findPlace_5 : decode cX1_findPlace 5 = .ok (.istore 4, 2) := by decide +kernel
theorem dX1_findPlace_7 : decode cX1_findPlace 7 = .ok (.iload 4, 2) := by decide +kernel
theorem dX1_findPlace_9 : decode cX1_findPlace 9 = .ok (.aload_n 0, 1) := by decide +kernel
theorem dX1_findPlace_10 : decode cX1_findPlace 10 = .ok (.getfield 53, 3) := by decide +kernel
theorem dX1_findPlace_13 : decode cX1_findPlace 13 = .ok (.if_icmp .ge 62, 3) := by decide +kernel
theorem dX1_findPlace_16 : decode cX1_findPlace 16 = .ok (.aload_n 0, 1) := by decide +kernel
theorem dX1_findPlace_17 : decode cX1_findPlace 17 = .ok (.getfield 18, 3) := by decide +kernel
theorem dX1_findPlace_20 : decode cX1_findPlace 20 = .ok (.iload 4, 2) := by decide +kernel
theorem dX1_findPlace_22 : decode cX1_findPlace 22 = .ok (.caload, 1) := by decide +kernel
theorem dX1_findPlace_23 : decode cX1_findPlace 23 = .ok (.bipush 115, 2) := by decide +kernel
theorem dX1_findPlace_25 : decode cX1_findPlace 25 = .ok (.if_icmp .ne 16, 3) := by decide +kernel
theorem dX1_findPlace_28 : decode cX1_findPlace 28 = .ok (.iload_n 1, 1) := by decide +kernel
theorem dX1_findPlace_29 : decode cX1_findPlace 29 = .ok (.iload 4, 2) := by decide +kernel
theorem dX1_findPlace_31 : decode cX1_findPlace 31 = .ok (.ishr, 1) := by decide +kernel
theorem dX1_findPlace_32 : decode cX1_findPlace 32 = .ok (.iconst 1, 1) := by decide +kernel
theorem dX1_findPlace_33 : decode cX1_findPlace 33 = .ok (.iand, 1) := by decide +kernel
theorem dX1_findPlace_34 : decode cX1_findPlace 34 = .ok (.ifCond .ne 7, 3) := by decide +kernel
theorem dX1_findPlace_37 : decode cX1_findPlace 37 = .ok (.iconst 1, 1) := by decide +kernel
theorem dX1_findPlace_38 : decode cX1_findPlace 38 = .ok (.goto 4, 3) := by decide +kernel
theorem dX1_findPlace_41 : decode cX1_findPlace 41 = .ok (.iconst 0, 1) := by decide +kernel
theorem dX1_findPlace_42 : decode cX1_findPlace 42 = .ok (.istore 5, 2) := by decide +kernel
theorem dX1_findPlace_44 : decode cX1_findPlace 44 = .ok (.iload 5, 2) := by decide +kernel
theorem dX1_findPlace_46 : decode cX1_findPlace 46 = .ok (.ifCond .eq 23, 3) := by decide +kernel
theorem dX1_findPlace_49 : decode cX1_findPlace 49 = .ok (.aload_n 0, 1) := by decide +kernel
theorem dX1_findPlace_50 : decode cX1_findPlace 50 = .ok (.iload 4, 2) := by decide +kernel
theorem dX1_findPlace_52 : decode cX1_findPlace 52 = .ok (.invokevirtual 81, 3) := by decide +kernel
theorem dX1_findPlace_55 : decode cX1_findPlace 55 = .ok (.iload_n 3, 1) := by decide +kernel
theorem dX1_findPlace_56 : decode cX1_findPlace 56 = .ok (.if_icmp .le 13, 3) := by decide +kernel
theorem dX1_findPlace_59 : decode cX1_findPlace 59 = .ok (.iload 4, 2) := by decide +kernel
theorem dX1_findPlace_61 : decode cX1_findPlace 61 = .ok (.istore_n 2, 1) := by decide +kernel
theorem dX1_findPlace_62 : decode cX1_findPlace 62 = .ok (.aload_n 0, 1) := by decide +kernel
theorem dX1_findPlace_63 : decode cX1_findPlace 63 = .ok (.iload 4, 2) := by decide +kernel
theorem dX1_findPlace_65 : decode cX1_findPlace 65 = .ok (.invokevirtual 81, 3) := by decide +kernel
theorem dX1_findPlace_68 : decode cX1_findPlace 68 = .ok (.istore_n 3, 1) := by decide +kernel
theorem dX1_findPlace_69 : decode cX1_findPlace 69 = .ok (.iinc 4 1, 3) := by decide +kernel
theorem dX1_findPlace_72 : decode cX1_findPlace 72 = .ok (.goto (-65), 3) := by decide +kernel
theorem dX1_findPlace_75 : decode cX1_findPlace 75 = .ok (.iload_n 2, 1) := by decide +kernel
theorem dX1_findPlace_76 : decode cX1_findPlace 76 = .ok (.iconst (-1), 1) := by decide +kernel
theorem dX1_findPlace_77 : decode cX1_findPlace 77 = .ok (.if_icmp .ne 7, 3) := by decide +kernel
theorem dX1_findPlace_80 : decode cX1_findPlace 80 = .ok (.iconst (-1), 1) := by decide +kernel
theorem dX1_findPlace_81 : decode cX1_findPlace 81 = .ok (.goto 8, 3) := by decide +kernel
theorem dX1_findPlace_84 : decode cX1_findPlace 84 = .ok (.aload_n 0, 1) := by decide +kernel
theorem dX1_findPlace_85 : decode cX1_findPlace 85 = .ok (.iload_n 2, 1) := by decide +kernel
theorem dX1_findPlace_86 : decode cX1_findPlace 86 = .ok (.invokevirtual 84, 3) := by decide +kernel
theorem dX1_findPlace_89 : decode cX1_findPlace 89 = .ok (.ireturn, 1) := by decide +kernel
theorem dX1_firstFreeOn_0 : decode cX1_firstFreeOn 0 = .ok (.iload_n 1, 1) := by decide +kernel
theorem dX1_firstFreeOn_1 : decode cX1_firstFreeOn 1 = .ok (.bipush 32, 2) := by decide +kernel
theorem dX1_firstFreeOn_3 : decode cX1_firstFreeOn 3 = .ok (.imul, 1) := by decide +kernel
theorem dX1_firstFreeOn_4 : decode cX1_firstFreeOn 4 = .ok (.istore_n 2, 1) := by decide +kernel
theorem dX1_firstFreeOn_5 : decode cX1_firstFreeOn 5 = .ok (.iload_n 2, 1) := by decide +kernel
theorem dX1_firstFreeOn_6 : decode cX1_firstFreeOn 6 = .ok (.istore_n 3, 1) := by decide +kernel
theorem dX1_firstFreeOn_7 : decode cX1_firstFreeOn 7 = .ok (.iload_n 3, 1) := by decide +kernel
theorem dX1_firstFreeOn_8 : decode cX1_firstFreeOn 8 = .ok (.iload_n 2, 1) := by decide +kernel
theorem dX1_firstFreeOn_9 : decode cX1_firstFreeOn 9 = .ok (.aload_n 0, 1) := by decide +kernel
theorem dX1_firstFreeOn_10 : decode cX1_firstFreeOn 10 = .ok (.getfield 9, 3) := by decide +kernel
theorem dX1_firstFreeOn_13 : decode cX1_firstFreeOn 13 = .ok (.iload_n 1, 1) := by decide +kernel
theorem dX1_firstFreeOn_14 : decode cX1_firstFreeOn 14 = .ok (.iaload, 1) := by decide +kernel
theorem dX1_firstFreeOn_15 : decode cX1_firstFreeOn 15 = .ok (.iadd, 1) := by decide +kernel
theorem dX1_firstFreeOn_16 : decode cX1_firstFreeOn 16 = .ok (.if_icmp .ge 21, 3) := by decide +kernel
theorem dX1_firstFreeOn_19 : decode cX1_firstFreeOn 19 = .ok (.aload_n 0, 1) := by decide +kernel
theorem dX1_firstFreeOn_20 : decode cX1_firstFreeOn 20 = .ok (.getfield 22, 3) := by decide +kernel
theorem dX1_firstFreeOn_23 : decode cX1_firstFreeOn 23 = .ok (.iload_n 3, 1) := by decide +kernel
theorem dX1_firstFreeOn_24 : decode cX1_firstFreeOn 24 = .ok (.iaload, 1) := by decide +kernel
theorem dX1_firstFreeOn_25 : decode cX1_firstFreeOn 25 = .ok (.iconst (-1), 1) := by decide +kernel
theorem dX1_firstFreeOn_26 : decode cX1_firstFreeOn 26 = .ok (.if_icmp .ne 5, 3) := by decide +kernel
theorem dX1_firstFreeOn_29 : decode cX1_firstFreeOn 29 = .ok (.iload_n 3, 1) := by decide +kernel
theorem dX1_firstFreeOn_30 : decode cX1_firstFreeOn 30 = .ok (.ireturn, 1) := by decide +kernel
theorem dX1_firstFreeOn_31 : decode cX1_firstFreeOn 31 = .ok (.iinc 3 1, 3) := by decide +kernel
theorem dX1_firstFreeOn_34 : decode cX1_firstFreeOn 34 = .ok (.goto (-27), 3) := by decide +kernel
theorem dX1_firstFreeOn_37 : decode cX1_firstFreeOn 37 = .ok (.iconst (-1), 1) := by decide +kernel
theorem dX1_firstFreeOn_38 : decode cX1_firstFreeOn 38 = .ok (.ireturn, 1) := by decide +kernel
theorem dX1_addCopy_0 : decode cX1_addCopy 0 = .ok (.aload_n 0, 1) := by decide +kernel
theorem dX1_addCopy_1 : decode cX1_addCopy 1 = .ok (.getfield 22, 3) := by decide +kernel
theorem dX1_addCopy_4 : decode cX1_addCopy 4 = .ok (.iload_n 2, 1) := by decide +kernel
theorem dX1_addCopy_5 : decode cX1_addCopy 5 = .ok (.iload_n 1, 1) := by decide +kernel
theorem dX1_addCopy_6 : decode cX1_addCopy 6 = .ok (.iastore, 1) := by decide +kernel
theorem dX1_addCopy_7 : decode cX1_addCopy 7 = .ok (.aload_n 0, 1) := by decide +kernel
theorem dX1_addCopy_8 : decode cX1_addCopy 8 = .ok (.getfield 25, 3) := by decide +kernel
theorem dX1_addCopy_11 : decode cX1_addCopy 11 = .ok (.iload_n 2, 1) := by decide +kernel
theorem dX1_addCopy_12 : decode cX1_addCopy 12 = .ok (.iconst 0, 1) := by decide +kernel
theorem dX1_addCopy_13 : decode cX1_addCopy 13 = .ok (.bastore, 1) := by decide +kernel
theorem dX1_addCopy_14 : decode cX1_addCopy 14 = .ok (.aload_n 0, 1) := by decide +kernel
theorem dX1_addCopy_15 : decode cX1_addCopy 15 = .ok (.getfield 15, 3) := by decide +kernel
theorem dX1_addCopy_18 : decode cX1_addCopy 18 = .ok (.iload_n 2, 1) := by decide +kernel
theorem dX1_addCopy_19 : decode cX1_addCopy 19 = .ok (.bipush 32, 2) := by decide +kernel
theorem dX1_addCopy_21 : decode cX1_addCopy 21 = .ok (.idiv, 1) := by decide +kernel
theorem dX1_addCopy_22 : decode cX1_addCopy 22 = .ok (.dup2, 1) := by decide +kernel
theorem dX1_addCopy_23 : decode cX1_addCopy 23 = .ok (.iaload, 1) := by decide +kernel
theorem dX1_addCopy_24 : decode cX1_addCopy 24 = .ok (.iconst 1, 1) := by decide +kernel
theorem dX1_addCopy_25 : decode cX1_addCopy 25 = .ok (.iadd, 1) := by decide +kernel
theorem dX1_addCopy_26 : decode cX1_addCopy 26 = .ok (.iastore, 1) := by decide +kernel
theorem dX1_addCopy_27 : decode cX1_addCopy 27 = .ok (.aload_n 0, 1) := by decide +kernel
theorem dX1_addCopy_28 : decode cX1_addCopy 28 = .ok (.getfield 38, 3) := by decide +kernel
theorem dX1_addCopy_31 : decode cX1_addCopy 31 = .ok (.iload_n 1, 1) := by decide +kernel
theorem dX1_addCopy_32 : decode cX1_addCopy 32 = .ok (.iconst 3, 1) := by decide +kernel
theorem dX1_addCopy_33 : decode cX1_addCopy 33 = .ok (.imul, 1) := by decide +kernel
theorem dX1_addCopy_34 : decode cX1_addCopy 34 = .ok (.aload_n 0, 1) := by decide +kernel
theorem dX1_addCopy_35 : decode cX1_addCopy 35 = .ok (.getfield 35, 3) := by decide +kernel
theorem dX1_addCopy_38 : decode cX1_addCopy 38 = .ok (.iload_n 1, 1) := by decide +kernel
theorem dX1_addCopy_39 : decode cX1_addCopy 39 = .ok (.iaload, 1) := by decide +kernel
theorem dX1_addCopy_40 : decode cX1_addCopy 40 = .ok (.iadd, 1) := by decide +kernel
theorem dX1_addCopy_41 : decode cX1_addCopy 41 = .ok (.iload_n 2, 1) := by decide +kernel
theorem dX1_addCopy_42 : decode cX1_addCopy 42 = .ok (.iastore, 1) := by decide +kernel
theorem dX1_addCopy_43 : decode cX1_addCopy 43 = .ok (.aload_n 0, 1) := by decide +kernel
theorem dX1_addCopy_44 : decode cX1_addCopy 44 = .ok (.getfield 35, 3) := by decide +kernel
theorem dX1_addCopy_47 : decode cX1_addCopy 47 = .ok (.iload_n 1, 1) := by decide +kernel
theorem dX1_addCopy_48 : decode cX1_addCopy 48 = .ok (.dup2, 1) := by decide +kernel
theorem dX1_addCopy_49 : decode cX1_addCopy 49 = .ok (.iaload, 1) := by decide +kernel
theorem dX1_addCopy_50 : decode cX1_addCopy 50 = .ok (.iconst 1, 1) := by decide +kernel
theorem dX1_addCopy_51 : decode cX1_addCopy 51 = .ok (.iadd, 1) := by decide +kernel
theorem dX1_addCopy_52 : decode cX1_addCopy 52 = .ok (.iastore, 1) := by decide +kernel
theorem dX1_addCopy_53 : decode cX1_addCopy 53 = .ok (.return_, 1) := by decide +kernel
theorem dX1_removeCopy_0 : decode cX1_removeCopy 0 = .ok (.aload_n 0, 1) := by decide +kernel
theorem dX1_removeCopy_1 : decode cX1_removeCopy 1 = .ok (.iload_n 1, 1) := by decide +kernel
theorem dX1_removeCopy_2 : decode cX1_removeCopy 2 = .ok (.iload_n 2, 1) := by decide +kernel
theorem dX1_removeCopy_3 : decode cX1_removeCopy 3 = .ok (.invokevirtual 66, 3) := by decide +kernel
theorem dX1_removeCopy_6 : decode cX1_removeCopy 6 = .ok (.istore_n 3, 1) := by decide +kernel
theorem dX1_removeCopy_7 : decode cX1_removeCopy 7 = .ok (.aload_n 0, 1) := by decide +kernel
theorem dX1_removeCopy_8 : decode cX1_removeCopy 8 = .ok (.getfield 22, 3) := by decide +kernel
theorem dX1_removeCopy_11 : decode cX1_removeCopy 11 = .ok (.iload_n 3, 1) := by decide +kernel
theorem dX1_removeCopy_12 : decode cX1_removeCopy 12 = .ok (.iconst (-1), 1) := by decide +kernel
theorem dX1_removeCopy_13 : decode cX1_removeCopy 13 = .ok (.iastore, 1) := by decide +kernel
theorem dX1_removeCopy_14 : decode cX1_removeCopy 14 = .ok (.aload_n 0, 1) := by decide +kernel
theorem dX1_removeCopy_15 : decode cX1_removeCopy 15 = .ok (.getfield 25, 3) := by decide +kernel
theorem dX1_removeCopy_18 : decode cX1_removeCopy 18 = .ok (.iload_n 3, 1) := by decide +kernel
theorem dX1_removeCopy_19 : decode cX1_removeCopy 19 = .ok (.iconst 0, 1) := by decide +kernel
theorem dX1_removeCopy_20 : decode cX1_removeCopy 20 = .ok (.bastore, 1) := by decide +kernel
theorem dX1_removeCopy_21 : decode cX1_removeCopy 21 = .ok (.aload_n 0, 1) := by decide +kernel
theorem dX1_removeCopy_22 : decode cX1_removeCopy 22 = .ok (.getfield 15, 3) := by decide +kernel
theorem dX1_removeCopy_25 : decode cX1_removeCopy 25 = .ok (.iload_n 3, 1) := by decide +kernel
theorem dX1_removeCopy_26 : decode cX1_removeCopy 26 = .ok (.bipush 32, 2) := by decide +kernel
theorem dX1_removeCopy_28 : decode cX1_removeCopy 28 = .ok (.idiv, 1) := by decide +kernel
theorem dX1_removeCopy_29 : decode cX1_removeCopy 29 = .ok (.dup2, 1) := by decide +kernel
theorem dX1_removeCopy_30 : decode cX1_removeCopy 30 = .ok (.iaload, 1) := by decide +kernel
theorem dX1_removeCopy_31 : decode cX1_removeCopy 31 = .ok (.iconst 1, 1) := by decide +kernel
theorem dX1_removeCopy_32 : decode cX1_removeCopy 32 = .ok (.isub, 1) := by decide +kernel
theorem dX1_removeCopy_33 : decode cX1_removeCopy 33 = .ok (.iastore, 1) := by decide +kernel
theorem dX1_removeCopy_34 : decode cX1_removeCopy 34 = .ok (.aload_n 0, 1) := by decide +kernel
theorem dX1_removeCopy_35 : decode cX1_removeCopy 35 = .ok (.getfield 35, 3) := by decide +kernel
theorem dX1_removeCopy_38 : decode cX1_removeCopy 38 = .ok (.iload_n 1, 1) := by decide +kernel
theorem dX1_removeCopy_39 : decode cX1_removeCopy 39 = .ok (.dup2, 1) := by decide +kernel
theorem dX1_removeCopy_40 : decode cX1_removeCopy 40 = .ok (.iaload, 1) := by decide +kernel
theorem dX1_removeCopy_41 : decode cX1_removeCopy 41 = .ok (.iconst 1, 1) := by decide +kernel
theorem dX1_removeCopy_42 : decode cX1_removeCopy 42 = .ok (.isub, 1) := by decide +kernel
theorem dX1_removeCopy_43 : decode cX1_removeCopy 43 = .ok (.iastore, 1) := by decide +kernel
theorem dX1_removeCopy_44 : decode cX1_removeCopy 44 = .ok (.iload_n 1, 1) := by decide +kernel
theorem dX1_removeCopy_45 : decode cX1_removeCopy 45 = .ok (.iconst 3, 1) := by decide +kernel
theorem dX1_removeCopy_46 : decode cX1_removeCopy 46 = .ok (.imul, 1) := by decide +kernel
theorem dX1_removeCopy_47 : decode cX1_removeCopy 47 = .ok (.istore 4, 2) := by decide +kernel
theorem dX1_removeCopy_49 : decode cX1_removeCopy 49 = .ok (.iload_n 2, 1) := by decide +kernel
theorem dX1_removeCopy_50 : decode cX1_removeCopy 50 = .ok (.istore 5, 2) := by decide +kernel
theorem dX1_removeCopy_52 : decode cX1_removeCopy 52 = .ok (.iload 5, 2) := by decide +kernel
theorem dX1_removeCopy_54 : decode cX1_removeCopy 54 = .ok (.aload_n 0, 1) := by decide +kernel
theorem dX1_removeCopy_55 : decode cX1_removeCopy 55 = .ok (.getfield 35, 3) := by decide +kernel
theorem dX1_removeCopy_58 : decode cX1_removeCopy 58 = .ok (.iload_n 1, 1) := by decide +kernel
theorem dX1_removeCopy_59 : decode cX1_removeCopy 59 = .ok (.iaload, 1) := by decide +kernel
theorem dX1_removeCopy_60 : decode cX1_removeCopy 60 = .ok (.if_icmp .ge 31, 3) := by decide +kernel
theorem dX1_removeCopy_63 : decode cX1_removeCopy 63 = .ok (.aload_n 0, 1) := by decide +kernel
theorem dX1_removeCopy_64 : decode cX1_removeCopy 64 = .ok (.getfield 38, 3) := by decide +kernel
theorem dX1_removeCopy_67 : decode cX1_removeCopy 67 = .ok (.iload 4, 2) := by decide +kernel
theorem dX1_removeCopy_69 : decode cX1_removeCopy 69 = .ok (.iload 5, 2) := by decide +kernel
theorem dX1_removeCopy_71 : decode cX1_removeCopy 71 = .ok (.iadd, 1) := by decide +kernel
theorem dX1_removeCopy_72 : decode cX1_removeCopy 72 = .ok (.aload_n 0, 1) := by decide +kernel
theorem dX1_removeCopy_73 : decode cX1_removeCopy 73 = .ok (.getfield 38, 3) := by decide +kernel
theorem dX1_removeCopy_76 : decode cX1_removeCopy 76 = .ok (.iload 4, 2) := by decide +kernel
theorem dX1_removeCopy_78 : decode cX1_removeCopy 78 = .ok (.iload 5, 2) := by decide +kernel
theorem dX1_removeCopy_80 : decode cX1_removeCopy 80 = .ok (.iadd, 1) := by decide +kernel
theorem dX1_removeCopy_81 : decode cX1_removeCopy 81 = .ok (.iconst 1, 1) := by decide +kernel
theorem dX1_removeCopy_82 : decode cX1_removeCopy 82 = .ok (.iadd, 1) := by decide +kernel
theorem dX1_removeCopy_83 : decode cX1_removeCopy 83 = .ok (.iaload, 1) := by decide +kernel
theorem dX1_removeCopy_84 : decode cX1_removeCopy 84 = .ok (.iastore, 1) := by decide +kernel
theorem dX1_removeCopy_85 : decode cX1_removeCopy 85 = .ok (.iinc 5 1, 3) := by decide +kernel
theorem dX1_removeCopy_88 : decode cX1_removeCopy 88 = .ok (.goto (-36), 3) := by decide +kernel
theorem dX1_removeCopy_91 : decode cX1_removeCopy 91 = .ok (.return_, 1) := by decide +kernel
theorem dX1_putValue_0 : decode cX1_putValue 0 = .ok (.aload_n 0, 1) := by decide +kernel
theorem dX1_putValue_1 : decode cX1_putValue 1 = .ok (.iload_n 1, 1) := by decide +kernel
theorem dX1_putValue_2 : decode cX1_putValue 2 = .ok (.invokevirtual 70, 3) := by decide +kernel
theorem dX1_putValue_5 : decode cX1_putValue 5 = .ok (.ifCond .eq 11, 3) := by decide +kernel
theorem dX1_putValue_8 : decode cX1_putValue 8 = .ok (.aload_n 0, 1) := by decide +kernel
theorem dX1_putValue_9 : decode cX1_putValue 9 = .ok (.iload_n 1, 1) := by decide +kernel
theorem dX1_putValue_10 : decode cX1_putValue 10 = .ok (.invokevirtual 87, 3) := by decide +kernel
theorem dX1_putValue_13 : decode cX1_putValue 13 = .ok (.goto 37, 3) := by decide +kernel
theorem dX1_putValue_16 : decode cX1_putValue 16 = .ok (.aload_n 0, 1) := by decide +kernel
theorem dX1_putValue_17 : decode cX1_putValue 17 = .ok (.iload_n 1, 1) := by decide +kernel
theorem dX1_putValue_18 : decode cX1_putValue 18 = .ok (.invokevirtual 91, 3) := by decide +kernel
theorem dX1_putValue_21 : decode cX1_putValue 21 = .ok (.aload_n 0, 1) := by decide +kernel
theorem dX1_putValue_22 : decode cX1_putValue 22 = .ok (.iload_n 1, 1) := by decide +kernel
theorem dX1_putValue_23 : decode cX1_putValue 23 = .ok (.invokevirtual 78, 3) := by decide +kernel
theorem dX1_putValue_26 : decode cX1_putValue 26 = .ok (.if_icmp .lt 22, 3) := by decide +kernel
theorem dX1_putValue_29 : decode cX1_putValue 29 = .ok (.aload_n 0, 1) := by decide +kernel
theorem dX1_putValue_30 : decode cX1_putValue 30 = .ok (.iload_n 1, 1) := by decide +kernel
theorem dX1_putValue_31 : decode cX1_putValue 31 = .ok (.invokevirtual 94, 3) := by decide +kernel
theorem dX1_putValue_34 : decode cX1_putValue 34 = .ok (.aload_n 0, 1) := by decide +kernel
theorem dX1_putValue_35 : decode cX1_putValue 35 = .ok (.iload_n 1, 1) := by decide +kernel
theorem dX1_putValue_36 : decode cX1_putValue 36 = .ok (.aload_n 0, 1) := by decide +kernel
theorem dX1_putValue_37 : decode cX1_putValue 37 = .ok (.iload_n 1, 1) := by decide +kernel
theorem dX1_putValue_38 : decode cX1_putValue 38 = .ok (.invokevirtual 78, 3) := by decide +kernel
theorem dX1_putValue_41 : decode cX1_putValue 41 = .ok (.invokevirtual 97, 3) := by decide +kernel
theorem dX1_putValue_44 : decode cX1_putValue 44 = .ok (.pop, 1) := by decide +kernel
theorem dX1_putValue_45 : decode cX1_putValue 45 = .ok (.goto 5, 3) := by decide +kernel
theorem dX1_putValue_48 : decode cX1_putValue 48 = .ok (.iconst 0, 1) := by decide +kernel
theorem dX1_putValue_49 : decode cX1_putValue 49 = .ok (.ireturn, 1) := by decide +kernel
theorem dX1_putValue_50 : decode cX1_putValue 50 = .ok (.aload_n 0, 1) := by decide +kernel
theorem dX1_putValue_51 : decode cX1_putValue 51 = .ok (.getfield 32, 3) := by decide +kernel
theorem dX1_putValue_54 : decode cX1_putValue 54 = .ok (.iload_n 1, 1) := by decide +kernel
theorem dX1_putValue_55 : decode cX1_putValue 55 = .ok (.iaload, 1) := by decide +kernel
theorem dX1_putValue_56 : decode cX1_putValue 56 = .ok (.iconst (-1), 1) := by decide +kernel
theorem dX1_putValue_57 : decode cX1_putValue 57 = .ok (.if_icmp .ne 23, 3) := by decide +kernel
theorem dX1_putValue_60 : decode cX1_putValue 60 = .ok (.aload_n 0, 1) := by decide +kernel
theorem dX1_putValue_61 : decode cX1_putValue 61 = .ok (.getfield 41, 3) := by decide +kernel
theorem dX1_putValue_64 : decode cX1_putValue 64 = .ok (.aload_n 0, 1) := by decide +kernel
theorem dX1_putValue_65 : decode cX1_putValue 65 = .ok (.getfield 57, 3) := by decide +kernel
theorem dX1_putValue_68 : decode cX1_putValue 68 = .ok (.iload_n 1, 1) := by decide +kernel
theorem dX1_putValue_69 : decode cX1_putValue 69 = .ok (.iastore, 1) := by decide +kernel
theorem dX1_putValue_70 : decode cX1_putValue 70 = .ok (.aload_n 0, 1) := by decide +kernel
theorem dX1_putValue_71 : decode cX1_putValue 71 = .ok (.dup, 1) := by decide +kernel
theorem dX1_putValue_72 : decode cX1_putValue 72 = .ok (.getfield 57, 3) := by decide +kernel
theorem dX1_putValue_75 : decode cX1_putValue 75 = .ok (.iconst 1, 1) := by decide +kernel
theorem dX1_putValue_76 : decode cX1_putValue 76 = .ok (.iadd, 1) := by decide +kernel
theorem dX1_putValue_77 : decode cX1_putValue 77 = .ok (.putfield 57, 3) := by decide +kernel
theorem dX1_putValue_80 : decode cX1_putValue 80 = .ok (.aload_n 0, 1) := by decide +kernel
theorem dX1_putValue_81 : decode cX1_putValue 81 = .ok (.getfield 32, 3) := by decide +kernel
theorem dX1_putValue_84 : decode cX1_putValue 84 = .ok (.iload_n 1, 1) := by decide +kernel
theorem dX1_putValue_85 : decode cX1_putValue 85 = .ok (.iload_n 2, 1) := by decide +kernel
theorem dX1_putValue_86 : decode cX1_putValue 86 = .ok (.iastore, 1) := by decide +kernel
theorem dX1_putValue_87 : decode cX1_putValue 87 = .ok (.iconst 1, 1) := by decide +kernel
theorem dX1_putValue_88 : decode cX1_putValue 88 = .ok (.ireturn, 1) := by decide +kernel
theorem dX1_renewCopies_0 : decode cX1_renewCopies 0 = .ok (.iconst 0, 1) := by decide +kernel
theorem dX1_renewCopies_1 : decode cX1_renewCopies 1 = .ok (.istore_n 2, 1) := by decide +kernel
theorem dX1_renewCopies_2 : decode cX1_renewCopies 2 = .ok (.iload_n 2, 1) := by decide +kernel
theorem dX1_renewCopies_3 : decode cX1_renewCopies 3 = .ok (.aload_n 0, 1) := by decide +kernel
theorem dX1_renewCopies_4 : decode cX1_renewCopies 4 = .ok (.getfield 35, 3) := by decide +kernel
theorem dX1_renewCopies_7 : decode cX1_renewCopies 7 = .ok (.iload_n 1, 1) := by decide +kernel
theorem dX1_renewCopies_8 : decode cX1_renewCopies 8 = .ok (.iaload, 1) := by decide +kernel
theorem dX1_renewCopies_9 : decode cX1_renewCopies 9 = .ok (.if_icmp .ge 21, 3) := by decide +kernel
theorem dX1_renewCopies_12 : decode cX1_renewCopies 12 = .ok (.aload_n 0, 1) := by decide +kernel
theorem dX1_renewCopies_13 : decode cX1_renewCopies 13 = .ok (.getfield 25, 3) := by decide +kernel
theorem dX1_renewCopies_16 : decode cX1_renewCopies 16 = .ok (.aload_n 0, 1) := by decide +kernel
theorem dX1_renewCopies_17 : decode cX1_renewCopies 17 = .ok (.iload_n 1, 1) := by decide +kernel
theorem dX1_renewCopies_18 : decode cX1_renewCopies 18 = .ok (.iload_n 2, 1) := by decide +kernel
theorem dX1_renewCopies_19 : decode cX1_renewCopies 19 = .ok (.invokevirtual 66, 3) := by decide +kernel
theorem dX1_renewCopies_22 : decode cX1_renewCopies 22 = .ok (.iconst 0, 1) := by decide +kernel
theorem dX1_renewCopies_23 : decode cX1_renewCopies 23 = .ok (.bastore, 1) := by decide +kernel
theorem dX1_renewCopies_24 : decode cX1_renewCopies 24 = .ok (.iinc 2 1, 3) := by decide +kernel
theorem dX1_renewCopies_27 : decode cX1_renewCopies 27 = .ok (.goto (-25), 3) := by decide +kernel
theorem dX1_renewCopies_30 : decode cX1_renewCopies 30 = .ok (.return_, 1) := by decide +kernel
theorem dX1_countPlacesAnew_0 : decode cX1_countPlacesAnew 0 = .ok (.aload_n 0, 1) := by decide +kernel
theorem dX1_countPlacesAnew_1 : decode cX1_countPlacesAnew 1 = .ok (.iload_n 1, 1) := by decide +kernel
theorem dX1_countPlacesAnew_2 : decode cX1_countPlacesAnew 2 = .ok (.invokevirtual 100, 3) := by decide +kernel
theorem dX1_countPlacesAnew_5 : decode cX1_countPlacesAnew 5 = .ok (.istore_n 2, 1) := by decide +kernel
theorem dX1_countPlacesAnew_6 : decode cX1_countPlacesAnew 6 = .ok (.iconst 0, 1) := by decide +kernel
theorem dX1_countPlacesAnew_7 : decode cX1_countPlacesAnew 7 = .ok (.istore_n 3, 1) := by decide +kernel
theorem dX1_countPlacesAnew_8 : decode cX1_countPlacesAnew 8 = .ok (.iconst 0, 1) := by decide +kernel
theorem dX1_countPlacesAnew_9 : decode cX1_countPlacesAnew 9 = .ok (.istore 4, 2) := by decide +kernel
theorem dX1_countPlacesAnew_11 : decode cX1_countPlacesAnew 11 = .ok (.iload 4, 2) := by decide +kernel
theorem dX1_countPlacesAnew_13 : decode cX1_countPlacesAnew 13 = .ok (.aload_n 0, 1) := by decide +kernel
theorem dX1_countPlacesAnew_14 : decode cX1_countPlacesAnew 14 = .ok (.getfield 53, 3) := by decide +kernel
theorem dX1_countPlacesAnew_17 : decode cX1_countPlacesAnew 17 = .ok (.if_icmp .ge 54, 3) := by decide +kernel
theorem dX1_countPlacesAnew_20 : decode cX1_countPlacesAnew 20 = .ok (.aload_n 0, 1) := by decide +kernel
theorem dX1_countPlacesAnew_21 : decode cX1_countPlacesAnew 21 = .ok (.iload 4, 2) := by decide +kernel
theorem dX1_countPlacesAnew_23 : decode cX1_countPlacesAnew 23 = .ok (.invokevirtual 81, 3) := by decide +kernel
theorem dX1_countPlacesAnew_26 : decode cX1_countPlacesAnew 26 = .ok (.ifCond .gt 12, 3) := by decide +kernel
theorem dX1_countPlacesAnew_29 : decode cX1_countPlacesAnew 29 = .ok (.iload_n 2, 1) := by decide +kernel
theorem dX1_countPlacesAnew_30 : decode cX1_countPlacesAnew 30 = .ok (.iload 4, 2) := by decide +kernel
theorem dX1_countPlacesAnew_32 : decode cX1_countPlacesAnew 32 = .ok (.ishr, 1) := by decide +kernel
theorem dX1_countPlacesAnew_33 : decode cX1_countPlacesAnew 33 = .ok (.iconst 1, 1) := by decide +kernel
theorem dX1_countPlacesAnew_34 : decode cX1_countPlacesAnew 34 = .ok (.iand, 1) := by decide +kernel
theorem dX1_countPlacesAnew_35 : decode cX1_countPlacesAnew 35 = .ok (.ifCond .eq 7, 3) := by decide +kernel
theorem dX1_countPlacesAnew_38 : decode cX1_countPlacesAnew 38 = .ok (.iconst 1, 1) := by decide +kernel
theorem dX1_countPlacesAnew_39 : decode cX1_countPlacesAnew 39 = .ok (.goto 4, 3) := by decide +kernel
theorem dX1_countPlacesAnew_42 : decode cX1_countPlacesAnew 42 = .ok (.iconst 0, 1) := by decide +kernel
theorem dX1_countPlacesAnew_43 : decode cX1_countPlacesAnew 43 = .ok (.istore 5, 2) := by decide +kernel
theorem dX1_countPlacesAnew_45 : decode cX1_countPlacesAnew 45 = .ok (.aload_n 0, 1) := by decide +kernel
theorem dX1_countPlacesAnew_46 : decode cX1_countPlacesAnew 46 = .ok (.getfield 18, 3) := by decide +kernel
theorem dX1_countPlacesAnew_49 : decode cX1_countPlacesAnew 49 = .ok (.iload 4, 2) := by decide +kernel
theorem dX1_countPlacesAnew_51 : decode cX1_countPlacesAnew 51 = .ok (.caload, 1) := by decide +kernel
theorem dX1_countPlacesAnew_52 : decode cX1_countPlacesAnew 52 = .ok (.bipush 115, 2) := by decide +kernel
theorem dX1_countPlacesAnew_54 : decode cX1_countPlacesAnew 54 = .ok (.if_icmp .ne 11, 3) := by decide +kernel
theorem dX1_countPlacesAnew_57 : decode cX1_countPlacesAnew 57 = .ok (.iload 5, 2) := by decide +kernel
theorem dX1_countPlacesAnew_59 : decode cX1_countPlacesAnew 59 = .ok (.ifCond .eq 6, 3) := by decide +kernel
theorem dX1_countPlacesAnew_62 : decode cX1_countPlacesAnew 62 = .ok (.iinc 3 1, 3) := by decide +kernel
theorem dX1_countPlacesAnew_65 : decode cX1_countPlacesAnew 65 = .ok (.iinc 4 1, 3) := by decide +kernel
theorem dX1_countPlacesAnew_68 : decode cX1_countPlacesAnew 68 = .ok (.goto (-57), 3) := by decide +kernel
theorem dX1_countPlacesAnew_71 : decode cX1_countPlacesAnew 71 = .ok (.iload_n 3, 1) := by decide +kernel
theorem dX1_countPlacesAnew_72 : decode cX1_countPlacesAnew 72 = .ok (.ireturn, 1) := by decide +kernel
theorem dX1_removeCopies_0 : decode cX1_removeCopies 0 = .ok (.aload_n 0, 1) := by decide +kernel
theorem dX1_removeCopies_1 : decode cX1_removeCopies 1 = .ok (.getfield 35, 3) := by decide +kernel
theorem dX1_removeCopies_4 : decode cX1_removeCopies 4 = .ok (.iload_n 1, 1) := by decide +kernel
theorem dX1_removeCopies_5 : decode cX1_removeCopies 5 = .ok (.iaload, 1) := by decide +kernel
theorem dX1_removeCopies_6 : decode cX1_removeCopies 6 = .ok (.iconst 1, 1) := by decide +kernel
theorem dX1_removeCopies_7 : decode cX1_removeCopies 7 = .ok (.isub, 1) := by decide +kernel
theorem dX1_removeCopies_8 : decode cX1_removeCopies 8 = .ok (.istore_n 2, 1) := by decide +kernel
theorem dX1_removeCopies_9 : decode cX1_removeCopies 9 = .ok (.iload_n 2, 1) := by decide +kernel
theorem dX1_removeCopies_10 : decode cX1_removeCopies 10 = .ok (.ifCond .lt 15, 3) := by decide +kernel
theorem dX1_removeCopies_13 : decode cX1_removeCopies 13 = .ok (.aload_n 0, 1) := by decide +kernel
theorem dX1_removeCopies_14 : decode cX1_removeCopies 14 = .ok (.iload_n 1, 1) := by decide +kernel
theorem dX1_removeCopies_15 : decode cX1_removeCopies 15 = .ok (.iload_n 2, 1) := by decide +kernel
theorem dX1_removeCopies_16 : decode cX1_removeCopies 16 = .ok (.invokevirtual 103, 3) := by decide +kernel
theorem dX1_removeCopies_19 : decode cX1_removeCopies 19 = .ok (.iinc 2 (-1), 3) := by decide +kernel
theorem dX1_removeCopies_22 : decode cX1_removeCopies 22 = .ok (.goto (-13), 3) := by decide +kernel
theorem dX1_removeCopies_25 : decode cX1_removeCopies 25 = .ok (.return_, 1) := by decide +kernel
theorem dX1_rebuild_0 : decode cX1_rebuild 0 = .ok (.iconst 0, 1) := by decide +kernel
theorem dX1_rebuild_1 : decode cX1_rebuild 1 = .ok (.istore_n 2, 1) := by decide +kernel
theorem dX1_rebuild_2 : decode cX1_rebuild 2 = .ok (.iconst 0, 1) := by decide +kernel
theorem dX1_rebuild_3 : decode cX1_rebuild 3 = .ok (.istore_n 3, 1) := by decide +kernel
theorem dX1_rebuild_4 : decode cX1_rebuild 4 = .ok (.iload_n 3, 1) := by decide +kernel
theorem dX1_rebuild_5 : decode cX1_rebuild 5 = .ok (.aload_n 0, 1) := by decide +kernel
theorem dX1_rebuild_6 : decode cX1_rebuild 6 = .ok (.getfield 57, 3) := by decide +kernel
theorem dX1_rebuild_9 : decode cX1_rebuild 9 = .ok (.if_icmp .ge 43, 3) := by decide +kernel
theorem dX1_rebuild_12 : decode cX1_rebuild 12 = .ok (.iload_n 2, 1) := by decide +kernel
theorem dX1_rebuild_13 : decode cX1_rebuild 13 = .ok (.iload_n 1, 1) := by decide +kernel
theorem dX1_rebuild_14 : decode cX1_rebuild 14 = .ok (.if_icmp .ge 38, 3) := by decide +kernel
theorem dX1_rebuild_17 : decode cX1_rebuild 17 = .ok (.aload_n 0, 1) := by decide +kernel
theorem dX1_rebuild_18 : decode cX1_rebuild 18 = .ok (.aload_n 0, 1) := by decide +kernel
theorem dX1_rebuild_19 : decode cX1_rebuild 19 = .ok (.getfield 41, 3) := by decide +kernel
theorem dX1_rebuild_22 : decode cX1_rebuild 22 = .ok (.iload_n 3, 1) := by decide +kernel
theorem dX1_rebuild_23 : decode cX1_rebuild 23 = .ok (.iaload, 1) := by decide +kernel
theorem dX1_rebuild_24 : decode cX1_rebuild 24 = .ok (.invokevirtual 74, 3) := by decide +kernel
theorem dX1_rebuild_27 : decode cX1_rebuild 27 = .ok (.ifCond .ne 19, 3) := by decide +kernel
theorem dX1_rebuild_30 : decode cX1_rebuild 30 = .ok (.iload_n 2, 1) := by decide +kernel
theorem dX1_rebuild_31 : decode cX1_rebuild 31 = .ok (.aload_n 0, 1) := by decide +kernel
theorem dX1_rebuild_32 : decode cX1_rebuild 32 = .ok (.aload_n 0, 1) := by decide +kernel
theorem dX1_rebuild_33 : decode cX1_rebuild 33 = .ok (.getfield 41, 3) := by decide +kernel
theorem dX1_rebuild_36 : decode cX1_rebuild 36 = .ok (.iload_n 3, 1) := by decide +kernel
theorem dX1_rebuild_37 : decode cX1_rebuild 37 = .ok (.iaload, 1) := by decide +kernel
theorem dX1_rebuild_38 : decode cX1_rebuild 38 = .ok (.iload_n 1, 1) := by decide +kernel
theorem dX1_rebuild_39 : decode cX1_rebuild 39 = .ok (.iload_n 2, 1) := by decide +kernel
theorem dX1_rebuild_40 : decode cX1_rebuild 40 = .ok (.isub, 1) := by decide +kernel
theorem dX1_rebuild_41 : decode cX1_rebuild 41 = .ok (.invokevirtual 97, 3) := by decide +kernel
theorem dX1_rebuild_44 : decode cX1_rebuild 44 = .ok (.iadd, 1) := by decide +kernel
theorem dX1_rebuild_45 : decode cX1_rebuild 45 = .ok (.istore_n 2, 1) := by decide +kernel
theorem dX1_rebuild_46 : decode cX1_rebuild 46 = .ok (.iinc 3 1, 3) := by decide +kernel
theorem dX1_rebuild_49 : decode cX1_rebuild 49 = .ok (.goto (-45), 3) := by decide +kernel
theorem dX1_rebuild_52 : decode cX1_rebuild 52 = .ok (.iconst 0, 1) := by decide +kernel
theorem dX1_rebuild_53 : decode cX1_rebuild 53 = .ok (.istore_n 3, 1) := by decide +kernel
theorem dX1_rebuild_54 : decode cX1_rebuild 54 = .ok (.iload_n 3, 1) := by decide +kernel
theorem dX1_rebuild_55 : decode cX1_rebuild 55 = .ok (.aload_n 0, 1) := by decide +kernel
theorem dX1_rebuild_56 : decode cX1_rebuild 56 = .ok (.getfield 57, 3) := by decide +kernel
theorem dX1_rebuild_59 : decode cX1_rebuild 59 = .ok (.if_icmp .ge 43, 3) := by decide +kernel
theorem dX1_rebuild_62 : decode cX1_rebuild 62 = .ok (.iload_n 2, 1) := by decide +kernel
theorem dX1_rebuild_63 : decode cX1_rebuild 63 = .ok (.iload_n 1, 1) := by decide +kernel
theorem dX1_rebuild_64 : decode cX1_rebuild 64 = .ok (.if_icmp .ge 38, 3) := by decide +kernel
theorem dX1_rebuild_67 : decode cX1_rebuild 67 = .ok (.aload_n 0, 1) := by decide +kernel
theorem dX1_rebuild_68 : decode cX1_rebuild 68 = .ok (.aload_n 0, 1) := by decide +kernel
theorem dX1_rebuild_69 : decode cX1_rebuild 69 = .ok (.getfield 41, 3) := by decide +kernel
theorem dX1_rebuild_72 : decode cX1_rebuild 72 = .ok (.iload_n 3, 1) := by decide +kernel
theorem dX1_rebuild_73 : decode cX1_rebuild 73 = .ok (.iaload, 1) := by decide +kernel
theorem dX1_rebuild_74 : decode cX1_rebuild 74 = .ok (.invokevirtual 74, 3) := by decide +kernel
theorem dX1_rebuild_77 : decode cX1_rebuild 77 = .ok (.ifCond .ne 19, 3) := by decide +kernel
theorem dX1_rebuild_80 : decode cX1_rebuild 80 = .ok (.iload_n 2, 1) := by decide +kernel
theorem dX1_rebuild_81 : decode cX1_rebuild 81 = .ok (.aload_n 0, 1) := by decide +kernel
theorem dX1_rebuild_82 : decode cX1_rebuild 82 = .ok (.aload_n 0, 1) := by decide +kernel
theorem dX1_rebuild_83 : decode cX1_rebuild 83 = .ok (.getfield 41, 3) := by decide +kernel
theorem dX1_rebuild_86 : decode cX1_rebuild 86 = .ok (.iload_n 3, 1) := by decide +kernel
theorem dX1_rebuild_87 : decode cX1_rebuild 87 = .ok (.iaload, 1) := by decide +kernel
theorem dX1_rebuild_88 : decode cX1_rebuild 88 = .ok (.iload_n 1, 1) := by decide +kernel
theorem dX1_rebuild_89 : decode cX1_rebuild 89 = .ok (.iload_n 2, 1) := by decide +kernel
theorem dX1_rebuild_90 : decode cX1_rebuild 90 = .ok (.isub, 1) := by decide +kernel
theorem dX1_rebuild_91 : decode cX1_rebuild 91 = .ok (.invokevirtual 107, 3) := by decide +kernel
theorem dX1_rebuild_94 : decode cX1_rebuild 94 = .ok (.iadd, 1) := by decide +kernel
theorem dX1_rebuild_95 : decode cX1_rebuild 95 = .ok (.istore_n 2, 1) := by decide +kernel
theorem dX1_rebuild_96 : decode cX1_rebuild 96 = .ok (.iinc 3 1, 3) := by decide +kernel
theorem dX1_rebuild_99 : decode cX1_rebuild 99 = .ok (.goto (-45), 3) := by decide +kernel
theorem dX1_rebuild_102 : decode cX1_rebuild 102 = .ok (.iload_n 2, 1) := by decide +kernel
theorem dX1_rebuild_103 : decode cX1_rebuild 103 = .ok (.ireturn, 1) := by decide +kernel
theorem dX1_completeBlock_0 : decode cX1_completeBlock 0 = .ok (.aload_n 0, 1) := by decide +kernel
theorem dX1_completeBlock_1 : decode cX1_completeBlock 1 = .ok (.iload_n 1, 1) := by decide +kernel
theorem dX1_completeBlock_2 : decode cX1_completeBlock 2 = .ok (.invokevirtual 78, 3) := by decide +kernel
theorem dX1_completeBlock_5 : decode cX1_completeBlock 5 = .ok (.aload_n 0, 1) := by decide +kernel
theorem dX1_completeBlock_6 : decode cX1_completeBlock 6 = .ok (.getfield 35, 3) := by decide +kernel
theorem dX1_completeBlock_9 : decode cX1_completeBlock 9 = .ok (.iload_n 1, 1) := by decide +kernel
theorem dX1_completeBlock_10 : decode cX1_completeBlock 10 = .ok (.iaload, 1) := by decide +kernel
theorem dX1_completeBlock_11 : decode cX1_completeBlock 11 = .ok (.isub, 1) := by decide +kernel
theorem dX1_completeBlock_12 : decode cX1_completeBlock 12 = .ok (.iload_n 2, 1) := by decide +kernel
theorem dX1_completeBlock_13 : decode cX1_completeBlock 13 = .ok (.invokestatic 110, 3) := by decide +kernel
theorem dX1_completeBlock_16 : decode cX1_completeBlock 16 = .ok (.istore_n 3, 1) := by decide +kernel
theorem dX1_completeBlock_17 : decode cX1_completeBlock 17 = .ok (.iconst 0, 1) := by decide +kernel
theorem dX1_completeBlock_18 : decode cX1_completeBlock 18 = .ok (.istore 4, 2) := by decide +kernel
theorem dX1_completeBlock_20 : decode cX1_completeBlock 20 = .ok (.iload 4, 2) := by decide +kernel
theorem dX1_completeBlock_22 : decode cX1_completeBlock 22 = .ok (.iload_n 3, 1) := by decide +kernel
theorem dX1_completeBlock_23 : decode cX1_completeBlock 23 = .ok (.if_icmp .ge 36, 3) := by decide +kernel
theorem dX1_completeBlock_26 : decode cX1_completeBlock 26 = .ok (.aload_n 0, 1) := by decide +kernel
theorem dX1_completeBlock_27 : decode cX1_completeBlock 27 = .ok (.aload_n 0, 1) := by decide +kernel
theorem dX1_completeBlock_28 : decode cX1_completeBlock 28 = .ok (.iload_n 1, 1) := by decide +kernel
theorem dX1_completeBlock_29 : decode cX1_completeBlock 29 = .ok (.invokevirtual 100, 3) := by decide +kernel
theorem dX1_completeBlock_32 : decode cX1_completeBlock 32 = .ok (.invokevirtual 115, 3) := by decide +kernel
theorem dX1_completeBlock_35 : decode cX1_completeBlock 35 = .ok (.istore 5, 2) := by decide +kernel
theorem dX1_completeBlock_37 : decode cX1_completeBlock 37 = .ok (.iload 5, 2) := by decide +kernel
theorem dX1_completeBlock_39 : decode cX1_completeBlock 39 = .ok (.iconst (-1), 1) := by decide +kernel
theorem dX1_completeBlock_40 : decode cX1_completeBlock 40 = .ok (.if_icmp .ne 6, 3) := by decide +kernel
theorem dX1_completeBlock_43 : decode cX1_completeBlock 43 = .ok (.iload 4, 2) := by decide +kernel
theorem dX1_completeBlock_45 : decode cX1_completeBlock 45 = .ok (.ireturn, 1) := by decide +kernel
theorem dX1_completeBlock_46 : decode cX1_completeBlock 46 = .ok (.aload_n 0, 1) := by decide +kernel
theorem dX1_completeBlock_47 : decode cX1_completeBlock 47 = .ok (.iload_n 1, 1) := by decide +kernel
theorem dX1_completeBlock_48 : decode cX1_completeBlock 48 = .ok (.iload 5, 2) := by decide +kernel
theorem dX1_completeBlock_50 : decode cX1_completeBlock 50 = .ok (.invokevirtual 118, 3) := by decide +kernel
theorem dX1_completeBlock_53 : decode cX1_completeBlock 53 = .ok (.iinc 4 1, 3) := by decide +kernel
theorem dX1_completeBlock_56 : decode cX1_completeBlock 56 = .ok (.goto (-36), 3) := by decide +kernel
theorem dX1_completeBlock_59 : decode cX1_completeBlock 59 = .ok (.iload_n 3, 1) := by decide +kernel
theorem dX1_completeBlock_60 : decode cX1_completeBlock 60 = .ok (.iconst 0, 1) := by decide +kernel
theorem dX1_completeBlock_61 : decode cX1_completeBlock 61 = .ok (.invokestatic 121, 3) := by decide +kernel
theorem dX1_completeBlock_64 : decode cX1_completeBlock 64 = .ok (.ireturn, 1) := by decide +kernel
theorem dX1_emptyWarnedDisks_0 : decode cX1_emptyWarnedDisks 0 = .ok (.iconst 0, 1) := by decide +kernel
theorem dX1_emptyWarnedDisks_1 : decode cX1_emptyWarnedDisks 1 = .ok (.istore_n 3, 1) := by decide +kernel
theorem dX1_emptyWarnedDisks_2 : decode cX1_emptyWarnedDisks 2 = .ok (.iconst 0, 1) := by decide +kernel
theorem dX1_emptyWarnedDisks_3 : decode cX1_emptyWarnedDisks 3 = .ok (.istore 4, 2) := by decide +kernel
theorem dX1_emptyWarnedDisks_5 : decode cX1_emptyWarnedDisks 5 = .ok (.aload_n 0, 1) := by decide +kernel
theorem dX1_emptyWarnedDisks_6 : decode cX1_emptyWarnedDisks 6 = .ok (.getfield 35, 3) := by decide +kernel
theorem dX1_emptyWarnedDisks_9 : decode cX1_emptyWarnedDisks 9 = .ok (.iload_n 1, 1) := by decide +kernel
theorem dX1_emptyWarnedDisks_10 : decode cX1_emptyWarnedDisks 10 = .ok (.iaload, 1) := by decide +kernel
theorem dX1_emptyWarnedDisks_11 : decode cX1_emptyWarnedDisks 11 = .ok (.istore 5, 2) := by decide +kernel
theorem dX1_emptyWarnedDisks_13 : decode cX1_emptyWarnedDisks 13 = .ok (.iconst 0, 1) := by decide +kernel
theorem dX1_emptyWarnedDisks_14 : decode cX1_emptyWarnedDisks 14 = .ok (.istore 6, 2) := by decide +kernel
theorem dX1_emptyWarnedDisks_16 : decode cX1_emptyWarnedDisks 16 = .ok (.iload 6, 2) := by decide +kernel
theorem dX1_emptyWarnedDisks_18 : decode cX1_emptyWarnedDisks 18 = .ok (.iload 5, 2) := by decide +kernel
theorem dX1_emptyWarnedDisks_20 : decode cX1_emptyWarnedDisks 20 = .ok (.if_icmp .ge 82, 3) := by decide +kernel
theorem dX1_emptyWarnedDisks_23 : decode cX1_emptyWarnedDisks 23 = .ok (.iload_n 3, 1) := by decide +kernel
theorem dX1_emptyWarnedDisks_24 : decode cX1_emptyWarnedDisks 24 = .ok (.iload_n 2, 1) := by decide +kernel
theorem dX1_emptyWarnedDisks_25 : decode cX1_emptyWarnedDisks 25 = .ok (.if_icmp .ge 77, 3) := by decide +kernel
theorem dX1_emptyWarnedDisks_28 : decode cX1_emptyWarnedDisks 28 = .ok (.aload_n 0, 1) := by decide +kernel
theorem dX1_emptyWarnedDisks_29 : decode cX1_emptyWarnedDisks 29 = .ok (.iload_n 1, 1) := by decide +kernel
theorem dX1_emptyWarnedDisks_30 : decode cX1_emptyWarnedDisks 30 = .ok (.iload 4, 2) := by decide +kernel
theorem dX1_emptyWarnedDisks_32 : decode cX1_emptyWarnedDisks 32 = .ok (.invokevirtual 66, 3) := by decide +kernel
theorem dX1_emptyWarnedDisks_35 : decode cX1_emptyWarnedDisks 35 = .ok (.bipush 32, 2) := by decide +kernel
theorem dX1_emptyWarnedDisks_37 : decode cX1_emptyWarnedDisks 37 = .ok (.idiv, 1) := by decide +kernel
theorem dX1_emptyWarnedDisks_38 : decode cX1_emptyWarnedDisks 38 = .ok (.istore 7, 2) := by decide +kernel
theorem dX1_emptyWarnedDisks_40 : decode cX1_emptyWarnedDisks 40 = .ok (.aload_n 0, 1) := by decide +kernel
theorem dX1_emptyWarnedDisks_41 : decode cX1_emptyWarnedDisks 41 = .ok (.getfield 18, 3) := by decide +kernel
theorem dX1_emptyWarnedDisks_44 : decode cX1_emptyWarnedDisks 44 = .ok (.iload 7, 2) := by decide +kernel
theorem dX1_emptyWarnedDisks_46 : decode cX1_emptyWarnedDisks 46 = .ok (.caload, 1) := by decide +kernel
theorem dX1_emptyWarnedDisks_47 : decode cX1_emptyWarnedDisks 47 = .ok (.bipush 119, 2) := by decide +kernel
theorem dX1_emptyWarnedDisks_49 : decode cX1_emptyWarnedDisks 49 = .ok (.if_icmp .ne 15, 3) := by decide +kernel
theorem dX1_emptyWarnedDisks_52 : decode cX1_emptyWarnedDisks 52 = .ok (.aload_n 0, 1) := by decide +kernel
theorem dX1_emptyWarnedDisks_53 : decode cX1_emptyWarnedDisks 53 = .ok (.aload_n 0, 1) := by decide +kernel
theorem dX1_emptyWarnedDisks_54 : decode cX1_emptyWarnedDisks 54 = .ok (.iload_n 1, 1) := by decide +kernel
theorem dX1_emptyWarnedDisks_55 : decode cX1_emptyWarnedDisks 55 = .ok (.invokevirtual 100, 3) := by decide +kernel
theorem dX1_emptyWarnedDisks_58 : decode cX1_emptyWarnedDisks 58 = .ok (.invokevirtual 115, 3) := by decide +kernel
theorem dX1_emptyWarnedDisks_61 : decode cX1_emptyWarnedDisks 61 = .ok (.goto 4, 3) := by decide +kernel
theorem dX1_emptyWarnedDisks_64 : decode cX1_emptyWarnedDisks 64 = .ok (.iconst (-1), 1) := by decide +kernel
theorem dX1_emptyWarnedDisks_65 : decode cX1_emptyWarnedDisks 65 = .ok (.istore 8, 2) := by decide +kernel
theorem dX1_emptyWarnedDisks_67 : decode cX1_emptyWarnedDisks 67 = .ok (.iload 8, 2) := by decide +kernel
theorem dX1_emptyWarnedDisks_69 : decode cX1_emptyWarnedDisks 69 = .ok (.iconst (-1), 1) := by decide +kernel
theorem dX1_emptyWarnedDisks_70 : decode cX1_emptyWarnedDisks 70 = .ok (.if_icmp .ne 9, 3) := by decide +kernel
theorem dX1_emptyWarnedDisks_73 : decode cX1_emptyWarnedDisks 73 = .ok (.iinc 4 1, 3) := by decide +kernel
theorem dX1_emptyWarnedDisks_76 : decode cX1_emptyWarnedDisks 76 = .ok (.goto 20, 3) := by decide +kernel
theorem dX1_emptyWarnedDisks_79 : decode cX1_emptyWarnedDisks 79 = .ok (.aload_n 0, 1) := by decide +kernel
theorem dX1_emptyWarnedDisks_80 : decode cX1_emptyWarnedDisks 80 = .ok (.iload_n 1, 1) := by decide +kernel
theorem dX1_emptyWarnedDisks_81 : decode cX1_emptyWarnedDisks 81 = .ok (.iload 4, 2) := by decide +kernel
theorem dX1_emptyWarnedDisks_83 : decode cX1_emptyWarnedDisks 83 = .ok (.invokevirtual 103, 3) := by decide +kernel
theorem dX1_emptyWarnedDisks_86 : decode cX1_emptyWarnedDisks 86 = .ok (.aload_n 0, 1) := by decide +kernel
theorem dX1_emptyWarnedDisks_87 : decode cX1_emptyWarnedDisks 87 = .ok (.iload_n 1, 1) := by decide +kernel
theorem dX1_emptyWarnedDisks_88 : decode cX1_emptyWarnedDisks 88 = .ok (.iload 8, 2) := by decide +kernel
theorem dX1_emptyWarnedDisks_90 : decode cX1_emptyWarnedDisks 90 = .ok (.invokevirtual 118, 3) := by decide +kernel
theorem dX1_emptyWarnedDisks_93 : decode cX1_emptyWarnedDisks 93 = .ok (.iinc 3 1, 3) := by decide +kernel
theorem dX1_emptyWarnedDisks_96 : decode cX1_emptyWarnedDisks 96 = .ok (.iinc 6 1, 3) := by decide +kernel
theorem dX1_emptyWarnedDisks_99 : decode cX1_emptyWarnedDisks 99 = .ok (.goto (-83), 3) := by decide +kernel
theorem dX1_emptyWarnedDisks_102 : decode cX1_emptyWarnedDisks 102 = .ok (.iload_n 3, 1) := by decide +kernel
theorem dX1_emptyWarnedDisks_103 : decode cX1_emptyWarnedDisks 103 = .ok (.ireturn, 1) := by decide +kernel
theorem dX1_breakDisk_0 : decode cX1_breakDisk 0 = .ok (.aload_n 0, 1) := by decide +kernel
theorem dX1_breakDisk_1 : decode cX1_breakDisk 1 = .ok (.getfield 15, 3) := by decide +kernel
theorem dX1_breakDisk_4 : decode cX1_breakDisk 4 = .ok (.iload_n 1, 1) := by decide +kernel
theorem dX1_breakDisk_5 : decode cX1_breakDisk 5 = .ok (.iaload, 1) := by decide +kernel
theorem dX1_breakDisk_6 : decode cX1_breakDisk 6 = .ok (.istore_n 2, 1) := by decide +kernel
theorem dX1_breakDisk_7 : decode cX1_breakDisk 7 = .ok (.iload_n 1, 1) := by decide +kernel
theorem dX1_breakDisk_8 : decode cX1_breakDisk 8 = .ok (.bipush 32, 2) := by decide +kernel
theorem dX1_breakDisk_10 : decode cX1_breakDisk 10 = .ok (.imul, 1) := by decide +kernel
theorem dX1_breakDisk_11 : decode cX1_breakDisk 11 = .ok (.istore_n 3, 1) := by decide +kernel
theorem dX1_breakDisk_12 : decode cX1_breakDisk 12 = .ok (.iload_n 3, 1) := by decide +kernel
theorem dX1_breakDisk_13 : decode cX1_breakDisk 13 = .ok (.istore 4, 2) := by decide +kernel
theorem dX1_breakDisk_15 : decode cX1_breakDisk 15 = .ok (.iload 4, 2) := by decide +kernel
theorem dX1_breakDisk_17 : decode cX1_breakDisk 17 = .ok (.iload_n 3, 1) := by decide +kernel
theorem dX1_breakDisk_18 : decode cX1_breakDisk 18 = .ok (.aload_n 0, 1) := by decide +kernel
theorem dX1_breakDisk_19 : decode cX1_breakDisk 19 = .ok (.getfield 9, 3) := by decide +kernel
theorem dX1_breakDisk_22 : decode cX1_breakDisk 22 = .ok (.iload_n 1, 1) := by decide +kernel
theorem dX1_breakDisk_23 : decode cX1_breakDisk 23 = .ok (.iaload, 1) := by decide +kernel
theorem dX1_breakDisk_24 : decode cX1_breakDisk 24 = .ok (.iadd, 1) := by decide +kernel
theorem dX1_breakDisk_25 : decode cX1_breakDisk 25 = .ok (.if_icmp .ge 26, 3) := by decide +kernel
theorem dX1_breakDisk_28 : decode cX1_breakDisk 28 = .ok (.aload_n 0, 1) := by decide +kernel
theorem dX1_breakDisk_29 : decode cX1_breakDisk 29 = .ok (.getfield 22, 3) := by decide +kernel
theorem dX1_breakDisk_32 : decode cX1_breakDisk 32 = .ok (.iload 4, 2) := by decide +kernel
theorem dX1_breakDisk_34 : decode cX1_breakDisk 34 = .ok (.iaload, 1) := by decide +kernel
theorem dX1_breakDisk_35 : decode cX1_breakDisk 35 = .ok (.iconst (-1), 1) := by decide +kernel
theorem dX1_breakDisk_36 : decode cX1_breakDisk 36 = .ok (.if_icmp .eq 9, 3) := by decide +kernel
theorem dX1_breakDisk_39 : decode cX1_breakDisk 39 = .ok (.aload_n 0, 1) := by decide +kernel
theorem dX1_breakDisk_40 : decode cX1_breakDisk 40 = .ok (.iload 4, 2) := by decide +kernel
theorem dX1_breakDisk_42 : decode cX1_breakDisk 42 = .ok (.invokevirtual 124, 3) := by decide +kernel
theorem dX1_breakDisk_45 : decode cX1_breakDisk 45 = .ok (.iinc 4 1, 3) := by decide +kernel
theorem dX1_breakDisk_48 : decode cX1_breakDisk 48 = .ok (.goto (-33), 3) := by decide +kernel
theorem dX1_breakDisk_51 : decode cX1_breakDisk 51 = .ok (.aload_n 0, 1) := by decide +kernel
theorem dX1_breakDisk_52 : decode cX1_breakDisk 52 = .ok (.getfield 18, 3) := by decide +kernel
theorem dX1_breakDisk_55 : decode cX1_breakDisk 55 = .ok (.iload_n 1, 1) := by decide +kernel
theorem dX1_breakDisk_56 : decode cX1_breakDisk 56 = .ok (.bipush 102, 2) := by decide +kernel
theorem dX1_breakDisk_58 : decode cX1_breakDisk 58 = .ok (.castore, 1) := by decide +kernel
theorem dX1_breakDisk_59 : decode cX1_breakDisk 59 = .ok (.iload_n 2, 1) := by decide +kernel
theorem dX1_breakDisk_60 : decode cX1_breakDisk 60 = .ok (.ireturn, 1) := by decide +kernel
theorem dX1_removeCopyAt_0 : decode cX1_removeCopyAt 0 = .ok (.aload_n 0, 1) := by decide +kernel
theorem dX1_removeCopyAt_1 : decode cX1_removeCopyAt 1 = .ok (.getfield 22, 3) := by decide +kernel
theorem dX1_removeCopyAt_4 : decode cX1_removeCopyAt 4 = .ok (.iload_n 1, 1) := by decide +kernel
theorem dX1_removeCopyAt_5 : decode cX1_removeCopyAt 5 = .ok (.iaload, 1) := by decide +kernel
theorem dX1_removeCopyAt_6 : decode cX1_removeCopyAt 6 = .ok (.istore_n 2, 1) := by decide +kernel
theorem dX1_removeCopyAt_7 : decode cX1_removeCopyAt 7 = .ok (.iconst 0, 1) := by decide +kernel
theorem dX1_removeCopyAt_8 : decode cX1_removeCopyAt 8 = .ok (.istore_n 3, 1) := by decide +kernel
theorem dX1_removeCopyAt_9 : decode cX1_removeCopyAt 9 = .ok (.iload_n 3, 1) := by decide +kernel
theorem dX1_removeCopyAt_10 : decode cX1_removeCopyAt 10 = .ok (.aload_n 0, 1) := by decide +kernel
theorem dX1_removeCopyAt_11 : decode cX1_removeCopyAt 11 = .ok (.getfield 35, 3) := by decide +kernel
theorem dX1_removeCopyAt_14 : decode cX1_removeCopyAt 14 = .ok (.iload_n 2, 1) := by decide +kernel
theorem dX1_removeCopyAt_15 : decode cX1_removeCopyAt 15 = .ok (.iaload, 1) := by decide +kernel
theorem dX1_removeCopyAt_16 : decode cX1_removeCopyAt 16 = .ok (.if_icmp .ge 26, 3) := by decide +kernel
theorem dX1_removeCopyAt_19 : decode cX1_removeCopyAt 19 = .ok (.aload_n 0, 1) := by decide +kernel
theorem dX1_removeCopyAt_20 : decode cX1_removeCopyAt 20 = .ok (.iload_n 2, 1) := by decide +kernel
theorem dX1_removeCopyAt_21 : decode cX1_removeCopyAt 21 = .ok (.iload_n 3, 1) := by decide +kernel
theorem dX1_removeCopyAt_22 : decode cX1_removeCopyAt 22 = .ok (.invokevirtual 66, 3) := by decide +kernel
theorem dX1_removeCopyAt_25 : decode cX1_removeCopyAt 25 = .ok (.iload_n 1, 1) := by decide +kernel
theorem dX1_removeCopyAt_26 : decode cX1_removeCopyAt 26 = .ok (.if_icmp .ne 10, 3) := by decide +kernel
theorem dX1_removeCopyAt_29 : decode cX1_removeCopyAt 29 = .ok (.aload_n 0, 1) := by decide +kernel
theorem dX1_removeCopyAt_30 : decode cX1_removeCopyAt 30 = .ok (.iload_n 2, 1) := by decide +kernel
theorem dX1_removeCopyAt_31 : decode cX1_removeCopyAt 31 = .ok (.iload_n 3, 1) := by decide +kernel
theorem dX1_removeCopyAt_32 : decode cX1_removeCopyAt 32 = .ok (.invokevirtual 103, 3) := by decide +kernel
theorem dX1_removeCopyAt_35 : decode cX1_removeCopyAt 35 = .ok (.return_, 1) := by decide +kernel
theorem dX1_removeCopyAt_36 : decode cX1_removeCopyAt 36 = .ok (.iinc 3 1, 3) := by decide +kernel
theorem dX1_removeCopyAt_39 : decode cX1_removeCopyAt 39 = .ok (.goto (-30), 3) := by decide +kernel
theorem dX1_removeCopyAt_42 : decode cX1_removeCopyAt 42 = .ok (.return_, 1) := by decide +kernel
theorem dX1_healDisk_0 : decode cX1_healDisk 0 = .ok (.iconst 0, 1) := by decide +kernel
theorem dX1_healDisk_1 : decode cX1_healDisk 1 = .ok (.istore_n 2, 1) := by decide +kernel
theorem dX1_healDisk_2 : decode cX1_healDisk 2 = .ok (.iload_n 1, 1) := by decide +kernel
theorem dX1_healDisk_3 : decode cX1_healDisk 3 = .ok (.bipush 32, 2) := by decide +kernel
theorem dX1_healDisk_5 : decode cX1_healDisk 5 = .ok (.imul, 1) := by decide +kernel
theorem dX1_healDisk_6 : decode cX1_healDisk 6 = .ok (.istore_n 3, 1) := by decide +kernel
theorem dX1_healDisk_7 : decode cX1_healDisk 7 = .ok (.iload_n 3, 1) := by decide +kernel
theorem dX1_healDisk_8 : decode cX1_healDisk 8 = .ok (.istore 4, 2) := by decide +kernel
theorem dX1_healDisk_10 : decode cX1_healDisk 10 = .ok (.iload 4, 2) := by decide +kernel
theorem dX1_healDisk_12 : decode cX1_healDisk 12 = .ok (.iload_n 3, 1) := by decide +kernel
theorem dX1_healDisk_13 : decode cX1_healDisk 13 = .ok (.aload_n 0, 1) := by decide +kernel
theorem dX1_healDisk_14 : decode cX1_healDisk 14 = .ok (.getfield 9, 3) := by decide +kernel
theorem dX1_healDisk_17 : decode cX1_healDisk 17 = .ok (.iload_n 1, 1) := by decide +kernel
theorem dX1_healDisk_18 : decode cX1_healDisk 18 = .ok (.iaload, 1) := by decide +kernel
theorem dX1_healDisk_19 : decode cX1_healDisk 19 = .ok (.iadd, 1) := by decide +kernel
theorem dX1_healDisk_20 : decode cX1_healDisk 20 = .ok (.if_icmp .ge 54, 3) := by decide +kernel
theorem dX1_healDisk_23 : decode cX1_healDisk 23 = .ok (.aload_n 0, 1) := by decide +kernel
theorem dX1_healDisk_24 : decode cX1_healDisk 24 = .ok (.getfield 22, 3) := by decide +kernel
theorem dX1_healDisk_27 : decode cX1_healDisk 27 = .ok (.iload 4, 2) := by decide +kernel
theorem dX1_healDisk_29 : decode cX1_healDisk 29 = .ok (.iaload, 1) := by decide +kernel
theorem dX1_healDisk_30 : decode cX1_healDisk 30 = .ok (.istore 5, 2) := by decide +kernel
theorem dX1_healDisk_32 : decode cX1_healDisk 32 = .ok (.iload 5, 2) := by decide +kernel
theorem dX1_healDisk_34 : decode cX1_healDisk 34 = .ok (.iconst (-1), 1) := by decide +kernel
theorem dX1_healDisk_35 : decode cX1_healDisk 35 = .ok (.if_icmp .eq 33, 3) := by decide +kernel
theorem dX1_healDisk_38 : decode cX1_healDisk 38 = .ok (.aload_n 0, 1) := by decide +kernel
theorem dX1_healDisk_39 : decode cX1_healDisk 39 = .ok (.getfield 25, 3) := by decide +kernel
theorem dX1_healDisk_42 : decode cX1_healDisk 42 = .ok (.iload 4, 2) := by decide +kernel
theorem dX1_healDisk_44 : decode cX1_healDisk 44 = .ok (.baload, 1) := by decide +kernel
theorem dX1_healDisk_45 : decode cX1_healDisk 45 = .ok (.ifCond .eq 23, 3) := by decide +kernel
theorem dX1_healDisk_48 : decode cX1_healDisk 48 = .ok (.aload_n 0, 1) := by decide +kernel
theorem dX1_healDisk_49 : decode cX1_healDisk 49 = .ok (.iload 5, 2) := by decide +kernel
theorem dX1_healDisk_51 : decode cX1_healDisk 51 = .ok (.invokevirtual 70, 3) := by decide +kernel
theorem dX1_healDisk_54 : decode cX1_healDisk 54 = .ok (.ifCond .eq 14, 3) := by decide +kernel
theorem dX1_healDisk_57 : decode cX1_healDisk 57 = .ok (.aload_n 0, 1) := by decide +kernel
theorem dX1_healDisk_58 : decode cX1_healDisk 58 = .ok (.getfield 25, 3) := by decide +kernel
theorem dX1_healDisk_61 : decode cX1_healDisk 61 = .ok (.iload 4, 2) := by decide +kernel
theorem dX1_healDisk_63 : decode cX1_healDisk 63 = .ok (.iconst 0, 1) := by decide +kernel
theorem dX1_healDisk_64 : decode cX1_healDisk 64 = .ok (.bastore, 1) := by decide +kernel
theorem dX1_healDisk_65 : decode cX1_healDisk 65 = .ok (.iinc 2 1, 3) := by decide +kernel
theorem dX1_healDisk_68 : decode cX1_healDisk 68 = .ok (.iinc 4 1, 3) := by decide +kernel
theorem dX1_healDisk_71 : decode cX1_healDisk 71 = .ok (.goto (-61), 3) := by decide +kernel
theorem dX1_healDisk_74 : decode cX1_healDisk 74 = .ok (.iload_n 2, 1) := by decide +kernel
theorem dX1_healDisk_75 : decode cX1_healDisk 75 = .ok (.ireturn, 1) := by decide +kernel
theorem dX1_countRotten_0 : decode cX1_countRotten 0 = .ok (.iconst 0, 1) := by decide +kernel
theorem dX1_countRotten_1 : decode cX1_countRotten 1 = .ok (.istore_n 2, 1) := by decide +kernel
theorem dX1_countRotten_2 : decode cX1_countRotten 2 = .ok (.iload_n 1, 1) := by decide +kernel
theorem dX1_countRotten_3 : decode cX1_countRotten 3 = .ok (.bipush 32, 2) := by decide +kernel
theorem dX1_countRotten_5 : decode cX1_countRotten 5 = .ok (.imul, 1) := by decide +kernel
theorem dX1_countRotten_6 : decode cX1_countRotten 6 = .ok (.istore_n 3, 1) := by decide +kernel
theorem dX1_countRotten_7 : decode cX1_countRotten 7 = .ok (.iload_n 3, 1) := by decide +kernel
theorem dX1_countRotten_8 : decode cX1_countRotten 8 = .ok (.istore 4, 2) := by decide +kernel
theorem dX1_countRotten_10 : decode cX1_countRotten 10 = .ok (.iload 4, 2) := by decide +kernel
theorem dX1_countRotten_12 : decode cX1_countRotten 12 = .ok (.iload_n 3, 1) := by decide +kernel
theorem dX1_countRotten_13 : decode cX1_countRotten 13 = .ok (.aload_n 0, 1) := by decide +kernel
theorem dX1_countRotten_14 : decode cX1_countRotten 14 = .ok (.getfield 9, 3) := by decide +kernel
theorem dX1_countRotten_17 : decode cX1_countRotten 17 = .ok (.iload_n 1, 1) := by decide +kernel
theorem dX1_countRotten_18 : decode cX1_countRotten 18 = .ok (.iaload, 1) := by decide +kernel
theorem dX1_countRotten_19 : decode cX1_countRotten 19 = .ok (.iadd, 1) := by decide +kernel
theorem dX1_countRotten_20 : decode cX1_countRotten 20 = .ok (.if_icmp .ge 22, 3) := by decide +kernel
theorem dX1_countRotten_23 : decode cX1_countRotten 23 = .ok (.aload_n 0, 1) := by decide +kernel
theorem dX1_countRotten_24 : decode cX1_countRotten 24 = .ok (.getfield 25, 3) := by decide +kernel
theorem dX1_countRotten_27 : decode cX1_countRotten 27 = .ok (.iload 4, 2) := by decide +kernel
theorem dX1_countRotten_29 : decode cX1_countRotten 29 = .ok (.baload, 1) := by decide +kernel
theorem dX1_countRotten_30 : decode cX1_countRotten 30 = .ok (.ifCond .eq 6, 3) := by decide +kernel
theorem dX1_countRotten_33 : decode cX1_countRotten 33 = .ok (.iinc 2 1, 3) := by decide +kernel
theorem dX1_countRotten_36 : decode cX1_countRotten 36 = .ok (.iinc 4 1, 3) := by decide +kernel
theorem dX1_countRotten_39 : decode cX1_countRotten 39 = .ok (.goto (-29), 3) := by decide +kernel
theorem dX1_countRotten_42 : decode cX1_countRotten 42 = .ok (.iload_n 2, 1) := by decide +kernel
theorem dX1_countRotten_43 : decode cX1_countRotten 43 = .ok (.ireturn, 1) := by decide +kernel
theorem dX1_bearsByCounting_0 : decode cX1_bearsByCounting 0 = .ok (.iconst 0, 1) := by decide +kernel
theorem dX1_bearsByCounting_1 : decode cX1_bearsByCounting 1 = .ok (.istore_n 2, 1) := by decide +kernel
theorem dX1_bearsByCounting_2 : decode cX1_bearsByCounting 2 = .ok (.iload_n 2, 1) := by decide +kernel
theorem dX1_bearsByCounting_3 : decode cX1_bearsByCounting 3 = .ok (.aload_n 0, 1) := by decide +kernel
theorem dX1_bearsByCounting_4 : decode cX1_bearsByCounting 4 = .ok (.getfield 57, 3) := by decide +kernel
theorem dX1_bearsByCounting_7 : decode cX1_bearsByCounting 7 = .ok (.if_icmp .ge 34, 3) := by decide +kernel
theorem dX1_bearsByCounting_10 : decode cX1_bearsByCounting 10 = .ok (.aload_n 0, 1) := by decide +kernel
theorem dX1_bearsByCounting_11 : decode cX1_bearsByCounting 11 = .ok (.aload_n 0, 1) := by decide +kernel
theorem dX1_bearsByCounting_12 : decode cX1_bearsByCounting 12 = .ok (.getfield 41, 3) := by decide +kernel
theorem dX1_bearsByCounting_15 : decode cX1_bearsByCounting 15 = .ok (.iload_n 2, 1) := by decide +kernel
theorem dX1_bearsByCounting_16 : decode cX1_bearsByCounting 16 = .ok (.iaload, 1) := by decide +kernel
theorem dX1_bearsByCounting_17 : decode cX1_bearsByCounting 17 = .ok (.invokevirtual 70, 3) := by decide +kernel
theorem dX1_bearsByCounting_20 : decode cX1_bearsByCounting 20 = .ok (.invokestatic 127, 3) := by decide +kernel
theorem dX1_bearsByCounting_23 : decode cX1_bearsByCounting 23 = .ok (.istore_n 3, 1) := by decide +kernel
theorem dX1_bearsByCounting_24 : decode cX1_bearsByCounting 24 = .ok (.iload_n 3, 1) := by decide +kernel
theorem dX1_bearsByCounting_25 : decode cX1_bearsByCounting 25 = .ok (.ifCond .eq 10, 3) := by decide +kernel
theorem dX1_bearsByCounting_28 : decode cX1_bearsByCounting 28 = .ok (.iload_n 3, 1) := by decide +kernel
theorem dX1_bearsByCounting_29 : decode cX1_bearsByCounting 29 = .ok (.iload_n 1, 1) := by decide +kernel
theorem dX1_bearsByCounting_30 : decode cX1_bearsByCounting 30 = .ok (.if_icmp .gt 5, 3) := by decide +kernel
theorem dX1_bearsByCounting_33 : decode cX1_bearsByCounting 33 = .ok (.iconst 0, 1) := by decide +kernel
theorem dX1_bearsByCounting_34 : decode cX1_bearsByCounting 34 = .ok (.ireturn, 1) := by decide +kernel
theorem dX1_bearsByCounting_35 : decode cX1_bearsByCounting 35 = .ok (.iinc 2 1, 3) := by decide +kernel
theorem dX1_bearsByCounting_38 : decode cX1_bearsByCounting 38 = .ok (.goto (-36), 3) := by decide +kernel
theorem dX1_bearsByCounting_41 : decode cX1_bearsByCounting 41 = .ok (.iconst 1, 1) := by decide +kernel
theorem dX1_bearsByCounting_42 : decode cX1_bearsByCounting 42 = .ok (.ireturn, 1) := by decide +kernel
theorem dX1_bearsByTrying_0 : decode cX1_bearsByTrying 0 = .ok (.iconst 0, 1) := by decide +kernel
theorem dX1_bearsByTrying_1 : decode cX1_bearsByTrying 1 = .ok (.istore_n 2, 1) := by decide +kernel
theorem dX1_bearsByTrying_2 : decode cX1_bearsByTrying 2 = .ok (.iload_n 2, 1) := by decide +kernel
theorem dX1_bearsByTrying_3 : decode cX1_bearsByTrying 3 = .ok (.aload_n 0, 1) := by decide +kernel
theorem dX1_bearsByTrying_4 : decode cX1_bearsByTrying 4 = .ok (.getfield 57, 3) := by decide +kernel
theorem dX1_bearsByTrying_7 : decode cX1_bearsByTrying 7 = .ok (.if_icmp .ge 25, 3) := by decide +kernel
theorem dX1_bearsByTrying_10 : decode cX1_bearsByTrying 10 = .ok (.aload_n 0, 1) := by decide +kernel
theorem dX1_bearsByTrying_11 : decode cX1_bearsByTrying 11 = .ok (.getfield 44, 3) := by decide +kernel
theorem dX1_bearsByTrying_14 : decode cX1_bearsByTrying 14 = .ok (.iload_n 2, 1) := by decide +kernel
theorem dX1_bearsByTrying_15 : decode cX1_bearsByTrying 15 = .ok (.aload_n 0, 1) := by decide +kernel
theorem dX1_bearsByTrying_16 : decode cX1_bearsByTrying 16 = .ok (.aload_n 0, 1) := by decide +kernel
theorem dX1_bearsByTrying_17 : decode cX1_bearsByTrying 17 = .ok (.getfield 41, 3) := by decide +kernel
theorem dX1_bearsByTrying_20 : decode cX1_bearsByTrying 20 = .ok (.iload_n 2, 1) := by decide +kernel
theorem dX1_bearsByTrying_21 : decode cX1_bearsByTrying 21 = .ok (.iaload, 1) := by decide +kernel
theorem dX1_bearsByTrying_22 : decode cX1_bearsByTrying 22 = .ok (.invokevirtual 70, 3) := by decide +kernel
theorem dX1_bearsByTrying_25 : decode cX1_bearsByTrying 25 = .ok (.iastore, 1) := by decide +kernel
theorem dX1_bearsByTrying_26 : decode cX1_bearsByTrying 26 = .ok (.iinc 2 1, 3) := by decide +kernel
theorem dX1_bearsByTrying_29 : decode cX1_bearsByTrying 29 = .ok (.goto (-27), 3) := by decide +kernel
theorem dX1_bearsByTrying_32 : decode cX1_bearsByTrying 32 = .ok (.aload_n 0, 1) := by decide +kernel
theorem dX1_bearsByTrying_33 : decode cX1_bearsByTrying 33 = .ok (.bipush 102, 2) := by decide +kernel
theorem dX1_bearsByTrying_35 : decode cX1_bearsByTrying 35 = .ok (.invokevirtual 132, 3) := by decide +kernel
theorem dX1_bearsByTrying_38 : decode cX1_bearsByTrying 38 = .ok (.istore_n 2, 1) := by decide +kernel
theorem dX1_bearsByTrying_39 : decode cX1_bearsByTrying 39 = .ok (.iload_n 1, 1) := by decide +kernel
theorem dX1_bearsByTrying_40 : decode cX1_bearsByTrying 40 = .ok (.aload_n 0, 1) := by decide +kernel
theorem dX1_bearsByTrying_41 : decode cX1_bearsByTrying 41 = .ok (.getfield 53, 3) := by decide +kernel
theorem dX1_bearsByTrying_44 : decode cX1_bearsByTrying 44 = .ok (.iload_n 2, 1) := by decide +kernel
theorem dX1_bearsByTrying_45 : decode cX1_bearsByTrying 45 = .ok (.invokestatic 127, 3) := by decide +kernel
theorem dX1_bearsByTrying_48 : decode cX1_bearsByTrying 48 = .ok (.isub, 1) := by decide +kernel
theorem dX1_bearsByTrying_49 : decode cX1_bearsByTrying 49 = .ok (.invokestatic 110, 3) := by decide +kernel
theorem dX1_bearsByTrying_52 : decode cX1_bearsByTrying 52 = .ok (.istore_n 3, 1) := by decide +kernel
theorem dX1_bearsByTrying_53 : decode cX1_bearsByTrying 53 = .ok (.iconst 0, 1) := by decide +kernel
theorem dX1_bearsByTrying_54 : decode cX1_bearsByTrying 54 = .ok (.istore 4, 2) := by decide +kernel
theorem dX1_bearsByTrying_56 : decode cX1_bearsByTrying 56 = .ok (.iload 4, 2) := by decide +kernel
theorem dX1_bearsByTrying_58 : decode cX1_bearsByTrying 58 = .ok (.iconst 1, 1) := by decide +kernel
theorem dX1_bearsByTrying_59 : decode cX1_bearsByTrying 59 = .ok (.aload_n 0, 1) := by decide +kernel
theorem dX1_bearsByTrying_60 : decode cX1_bearsByTrying 60 = .ok (.getfield 53, 3) := by decide +kernel
theorem dX1_bearsByTrying_63 : decode cX1_bearsByTrying 63 = .ok (.ishl, 1) := by decide +kernel
theorem dX1_bearsByTrying_64 : decode cX1_bearsByTrying 64 = .ok (.if_icmp .ge 48, 3) := by decide +kernel
theorem dX1_bearsByTrying_67 : decode cX1_bearsByTrying 67 = .ok (.iload 4, 2) := by decide +kernel
theorem dX1_bearsByTrying_69 : decode cX1_bearsByTrying 69 = .ok (.iload_n 2, 1) := by decide +kernel
theorem dX1_bearsByTrying_70 : decode cX1_bearsByTrying 70 = .ok (.iand, 1) := by decide +kernel
theorem dX1_bearsByTrying_71 : decode cX1_bearsByTrying 71 = .ok (.ifCond .ne 16, 3) := by decide +kernel
theorem dX1_bearsByTrying_74 : decode cX1_bearsByTrying 74 = .ok (.iload 4, 2) := by decide +kernel
theorem dX1_bearsByTrying_76 : decode cX1_bearsByTrying 76 = .ok (.invokestatic 127, 3) := by decide +kernel
theorem dX1_bearsByTrying_79 : decode cX1_bearsByTrying 79 = .ok (.iload_n 3, 1) := by decide +kernel
theorem dX1_bearsByTrying_80 : decode cX1_bearsByTrying 80 = .ok (.if_icmp .ne 7, 3) := by decide +kernel
theorem dX1_bearsByTrying_83 : decode cX1_bearsByTrying 83 = .ok (.iconst 1, 1) := by decide +kernel
theorem dX1_bearsByTrying_84 : decode cX1_bearsByTrying 84 = .ok (.goto 4, 3) := by decide +kernel
theorem dX1_bearsByTrying_87 : decode cX1_bearsByTrying 87 = .ok (.iconst 0, 1) := by decide +kernel
theorem dX1_bearsByTrying_88 : decode cX1_bearsByTrying 88 = .ok (.istore 5, 2) := by decide +kernel
theorem dX1_bearsByTrying_90 : decode cX1_bearsByTrying 90 = .ok (.iload 5, 2) := by decide +kernel
theorem dX1_bearsByTrying_92 : decode cX1_bearsByTrying 92 = .ok (.ifCond .eq 14, 3) := by decide +kernel
theorem dX1_bearsByTrying_95 : decode cX1_bearsByTrying 95 = .ok (.aload_n 0, 1) := by decide +kernel
theorem dX1_bearsByTrying_96 : decode cX1_bearsByTrying 96 = .ok (.iload 4, 2) := by decide +kernel
theorem dX1_bearsByTrying_98 : decode cX1_bearsByTrying 98 = .ok (.invokevirtual 136, 3) := by decide +kernel
theorem dX1_bearsByTrying_101 : decode cX1_bearsByTrying 101 = .ok (.ifCond .eq 5, 3) := by decide +kernel
theorem dX1_bearsByTrying_104 : decode cX1_bearsByTrying 104 = .ok (.iconst 0, 1) := by decide +kernel
theorem dX1_bearsByTrying_105 : decode cX1_bearsByTrying 105 = .ok (.ireturn, 1) := by decide +kernel
theorem dX1_bearsByTrying_106 : decode cX1_bearsByTrying 106 = .ok (.iinc 4 1, 3) := by decide +kernel
theorem dX1_bearsByTrying_109 : decode cX1_bearsByTrying 109 = .ok (.goto (-53), 3) := by decide +kernel
theorem dX1_bearsByTrying_112 : decode cX1_bearsByTrying 112 = .ok (.iconst 1, 1) := by decide +kernel
theorem dX1_bearsByTrying_113 : decode cX1_bearsByTrying 113 = .ok (.ireturn, 1) := by decide +kernel
theorem dX1_doesLose_0 : decode cX1_doesLose 0 = .ok (.iconst 0, 1) := by decide +kernel
theorem dX1_doesLose_1 : decode cX1_doesLose 1 = .ok (.istore_n 2, 1) := by decide +kernel
theorem dX1_doesLose_2 : decode cX1_doesLose 2 = .ok (.iload_n 2, 1) := by decide +kernel
theorem dX1_doesLose_3 : decode cX1_doesLose 3 = .ok (.aload_n 0, 1) := by decide +kernel
theorem dX1_doesLose_4 : decode cX1_doesLose 4 = .ok (.getfield 57, 3) := by decide +kernel
theorem dX1_doesLose_7 : decode cX1_doesLose 7 = .ok (.if_icmp .ge 33, 3) := by decide +kernel
theorem dX1_doesLose_10 : decode cX1_doesLose 10 = .ok (.aload_n 0, 1) := by decide +kernel
theorem dX1_doesLose_11 : decode cX1_doesLose 11 = .ok (.getfield 44, 3) := by decide +kernel
theorem dX1_doesLose_14 : decode cX1_doesLose 14 = .ok (.iload_n 2, 1) := by decide +kernel
theorem dX1_doesLose_15 : decode cX1_doesLose 15 = .ok (.iaload, 1) := by decide +kernel
theorem dX1_doesLose_16 : decode cX1_doesLose 16 = .ok (.ifCond .eq 18, 3) := by decide +kernel
theorem dX1_doesLose_19 : decode cX1_doesLose 19 = .ok (.aload_n 0, 1) := by decide +kernel
theorem dX1_doesLose_20 : decode cX1_doesLose 20 = .ok (.getfield 44, 3) := by decide +kernel
theorem dX1_doesLose_23 : decode cX1_doesLose 23 = .ok (.iload_n 2, 1) := by decide +kernel
theorem dX1_doesLose_24 : decode cX1_doesLose 24 = .ok (.iaload, 1) := by decide +kernel
theorem dX1_doesLose_25 : decode cX1_doesLose 25 = .ok (.iload_n 1, 1) := by decide +kernel
theorem dX1_doesLose_26 : decode cX1_doesLose 26 = .ok (.iconst (-1), 1) := by decide +kernel
theorem dX1_doesLose_27 : decode cX1_doesLose 27 = .ok (.ixor, 1) := by decide +kernel
theorem dX1_doesLose_28 : decode cX1_doesLose 28 = .ok (.iand, 1) := by decide +kernel
theorem dX1_doesLose_29 : decode cX1_doesLose 29 = .ok (.ifCond .ne 5, 3) := by decide +kernel
theorem dX1_doesLose_32 : decode cX1_doesLose 32 = .ok (.iconst 1, 1) := by decide +kernel
theorem dX1_doesLose_33 : decode cX1_doesLose 33 = .ok (.ireturn, 1) := by decide +kernel
theorem dX1_doesLose_34 : decode cX1_doesLose 34 = .ok (.iinc 2 1, 3) := by decide +kernel
theorem dX1_doesLose_37 : decode cX1_doesLose 37 = .ok (.goto (-35), 3) := by decide +kernel
theorem dX1_doesLose_40 : decode cX1_doesLose 40 = .ok (.iconst 0, 1) := by decide +kernel
theorem dX1_doesLose_41 : decode cX1_doesLose 41 = .ok (.ireturn, 1) := by decide +kernel
theorem dX1_countCopies_0 : decode cX1_countCopies 0 = .ok (.iconst 0, 1) := by decide +kernel
theorem dX1_countCopies_1 : decode cX1_countCopies 1 = .ok (.istore_n 1, 1) := by decide +kernel
theorem dX1_countCopies_2 : decode cX1_countCopies 2 = .ok (.iconst 0, 1) := by decide +kernel
theorem dX1_countCopies_3 : decode cX1_countCopies 3 = .ok (.istore_n 2, 1) := by decide +kernel
theorem dX1_countCopies_4 : decode cX1_countCopies 4 = .ok (.iload_n 2, 1) := by decide +kernel
theorem dX1_countCopies_5 : decode cX1_countCopies 5 = .ok (.aload_n 0, 1) := by decide +kernel
theorem dX1_countCopies_6 : decode cX1_countCopies 6 = .ok (.getfield 57, 3) := by decide +kernel
theorem dX1_countCopies_9 : decode cX1_countCopies 9 = .ok (.if_icmp .ge 23, 3) := by decide +kernel
theorem dX1_countCopies_12 : decode cX1_countCopies 12 = .ok (.iload_n 1, 1) := by decide +kernel
theorem dX1_countCopies_13 : decode cX1_countCopies 13 = .ok (.aload_n 0, 1) := by decide +kernel
theorem dX1_countCopies_14 : decode cX1_countCopies 14 = .ok (.getfield 35, 3) := by decide +kernel
theorem dX1_countCopies_17 : decode cX1_countCopies 17 = .ok (.aload_n 0, 1) := by decide +kernel
theorem dX1_countCopies_18 : decode cX1_countCopies 18 = .ok (.getfield 41, 3) := by decide +kernel
theorem dX1_countCopies_21 : decode cX1_countCopies 21 = .ok (.iload_n 2, 1) := by decide +kernel
theorem dX1_countCopies_22 : decode cX1_countCopies 22 = .ok (.iaload, 1) := by decide +kernel
theorem dX1_countCopies_23 : decode cX1_countCopies 23 = .ok (.iaload, 1) := by decide +kernel
theorem dX1_countCopies_24 : decode cX1_countCopies 24 = .ok (.iadd, 1) := by decide +kernel
theorem dX1_countCopies_25 : decode cX1_countCopies 25 = .ok (.istore_n 1, 1) := by decide +kernel
theorem dX1_countCopies_26 : decode cX1_countCopies 26 = .ok (.iinc 2 1, 3) := by decide +kernel
theorem dX1_countCopies_29 : decode cX1_countCopies 29 = .ok (.goto (-25), 3) := by decide +kernel
theorem dX1_countCopies_32 : decode cX1_countCopies 32 = .ok (.iload_n 1, 1) := by decide +kernel
theorem dX1_countCopies_33 : decode cX1_countCopies 33 = .ok (.ireturn, 1) := by decide +kernel
theorem dX1_countSlots_0 : decode cX1_countSlots 0 = .ok (.iconst 0, 1) := by decide +kernel
theorem dX1_countSlots_1 : decode cX1_countSlots 1 = .ok (.istore_n 1, 1) := by decide +kernel
theorem dX1_countSlots_2 : decode cX1_countSlots 2 = .ok (.iconst 0, 1) := by decide +kernel
theorem dX1_countSlots_3 : decode cX1_countSlots 3 = .ok (.istore_n 2, 1) := by decide +kernel
theorem dX1_countSlots_4 : decode cX1_countSlots 4 = .ok (.iload_n 2, 1) := by decide +kernel
theorem dX1_countSlots_5 : decode cX1_countSlots 5 = .ok (.aload_n 0, 1) := by decide +kernel
theorem dX1_countSlots_6 : decode cX1_countSlots 6 = .ok (.getfield 53, 3) := by decide +kernel
theorem dX1_countSlots_9 : decode cX1_countSlots 9 = .ok (.if_icmp .ge 29, 3) := by decide +kernel
theorem dX1_countSlots_12 : decode cX1_countSlots 12 = .ok (.aload_n 0, 1) := by decide +kernel
theorem dX1_countSlots_13 : decode cX1_countSlots 13 = .ok (.getfield 18, 3) := by decide +kernel
theorem dX1_countSlots_16 : decode cX1_countSlots 16 = .ok (.iload_n 2, 1) := by decide +kernel
theorem dX1_countSlots_17 : decode cX1_countSlots 17 = .ok (.caload, 1) := by decide +kernel
theorem dX1_countSlots_18 : decode cX1_countSlots 18 = .ok (.bipush 102, 2) := by decide +kernel
theorem dX1_countSlots_20 : decode cX1_countSlots 20 = .ok (.if_icmp .eq 12, 3) := by decide +kernel
theorem dX1_countSlots_23 : decode cX1_countSlots 23 = .ok (.iload_n 1, 1) := by decide +kernel
theorem dX1_countSlots_24 : decode cX1_countSlots 24 = .ok (.aload_n 0, 1) := by decide +kernel
theorem dX1_countSlots_25 : decode cX1_countSlots 25 = .ok (.getfield 9, 3) := by decide +kernel
theorem dX1_countSlots_28 : decode cX1_countSlots 28 = .ok (.iload_n 2, 1) := by decide +kernel
theorem dX1_countSlots_29 : decode cX1_countSlots 29 = .ok (.iaload, 1) := by decide +kernel
theorem dX1_countSlots_30 : decode cX1_countSlots 30 = .ok (.iadd, 1) := by decide +kernel
theorem dX1_countSlots_31 : decode cX1_countSlots 31 = .ok (.istore_n 1, 1) := by decide +kernel
theorem dX1_countSlots_32 : decode cX1_countSlots 32 = .ok (.iinc 2 1, 3) := by decide +kernel
theorem dX1_countSlots_35 : decode cX1_countSlots 35 = .ok (.goto (-31), 3) := by decide +kernel
theorem dX1_countSlots_38 : decode cX1_countSlots 38 = .ok (.iload_n 1, 1) := by decide +kernel
theorem dX1_countSlots_39 : decode cX1_countSlots 39 = .ok (.ireturn, 1) := by decide +kernel
theorem dX1_agreesWithDisks_0 : decode cX1_agreesWithDisks 0 = .ok (.aload_n 0, 1) := by decide +kernel
theorem dX1_agreesWithDisks_1 : decode cX1_agreesWithDisks 1 = .ok (.bipush 102, 2) := by decide +kernel
theorem dX1_agreesWithDisks_3 : decode cX1_agreesWithDisks 3 = .ok (.invokevirtual 132, 3) := by decide +kernel
theorem dX1_agreesWithDisks_6 : decode cX1_agreesWithDisks 6 = .ok (.istore_n 1, 1) := by decide +kernel
theorem dX1_agreesWithDisks_7 : decode cX1_agreesWithDisks 7 = .ok (.iconst 0, 1) := by decide +kernel
theorem dX1_agreesWithDisks_8 : decode cX1_agreesWithDisks 8 = .ok (.istore_n 2, 1) := by decide +kernel
theorem dX1_agreesWithDisks_9 : decode cX1_agreesWithDisks 9 = .ok (.iload_n 2, 1) := by decide +kernel
theorem dX1_agreesWithDisks_10 : decode cX1_agreesWithDisks 10 = .ok (.aload_n 0, 1) := by decide +kernel
theorem dX1_agreesWithDisks_11 : decode cX1_agreesWithDisks 11 = .ok (.getfield 57, 3) := by decide +kernel
theorem dX1_agreesWithDisks_14 : decode cX1_agreesWithDisks 14 = .ok (.if_icmp .ge 72, 3) := by decide +kernel
theorem dX1_agreesWithDisks_17 : decode cX1_agreesWithDisks 17 = .ok (.aload_n 0, 1) := by decide +kernel
theorem dX1_agreesWithDisks_18 : decode cX1_agreesWithDisks 18 = .ok (.getfield 41, 3) := by decide +kernel
theorem dX1_agreesWithDisks_21 : decode cX1_agreesWithDisks 21 = .ok (.iload_n 2, 1) := by decide +kernel
theorem dX1_agreesWithDisks_22 : decode cX1_agreesWithDisks 22 = .ok (.iaload, 1) := by decide +kernel
theorem dX1_agreesWithDisks_23 : decode cX1_agreesWithDisks 23 = .ok (.istore_n 3, 1) := by decide +kernel
theorem dX1_agreesWithDisks_24 : decode cX1_agreesWithDisks 24 = .ok (.aload_n 0, 1) := by decide +kernel
theorem dX1_agreesWithDisks_25 : decode cX1_agreesWithDisks 25 = .ok (.iload_n 3, 1) := by decide +kernel
theorem dX1_agreesWithDisks_26 : decode cX1_agreesWithDisks 26 = .ok (.invokevirtual 100, 3) := by decide +kernel
theorem dX1_agreesWithDisks_29 : decode cX1_agreesWithDisks 29 = .ok (.istore 4, 2) := by decide +kernel
theorem dX1_agreesWithDisks_31 : decode cX1_agreesWithDisks 31 = .ok (.aload_n 0, 1) := by decide +kernel
theorem dX1_agreesWithDisks_32 : decode cX1_agreesWithDisks 32 = .ok (.getfield 35, 3) := by decide +kernel
theorem dX1_agreesWithDisks_35 : decode cX1_agreesWithDisks 35 = .ok (.iload_n 3, 1) := by decide +kernel
theorem dX1_agreesWithDisks_36 : decode cX1_agreesWithDisks 36 = .ok (.iaload, 1) := by decide +kernel
theorem dX1_agreesWithDisks_37 : decode cX1_agreesWithDisks 37 = .ok (.aload_n 0, 1) := by decide +kernel
theorem dX1_agreesWithDisks_38 : decode cX1_agreesWithDisks 38 = .ok (.iload_n 3, 1) := by decide +kernel
theorem dX1_agreesWithDisks_39 : decode cX1_agreesWithDisks 39 = .ok (.invokevirtual 139, 3) := by decide +kernel
theorem dX1_agreesWithDisks_42 : decode cX1_agreesWithDisks 42 = .ok (.if_icmp .ne 7, 3) := by decide +kernel
theorem dX1_agreesWithDisks_45 : decode cX1_agreesWithDisks 45 = .ok (.iconst 1, 1) := by decide +kernel
theorem dX1_agreesWithDisks_46 : decode cX1_agreesWithDisks 46 = .ok (.goto 4, 3) := by decide +kernel
theorem dX1_agreesWithDisks_49 : decode cX1_agreesWithDisks 49 = .ok (.iconst 0, 1) := by decide +kernel
theorem dX1_agreesWithDisks_50 : decode cX1_agreesWithDisks 50 = .ok (.istore 5, 2) := by decide +kernel
theorem dX1_agreesWithDisks_52 : decode cX1_agreesWithDisks 52 = .ok (.iload 5, 2) := by decide +kernel
theorem dX1_agreesWithDisks_54 : decode cX1_agreesWithDisks 54 = .ok (.ifCond .eq 24, 3) := by decide +kernel
theorem dX1_agreesWithDisks_57 : decode cX1_agreesWithDisks 57 = .ok (.iload 4, 2) := by decide +kernel
theorem dX1_agreesWithDisks_59 : decode cX1_agreesWithDisks 59 = .ok (.invokestatic 127, 3) := by decide +kernel
theorem dX1_agreesWithDisks_62 : decode cX1_agreesWithDisks 62 = .ok (.aload_n 0, 1) := by decide +kernel
theorem dX1_agreesWithDisks_63 : decode cX1_agreesWithDisks 63 = .ok (.getfield 35, 3) := by decide +kernel
theorem dX1_agreesWithDisks_66 : decode cX1_agreesWithDisks 66 = .ok (.iload_n 3, 1) := by decide +kernel
theorem dX1_agreesWithDisks_67 : decode cX1_agreesWithDisks 67 = .ok (.iaload, 1) := by decide +kernel
theorem dX1_agreesWithDisks_68 : decode cX1_agreesWithDisks 68 = .ok (.if_icmp .ne 10, 3) := by decide +kernel
theorem dX1_agreesWithDisks_71 : decode cX1_agreesWithDisks 71 = .ok (.iload 4, 2) := by decide +kernel
theorem dX1_agreesWithDisks_73 : decode cX1_agreesWithDisks 73 = .ok (.iload_n 1, 1) := by decide +kernel
theorem dX1_agreesWithDisks_74 : decode cX1_agreesWithDisks 74 = .ok (.iand, 1) := by decide +kernel
theorem dX1_agreesWithDisks_75 : decode cX1_agreesWithDisks 75 = .ok (.ifCond .eq 5, 3) := by decide +kernel
theorem dX1_agreesWithDisks_78 : decode cX1_agreesWithDisks 78 = .ok (.iconst 0, 1) := by decide +kernel
theorem dX1_agreesWithDisks_79 : decode cX1_agreesWithDisks 79 = .ok (.ireturn, 1) := by decide +kernel
theorem dX1_agreesWithDisks_80 : decode cX1_agreesWithDisks 80 = .ok (.iinc 2 1, 3) := by decide +kernel
theorem dX1_agreesWithDisks_83 : decode cX1_agreesWithDisks 83 = .ok (.goto (-74), 3) := by decide +kernel
theorem dX1_agreesWithDisks_86 : decode cX1_agreesWithDisks 86 = .ok (.iconst 1, 1) := by decide +kernel
theorem dX1_agreesWithDisks_87 : decode cX1_agreesWithDisks 87 = .ok (.ireturn, 1) := by decide +kernel
