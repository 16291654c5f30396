theorem dX0_init_0 : decode cX0_init 0 = .ok (.aload_n 0, 1) := by decide +kernel
theorem dX0_init_1 : decode cX0_init 1 = .ok (.invokespecial 1, 3) := by decide +kernel
theorem dX0_init_4 : decode cX0_init 4 = .ok (.aload_n 0, 1) := by decide +kernel
theorem dX0_init_5 : decode cX0_init 5 = .ok (.bipush 72, 2) := by decide +kernel
theorem dX0_init_7 : decode cX0_init 7 = .ok (.newarray .int, 2) := by decide +kernel
theorem dX0_init_9 : decode cX0_init 9 = .ok (.putfield 9, 3) := by decide +kernel
theorem dX0_init_12 : decode cX0_init 12 = .ok (.return_, 1) := by decide +kernel
theorem dX0_note_0 : decode cX0_note 0 = .ok (.aload_n 0, 1) := by decide +kernel
theorem dX0_note_1 : decode cX0_note 1 = .ok (.getfield 13, 3) := by decide +kernel
theorem dX0_note_4 : decode cX0_note 4 = .ok (.iconst 3, 1) := by decide +kernel
theorem dX0_note_5 : decode cX0_note 5 = .ok (.imul, 1) := by decide +kernel
theorem dX0_note_6 : decode cX0_note 6 = .ok (.istore 4, 2) := by decide +kernel
theorem dX0_note_8 : decode cX0_note 8 = .ok (.aload_n 0, 1) := by decide +kernel
theorem dX0_note_9 : decode cX0_note 9 = .ok (.getfield 9, 3) := by decide +kernel
theorem dX0_note_12 : decode cX0_note 12 = .ok (.iload 4, 2) := by decide +kernel
theorem dX0_note_14 : decode cX0_note 14 = .ok (.iload_n 1, 1) := by decide +kernel
theorem dX0_note_15 : decode cX0_note 15 = .ok (.iastore, 1) := by decide +kernel
theorem dX0_note_16 : decode cX0_note 16 = .ok (.aload_n 0, 1) := by decide +kernel
theorem dX0_note_17 : decode cX0_note 17 = .ok (.getfield 9, 3) := by decide +kernel
theorem dX0_note_20 : decode cX0_note 20 = .ok (.iload 4, 2) := by decide +kernel
theorem dX0_note_22 : decode cX0_note 22 = .ok (.iconst 1, 1) := by decide +kernel
theorem dX0_note_23 : decode cX0_note 23 = .ok (.iadd, 1) := by decide +kernel
theorem dX0_note_24 : decode cX0_note 24 = .ok (.iload_n 2, 1) := by decide +kernel
theorem dX0_note_25 : decode cX0_note 25 = .ok (.iastore, 1) := by decide +kernel
theorem dX0_note_26 : decode cX0_note 26 = .ok (.aload_n 0, 1) := by decide +kernel
theorem dX0_note_27 : decode cX0_note 27 = .ok (.getfield 9, 3) := by decide +kernel
theorem dX0_note_30 : decode cX0_note 30 = .ok (.iload 4, 2) := by decide +kernel
theorem dX0_note_32 : decode cX0_note 32 = .ok (.iconst 2, 1) := by decide +kernel
theorem dX0_note_33 : decode cX0_note 33 = .ok (.iadd, 1) := by decide +kernel
theorem dX0_note_34 : decode cX0_note 34 = .ok (.iload_n 3, 1) := by decide +kernel
theorem dX0_note_35 : decode cX0_note 35 = .ok (.iastore, 1) := by decide +kernel
theorem dX0_note_36 : decode cX0_note 36 = .ok (.aload_n 0, 1) := by decide +kernel
theorem dX0_note_37 : decode cX0_note 37 = .ok (.aload_n 0, 1) := by decide +kernel
theorem dX0_note_38 : decode cX0_note 38 = .ok (.getfield 13, 3) := by decide +kernel
theorem dX0_note_41 : decode cX0_note 41 = .ok (.iconst 1, 1) := by decide +kernel
theorem dX0_note_42 : decode cX0_note 42 = .ok (.iadd, 1) := by decide +kernel
theorem dX0_note_43 : decode cX0_note 43 = .ok (.bipush 24, 2) := by decide +kernel
theorem dX0_note_45 : decode cX0_note 45 = .ok (.if_icmp .ge 12, 3) := by decide +kernel
theorem dX0_note_48 : decode cX0_note 48 = .ok (.aload_n 0, 1) := by decide +kernel
theorem dX0_note_49 : decode cX0_note 49 = .ok (.getfield 13, 3) := by decide +kernel
theorem dX0_note_52 : decode cX0_note 52 = .ok (.iconst 1, 1) := by decide +kernel
theorem dX0_note_53 : decode cX0_note 53 = .ok (.iadd, 1) := by decide +kernel
theorem dX0_note_54 : decode cX0_note 54 = .ok (.goto 4, 3) := by decide +kernel
theorem dX0_note_57 : decode cX0_note 57 = .ok (.iconst 0, 1) := by decide +kernel
theorem dX0_note_58 : decode cX0_note 58 = .ok (.putfield 13, 3) := by decide +kernel
theorem dX0_note_61 : decode cX0_note 61 = .ok (.aload_n 0, 1) := by decide +kernel
theorem dX0_note_62 : decode cX0_note 62 = .ok (.aload_n 0, 1) := by decide +kernel
theorem dX0_note_63 : decode cX0_note 63 = .ok (.getfield 17, 3) := by decide +kernel
theorem dX0_note_66 : decode cX0_note 66 = .ok (.iconst 1, 1) := by decide +kernel
theorem dX0_note_67 : decode cX0_note 67 = .ok (.iadd, 1) := by decide +kernel
theorem dX0_note_68 : decode cX0_note 68 = .ok (.bipush 24, 2) := by decide +kernel
theorem dX0_note_70 : decode cX0_note 70 = .ok (.invokestatic 20, 3) := by decide +kernel
theorem dX0_note_73 : decode cX0_note 73 = .ok (.putfield 17, 3) := by decide +kernel
theorem dX0_note_76 : decode cX0_note 76 = .ok (.return_, 1) := by decide +kernel
theorem dX0_part_0 : decode cX0_part 0 = .ok (.aload_n 0, 1) := by decide +kernel
theorem dX0_part_1 : decode cX0_part 1 = .ok (.getfield 13, 3) := by decide +kernel
theorem dX0_part_4 : decode cX0_part 4 = .ok (.iconst 1, 1) := by decide +kernel
theorem dX0_part_5 : decode cX0_part 5 = .ok (.isub, 1) := by decide +kernel
theorem dX0_part_6 : decode cX0_part 6 = .ok (.iload_n 1, 1) := by decide +kernel
theorem dX0_part_7 : decode cX0_part 7 = .ok (.isub, 1) := by decide +kernel
theorem dX0_part_8 : decode cX0_part 8 = .ok (.istore_n 3, 1) := by decide +kernel
theorem dX0_part_9 : decode cX0_part 9 = .ok (.iload_n 3, 1) := by decide +kernel
theorem dX0_part_10 : decode cX0_part 10 = .ok (.ifCond .ge 6, 3) := by decide +kernel
theorem dX0_part_13 : decode cX0_part 13 = .ok (.iinc 3 24, 3) := by decide +kernel
theorem dX0_part_16 : decode cX0_part 16 = .ok (.aload_n 0, 1) := by decide +kernel
theorem dX0_part_17 : decode cX0_part 17 = .ok (.getfield 9, 3) := by decide +kernel
theorem dX0_part_20 : decode cX0_part 20 = .ok (.iload_n 3, 1) := by decide +kernel
theorem dX0_part_21 : decode cX0_part 21 = .ok (.iconst 3, 1) := by decide +kernel
theorem dX0_part_22 : decode cX0_part 22 = .ok (.imul, 1) := by decide +kernel
theorem dX0_part_23 : decode cX0_part 23 = .ok (.iload_n 2, 1) := by decide +kernel
theorem dX0_part_24 : decode cX0_part 24 = .ok (.iadd, 1) := by decide +kernel
theorem dX0_part_25 : decode cX0_part 25 = .ok (.iaload, 1) := by decide +kernel
theorem dX0_part_26 : decode cX0_part 26 = .ok (.ireturn, 1) := by decide +kernel
theorem dX0_clear_0 : decode cX0_clear 0 = .ok (.aload_n 0, 1) := by decide +kernel
theorem dX0_clear_1 : decode cX0_clear 1 = .ok (.iconst 0, 1) := by decide +kernel
theorem dX0_clear_2 : decode cX0_clear 2 = .ok (.putfield 17, 3) := by decide +kernel
theorem dX0_clear_5 : decode cX0_clear 5 = .ok (.aload_n 0, 1) := by decide +kernel
theorem dX0_clear_6 : decode cX0_clear 6 = .ok (.iconst 0, 1) := by decide +kernel
theorem dX0_clear_7 : decode cX0_clear 7 = .ok (.putfield 13, 3) := by decide +kernel
theorem dX0_clear_10 : decode cX0_clear 10 = .ok (.return_, 1) := by decide +kernel
theorem dX0_copyFrom_0 : decode cX0_copyFrom 0 = .ok (.aload_n 1, 1) := by decide +kernel
theorem dX0_copyFrom_1 : decode cX0_copyFrom 1 = .ok (.getfield 9, 3) := by decide +kernel
theorem dX0_copyFrom_4 : decode cX0_copyFrom 4 = .ok (.iconst 0, 1) := by decide +kernel
theorem dX0_copyFrom_5 : decode cX0_copyFrom 5 = .ok (.aload_n 0, 1) := by decide +kernel
theorem dX0_copyFrom_6 : decode cX0_copyFrom 6 = .ok (.getfield 9, 3) := by decide +kernel
theorem dX0_copyFrom_9 : decode cX0_copyFrom 9 = .ok (.iconst 0, 1) := by decide +kernel
theorem dX0_copyFrom_10 : decode cX0_copyFrom 10 = .ok (.aload_n 0, 1) := by decide +kernel
theorem dX0_copyFrom_11 : decode cX0_copyFrom 11 = .ok (.getfield 9, 3) := by decide +kernel
theorem dX0_copyFrom_14 : decode cX0_copyFrom 14 = .ok (.arraylength, 1) := by decide +kernel
theorem dX0_copyFrom_15 : decode cX0_copyFrom 15 = .ok (.invokestatic 26, 3) := by decide +kernel
theorem dX0_copyFrom_18 : decode cX0_copyFrom 18 = .ok (.aload_n 0, 1) := by decide +kernel
theorem dX0_copyFrom_19 : decode cX0_copyFrom 19 = .ok (.aload_n 1, 1) := by decide +kernel
theorem dX0_copyFrom_20 : decode cX0_copyFrom 20 = .ok (.getfield 17, 3) := by decide +kernel
theorem dX0_copyFrom_23 : decode cX0_copyFrom 23 = .ok (.putfield 17, 3) := by decide +kernel
theorem dX0_copyFrom_26 : decode cX0_copyFrom 26 = .ok (.aload_n 0, 1) := by decide +kernel
theorem dX0_copyFrom_27 : decode cX0_copyFrom 27 = .ok (.aload_n 1, 1) := by decide +kernel
theorem dX0_copyFrom_28 : decode cX0_copyFrom 28 = .ok (.getfield 13, 3) := by decide +kernel
theorem dX0_copyFrom_31 : decode cX0_copyFrom 31 = .ok (.putfield 13, 3) := by decide +kernel
theorem dX0_copyFrom_34 : decode cX0_copyFrom 34 = .ok (.return_, 1) := by decide +kernel
theorem dX1_init_0 : decode cX1_init 0 = .ok (.aload_n 0, 1) := by decide +kernel
theorem dX1_init_1 : decode cX1_init 1 = .ok (.invokespecial 3, 3) := by decide +kernel
theorem dX1_init_4 : decode cX1_init 4 = .ok (.aload_n 0, 1) := by decide +kernel
theorem dX1_init_5 : decode cX1_init 5 = .ok (.sipush 256, 3) := by decide +kernel
theorem dX1_init_8 : decode cX1_init 8 = .ok (.newarray .int, 2) := by decide +kernel
theorem dX1_init_10 : decode cX1_init 10 = .ok (.putfield 11, 3) := by decide +kernel
theorem dX1_init_13 : decode cX1_init 13 = .ok (.aload_n 0, 1) := by decide +kernel
theorem dX1_init_14 : decode cX1_init 14 = .ok (.bipush 64, 2) := by decide +kernel
theorem dX1_init_16 : decode cX1_init 16 = .ok (.newarray .int, 2) := by decide +kernel
theorem dX1_init_18 : decode cX1_init 18 = .ok (.putfield 15, 3) := by decide +kernel
theorem dX1_init_21 : decode cX1_init 21 = .ok (.return_, 1) := by decide +kernel
theorem dX1_part_0 : decode cX1_part 0 = .ok (.aload_n 0, 1) := by decide +kernel
theorem dX1_part_1 : decode cX1_part 1 = .ok (.getfield 11, 3) := by decide +kernel
theorem dX1_part_4 : decode cX1_part 4 = .ok (.iload_n 1, 1) := by decide +kernel
theorem dX1_part_5 : decode cX1_part 5 = .ok (.iconst 4, 1) := by decide +kernel
theorem dX1_part_6 : decode cX1_part 6 = .ok (.imul, 1) := by decide +kernel
theorem dX1_part_7 : decode cX1_part 7 = .ok (.iload_n 2, 1) := by decide +kernel
theorem dX1_part_8 : decode cX1_part 8 = .ok (.iadd, 1) := by decide +kernel
theorem dX1_part_9 : decode cX1_part 9 = .ok (.iaload, 1) := by decide +kernel
theorem dX1_part_10 : decode cX1_part 10 = .ok (.ireturn, 1) := by decide +kernel
theorem dX1_enter_0 : decode cX1_enter 0 = .ok (.iload_n 1, 1) := by decide +kernel
theorem dX1_enter_1 : decode cX1_enter 1 = .ok (.iconst 4, 1) := by decide +kernel
theorem dX1_enter_2 : decode cX1_enter 2 = .ok (.imul, 1) := by decide +kernel
theorem dX1_enter_3 : decode cX1_enter 3 = .ok (.istore 4, 2) := by decide +kernel
theorem dX1_enter_5 : decode cX1_enter 5 = .ok (.aload_n 0, 1) := by decide +kernel
theorem dX1_enter_6 : decode cX1_enter 6 = .ok (.getfield 11, 3) := by decide +kernel
theorem dX1_enter_9 : decode cX1_enter 9 = .ok (.iload 4, 2) := by decide +kernel
theorem dX1_enter_11 : decode cX1_enter 11 = .ok (.iload_n 2, 1) := by decide +kernel
theorem dX1_enter_12 : decode cX1_enter 12 = .ok (.ifCond .ne 7, 3) := by decide +kernel
theorem dX1_enter_15 : decode cX1_enter 15 = .ok (.iconst 0, 1) := by decide +kernel
theorem dX1_enter_16 : decode cX1_enter 16 = .ok (.goto 4, 3) := by decide +kernel
theorem dX1_enter_19 : decode cX1_enter 19 = .ok (.iconst 1, 1) := by decide +kernel
theorem dX1_enter_20 : decode cX1_enter 20 = .ok (.iadd, 1) := by decide +kernel
theorem dX1_enter_21 : decode cX1_enter 21 = .ok (.dup2, 1) := by decide +kernel
theorem dX1_enter_22 : decode cX1_enter 22 = .ok (.iaload, 1) := by decide +kernel
theorem dX1_enter_23 : decode cX1_enter 23 = .ok (.iconst 1, 1) := by decide +kernel
theorem dX1_enter_24 : decode cX1_enter 24 = .ok (.iadd, 1) := by decide +kernel
theorem dX1_enter_25 : decode cX1_enter 25 = .ok (.iastore, 1) := by decide +kernel
theorem dX1_enter_26 : decode cX1_enter 26 = .ok (.aload_n 0, 1) := by decide +kernel
theorem dX1_enter_27 : decode cX1_enter 27 = .ok (.getfield 11, 3) := by decide +kernel
theorem dX1_enter_30 : decode cX1_enter 30 = .ok (.iload 4, 2) := by decide +kernel
theorem dX1_enter_32 : decode cX1_enter 32 = .ok (.iconst 2, 1) := by decide +kernel
theorem dX1_enter_33 : decode cX1_enter 33 = .ok (.iadd, 1) := by decide +kernel
theorem dX1_enter_34 : decode cX1_enter 34 = .ok (.dup2, 1) := by decide +kernel
theorem dX1_enter_35 : decode cX1_enter 35 = .ok (.iaload, 1) := by decide +kernel
theorem dX1_enter_36 : decode cX1_enter 36 = .ok (.iload_n 3, 1) := by decide +kernel
theorem dX1_enter_37 : decode cX1_enter 37 = .ok (.iadd, 1) := by decide +kernel
theorem dX1_enter_38 : decode cX1_enter 38 = .ok (.iastore, 1) := by decide +kernel
theorem dX1_enter_39 : decode cX1_enter 39 = .ok (.aload_n 0, 1) := by decide +kernel
theorem dX1_enter_40 : decode cX1_enter 40 = .ok (.getfield 15, 3) := by decide +kernel
theorem dX1_enter_43 : decode cX1_enter 43 = .ok (.iload_n 1, 1) := by decide +kernel
theorem dX1_enter_44 : decode cX1_enter 44 = .ok (.dup2, 1) := by decide +kernel
theorem dX1_enter_45 : decode cX1_enter 45 = .ok (.iaload, 1) := by decide +kernel
theorem dX1_enter_46 : decode cX1_enter 46 = .ok (.iconst 1, 1) := by decide +kernel
theorem dX1_enter_47 : decode cX1_enter 47 = .ok (.iadd, 1) := by decide +kernel
theorem dX1_enter_48 : decode cX1_enter 48 = .ok (.iastore, 1) := by decide +kernel
theorem dX1_enter_49 : decode cX1_enter 49 = .ok (.return_, 1) := by decide +kernel
theorem dX1_leave_0 : decode cX1_leave 0 = .ok (.aload_n 0, 1) := by decide +kernel
theorem dX1_leave_1 : decode cX1_leave 1 = .ok (.getfield 15, 3) := by decide +kernel
theorem dX1_leave_4 : decode cX1_leave 4 = .ok (.iload_n 1, 1) := by decide +kernel
theorem dX1_leave_5 : decode cX1_leave 5 = .ok (.dup2, 1) := by decide +kernel
theorem dX1_leave_6 : decode cX1_leave 6 = .ok (.iaload, 1) := by decide +kernel
theorem dX1_leave_7 : decode cX1_leave 7 = .ok (.iconst 1, 1) := by decide +kernel
theorem dX1_leave_8 : decode cX1_leave 8 = .ok (.isub, 1) := by decide +kernel
theorem dX1_leave_9 : decode cX1_leave 9 = .ok (.iastore, 1) := by decide +kernel
theorem dX1_leave_10 : decode cX1_leave 10 = .ok (.return_, 1) := by decide +kernel
theorem dX1_keepMost_0 : decode cX1_keepMost 0 = .ok (.iconst 0, 1) := by decide +kernel
theorem dX1_keepMost_1 : decode cX1_keepMost 1 = .ok (.istore_n 2, 1) := by decide +kernel
theorem dX1_keepMost_2 : decode cX1_keepMost 2 = .ok (.iload_n 2, 1) := by decide +kernel
theorem dX1_keepMost_3 : decode cX1_keepMost 3 = .ok (.aload_n 1, 1) := by decide +kernel
theorem dX1_keepMost_4 : decode cX1_keepMost 4 = .ok (.getfield 18, 3) := by decide +kernel
theorem dX1_keepMost_7 : decode cX1_keepMost 7 = .ok (.if_icmp .ge 61, 3) := by decide +kernel
theorem dX1_keepMost_10 : decode cX1_keepMost 10 = .ok (.aload_n 1, 1) := by decide +kernel
theorem dX1_keepMost_11 : decode cX1_keepMost 11 = .ok (.iload_n 2, 1) := by decide +kernel
theorem dX1_keepMost_12 : decode cX1_keepMost 12 = .ok (.iconst 1, 1) := by decide +kernel
theorem dX1_keepMost_13 : decode cX1_keepMost 13 = .ok (.invokevirtual 24, 3) := by decide +kernel
theorem dX1_keepMost_16 : decode cX1_keepMost 16 = .ok (.aload_n 1, 1) := by decide +kernel
theorem dX1_keepMost_17 : decode cX1_keepMost 17 = .ok (.iload_n 2, 1) := by decide +kernel
theorem dX1_keepMost_18 : decode cX1_keepMost 18 = .ok (.iconst 2, 1) := by decide +kernel
theorem dX1_keepMost_19 : decode cX1_keepMost 19 = .ok (.invokevirtual 24, 3) := by decide +kernel
theorem dX1_keepMost_22 : decode cX1_keepMost 22 = .ok (.invokestatic 28, 3) := by decide +kernel
theorem dX1_keepMost_25 : decode cX1_keepMost 25 = .ok (.istore_n 3, 1) := by decide +kernel
theorem dX1_keepMost_26 : decode cX1_keepMost 26 = .ok (.iload_n 3, 1) := by decide +kernel
theorem dX1_keepMost_27 : decode cX1_keepMost 27 = .ok (.iconst 4, 1) := by decide +kernel
theorem dX1_keepMost_28 : decode cX1_keepMost 28 = .ok (.imul, 1) := by decide +kernel
theorem dX1_keepMost_29 : decode cX1_keepMost 29 = .ok (.iconst 3, 1) := by decide +kernel
theorem dX1_keepMost_30 : decode cX1_keepMost 30 = .ok (.iadd, 1) := by decide +kernel
theorem dX1_keepMost_31 : decode cX1_keepMost 31 = .ok (.istore 4, 2) := by decide +kernel
theorem dX1_keepMost_33 : decode cX1_keepMost 33 = .ok (.aload_n 0, 1) := by decide +kernel
theorem dX1_keepMost_34 : decode cX1_keepMost 34 = .ok (.getfield 15, 3) := by decide +kernel
theorem dX1_keepMost_37 : decode cX1_keepMost 37 = .ok (.iload_n 3, 1) := by decide +kernel
theorem dX1_keepMost_38 : decode cX1_keepMost 38 = .ok (.iaload, 1) := by decide +kernel
theorem dX1_keepMost_39 : decode cX1_keepMost 39 = .ok (.aload_n 0, 1) := by decide +kernel
theorem dX1_keepMost_40 : decode cX1_keepMost 40 = .ok (.getfield 11, 3) := by decide +kernel
theorem dX1_keepMost_43 : decode cX1_keepMost 43 = .ok (.iload 4, 2) := by decide +kernel
theorem dX1_keepMost_45 : decode cX1_keepMost 45 = .ok (.iaload, 1) := by decide +kernel
theorem dX1_keepMost_46 : decode cX1_keepMost 46 = .ok (.if_icmp .le 16, 3) := by decide +kernel
theorem dX1_keepMost_49 : decode cX1_keepMost 49 = .ok (.aload_n 0, 1) := by decide +kernel
theorem dX1_keepMost_50 : decode cX1_keepMost 50 = .ok (.getfield 11, 3) := by decide +kernel
theorem dX1_keepMost_53 : decode cX1_keepMost 53 = .ok (.iload 4, 2) := by decide +kernel
theorem dX1_keepMost_55 : decode cX1_keepMost 55 = .ok (.aload_n 0, 1) := by decide +kernel
theorem dX1_keepMost_56 : decode cX1_keepMost 56 = .ok (.getfield 15, 3) := by decide +kernel
theorem dX1_keepMost_59 : decode cX1_keepMost 59 = .ok (.iload_n 3, 1) := by decide +kernel
theorem dX1_keepMost_60 : decode cX1_keepMost 60 = .ok (.iaload, 1) := by decide +kernel
theorem dX1_keepMost_61 : decode cX1_keepMost 61 = .ok (.iastore, 1) := by decide +kernel
theorem dX1_keepMost_62 : decode cX1_keepMost 62 = .ok (.iinc 2 1, 3) := by decide +kernel
theorem dX1_keepMost_65 : decode cX1_keepMost 65 = .ok (.goto (-63), 3) := by decide +kernel
theorem dX1_keepMost_68 : decode cX1_keepMost 68 = .ok (.return_, 1) := by decide +kernel
theorem dX1_clear_0 : decode cX1_clear 0 = .ok (.aload_n 0, 1) := by decide +kernel
theorem dX1_clear_1 : decode cX1_clear 1 = .ok (.getfield 11, 3) := by decide +kernel
theorem dX1_clear_4 : decode cX1_clear 4 = .ok (.iconst 0, 1) := by decide +kernel
theorem dX1_clear_5 : decode cX1_clear 5 = .ok (.invokestatic 31, 3) := by decide +kernel
theorem dX1_clear_8 : decode cX1_clear 8 = .ok (.aload_n 0, 1) := by decide +kernel
theorem dX1_clear_9 : decode cX1_clear 9 = .ok (.getfield 15, 3) := by decide +kernel
theorem dX1_clear_12 : decode cX1_clear 12 = .ok (.iconst 0, 1) := by decide +kernel
theorem dX1_clear_13 : decode cX1_clear 13 = .ok (.invokestatic 31, 3) := by decide +kernel
theorem dX1_clear_16 : decode cX1_clear 16 = .ok (.return_, 1) := by decide +kernel
theorem dX1_copyFrom_0 : decode cX1_copyFrom 0 = .ok (.aload_n 1, 1) := by decide +kernel
theorem dX1_copyFrom_1 : decode cX1_copyFrom 1 = .ok (.getfield 11, 3) := by decide +kernel
theorem dX1_copyFrom_4 : decode cX1_copyFrom 4 = .ok (.iconst 0, 1) := by decide +kernel
theorem dX1_copyFrom_5 : decode cX1_copyFrom 5 = .ok (.aload_n 0, 1) := by decide +kernel
theorem dX1_copyFrom_6 : decode cX1_copyFrom 6 = .ok (.getfield 11, 3) := by decide +kernel
theorem dX1_copyFrom_9 : decode cX1_copyFrom 9 = .ok (.iconst 0, 1) := by decide +kernel
theorem dX1_copyFrom_10 : decode cX1_copyFrom 10 = .ok (.aload_n 0, 1) := by decide +kernel
theorem dX1_copyFrom_11 : decode cX1_copyFrom 11 = .ok (.getfield 11, 3) := by decide +kernel
theorem dX1_copyFrom_14 : decode cX1_copyFrom 14 = .ok (.arraylength, 1) := by decide +kernel
theorem dX1_copyFrom_15 : decode cX1_copyFrom 15 = .ok (.invokestatic 37, 3) := by decide +kernel
theorem dX1_copyFrom_18 : decode cX1_copyFrom 18 = .ok (.aload_n 1, 1) := by decide +kernel
theorem dX1_copyFrom_19 : decode cX1_copyFrom 19 = .ok (.getfield 15, 3) := by decide +kernel
theorem dX1_copyFrom_22 : decode cX1_copyFrom 22 = .ok (.iconst 0, 1) := by decide +kernel
theorem dX1_copyFrom_23 : decode cX1_copyFrom 23 = .ok (.aload_n 0, 1) := by decide +kernel
theorem dX1_copyFrom_24 : decode cX1_copyFrom 24 = .ok (.getfield 15, 3) := by decide +kernel
theorem dX1_copyFrom_27 : decode cX1_copyFrom 27 = .ok (.iconst 0, 1) := by decide +kernel
theorem dX1_copyFrom_28 : decode cX1_copyFrom 28 = .ok (.aload_n 0, 1) := by decide +kernel
theorem dX1_copyFrom_29 : decode cX1_copyFrom 29 = .ok (.getfield 15, 3) := by decide +kernel
theorem dX1_copyFrom_32 : decode cX1_copyFrom 32 = .ok (.arraylength, 1) := by decide +kernel
theorem dX1_copyFrom_33 : decode cX1_copyFrom 33 = .ok (.invokestatic 37, 3) := by decide +kernel
theorem dX1_copyFrom_36 : decode cX1_copyFrom 36 = .ok (.return_, 1) := by decide +kernel
theorem dX2_init_0 : decode cX2_init 0 = .ok (.aload_n 0, 1) := by decide +kernel
theorem dX2_init_1 : decode cX2_init 1 = .ok (.invokespecial 3, 3) := by decide +kernel
theorem dX2_init_4 : decode cX2_init 4 = .ok (.aload_n 0, 1) := by decide +kernel
theorem dX2_init_5 : decode cX2_init 5 = .ok (.sipush 384, 3) := by decide +kernel
theorem dX2_init_8 : decode cX2_init 8 = .ok (.newarray .int, 2) := by decide +kernel
theorem dX2_init_10 : decode cX2_init 10 = .ok (.putfield 11, 3) := by decide +kernel
theorem dX2_init_13 : decode cX2_init 13 = .ok (.return_, 1) := by decide +kernel
theorem dX2_part_0 : decode cX2_part 0 = .ok (.aload_n 0, 1) := by decide +kernel
theorem dX2_part_1 : decode cX2_part 1 = .ok (.getfield 11, 3) := by decide +kernel
theorem dX2_part_4 : decode cX2_part 4 = .ok (.iload_n 1, 1) := by decide +kernel
theorem dX2_part_5 : decode cX2_part 5 = .ok (.bipush 8, 2) := by decide +kernel
theorem dX2_part_7 : decode cX2_part 7 = .ok (.imul, 1) := by decide +kernel
theorem dX2_part_8 : decode cX2_part 8 = .ok (.iload_n 2, 1) := by decide +kernel
theorem dX2_part_9 : decode cX2_part 9 = .ok (.iadd, 1) := by decide +kernel
theorem dX2_part_10 : decode cX2_part 10 = .ok (.iaload, 1) := by decide +kernel
theorem dX2_part_11 : decode cX2_part 11 = .ok (.ireturn, 1) := by decide +kernel
theorem dX2_put_0 : decode cX2_put 0 = .ok (.aload_n 0, 1) := by decide +kernel
theorem dX2_put_1 : decode cX2_put 1 = .ok (.getfield 15, 3) := by decide +kernel
theorem dX2_put_4 : decode cX2_put 4 = .ok (.sipush 2048, 3) := by decide +kernel
theorem dX2_put_7 : decode cX2_put 7 = .ok (.if_icmp .lt 5, 3) := by decide +kernel
theorem dX2_put_10 : decode cX2_put 10 = .ok (.iconst (-1), 1) := by decide +kernel
theorem dX2_put_11 : decode cX2_put 11 = .ok (.ireturn, 1) := by decide +kernel
theorem dX2_put_12 : decode cX2_put 12 = .ok (.aload_n 0, 1) := by decide +kernel
theorem dX2_put_13 : decode cX2_put 13 = .ok (.getfield 15, 3) := by decide +kernel
theorem dX2_put_16 : decode cX2_put 16 = .ok (.bipush 8, 2) := by decide +kernel
theorem dX2_put_18 : decode cX2_put 18 = .ok (.imul, 1) := by decide +kernel
theorem dX2_put_19 : decode cX2_put 19 = .ok (.istore 6, 2) := by decide +kernel
theorem dX2_put_21 : decode cX2_put 21 = .ok (.iload 6, 2) := by decide +kernel
theorem dX2_put_23 : decode cX2_put 23 = .ok (.bipush 8, 2) := by decide +kernel
theorem dX2_put_25 : decode cX2_put 25 = .ok (.iadd, 1) := by decide +kernel
theorem dX2_put_26 : decode cX2_put 26 = .ok (.aload_n 0, 1) := by decide +kernel
theorem dX2_put_27 : decode cX2_put 27 = .ok (.getfield 11, 3) := by decide +kernel
theorem dX2_put_30 : decode cX2_put 30 = .ok (.arraylength, 1) := by decide +kernel
theorem dX2_put_31 : decode cX2_put 31 = .ok (.if_icmp .le 21, 3) := by decide +kernel
theorem dX2_put_34 : decode cX2_put 34 = .ok (.aload_n 0, 1) := by decide +kernel
theorem dX2_put_35 : decode cX2_put 35 = .ok (.aload_n 0, 1) := by decide +kernel
theorem dX2_put_36 : decode cX2_put 36 = .ok (.getfield 11, 3) := by decide +kernel
theorem dX2_put_39 : decode cX2_put 39 = .ok (.aload_n 0, 1) := by decide +kernel
theorem dX2_put_40 : decode cX2_put 40 = .ok (.getfield 11, 3) := by decide +kernel
theorem dX2_put_43 : decode cX2_put 43 = .ok (.arraylength, 1) := by decide +kernel
theorem dX2_put_44 : decode cX2_put 44 = .ok (.iconst 2, 1) := by decide +kernel
theorem dX2_put_45 : decode cX2_put 45 = .ok (.imul, 1) := by decide +kernel
theorem dX2_put_46 : decode cX2_put 46 = .ok (.invokestatic 19, 3) := by decide +kernel
theorem dX2_put_49 : decode cX2_put 49 = .ok (.putfield 11, 3) := by decide +kernel
theorem dX2_put_52 : decode cX2_put 52 = .ok (.aload_n 0, 1) := by decide +kernel
theorem dX2_put_53 : decode cX2_put 53 = .ok (.getfield 11, 3) := by decide +kernel
theorem dX2_put_56 : decode cX2_put 56 = .ok (.iload 6, 2) := by decide +kernel
theorem dX2_put_58 : decode cX2_put 58 = .ok (.iconst 0, 1) := by decide +kernel
theorem dX2_put_59 : decode cX2_put 59 = .ok (.iadd, 1) := by decide +kernel
theorem dX2_put_60 : decode cX2_put 60 = .ok (.iload_n 1, 1) := by decide +kernel
theorem dX2_put_61 : decode cX2_put 61 = .ok (.iastore, 1) := by decide +kernel
theorem dX2_put_62 : decode cX2_put 62 = .ok (.aload_n 0, 1) := by decide +kernel
theorem dX2_put_63 : decode cX2_put 63 = .ok (.getfield 11, 3) := by decide +kernel
theorem dX2_put_66 : decode cX2_put 66 = .ok (.iload 6, 2) := by decide +kernel
theorem dX2_put_68 : decode cX2_put 68 = .ok (.iconst 1, 1) := by decide +kernel
theorem dX2_put_69 : decode cX2_put 69 = .ok (.iadd, 1) := by decide +kernel
theorem dX2_put_70 : decode cX2_put 70 = .ok (.iload_n 2, 1) := by decide +kernel
theorem dX2_put_71 : decode cX2_put 71 = .ok (.iastore, 1) := by decide +kernel
theorem dX2_put_72 : decode cX2_put 72 = .ok (.aload_n 0, 1) := by decide +kernel
theorem dX2_put_73 : decode cX2_put 73 = .ok (.getfield 11, 3) := by decide +kernel
theorem dX2_put_76 : decode cX2_put 76 = .ok (.iload 6, 2) := by decide +kernel
theorem dX2_put_78 : decode cX2_put 78 = .ok (.iconst 2, 1) := by decide +kernel
theorem dX2_put_79 : decode cX2_put 79 = .ok (.iadd, 1) := by decide +kernel
theorem dX2_put_80 : decode cX2_put 80 = .ok (.iload_n 3, 1) := by decide +kernel
theorem dX2_put_81 : decode cX2_put 81 = .ok (.iastore, 1) := by decide +kernel
theorem dX2_put_82 : decode cX2_put 82 = .ok (.aload_n 0, 1) := by decide +kernel
theorem dX2_put_83 : decode cX2_put 83 = .ok (.getfield 11, 3) := by decide +kernel
theorem dX2_put_86 : decode cX2_put 86 = .ok (.iload 6, 2) := by decide +kernel
theorem dX2_put_88 : decode cX2_put 88 = .ok (.iconst 3, 1) := by decide +kernel
theorem dX2_put_89 : decode cX2_put 89 = .ok (.iadd, 1) := by decide +kernel
theorem dX2_put_90 : decode cX2_put 90 = .ok (.iload 4, 2) := by decide +kernel
theorem dX2_put_92 : decode cX2_put 92 = .ok (.iastore, 1) := by decide +kernel
theorem dX2_put_93 : decode cX2_put 93 = .ok (.aload_n 0, 1) := by decide +kernel
theorem dX2_put_94 : decode cX2_put 94 = .ok (.getfield 11, 3) := by decide +kernel
theorem dX2_put_97 : decode cX2_put 97 = .ok (.iload 6, 2) := by decide +kernel
theorem dX2_put_99 : decode cX2_put 99 = .ok (.iconst 4, 1) := by decide +kernel
theorem dX2_put_100 : decode cX2_put 100 = .ok (.iadd, 1) := by decide +kernel
theorem dX2_put_101 : decode cX2_put 101 = .ok (.iconst 0, 1) := by decide +kernel
theorem dX2_put_102 : decode cX2_put 102 = .ok (.iastore, 1) := by decide +kernel
theorem dX2_put_103 : decode cX2_put 103 = .ok (.aload_n 0, 1) := by decide +kernel
theorem dX2_put_104 : decode cX2_put 104 = .ok (.getfield 11, 3) := by decide +kernel
theorem dX2_put_107 : decode cX2_put 107 = .ok (.iload 6, 2) := by decide +kernel
theorem dX2_put_109 : decode cX2_put 109 = .ok (.iconst 5, 1) := by decide +kernel
theorem dX2_put_110 : decode cX2_put 110 = .ok (.iadd, 1) := by decide +kernel
theorem dX2_put_111 : decode cX2_put 111 = .ok (.iconst 0, 1) := by decide +kernel
theorem dX2_put_112 : decode cX2_put 112 = .ok (.iastore, 1) := by decide +kernel
theorem dX2_put_113 : decode cX2_put 113 = .ok (.aload_n 0, 1) := by decide +kernel
theorem dX2_put_114 : decode cX2_put 114 = .ok (.getfield 11, 3) := by decide +kernel
theorem dX2_put_117 : decode cX2_put 117 = .ok (.iload 6, 2) := by decide +kernel
theorem dX2_put_119 : decode cX2_put 119 = .ok (.bipush 6, 2) := by decide +kernel
theorem dX2_put_121 : decode cX2_put 121 = .ok (.iadd, 1) := by decide +kernel
theorem dX2_put_122 : decode cX2_put 122 = .ok (.iconst 0, 1) := by decide +kernel
theorem dX2_put_123 : decode cX2_put 123 = .ok (.iastore, 1) := by decide +kernel
theorem dX2_put_124 : decode cX2_put 124 = .ok (.aload_n 0, 1) := by decide +kernel
theorem dX2_put_125 : decode cX2_put 125 = .ok (.getfield 11, 3) := by decide +kernel
theorem dX2_put_128 : decode cX2_put 128 = .ok (.iload 6, 2) := by decide +kernel
theorem dX2_put_130 : decode cX2_put 130 = .ok (.bipush 7, 2) := by decide +kernel
theorem dX2_put_132 : decode cX2_put 132 = .ok (.iadd, 1) := by decide +kernel
theorem dX2_put_133 : decode cX2_put 133 = .ok (.iload 5, 2) := by decide +kernel
theorem dX2_put_135 : decode cX2_put 135 = .ok (.iastore, 1) := by decide +kernel
theorem dX2_put_136 : decode cX2_put 136 = .ok (.aload_n 0, 1) := by decide +kernel
theorem dX2_put_137 : decode cX2_put 137 = .ok (.dup, 1) := by decide +kernel
theorem dX2_put_138 : decode cX2_put 138 = .ok (.getfield 15, 3) := by decide +kernel
theorem dX2_put_141 : decode cX2_put 141 = .ok (.iconst 1, 1) := by decide +kernel
theorem dX2_put_142 : decode cX2_put 142 = .ok (.iadd, 1) := by decide +kernel
theorem dX2_put_143 : decode cX2_put 143 = .ok (.putfield 15, 3) := by decide +kernel
theorem dX2_put_146 : decode cX2_put 146 = .ok (.aload_n 0, 1) := by decide +kernel
theorem dX2_put_147 : decode cX2_put 147 = .ok (.getfield 15, 3) := by decide +kernel
theorem dX2_put_150 : decode cX2_put 150 = .ok (.iconst 1, 1) := by decide +kernel
theorem dX2_put_151 : decode cX2_put 151 = .ok (.isub, 1) := by decide +kernel
theorem dX2_put_152 : decode cX2_put 152 = .ok (.ireturn, 1) := by decide +kernel
theorem dX2_fill_0 : decode cX2_fill 0 = .ok (.aload_n 0, 1) := by decide +kernel
theorem dX2_fill_1 : decode cX2_fill 1 = .ok (.getfield 11, 3) := by decide +kernel
theorem dX2_fill_4 : decode cX2_fill 4 = .ok (.iload_n 1, 1) := by decide +kernel
theorem dX2_fill_5 : decode cX2_fill 5 = .ok (.bipush 8, 2) := by decide +kernel
theorem dX2_fill_7 : decode cX2_fill 7 = .ok (.imul, 1) := by decide +kernel
theorem dX2_fill_8 : decode cX2_fill 8 = .ok (.iconst 4, 1) := by decide +kernel
theorem dX2_fill_9 : decode cX2_fill 9 = .ok (.iadd, 1) := by decide +kernel
theorem dX2_fill_10 : decode cX2_fill 10 = .ok (.iload_n 2, 1) := by decide +kernel
theorem dX2_fill_11 : decode cX2_fill 11 = .ok (.iastore, 1) := by decide +kernel
theorem dX2_fill_12 : decode cX2_fill 12 = .ok (.aload_n 0, 1) := by decide +kernel
theorem dX2_fill_13 : decode cX2_fill 13 = .ok (.getfield 11, 3) := by decide +kernel
theorem dX2_fill_16 : decode cX2_fill 16 = .ok (.iload_n 1, 1) := by decide +kernel
theorem dX2_fill_17 : decode cX2_fill 17 = .ok (.bipush 8, 2) := by decide +kernel
theorem dX2_fill_19 : decode cX2_fill 19 = .ok (.imul, 1) := by decide +kernel
theorem dX2_fill_20 : decode cX2_fill 20 = .ok (.iconst 5, 1) := by decide +kernel
theorem dX2_fill_21 : decode cX2_fill 21 = .ok (.iadd, 1) := by decide +kernel
theorem dX2_fill_22 : decode cX2_fill 22 = .ok (.iload_n 3, 1) := by decide +kernel
theorem dX2_fill_23 : decode cX2_fill 23 = .ok (.iastore, 1) := by decide +kernel
theorem dX2_fill_24 : decode cX2_fill 24 = .ok (.aload_n 0, 1) := by decide +kernel
theorem dX2_fill_25 : decode cX2_fill 25 = .ok (.getfield 11, 3) := by decide +kernel
theorem dX2_fill_28 : decode cX2_fill 28 = .ok (.iload_n 1, 1) := by decide +kernel
theorem dX2_fill_29 : decode cX2_fill 29 = .ok (.bipush 8, 2) := by decide +kernel
theorem dX2_fill_31 : decode cX2_fill 31 = .ok (.imul, 1) := by decide +kernel
theorem dX2_fill_32 : decode cX2_fill 32 = .ok (.bipush 6, 2) := by decide +kernel
theorem dX2_fill_34 : decode cX2_fill 34 = .ok (.iadd, 1) := by decide +kernel
theorem dX2_fill_35 : decode cX2_fill 35 = .ok (.iload 4, 2) := by decide +kernel
theorem dX2_fill_37 : decode cX2_fill 37 = .ok (.iastore, 1) := by decide +kernel
theorem dX2_fill_38 : decode cX2_fill 38 = .ok (.return_, 1) := by decide +kernel
theorem dX2_takeOutUntil_0 : decode cX2_takeOutUntil 0 = .ok (.iconst 0, 1) := by decide +kernel
theorem dX2_takeOutUntil_1 : decode cX2_takeOutUntil 1 = .ok (.istore_n 2, 1) := by decide +kernel
theorem dX2_takeOutUntil_2 : decode cX2_takeOutUntil 2 = .ok (.iconst 0, 1) := by decide +kernel
theorem dX2_takeOutUntil_3 : decode cX2_takeOutUntil 3 = .ok (.istore_n 3, 1) := by decide +kernel
theorem dX2_takeOutUntil_4 : decode cX2_takeOutUntil 4 = .ok (.iload_n 3, 1) := by decide +kernel
theorem dX2_takeOutUntil_5 : decode cX2_takeOutUntil 5 = .ok (.aload_n 0, 1) := by decide +kernel
theorem dX2_takeOutUntil_6 : decode cX2_takeOutUntil 6 = .ok (.getfield 15, 3) := by decide +kernel
theorem dX2_takeOutUntil_9 : decode cX2_takeOutUntil 9 = .ok (.if_icmp .ge 48, 3) := by decide +kernel
theorem dX2_takeOutUntil_12 : decode cX2_takeOutUntil 12 = .ok (.aload_n 0, 1) := by decide +kernel
theorem dX2_takeOutUntil_13 : decode cX2_takeOutUntil 13 = .ok (.iload_n 3, 1) := by decide +kernel
theorem dX2_takeOutUntil_14 : decode cX2_takeOutUntil 14 = .ok (.iconst 3, 1) := by decide +kernel
theorem dX2_takeOutUntil_15 : decode cX2_takeOutUntil 15 = .ok (.invokevirtual 25, 3) := by decide +kernel
theorem dX2_takeOutUntil_18 : decode cX2_takeOutUntil 18 = .ok (.iload_n 1, 1) := by decide +kernel
theorem dX2_takeOutUntil_19 : decode cX2_takeOutUntil 19 = .ok (.if_icmp .le 32, 3) := by decide +kernel
theorem dX2_takeOutUntil_22 : decode cX2_takeOutUntil 22 = .ok (.iload_n 2, 1) := by decide +kernel
theorem dX2_takeOutUntil_23 : decode cX2_takeOutUntil 23 = .ok (.iload_n 3, 1) := by decide +kernel
theorem dX2_takeOutUntil_24 : decode cX2_takeOutUntil 24 = .ok (.if_icmp .ge 24, 3) := by decide +kernel
theorem dX2_takeOutUntil_27 : decode cX2_takeOutUntil 27 = .ok (.aload_n 0, 1) := by decide +kernel
theorem dX2_takeOutUntil_28 : decode cX2_takeOutUntil 28 = .ok (.getfield 11, 3) := by decide +kernel
theorem dX2_takeOutUntil_31 : decode cX2_takeOutUntil 31 = .ok (.iload_n 3, 1) := by decide +kernel
theorem dX2_takeOutUntil_32 : decode cX2_takeOutUntil 32 = .ok (.bipush 8, 2) := by decide +kernel
theorem dX2_takeOutUntil_34 : decode cX2_takeOutUntil 34 = .ok (.imul, 1) := by decide +kernel
theorem dX2_takeOutUntil_35 : decode cX2_takeOutUntil 35 = .ok (.aload_n 0, 1) := by decide +kernel
theorem dX2_takeOutUntil_36 : decode cX2_takeOutUntil 36 = .ok (.getfield 11, 3) := by decide +kernel
theorem dX2_takeOutUntil_39 : decode cX2_takeOutUntil 39 = .ok (.iload_n 2, 1) := by decide +kernel
theorem dX2_takeOutUntil_40 : decode cX2_takeOutUntil 40 = .ok (.bipush 8, 2) := by decide +kernel
theorem dX2_takeOutUntil_42 : decode cX2_takeOutUntil 42 = .ok (.imul, 1) := by decide +kernel
theorem dX2_takeOutUntil_43 : decode cX2_takeOutUntil 43 = .ok (.bipush 8, 2) := by decide +kernel
theorem dX2_takeOutUntil_45 : decode cX2_takeOutUntil 45 = .ok (.invokestatic 29, 3) := by decide +kernel
theorem dX2_takeOutUntil_48 : decode cX2_takeOutUntil 48 = .ok (.iinc 2 1, 3) := by decide +kernel
theorem dX2_takeOutUntil_51 : decode cX2_takeOutUntil 51 = .ok (.iinc 3 1, 3) := by decide +kernel
theorem dX2_takeOutUntil_54 : decode cX2_takeOutUntil 54 = .ok (.goto (-50), 3) := by decide +kernel
theorem dX2_takeOutUntil_57 : decode cX2_takeOutUntil 57 = .ok (.aload_n 0, 1) := by decide +kernel
theorem dX2_takeOutUntil_58 : decode cX2_takeOutUntil 58 = .ok (.iload_n 2, 1) := by decide +kernel
theorem dX2_takeOutUntil_59 : decode cX2_takeOutUntil 59 = .ok (.putfield 15, 3) := by decide +kernel
theorem dX2_takeOutUntil_62 : decode cX2_takeOutUntil 62 = .ok (.return_, 1) := by decide +kernel
theorem dX2_works_0 : decode cX2_works 0 = .ok (.iconst 0, 1) := by decide +kernel
theorem dX2_works_1 : decode cX2_works 1 = .ok (.istore_n 1, 1) := by decide +kernel
theorem dX2_works_2 : decode cX2_works 2 = .ok (.iconst 0, 1) := by decide +kernel
theorem dX2_works_3 : decode cX2_works 3 = .ok (.istore_n 2, 1) := by decide +kernel
theorem dX2_works_4 : decode cX2_works 4 = .ok (.iload_n 2, 1) := by decide +kernel
theorem dX2_works_5 : decode cX2_works 5 = .ok (.aload_n 0, 1) := by decide +kernel
theorem dX2_works_6 : decode cX2_works 6 = .ok (.getfield 15, 3) := by decide +kernel
theorem dX2_works_9 : decode cX2_works 9 = .ok (.if_icmp .ge 21, 3) := by decide +kernel
theorem dX2_works_12 : decode cX2_works 12 = .ok (.aload_n 0, 1) := by decide +kernel
theorem dX2_works_13 : decode cX2_works 13 = .ok (.iload_n 2, 1) := by decide +kernel
theorem dX2_works_14 : decode cX2_works 14 = .ok (.iconst 0, 1) := by decide +kernel
theorem dX2_works_15 : decode cX2_works 15 = .ok (.invokevirtual 25, 3) := by decide +kernel
theorem dX2_works_18 : decode cX2_works 18 = .ok (.ifCond .ne 6, 3) := by decide +kernel
theorem dX2_works_21 : decode cX2_works 21 = .ok (.iinc 1 1, 3) := by decide +kernel
theorem dX2_works_24 : decode cX2_works 24 = .ok (.iinc 2 1, 3) := by decide +kernel
theorem dX2_works_27 : decode cX2_works 27 = .ok (.goto (-23), 3) := by decide +kernel
theorem dX2_works_30 : decode cX2_works 30 = .ok (.iload_n 1, 1) := by decide +kernel
theorem dX2_works_31 : decode cX2_works 31 = .ok (.ireturn, 1) := by decide +kernel
theorem dX2_signals_0 : decode cX2_signals 0 = .ok (.aload_n 0, 1) := by decide +kernel
theorem dX2_signals_1 : decode cX2_signals 1 = .ok (.getfield 15, 3) := by decide +kernel
theorem dX2_signals_4 : decode cX2_signals 4 = .ok (.aload_n 0, 1) := by decide +kernel
theorem dX2_signals_5 : decode cX2_signals 5 = .ok (.invokevirtual 35, 3) := by decide +kernel
theorem dX2_signals_8 : decode cX2_signals 8 = .ok (.isub, 1) := by decide +kernel
theorem dX2_signals_9 : decode cX2_signals 9 = .ok (.ireturn, 1) := by decide +kernel
theorem dX2_weightTogether_0 : decode cX2_weightTogether 0 = .ok (.iconst 0, 1) := by decide +kernel
theorem dX2_weightTogether_1 : decode cX2_weightTogether 1 = .ok (.istore_n 1, 1) := by decide +kernel
theorem dX2_weightTogether_2 : decode cX2_weightTogether 2 = .ok (.iconst 0, 1) := by decide +kernel
theorem dX2_weightTogether_3 : decode cX2_weightTogether 3 = .ok (.istore_n 2, 1) := by decide +kernel
theorem dX2_weightTogether_4 : decode cX2_weightTogether 4 = .ok (.iload_n 2, 1) := by decide +kernel
theorem dX2_weightTogether_5 : decode cX2_weightTogether 5 = .ok (.aload_n 0, 1) := by decide +kernel
theorem dX2_weightTogether_6 : decode cX2_weightTogether 6 = .ok (.getfield 15, 3) := by decide +kernel
theorem dX2_weightTogether_9 : decode cX2_weightTogether 9 = .ok (.if_icmp .ge 18, 3) := by decide +kernel
theorem dX2_weightTogether_12 : decode cX2_weightTogether 12 = .ok (.iload_n 1, 1) := by decide +kernel
theorem dX2_weightTogether_13 : decode cX2_weightTogether 13 = .ok (.aload_n 0, 1) := by decide +kernel
theorem dX2_weightTogether_14 : decode cX2_weightTogether 14 = .ok (.iload_n 2, 1) := by decide +kernel
theorem dX2_weightTogether_15 : decode cX2_weightTogether 15 = .ok (.iconst 5, 1) := by decide +kernel
theorem dX2_weightTogether_16 : decode cX2_weightTogether 16 = .ok (.invokevirtual 25, 3) := by decide +kernel
theorem dX2_weightTogether_19 : decode cX2_weightTogether 19 = .ok (.iadd, 1) := by decide +kernel
theorem dX2_weightTogether_20 : decode cX2_weightTogether 20 = .ok (.istore_n 1, 1) := by decide +kernel
theorem dX2_weightTogether_21 : decode cX2_weightTogether 21 = .ok (.iinc 2 1, 3) := by decide +kernel
theorem dX2_weightTogether_24 : decode cX2_weightTogether 24 = .ok (.goto (-20), 3) := by decide +kernel
theorem dX2_weightTogether_27 : decode cX2_weightTogether 27 = .ok (.iload_n 1, 1) := by decide +kernel
theorem dX2_weightTogether_28 : decode cX2_weightTogether 28 = .ok (.ireturn, 1) := by decide +kernel
theorem dX2_clearRed_0 : decode cX2_clearRed 0 = .ok (.iconst 0, 1) := by decide +kernel
theorem dX2_clearRed_1 : decode cX2_clearRed 1 = .ok (.istore_n 1, 1) := by decide +kernel
theorem dX2_clearRed_2 : decode cX2_clearRed 2 = .ok (.iload_n 1, 1) := by decide +kernel
theorem dX2_clearRed_3 : decode cX2_clearRed 3 = .ok (.aload_n 0, 1) := by decide +kernel
theorem dX2_clearRed_4 : decode cX2_clearRed 4 = .ok (.getfield 15, 3) := by decide +kernel
theorem dX2_clearRed_7 : decode cX2_clearRed 7 = .ok (.if_icmp .ge 22, 3) := by decide +kernel
theorem dX2_clearRed_10 : decode cX2_clearRed 10 = .ok (.aload_n 0, 1) := by decide +kernel
theorem dX2_clearRed_11 : decode cX2_clearRed 11 = .ok (.getfield 11, 3) := by decide +kernel
theorem dX2_clearRed_14 : decode cX2_clearRed 14 = .ok (.iload_n 1, 1) := by decide +kernel
theorem dX2_clearRed_15 : decode cX2_clearRed 15 = .ok (.bipush 8, 2) := by decide +kernel
theorem dX2_clearRed_17 : decode cX2_clearRed 17 = .ok (.imul, 1) := by decide +kernel
theorem dX2_clearRed_18 : decode cX2_clearRed 18 = .ok (.bipush 7, 2) := by decide +kernel
theorem dX2_clearRed_20 : decode cX2_clearRed 20 = .ok (.iadd, 1) := by decide +kernel
theorem dX2_clearRed_21 : decode cX2_clearRed 21 = .ok (.iconst 0, 1) := by decide +kernel
theorem dX2_clearRed_22 : decode cX2_clearRed 22 = .ok (.iastore, 1) := by decide +kernel
theorem dX2_clearRed_23 : decode cX2_clearRed 23 = .ok (.iinc 1 1, 3) := by decide +kernel
theorem dX2_clearRed_26 : decode cX2_clearRed 26 = .ok (.goto (-24), 3) := by decide +kernel
theorem dX2_clearRed_29 : decode cX2_clearRed 29 = .ok (.return_, 1) := by decide +kernel
theorem dX2_copyFrom_0 : decode cX2_copyFrom 0 = .ok (.aload_n 0, 1) := by decide +kernel
theorem dX2_copyFrom_1 : decode cX2_copyFrom 1 = .ok (.getfield 11, 3) := by decide +kernel
theorem dX2_copyFrom_4 : decode cX2_copyFrom 4 = .ok (.arraylength, 1) := by decide +kernel
theorem dX2_copyFrom_5 : decode cX2_copyFrom 5 = .ok (.aload_n 1, 1) := by decide +kernel
theorem dX2_copyFrom_6 : decode cX2_copyFrom 6 = .ok (.getfield 11, 3) := by decide +kernel
theorem dX2_copyFrom_9 : decode cX2_copyFrom 9 = .ok (.arraylength, 1) := by decide +kernel
theorem dX2_copyFrom_10 : decode cX2_copyFrom 10 = .ok (.if_icmp .ge 14, 3) := by decide +kernel
theorem dX2_copyFrom_13 : decode cX2_copyFrom 13 = .ok (.aload_n 0, 1) := by decide +kernel
theorem dX2_copyFrom_14 : decode cX2_copyFrom 14 = .ok (.aload_n 1, 1) := by decide +kernel
theorem dX2_copyFrom_15 : decode cX2_copyFrom 15 = .ok (.getfield 11, 3) := by decide +kernel
theorem dX2_copyFrom_18 : decode cX2_copyFrom 18 = .ok (.arraylength, 1) := by decide +kernel
theorem dX2_copyFrom_19 : decode cX2_copyFrom 19 = .ok (.newarray .int, 2) := by decide +kernel
theorem dX2_copyFrom_21 : decode cX2_copyFrom 21 = .ok (.putfield 11, 3) := by decide +kernel
theorem dX2_copyFrom_24 : decode cX2_copyFrom 24 = .ok (.aload_n 1, 1) := by decide +kernel
theorem dX2_copyFrom_25 : decode cX2_copyFrom 25 = .ok (.getfield 11, 3) := by decide +kernel
theorem dX2_copyFrom_28 : decode cX2_copyFrom 28 = .ok (.iconst 0, 1) := by decide +kernel
theorem dX2_copyFrom_29 : decode cX2_copyFrom 29 = .ok (.aload_n 0, 1) := by decide +kernel
theorem dX2_copyFrom_30 : decode cX2_copyFrom 30 = .ok (.getfield 11, 3) := by decide +kernel
theorem dX2_copyFrom_33 : decode cX2_copyFrom 33 = .ok (.iconst 0, 1) := by decide +kernel
theorem dX2_copyFrom_34 : decode cX2_copyFrom 34 = .ok (.aload_n 1, 1) := by decide +kernel
theorem dX2_copyFrom_35 : decode cX2_copyFrom 35 = .ok (.getfield 15, 3) := by decide +kernel
theorem dX2_copyFrom_38 : decode cX2_copyFrom 38 = .ok (.bipush 8, 2) := by decide +kernel
theorem dX2_copyFrom_40 : decode cX2_copyFrom 40 = .ok (.imul, 1) := by decide +kernel
theorem dX2_copyFrom_41 : decode cX2_copyFrom 41 = .ok (.invokestatic 29, 3) := by decide +kernel
theorem dX2_copyFrom_44 : decode cX2_copyFrom 44 = .ok (.aload_n 0, 1) := by decide +kernel
theorem dX2_copyFrom_45 : decode cX2_copyFrom 45 = .ok (.aload_n 1, 1) := by decide +kernel
theorem dX2_copyFrom_46 : decode cX2_copyFrom 46 = .ok (.getfield 15, 3) := by decide +kernel
theorem dX2_copyFrom_49 : decode cX2_copyFrom 49 = .ok (.putfield 15, 3) := by decide +kernel
theorem dX2_copyFrom_52 : decode cX2_copyFrom 52 = .ok (.return_, 1) := by decide +kernel
theorem dX3_init_0 : decode cX3_init 0 = .ok (.aload_n 0, 1) := by decide +kernel
theorem dX3_init_1 : decode cX3_init 1 = .ok (.invokespecial 3, 3) := by decide +kernel
theorem dX3_init_4 : decode cX3_init 4 = .ok (.aload_n 0, 1) := by decide +kernel
theorem dX3_init_5 : decode cX3_init 5 = .ok (.iconst (-1), 1) := by decide +kernel
theorem dX3_init_6 : decode cX3_init 6 = .ok (.putfield 9, 3) := by decide +kernel
theorem dX3_init_9 : decode cX3_init 9 = .ok (.aload_n 0, 1) := by decide +kernel
theorem dX3_init_10 : decode cX3_init 10 = .ok (.iconst (-1), 1) := by decide +kernel
theorem dX3_init_11 : decode cX3_init 11 = .ok (.putfield 15, 3) := by decide +kernel
theorem dX3_init_14 : decode cX3_init 14 = .ok (.return_, 1) := by decide +kernel
theorem dX3_turnRed_0 : decode cX3_turnRed 0 = .ok (.aload_n 0, 1) := by decide +kernel
theorem dX3_turnRed_1 : decode cX3_turnRed 1 = .ok (.iconst 1, 1) := by decide +kernel
theorem dX3_turnRed_2 : decode cX3_turnRed 2 = .ok (.putfield 18, 3) := by decide +kernel
theorem dX3_turnRed_5 : decode cX3_turnRed 5 = .ok (.aload_n 0, 1) := by decide +kernel
theorem dX3_turnRed_6 : decode cX3_turnRed 6 = .ok (.aload_n 0, 1) := by decide +kernel
theorem dX3_turnRed_7 : decode cX3_turnRed 7 = .ok (.getfield 22, 3) := by decide +kernel
theorem dX3_turnRed_10 : decode cX3_turnRed 10 = .ok (.putfield 25, 3) := by decide +kernel
theorem dX3_turnRed_13 : decode cX3_turnRed 13 = .ok (.aload_n 0, 1) := by decide +kernel
theorem dX3_turnRed_14 : decode cX3_turnRed 14 = .ok (.aload_n 0, 1) := by decide +kernel
theorem dX3_turnRed_15 : decode cX3_turnRed 15 = .ok (.getfield 28, 3) := by decide +kernel
theorem dX3_turnRed_18 : decode cX3_turnRed 18 = .ok (.putfield 31, 3) := by decide +kernel
theorem dX3_turnRed_21 : decode cX3_turnRed 21 = .ok (.aload_n 0, 1) := by decide +kernel
theorem dX3_turnRed_22 : decode cX3_turnRed 22 = .ok (.aload_n 0, 1) := by decide +kernel
theorem dX3_turnRed_23 : decode cX3_turnRed 23 = .ok (.getfield 34, 3) := by decide +kernel
theorem dX3_turnRed_26 : decode cX3_turnRed 26 = .ok (.putfield 37, 3) := by decide +kernel
theorem dX3_turnRed_29 : decode cX3_turnRed 29 = .ok (.return_, 1) := by decide +kernel
theorem dX3_recordOf_0 : decode cX3_recordOf 0 = .ok (.iload_n 1, 1) := by decide +kernel
theorem dX3_recordOf_1 : decode cX3_recordOf 1 = .ok (.lookupswitch 37 #[(0, 27), (1, 32)], 27) := by decide +kernel
theorem dX3_recordOf_28 : decode cX3_recordOf 28 = .ok (.aload_n 0, 1) := by decide +kernel
theorem dX3_recordOf_29 : decode cX3_recordOf 29 = .ok (.getfield 25, 3) := by decide +kernel
theorem dX3_recordOf_32 : decode cX3_recordOf 32 = .ok (.ireturn, 1) := by decide +kernel
theorem dX3_recordOf_33 : decode cX3_recordOf 33 = .ok (.aload_n 0, 1) := by decide +kernel
theorem dX3_recordOf_34 : decode cX3_recordOf 34 = .ok (.getfield 31, 3) := by decide +kernel
theorem dX3_recordOf_37 : decode cX3_recordOf 37 = .ok (.ireturn, 1) := by decide +kernel
theorem dX3_recordOf_38 : decode cX3_recordOf 38 = .ok (.aload_n 0, 1) := by decide +kernel
theorem dX3_recordOf_39 : decode cX3_recordOf 39 = .ok (.getfield 37, 3) := by decide +kernel
theorem dX3_recordOf_42 : decode cX3_recordOf 42 = .ok (.ireturn, 1) := by decide +kernel
theorem dX3_clearRed_0 : decode cX3_clearRed 0 = .ok (.aload_n 0, 1) := by decide +kernel
theorem dX3_clearRed_1 : decode cX3_clearRed 1 = .ok (.iconst 0, 1) := by decide +kernel
theorem dX3_clearRed_2 : decode cX3_clearRed 2 = .ok (.putfield 18, 3) := by decide +kernel
theorem dX3_clearRed_5 : decode cX3_clearRed 5 = .ok (.aload_n 0, 1) := by decide +kernel
theorem dX3_clearRed_6 : decode cX3_clearRed 6 = .ok (.iconst 0, 1) := by decide +kernel
theorem dX3_clearRed_7 : decode cX3_clearRed 7 = .ok (.putfield 25, 3) := by decide +kernel
theorem dX3_clearRed_10 : decode cX3_clearRed 10 = .ok (.aload_n 0, 1) := by decide +kernel
theorem dX3_clearRed_11 : decode cX3_clearRed 11 = .ok (.iconst 0, 1) := by decide +kernel
theorem dX3_clearRed_12 : decode cX3_clearRed 12 = .ok (.putfield 31, 3) := by decide +kernel
theorem dX3_clearRed_15 : decode cX3_clearRed 15 = .ok (.aload_n 0, 1) := by decide +kernel
theorem dX3_clearRed_16 : decode cX3_clearRed 16 = .ok (.iconst 0, 1) := by decide +kernel
theorem dX3_clearRed_17 : decode cX3_clearRed 17 = .ok (.putfield 37, 3) := by decide +kernel
theorem dX3_clearRed_20 : decode cX3_clearRed 20 = .ok (.return_, 1) := by decide +kernel
theorem dX3_clear_0 : decode cX3_clear 0 = .ok (.aload_n 0, 1) := by decide +kernel
theorem dX3_clear_1 : decode cX3_clear 1 = .ok (.iconst 0, 1) := by decide +kernel
theorem dX3_clear_2 : decode cX3_clear 2 = .ok (.putfield 22, 3) := by decide +kernel
theorem dX3_clear_5 : decode cX3_clear 5 = .ok (.aload_n 0, 1) := by decide +kernel
theorem dX3_clear_6 : decode cX3_clear 6 = .ok (.iconst 0, 1) := by decide +kernel
theorem dX3_clear_7 : decode cX3_clear 7 = .ok (.putfield 40, 3) := by decide +kernel
theorem dX3_clear_10 : decode cX3_clear 10 = .ok (.aload_n 0, 1) := by decide +kernel
theorem dX3_clear_11 : decode cX3_clear 11 = .ok (.iconst 0, 1) := by decide +kernel
theorem dX3_clear_12 : decode cX3_clear 12 = .ok (.putfield 28, 3) := by decide +kernel
theorem dX3_clear_15 : decode cX3_clear 15 = .ok (.aload_n 0, 1) := by decide +kernel
theorem dX3_clear_16 : decode cX3_clear 16 = .ok (.iconst 0, 1) := by decide +kernel
theorem dX3_clear_17 : decode cX3_clear 17 = .ok (.putfield 34, 3) := by decide +kernel
theorem dX3_clear_20 : decode cX3_clear 20 = .ok (.aload_n 0, 1) := by decide +kernel
theorem dX3_clear_21 : decode cX3_clear 21 = .ok (.iconst (-1), 1) := by decide +kernel
theorem dX3_clear_22 : decode cX3_clear 22 = .ok (.putfield 9, 3) := by decide +kernel
theorem dX3_clear_25 : decode cX3_clear 25 = .ok (.aload_n 0, 1) := by decide +kernel
theorem dX3_clear_26 : decode cX3_clear 26 = .ok (.iconst 0, 1) := by decide +kernel
theorem dX3_clear_27 : decode cX3_clear 27 = .ok (.putfield 43, 3) := by decide +kernel
theorem dX3_clear_30 : decode cX3_clear 30 = .ok (.aload_n 0, 1) := by decide +kernel
theorem dX3_clear_31 : decode cX3_clear 31 = .ok (.iconst 0, 1) := by decide +kernel
theorem dX3_clear_32 : decode cX3_clear 32 = .ok (.putfield 46, 3) := by decide +kernel
theorem dX3_clear_35 : decode cX3_clear 35 = .ok (.aload_n 0, 1) := by decide +kernel
theorem dX3_clear_36 : decode cX3_clear 36 = .ok (.iconst 0, 1) := by decide +kernel
theorem dX3_clear_37 : decode cX3_clear 37 = .ok (.putfield 49, 3) := by decide +kernel
theorem dX3_clear_40 : decode cX3_clear 40 = .ok (.aload_n 0, 1) := by decide +kernel
theorem dX3_clear_41 : decode cX3_clear 41 = .ok (.iconst 0, 1) := by decide +kernel
theorem dX3_clear_42 : decode cX3_clear 42 = .ok (.putfield 52, 3) := by decide +kernel
theorem dX3_clear_45 : decode cX3_clear 45 = .ok (.aload_n 0, 1) := by decide +kernel
theorem dX3_clear_46 : decode cX3_clear 46 = .ok (.iconst 0, 1) := by decide +kernel
theorem dX3_clear_47 : decode cX3_clear 47 = .ok (.putfield 55, 3) := by decide +kernel
theorem dX3_clear_50 : decode cX3_clear 50 = .ok (.aload_n 0, 1) := by decide +kernel
theorem dX3_clear_51 : decode cX3_clear 51 = .ok (.iconst 0, 1) := by decide +kernel
theorem dX3_clear_52 : decode cX3_clear 52 = .ok (.putfield 58, 3) := by decide +kernel
theorem dX3_clear_55 : decode cX3_clear 55 = .ok (.aload_n 0, 1) := by decide +kernel
theorem dX3_clear_56 : decode cX3_clear 56 = .ok (.iconst (-1), 1) := by decide +kernel
theorem dX3_clear_57 : decode cX3_clear 57 = .ok (.putfield 15, 3) := by decide +kernel
theorem dX3_clear_60 : decode cX3_clear 60 = .ok (.aload_n 0, 1) := by decide +kernel
theorem dX3_clear_61 : decode cX3_clear 61 = .ok (.iconst 0, 1) := by decide +kernel
theorem dX3_clear_62 : decode cX3_clear 62 = .ok (.putfield 61, 3) := by decide +kernel
theorem dX3_clear_65 : decode cX3_clear 65 = .ok (.aload_n 0, 1) := by decide +kernel
theorem dX3_clear_66 : decode cX3_clear 66 = .ok (.invokevirtual 64, 3) := by decide +kernel
theorem dX3_clear_69 : decode cX3_clear 69 = .ok (.return_, 1) := by decide +kernel
theorem dX3_copyFrom_0 : decode cX3_copyFrom 0 = .ok (.aload_n 0, 1) := by decide +kernel
theorem dX3_copyFrom_1 : decode cX3_copyFrom 1 = .ok (.aload_n 1, 1) := by decide +kernel
theorem dX3_copyFrom_2 : decode cX3_copyFrom 2 = .ok (.getfield 22, 3) := by decide +kernel
theorem dX3_copyFrom_5 : decode cX3_copyFrom 5 = .ok (.putfield 22, 3) := by decide +kernel
theorem dX3_copyFrom_8 : decode cX3_copyFrom 8 = .ok (.aload_n 0, 1) := by decide +kernel
theorem dX3_copyFrom_9 : decode cX3_copyFrom 9 = .ok (.aload_n 1, 1) := by decide +kernel
theorem dX3_copyFrom_10 : decode cX3_copyFrom 10 = .ok (.getfield 40, 3) := by decide +kernel
theorem dX3_copyFrom_13 : decode cX3_copyFrom 13 = .ok (.putfield 40, 3) := by decide +kernel
theorem dX3_copyFrom_16 : decode cX3_copyFrom 16 = .ok (.aload_n 0, 1) := by decide +kernel
theorem dX3_copyFrom_17 : decode cX3_copyFrom 17 = .ok (.aload_n 1, 1) := by decide +kernel
theorem dX3_copyFrom_18 : decode cX3_copyFrom 18 = .ok (.getfield 28, 3) := by decide +kernel
theorem dX3_copyFrom_21 : decode cX3_copyFrom 21 = .ok (.putfield 28, 3) := by decide +kernel
theorem dX3_copyFrom_24 : decode cX3_copyFrom 24 = .ok (.aload_n 0, 1) := by decide +kernel
theorem dX3_copyFrom_25 : decode cX3_copyFrom 25 = .ok (.aload_n 1, 1) := by decide +kernel
theorem dX3_copyFrom_26 : decode cX3_copyFrom 26 = .ok (.getfield 34, 3) := by decide +kernel
theorem dX3_copyFrom_29 : decode cX3_copyFrom 29 = .ok (.putfield 34, 3) := by decide +kernel
theorem dX3_copyFrom_32 : decode cX3_copyFrom 32 = .ok (.aload_n 0, 1) := by decide +kernel
theorem dX3_copyFrom_33 : decode cX3_copyFrom 33 = .ok (.aload_n 1, 1) := by decide +kernel
theorem dX3_copyFrom_34 : decode cX3_copyFrom 34 = .ok (.getfield 9, 3) := by decide +kernel
theorem dX3_copyFrom_37 : decode cX3_copyFrom 37 = .ok (.putfield 9, 3) := by decide +kernel
theorem dX3_copyFrom_40 : decode cX3_copyFrom 40 = .ok (.aload_n 0, 1) := by decide +kernel
theorem dX3_copyFrom_41 : decode cX3_copyFrom 41 = .ok (.aload_n 1, 1) := by decide +kernel
theorem dX3_copyFrom_42 : decode cX3_copyFrom 42 = .ok (.getfield 43, 3) := by decide +kernel
theorem dX3_copyFrom_45 : decode cX3_copyFrom 45 = .ok (.putfield 43, 3) := by decide +kernel
theorem dX3_copyFrom_48 : decode cX3_copyFrom 48 = .ok (.aload_n 0, 1) := by decide +kernel
theorem dX3_copyFrom_49 : decode cX3_copyFrom 49 = .ok (.aload_n 1, 1) := by decide +kernel
theorem dX3_copyFrom_50 : decode cX3_copyFrom 50 = .ok (.getfield 46, 3) := by decide +kernel
theorem dX3_copyFrom_53 : decode cX3_copyFrom 53 = .ok (.putfield 46, 3) := by decide +kernel
theorem dX3_copyFrom_56 : decode cX3_copyFrom 56 = .ok (.aload_n 0, 1) := by decide +kernel
theorem dX3_copyFrom_57 : decode cX3_copyFrom 57 = .ok (.aload_n 1, 1) := by decide +kernel
theorem dX3_copyFrom_58 : decode cX3_copyFrom 58 = .ok (.getfield 49, 3) := by decide +kernel
theorem dX3_copyFrom_61 : decode cX3_copyFrom 61 = .ok (.putfield 49, 3) := by decide +kernel
theorem dX3_copyFrom_64 : decode cX3_copyFrom 64 = .ok (.aload_n 0, 1) := by decide +kernel
theorem dX3_copyFrom_65 : decode cX3_copyFrom 65 = .ok (.aload_n 1, 1) := by decide +kernel
theorem dX3_copyFrom_66 : decode cX3_copyFrom 66 = .ok (.getfield 52, 3) := by decide +kernel
theorem dX3_copyFrom_69 : decode cX3_copyFrom 69 = .ok (.putfield 52, 3) := by decide +kernel
theorem dX3_copyFrom_72 : decode cX3_copyFrom 72 = .ok (.aload_n 0, 1) := by decide +kernel
theorem dX3_copyFrom_73 : decode cX3_copyFrom 73 = .ok (.aload_n 1, 1) := by decide +kernel
theorem dX3_copyFrom_74 : decode cX3_copyFrom 74 = .ok (.getfield 55, 3) := by decide +kernel
theorem dX3_copyFrom_77 : decode cX3_copyFrom 77 = .ok (.putfield 55, 3) := by decide +kernel
theorem dX3_copyFrom_80 : decode cX3_copyFrom 80 = .ok (.aload_n 0, 1) := by decide +kernel
theorem dX3_copyFrom_81 : decode cX3_copyFrom 81 = .ok (.aload_n 1, 1) := by decide +kernel
theorem dX3_copyFrom_82 : decode cX3_copyFrom 82 = .ok (.getfield 58, 3) := by decide +kernel
theorem dX3_copyFrom_85 : decode cX3_copyFrom 85 = .ok (.putfield 58, 3) := by decide +kernel
theorem dX3_copyFrom_88 : decode cX3_copyFrom 88 = .ok (.aload_n 0, 1) := by decide +kernel
theorem dX3_copyFrom_89 : decode cX3_copyFrom 89 = .ok (.aload_n 1, 1) := by decide +kernel
theorem dX3_copyFrom_90 : decode cX3_copyFrom 90 = .ok (.getfield 15, 3) := by decide +kernel
theorem dX3_copyFrom_93 : decode cX3_copyFrom 93 = .ok (.putfield 15, 3) := by decide +kernel
theorem dX3_copyFrom_96 : decode cX3_copyFrom 96 = .ok (.aload_n 0, 1) := by decide +kernel
theorem dX3_copyFrom_97 : decode cX3_copyFrom 97 = .ok (.aload_n 1, 1) := by decide +kernel
theorem dX3_copyFrom_98 : decode cX3_copyFrom 98 = .ok (.getfield 61, 3) := by decide +kernel
theorem dX3_copyFrom_101 : decode cX3_copyFrom 101 = .ok (.putfield 61, 3) := by decide +kernel
theorem dX3_copyFrom_104 : decode cX3_copyFrom 104 = .ok (.aload_n 0, 1) := by decide +kernel
theorem dX3_copyFrom_105 : decode cX3_copyFrom 105 = .ok (.aload_n 1, 1) := by decide +kernel
theorem dX3_copyFrom_106 : decode cX3_copyFrom 106 = .ok (.getfield 67, 3) := by decide +kernel
theorem dX3_copyFrom_109 : decode cX3_copyFrom 109 = .ok (.putfield 67, 3) := by decide +kernel
theorem dX3_copyFrom_112 : decode cX3_copyFrom 112 = .ok (.aload_n 0, 1) := by decide +kernel
theorem dX3_copyFrom_113 : decode cX3_copyFrom 113 = .ok (.aload_n 1, 1) := by decide +kernel
theorem dX3_copyFrom_114 : decode cX3_copyFrom 114 = .ok (.getfield 18, 3) := by decide +kernel
theorem dX3_copyFrom_117 : decode cX3_copyFrom 117 = .ok (.putfield 18, 3) := by decide +kernel
theorem dX3_copyFrom_120 : decode cX3_copyFrom 120 = .ok (.aload_n 0, 1) := by decide +kernel
theorem dX3_copyFrom_121 : decode cX3_copyFrom 121 = .ok (.aload_n 1, 1) := by decide +kernel
theorem dX3_copyFrom_122 : decode cX3_copyFrom 122 = .ok (.getfield 25, 3) := by decide +kernel
theorem dX3_copyFrom_125 : decode cX3_copyFrom 125 = .ok (.putfield 25, 3) := by decide +kernel
theorem dX3_copyFrom_128 : decode cX3_copyFrom 128 = .ok (.aload_n 0, 1) := by decide +kernel
theorem dX3_copyFrom_129 : decode cX3_copyFrom 129 = .ok (.aload_n 1, 1) := by decide +kernel
theorem dX3_copyFrom_130 : decode cX3_copyFrom 130 = .ok (.getfield 31, 3) := by decide +kernel
theorem dX3_copyFrom_133 : decode cX3_copyFrom 133 = .ok (.putfield 31, 3) := by decide +kernel
theorem dX3_copyFrom_136 : decode cX3_copyFrom 136 = .ok (.aload_n 0, 1) := by decide +kernel
theorem dX3_copyFrom_137 : decode cX3_copyFrom 137 = .ok (.aload_n 1, 1) := by decide +kernel
theorem dX3_copyFrom_138 : decode cX3_copyFrom 138 = .ok (.getfield 37, 3) := by decide +kernel
theorem dX3_copyFrom_141 : decode cX3_copyFrom 141 = .ok (.putfield 37, 3) := by decide +kernel
theorem dX3_copyFrom_144 : decode cX3_copyFrom 144 = .ok (.return_, 1) := by decide +kernel
theorem dX4_init_0 : decode cX4_init 0 = .ok (.aload_n 0, 1) := by decide +kernel
theorem dX4_init_1 : decode cX4_init 1 = .ok (.invokespecial 3, 3) := by decide +kernel
theorem dX4_init_4 : decode cX4_init 4 = .ok (.aload_n 0, 1) := by decide +kernel
theorem dX4_init_5 : decode cX4_init 5 = .ok (.sipush 160, 3) := by decide +kernel
theorem dX4_init_8 : decode cX4_init 8 = .ok (.newarray .int, 2) := by decide +kernel
theorem dX4_init_10 : decode cX4_init 10 = .ok (.putfield 11, 3) := by decide +kernel
theorem dX4_init_13 : decode cX4_init 13 = .ok (.aload_n 0, 1) := by decide +kernel
theorem dX4_init_14 : decode cX4_init 14 = .ok (.bipush 8, 2) := by decide +kernel
theorem dX4_init_16 : decode cX4_init 16 = .ok (.newarray .int, 2) := by decide +kernel
theorem dX4_init_18 : decode cX4_init 18 = .ok (.putfield 15, 3) := by decide +kernel
theorem dX4_init_21 : decode cX4_init 21 = .ok (.return_, 1) := by decide +kernel
theorem dX4_part_0 : decode cX4_part 0 = .ok (.aload_n 0, 1) := by decide +kernel
theorem dX4_part_1 : decode cX4_part 1 = .ok (.getfield 11, 3) := by decide +kernel
theorem dX4_part_4 : decode cX4_part 4 = .ok (.iload_n 1, 1) := by decide +kernel
theorem dX4_part_5 : decode cX4_part 5 = .ok (.iconst 4, 1) := by decide +kernel
theorem dX4_part_6 : decode cX4_part 6 = .ok (.imul, 1) := by decide +kernel
theorem dX4_part_7 : decode cX4_part 7 = .ok (.iload_n 2, 1) := by decide +kernel
theorem dX4_part_8 : decode cX4_part 8 = .ok (.iadd, 1) := by decide +kernel
theorem dX4_part_9 : decode cX4_part 9 = .ok (.iaload, 1) := by decide +kernel
theorem dX4_part_10 : decode cX4_part 10 = .ok (.ireturn, 1) := by decide +kernel
theorem dX4_append_0 : decode cX4_append 0 = .ok (.aload_n 0, 1) := by decide +kernel
theorem dX4_append_1 : decode cX4_append 1 = .ok (.getfield 18, 3) := by decide +kernel
theorem dX4_append_4 : decode cX4_append 4 = .ok (.bipush 40, 2) := by decide +kernel
theorem dX4_append_6 : decode cX4_append 6 = .ok (.if_icmp .lt 4, 3) := by decide +kernel
theorem dX4_append_9 : decode cX4_append 9 = .ok (.return_, 1) := by decide +kernel
theorem dX4_append_10 : decode cX4_append 10 = .ok (.aload_n 0, 1) := by decide +kernel
theorem dX4_append_11 : decode cX4_append 11 = .ok (.getfield 18, 3) := by decide +kernel
theorem dX4_append_14 : decode cX4_append 14 = .ok (.iconst 4, 1) := by decide +kernel
theorem dX4_append_15 : decode cX4_append 15 = .ok (.imul, 1) := by decide +kernel
theorem dX4_append_16 : decode cX4_append 16 = .ok (.istore 5, 2) := by decide +kernel
theorem dX4_append_18 : decode cX4_append 18 = .ok (.aload_n 0, 1) := by decide +kernel
theorem dX4_append_19 : decode cX4_append 19 = .ok (.getfield 11, 3) := by decide +kernel
theorem dX4_append_22 : decode cX4_append 22 = .ok (.iload 5, 2) := by decide +kernel
theorem dX4_append_24 : decode cX4_append 24 = .ok (.iconst 0, 1) := by decide +kernel
theorem dX4_append_25 : decode cX4_append 25 = .ok (.iadd, 1) := by decide +kernel
theorem dX4_append_26 : decode cX4_append 26 = .ok (.iload_n 1, 1) := by decide +kernel
theorem dX4_append_27 : decode cX4_append 27 = .ok (.iastore, 1) := by decide +kernel
theorem dX4_append_28 : decode cX4_append 28 = .ok (.aload_n 0, 1) := by decide +kernel
theorem dX4_append_29 : decode cX4_append 29 = .ok (.getfield 11, 3) := by decide +kernel
theorem dX4_append_32 : decode cX4_append 32 = .ok (.iload 5, 2) := by decide +kernel
theorem dX4_append_34 : decode cX4_append 34 = .ok (.iconst 1, 1) := by decide +kernel
theorem dX4_append_35 : decode cX4_append 35 = .ok (.iadd, 1) := by decide +kernel
theorem dX4_append_36 : decode cX4_append 36 = .ok (.iload_n 2, 1) := by decide +kernel
theorem dX4_append_37 : decode cX4_append 37 = .ok (.iastore, 1) := by decide +kernel
theorem dX4_append_38 : decode cX4_append 38 = .ok (.aload_n 0, 1) := by decide +kernel
theorem dX4_append_39 : decode cX4_append 39 = .ok (.getfield 11, 3) := by decide +kernel
theorem dX4_append_42 : decode cX4_append 42 = .ok (.iload 5, 2) := by decide +kernel
theorem dX4_append_44 : decode cX4_append 44 = .ok (.iconst 2, 1) := by decide +kernel
theorem dX4_append_45 : decode cX4_append 45 = .ok (.iadd, 1) := by decide +kernel
theorem dX4_append_46 : decode cX4_append 46 = .ok (.iload_n 3, 1) := by decide +kernel
theorem dX4_append_47 : decode cX4_append 47 = .ok (.iastore, 1) := by decide +kernel
theorem dX4_append_48 : decode cX4_append 48 = .ok (.aload_n 0, 1) := by decide +kernel
theorem dX4_append_49 : decode cX4_append 49 = .ok (.getfield 11, 3) := by decide +kernel
theorem dX4_append_52 : decode cX4_append 52 = .ok (.iload 5, 2) := by decide +kernel
theorem dX4_append_54 : decode cX4_append 54 = .ok (.iconst 3, 1) := by decide +kernel
theorem dX4_append_55 : decode cX4_append 55 = .ok (.iadd, 1) := by decide +kernel
theorem dX4_append_56 : decode cX4_append 56 = .ok (.iload 4, 2) := by decide +kernel
theorem dX4_append_58 : decode cX4_append 58 = .ok (.iastore, 1) := by decide +kernel
theorem dX4_append_59 : decode cX4_append 59 = .ok (.aload_n 0, 1) := by decide +kernel
theorem dX4_append_60 : decode cX4_append 60 = .ok (.dup, 1) := by decide +kernel
theorem dX4_append_61 : decode cX4_append 61 = .ok (.getfield 18, 3) := by decide +kernel
theorem dX4_append_64 : decode cX4_append 64 = .ok (.iconst 1, 1) := by decide +kernel
theorem dX4_append_65 : decode cX4_append 65 = .ok (.iadd, 1) := by decide +kernel
theorem dX4_append_66 : decode cX4_append 66 = .ok (.putfield 18, 3) := by decide +kernel
theorem dX4_append_69 : decode cX4_append 69 = .ok (.return_, 1) := by decide +kernel
theorem dX4_takeOut_0 : decode cX4_takeOut 0 = .ok (.iload_n 1, 1) := by decide +kernel
theorem dX4_takeOut_1 : decode cX4_takeOut 1 = .ok (.iconst 1, 1) := by decide +kernel
theorem dX4_takeOut_2 : decode cX4_takeOut 2 = .ok (.iadd, 1) := by decide +kernel
theorem dX4_takeOut_3 : decode cX4_takeOut 3 = .ok (.iconst 4, 1) := by decide +kernel
theorem dX4_takeOut_4 : decode cX4_takeOut 4 = .ok (.imul, 1) := by decide +kernel
theorem dX4_takeOut_5 : decode cX4_takeOut 5 = .ok (.istore_n 2, 1) := by decide +kernel
theorem dX4_takeOut_6 : decode cX4_takeOut 6 = .ok (.aload_n 0, 1) := by decide +kernel
theorem dX4_takeOut_7 : decode cX4_takeOut 7 = .ok (.getfield 11, 3) := by decide +kernel
theorem dX4_takeOut_10 : decode cX4_takeOut 10 = .ok (.iload_n 2, 1) := by decide +kernel
theorem dX4_takeOut_11 : decode cX4_takeOut 11 = .ok (.aload_n 0, 1) := by decide +kernel
theorem dX4_takeOut_12 : decode cX4_takeOut 12 = .ok (.getfield 11, 3) := by decide +kernel
theorem dX4_takeOut_15 : decode cX4_takeOut 15 = .ok (.iload_n 1, 1) := by decide +kernel
theorem dX4_takeOut_16 : decode cX4_takeOut 16 = .ok (.iconst 4, 1) := by decide +kernel
theorem dX4_takeOut_17 : decode cX4_takeOut 17 = .ok (.imul, 1) := by decide +kernel
theorem dX4_takeOut_18 : decode cX4_takeOut 18 = .ok (.aload_n 0, 1) := by decide +kernel
theorem dX4_takeOut_19 : decode cX4_takeOut 19 = .ok (.getfield 18, 3) := by decide +kernel
theorem dX4_takeOut_22 : decode cX4_takeOut 22 = .ok (.iconst 4, 1) := by decide +kernel
theorem dX4_takeOut_23 : decode cX4_takeOut 23 = .ok (.imul, 1) := by decide +kernel
theorem dX4_takeOut_24 : decode cX4_takeOut 24 = .ok (.iload_n 2, 1) := by decide +kernel
theorem dX4_takeOut_25 : decode cX4_takeOut 25 = .ok (.isub, 1) := by decide +kernel
theorem dX4_takeOut_26 : decode cX4_takeOut 26 = .ok (.invokestatic 22, 3) := by decide +kernel
theorem dX4_takeOut_29 : decode cX4_takeOut 29 = .ok (.aload_n 0, 1) := by decide +kernel
theorem dX4_takeOut_30 : decode cX4_takeOut 30 = .ok (.dup, 1) := by decide +kernel
theorem dX4_takeOut_31 : decode cX4_takeOut 31 = .ok (.getfield 18, 3) := by decide +kernel
theorem dX4_takeOut_34 : decode cX4_takeOut 34 = .ok (.iconst 1, 1) := by decide +kernel
theorem dX4_takeOut_35 : decode cX4_takeOut 35 = .ok (.isub, 1) := by decide +kernel
theorem dX4_takeOut_36 : decode cX4_takeOut 36 = .ok (.putfield 18, 3) := by decide +kernel
theorem dX4_takeOut_39 : decode cX4_takeOut 39 = .ok (.return_, 1) := by decide +kernel
theorem dX4_copyFrom_0 : decode cX4_copyFrom 0 = .ok (.aload_n 1, 1) := by decide +kernel
theorem dX4_copyFrom_1 : decode cX4_copyFrom 1 = .ok (.getfield 11, 3) := by decide +kernel
theorem dX4_copyFrom_4 : decode cX4_copyFrom 4 = .ok (.iconst 0, 1) := by decide +kernel
theorem dX4_copyFrom_5 : decode cX4_copyFrom 5 = .ok (.aload_n 0, 1) := by decide +kernel
theorem dX4_copyFrom_6 : decode cX4_copyFrom 6 = .ok (.getfield 11, 3) := by decide +kernel
theorem dX4_copyFrom_9 : decode cX4_copyFrom 9 = .ok (.iconst 0, 1) := by decide +kernel
theorem dX4_copyFrom_10 : decode cX4_copyFrom 10 = .ok (.aload_n 1, 1) := by decide +kernel
theorem dX4_copyFrom_11 : decode cX4_copyFrom 11 = .ok (.getfield 18, 3) := by decide +kernel
theorem dX4_copyFrom_14 : decode cX4_copyFrom 14 = .ok (.iconst 4, 1) := by decide +kernel
theorem dX4_copyFrom_15 : decode cX4_copyFrom 15 = .ok (.imul, 1) := by decide +kernel
theorem dX4_copyFrom_16 : decode cX4_copyFrom 16 = .ok (.invokestatic 22, 3) := by decide +kernel
theorem dX4_copyFrom_19 : decode cX4_copyFrom 19 = .ok (.aload_n 0, 1) := by decide +kernel
theorem dX4_copyFrom_20 : decode cX4_copyFrom 20 = .ok (.aload_n 1, 1) := by decide +kernel
theorem dX4_copyFrom_21 : decode cX4_copyFrom 21 = .ok (.getfield 18, 3) := by decide +kernel
theorem dX4_copyFrom_24 : decode cX4_copyFrom 24 = .ok (.putfield 18, 3) := by decide +kernel
theorem dX4_copyFrom_27 : decode cX4_copyFrom 27 = .ok (.return_, 1) := by decide +kernel
theorem dX4_leastLoad_0 : decode cX4_leastLoad 0 = .ok (.aload_n 0, 1) := by decide +kernel
theorem dX4_leastLoad_1 : decode cX4_leastLoad 1 = .ok (.sipush 200, 3) := by decide +kernel
theorem dX4_leastLoad_4 : decode cX4_leastLoad 4 = .ok (.invokevirtual 28, 3) := by decide +kernel
theorem dX4_leastLoad_7 : decode cX4_leastLoad 7 = .ok (.istore_n 1, 1) := by decide +kernel
theorem dX4_leastLoad_8 : decode cX4_leastLoad 8 = .ok (.iconst 1, 1) := by decide +kernel
theorem dX4_leastLoad_9 : decode cX4_leastLoad 9 = .ok (.istore_n 2, 1) := by decide +kernel
theorem dX4_leastLoad_10 : decode cX4_leastLoad 10 = .ok (.sipush 200, 3) := by decide +kernel
theorem dX4_leastLoad_13 : decode cX4_leastLoad 13 = .ok (.istore_n 3, 1) := by decide +kernel
theorem dX4_leastLoad_14 : decode cX4_leastLoad 14 = .ok (.iconst 0, 1) := by decide +kernel
theorem dX4_leastLoad_15 : decode cX4_leastLoad 15 = .ok (.istore 4, 2) := by decide +kernel
theorem dX4_leastLoad_17 : decode cX4_leastLoad 17 = .ok (.iload_n 2, 1) := by decide +kernel
theorem dX4_leastLoad_18 : decode cX4_leastLoad 18 = .ok (.iload_n 3, 1) := by decide +kernel
theorem dX4_leastLoad_19 : decode cX4_leastLoad 19 = .ok (.if_icmp .ge 45, 3) := by decide +kernel
theorem dX4_leastLoad_22 : decode cX4_leastLoad 22 = .ok (.iload 4, 2) := by decide +kernel
theorem dX4_leastLoad_24 : decode cX4_leastLoad 24 = .ok (.sipush 200, 3) := by decide +kernel
theorem dX4_leastLoad_27 : decode cX4_leastLoad 27 = .ok (.if_icmp .ge 37, 3) := by decide +kernel
theorem dX4_leastLoad_30 : decode cX4_leastLoad 30 = .ok (.iload_n 2, 1) := by decide +kernel
theorem dX4_leastLoad_31 : decode cX4_leastLoad 31 = .ok (.iload_n 3, 1) := by decide +kernel
theorem dX4_leastLoad_32 : decode cX4_leastLoad 32 = .ok (.iadd, 1) := by decide +kernel
theorem dX4_leastLoad_33 : decode cX4_leastLoad 33 = .ok (.iconst 2, 1) := by decide +kernel
theorem dX4_leastLoad_34 : decode cX4_leastLoad 34 = .ok (.idiv, 1) := by decide +kernel
theorem dX4_leastLoad_35 : decode cX4_leastLoad 35 = .ok (.istore 5, 2) := by decide +kernel
theorem dX4_leastLoad_37 : decode cX4_leastLoad 37 = .ok (.aload_n 0, 1) := by decide +kernel
theorem dX4_leastLoad_38 : decode cX4_leastLoad 38 = .ok (.iload 5, 2) := by decide +kernel
theorem dX4_leastLoad_40 : decode cX4_leastLoad 40 = .ok (.invokevirtual 28, 3) := by decide +kernel
theorem dX4_leastLoad_43 : decode cX4_leastLoad 43 = .ok (.iload_n 1, 1) := by decide +kernel
theorem dX4_leastLoad_44 : decode cX4_leastLoad 44 = .ok (.if_icmp .ne 9, 3) := by decide +kernel
theorem dX4_leastLoad_47 : decode cX4_leastLoad 47 = .ok (.iload 5, 2) := by decide +kernel
theorem dX4_leastLoad_49 : decode cX4_leastLoad 49 = .ok (.istore_n 3, 1) := by decide +kernel
theorem dX4_leastLoad_50 : decode cX4_leastLoad 50 = .ok (.goto 8, 3) := by decide +kernel
theorem dX4_leastLoad_53 : decode cX4_leastLoad 53 = .ok (.iload 5, 2) := by decide +kernel
theorem dX4_leastLoad_55 : decode cX4_leastLoad 55 = .ok (.iconst 1, 1) := by decide +kernel
theorem dX4_leastLoad_56 : decode cX4_leastLoad 56 = .ok (.iadd, 1) := by decide +kernel
theorem dX4_leastLoad_57 : decode cX4_leastLoad 57 = .ok (.istore_n 2, 1) := by decide +kernel
theorem dX4_leastLoad_58 : decode cX4_leastLoad 58 = .ok (.iinc 4 1, 3) := by decide +kernel
theorem dX4_leastLoad_61 : decode cX4_leastLoad 61 = .ok (.goto (-44), 3) := by decide +kernel
theorem dX4_leastLoad_64 : decode cX4_leastLoad 64 = .ok (.iload_n 2, 1) := by decide +kernel
theorem dX4_leastLoad_65 : decode cX4_leastLoad 65 = .ok (.ireturn, 1) := by decide +kernel
theorem dX4_sentWith_0 : decode cX4_sentWith 0 = .ok (.aload_n 0, 1) := by decide +kernel
theorem dX4_sentWith_1 : decode cX4_sentWith 1 = .ok (.getfield 15, 3) := by decide +kernel
theorem dX4_sentWith_4 : decode cX4_sentWith 4 = .ok (.iconst 0, 1) := by decide +kernel
theorem dX4_sentWith_5 : decode cX4_sentWith 5 = .ok (.invokestatic 32, 3) := by decide +kernel
theorem dX4_sentWith_8 : decode cX4_sentWith 8 = .ok (.aload_n 0, 1) := by decide +kernel
theorem dX4_sentWith_9 : decode cX4_sentWith 9 = .ok (.getfield 15, 3) := by decide +kernel
theorem dX4_sentWith_12 : decode cX4_sentWith 12 = .ok (.iconst 0, 1) := by decide +kernel
theorem dX4_sentWith_13 : decode cX4_sentWith 13 = .ok (.iload_n 1, 1) := by decide +kernel
theorem dX4_sentWith_14 : decode cX4_sentWith 14 = .ok (.iastore, 1) := by decide +kernel
theorem dX4_sentWith_15 : decode cX4_sentWith 15 = .ok (.lconst 0, 1) := by decide +kernel
theorem dX4_sentWith_16 : decode cX4_sentWith 16 = .ok (.lstore_n 2, 1) := by decide +kernel
theorem dX4_sentWith_17 : decode cX4_sentWith 17 = .ok (.iconst 1, 1) := by decide +kernel
theorem dX4_sentWith_18 : decode cX4_sentWith 18 = .ok (.istore 4, 2) := by decide +kernel
theorem dX4_sentWith_20 : decode cX4_sentWith 20 = .ok (.iconst 0, 1) := by decide +kernel
theorem dX4_sentWith_21 : decode cX4_sentWith 21 = .ok (.istore 5, 2) := by decide +kernel
theorem dX4_sentWith_23 : decode cX4_sentWith 23 = .ok (.iload 4, 2) := by decide +kernel
theorem dX4_sentWith_25 : decode cX4_sentWith 25 = .ok (.ifCond .eq 102, 3) := by decide +kernel
theorem dX4_sentWith_28 : decode cX4_sentWith 28 = .ok (.iload 5, 2) := by decide +kernel
theorem dX4_sentWith_30 : decode cX4_sentWith 30 = .ok (.bipush 40, 2) := by decide +kernel
theorem dX4_sentWith_32 : decode cX4_sentWith 32 = .ok (.if_icmp .gt 95, 3) := by decide +kernel
theorem dX4_sentWith_35 : decode cX4_sentWith 35 = .ok (.iconst 0, 1) := by decide +kernel
theorem dX4_sentWith_36 : decode cX4_sentWith 36 = .ok (.istore 4, 2) := by decide +kernel
theorem dX4_sentWith_38 : decode cX4_sentWith 38 = .ok (.iconst 0, 1) := by decide +kernel
theorem dX4_sentWith_39 : decode cX4_sentWith 39 = .ok (.istore 6, 2) := by decide +kernel
theorem dX4_sentWith_41 : decode cX4_sentWith 41 = .ok (.iload 6, 2) := by decide +kernel
theorem dX4_sentWith_43 : decode cX4_sentWith 43 = .ok (.aload_n 0, 1) := by decide +kernel
theorem dX4_sentWith_44 : decode cX4_sentWith 44 = .ok (.getfield 18, 3) := by decide +kernel
theorem dX4_sentWith_47 : decode cX4_sentWith 47 = .ok (.if_icmp .ge 74, 3) := by decide +kernel
theorem dX4_sentWith_50 : decode cX4_sentWith 50 = .ok (.lload_n 2, 1) := by decide +kernel
theorem dX4_sentWith_51 : decode cX4_sentWith 51 = .ok (.iload 6, 2) := by decide +kernel
theorem dX4_sentWith_53 : decode cX4_sentWith 53 = .ok (.lushr, 1) := by decide +kernel
theorem dX4_sentWith_54 : decode cX4_sentWith 54 = .ok (.lconst 1, 1) := by decide +kernel
theorem dX4_sentWith_55 : decode cX4_sentWith 55 = .ok (.land, 1) := by decide +kernel
theorem dX4_sentWith_56 : decode cX4_sentWith 56 = .ok (.lconst 0, 1) := by decide +kernel
theorem dX4_sentWith_57 : decode cX4_sentWith 57 = .ok (.lcmp, 1) := by decide +kernel
theorem dX4_sentWith_58 : decode cX4_sentWith 58 = .ok (.ifCond .ne 57, 3) := by decide +kernel
theorem dX4_sentWith_61 : decode cX4_sentWith 61 = .ok (.aload_n 0, 1) := by decide +kernel
theorem dX4_sentWith_62 : decode cX4_sentWith 62 = .ok (.getfield 15, 3) := by decide +kernel
theorem dX4_sentWith_65 : decode cX4_sentWith 65 = .ok (.aload_n 0, 1) := by decide +kernel
theorem dX4_sentWith_66 : decode cX4_sentWith 66 = .ok (.iload 6, 2) := by decide +kernel
theorem dX4_sentWith_68 : decode cX4_sentWith 68 = .ok (.iconst 0, 1) := by decide +kernel
theorem dX4_sentWith_69 : decode cX4_sentWith 69 = .ok (.invokevirtual 38, 3) := by decide +kernel
theorem dX4_sentWith_72 : decode cX4_sentWith 72 = .ok (.iaload, 1) := by decide +kernel
theorem dX4_sentWith_73 : decode cX4_sentWith 73 = .ok (.aload_n 0, 1) := by decide +kernel
theorem dX4_sentWith_74 : decode cX4_sentWith 74 = .ok (.iload 6, 2) := by decide +kernel
theorem dX4_sentWith_76 : decode cX4_sentWith 76 = .ok (.iconst 1, 1) := by decide +kernel
theorem dX4_sentWith_77 : decode cX4_sentWith 77 = .ok (.invokevirtual 38, 3) := by decide +kernel
theorem dX4_sentWith_80 : decode cX4_sentWith 80 = .ok (.if_icmp .lt 35, 3) := by decide +kernel
theorem dX4_sentWith_83 : decode cX4_sentWith 83 = .ok (.aload_n 0, 1) := by decide +kernel
theorem dX4_sentWith_84 : decode cX4_sentWith 84 = .ok (.getfield 15, 3) := by decide +kernel
theorem dX4_sentWith_87 : decode cX4_sentWith 87 = .ok (.aload_n 0, 1) := by decide +kernel
theorem dX4_sentWith_88 : decode cX4_sentWith 88 = .ok (.iload 6, 2) := by decide +kernel
theorem dX4_sentWith_90 : decode cX4_sentWith 90 = .ok (.iconst 2, 1) := by decide +kernel
theorem dX4_sentWith_91 : decode cX4_sentWith 91 = .ok (.invokevirtual 38, 3) := by decide +kernel
theorem dX4_sentWith_94 : decode cX4_sentWith 94 = .ok (.dup2, 1) := by decide +kernel
theorem dX4_sentWith_95 : decode cX4_sentWith 95 = .ok (.iaload, 1) := by decide +kernel
theorem dX4_sentWith_96 : decode cX4_sentWith 96 = .ok (.aload_n 0, 1) := by decide +kernel
theorem dX4_sentWith_97 : decode cX4_sentWith 97 = .ok (.iload 6, 2) := by decide +kernel
theorem dX4_sentWith_99 : decode cX4_sentWith 99 = .ok (.iconst 3, 1) := by decide +kernel
theorem dX4_sentWith_100 : decode cX4_sentWith 100 = .ok (.invokevirtual 38, 3) := by decide +kernel
theorem dX4_sentWith_103 : decode cX4_sentWith 103 = .ok (.iadd, 1) := by decide +kernel
theorem dX4_sentWith_104 : decode cX4_sentWith 104 = .ok (.iastore, 1) := by decide +kernel
theorem dX4_sentWith_105 : decode cX4_sentWith 105 = .ok (.lload_n 2, 1) := by decide +kernel
theorem dX4_sentWith_106 : decode cX4_sentWith 106 = .ok (.lconst 1, 1) := by decide +kernel
theorem dX4_sentWith_107 : decode cX4_sentWith 107 = .ok (.iload 6, 2) := by decide +kernel
theorem dX4_sentWith_109 : decode cX4_sentWith 109 = .ok (.lshl, 1) := by decide +kernel
theorem dX4_sentWith_110 : decode cX4_sentWith 110 = .ok (.lor, 1) := by decide +kernel
theorem dX4_sentWith_111 : decode cX4_sentWith 111 = .ok (.lstore_n 2, 1) := by decide +kernel
theorem dX4_sentWith_112 : decode cX4_sentWith 112 = .ok (.iconst 1, 1) := by decide +kernel
theorem dX4_sentWith_113 : decode cX4_sentWith 113 = .ok (.istore 4, 2) := by decide +kernel
theorem dX4_sentWith_115 : decode cX4_sentWith 115 = .ok (.iinc 6 1, 3) := by decide +kernel
theorem dX4_sentWith_118 : decode cX4_sentWith 118 = .ok (.goto (-77), 3) := by decide +kernel
theorem dX4_sentWith_121 : decode cX4_sentWith 121 = .ok (.iinc 5 1, 3) := by decide +kernel
theorem dX4_sentWith_124 : decode cX4_sentWith 124 = .ok (.goto (-101), 3) := by decide +kernel
theorem dX4_sentWith_127 : decode cX4_sentWith 127 = .ok (.lload_n 2, 1) := by decide +kernel
theorem dX4_sentWith_128 : decode cX4_sentWith 128 = .ok (.invokestatic 42, 3) := by decide +kernel
theorem dX4_sentWith_131 : decode cX4_sentWith 131 = .ok (.ireturn, 1) := by decide +kernel
theorem dX5_init_0 : decode cX5_init 0 = .ok (.aload_n 0, 1) := by decide +kernel
theorem dX5_init_1 : decode cX5_init 1 = .ok (.invokespecial 3, 3) := by decide +kernel
theorem dX5_init_4 : decode cX5_init 4 = .ok (.aload_n 0, 1) := by decide +kernel
theorem dX5_init_5 : decode cX5_init 5 = .ok (.sipush 600, 3) := by decide +kernel
theorem dX5_init_8 : decode cX5_init 8 = .ok (.newarray .int, 2) := by decide +kernel
theorem dX5_init_10 : decode cX5_init 10 = .ok (.putfield 11, 3) := by decide +kernel
theorem dX5_init_13 : decode cX5_init 13 = .ok (.aload_n 0, 1) := by decide +kernel
theorem dX5_init_14 : decode cX5_init 14 = .ok (.iconst (-1), 1) := by decide +kernel
theorem dX5_init_15 : decode cX5_init 15 = .ok (.putfield 15, 3) := by decide +kernel
theorem dX5_init_18 : decode cX5_init 18 = .ok (.aload_n 0, 1) := by decide +kernel
theorem dX5_init_19 : decode cX5_init 19 = .ok (.iconst (-1), 1) := by decide +kernel
theorem dX5_init_20 : decode cX5_init 20 = .ok (.putfield 19, 3) := by decide +kernel
theorem dX5_init_23 : decode cX5_init 23 = .ok (.return_, 1) := by decide +kernel
theorem dX5_hasRoomFor_0 : decode cX5_hasRoomFor 0 = .ok (.aload_n 0, 1) := by decide +kernel
theorem dX5_hasRoomFor_1 : decode cX5_hasRoomFor 1 = .ok (.getfield 22, 3) := by decide +kernel
theorem dX5_hasRoomFor_4 : decode cX5_hasRoomFor 4 = .ok (.iload_n 1, 1) := by decide +kernel
theorem dX5_hasRoomFor_5 : decode cX5_hasRoomFor 5 = .ok (.iadd, 1) := by decide +kernel
theorem dX5_hasRoomFor_6 : decode cX5_hasRoomFor 6 = .ok (.sipush 600, 3) := by decide +kernel
theorem dX5_hasRoomFor_9 : decode cX5_hasRoomFor 9 = .ok (.if_icmp .gt 7, 3) := by decide +kernel
theorem dX5_hasRoomFor_12 : decode cX5_hasRoomFor 12 = .ok (.iconst 1, 1) := by decide +kernel
theorem dX5_hasRoomFor_13 : decode cX5_hasRoomFor 13 = .ok (.goto 4, 3) := by decide +kernel
theorem dX5_hasRoomFor_16 : decode cX5_hasRoomFor 16 = .ok (.iconst 0, 1) := by decide +kernel
theorem dX5_hasRoomFor_17 : decode cX5_hasRoomFor 17 = .ok (.ireturn, 1) := by decide +kernel
theorem dX5_put_0 : decode cX5_put 0 = .ok (.bipush 24, 2) := by decide +kernel
theorem dX5_put_2 : decode cX5_put 2 = .ok (.istore_n 2, 1) := by decide +kernel
theorem dX5_put_3 : decode cX5_put 3 = .ok (.iload_n 2, 1) := by decide +kernel
theorem dX5_put_4 : decode cX5_put 4 = .ok (.ifCond .lt 45, 3) := by decide +kernel
theorem dX5_put_7 : decode cX5_put 7 = .ok (.aload_n 0, 1) := by decide +kernel
theorem dX5_put_8 : decode cX5_put 8 = .ok (.getfield 22, 3) := by decide +kernel
theorem dX5_put_11 : decode cX5_put 11 = .ok (.sipush 600, 3) := by decide +kernel
theorem dX5_put_14 : decode cX5_put 14 = .ok (.if_icmp .ge 35, 3) := by decide +kernel
theorem dX5_put_17 : decode cX5_put 17 = .ok (.aload_n 0, 1) := by decide +kernel
theorem dX5_put_18 : decode cX5_put 18 = .ok (.getfield 11, 3) := by decide +kernel
theorem dX5_put_21 : decode cX5_put 21 = .ok (.aload_n 0, 1) := by decide +kernel
theorem dX5_put_22 : decode cX5_put 22 = .ok (.getfield 22, 3) := by decide +kernel
theorem dX5_put_25 : decode cX5_put 25 = .ok (.iload_n 1, 1) := by decide +kernel
theorem dX5_put_26 : decode cX5_put 26 = .ok (.iload_n 2, 1) := by decide +kernel
theorem dX5_put_27 : decode cX5_put 27 = .ok (.iushr, 1) := by decide +kernel
theorem dX5_put_28 : decode cX5_put 28 = .ok (.sipush 255, 3) := by decide +kernel
theorem dX5_put_31 : decode cX5_put 31 = .ok (.iand, 1) := by decide +kernel
theorem dX5_put_32 : decode cX5_put 32 = .ok (.iastore, 1) := by decide +kernel
theorem dX5_put_33 : decode cX5_put 33 = .ok (.aload_n 0, 1) := by decide +kernel
theorem dX5_put_34 : decode cX5_put 34 = .ok (.dup, 1) := by decide +kernel
theorem dX5_put_35 : decode cX5_put 35 = .ok (.getfield 22, 3) := by decide +kernel
theorem dX5_put_38 : decode cX5_put 38 = .ok (.iconst 1, 1) := by decide +kernel
theorem dX5_put_39 : decode cX5_put 39 = .ok (.iadd, 1) := by decide +kernel
theorem dX5_put_40 : decode cX5_put 40 = .ok (.putfield 22, 3) := by decide +kernel
theorem dX5_put_43 : decode cX5_put 43 = .ok (.iinc 2 (-8), 3) := by decide +kernel
theorem dX5_put_46 : decode cX5_put 46 = .ok (.goto (-43), 3) := by decide +kernel
theorem dX5_put_49 : decode cX5_put 49 = .ok (.return_, 1) := by decide +kernel
theorem dX5_read_0 : decode cX5_read 0 = .ok (.aload_n 0, 1) := by decide +kernel
theorem dX5_read_1 : decode cX5_read 1 = .ok (.iload_n 1, 1) := by decide +kernel
theorem dX5_read_2 : decode cX5_read 2 = .ok (.iconst 0, 1) := by decide +kernel
theorem dX5_read_3 : decode cX5_read 3 = .ok (.invokestatic 25, 3) := by decide +kernel
theorem dX5_read_6 : decode cX5_read 6 = .ok (.aload_n 0, 1) := by decide +kernel
theorem dX5_read_7 : decode cX5_read 7 = .ok (.getfield 22, 3) := by decide +kernel
theorem dX5_read_10 : decode cX5_read 10 = .ok (.invokestatic 31, 3) := by decide +kernel
theorem dX5_read_13 : decode cX5_read 13 = .ok (.putfield 34, 3) := by decide +kernel
theorem dX5_read_16 : decode cX5_read 16 = .ok (.aload_n 0, 1) := by decide +kernel
theorem dX5_read_17 : decode cX5_read 17 = .ok (.iconst 0, 1) := by decide +kernel
theorem dX5_read_18 : decode cX5_read 18 = .ok (.putfield 37, 3) := by decide +kernel
theorem dX5_read_21 : decode cX5_read 21 = .ok (.aload_n 0, 1) := by decide +kernel
theorem dX5_read_22 : decode cX5_read 22 = .ok (.iconst 0, 1) := by decide +kernel
theorem dX5_read_23 : decode cX5_read 23 = .ok (.putfield 22, 3) := by decide +kernel
theorem dX5_read_26 : decode cX5_read 26 = .ok (.aload_n 0, 1) := by decide +kernel
theorem dX5_read_27 : decode cX5_read 27 = .ok (.iconst 0, 1) := by decide +kernel
theorem dX5_read_28 : decode cX5_read 28 = .ok (.putfield 15, 3) := by decide +kernel
theorem dX5_read_31 : decode cX5_read 31 = .ok (.aload_n 0, 1) := by decide +kernel
theorem dX5_read_32 : decode cX5_read 32 = .ok (.iconst (-1), 1) := by decide +kernel
theorem dX5_read_33 : decode cX5_read 33 = .ok (.putfield 19, 3) := by decide +kernel
theorem dX5_read_36 : decode cX5_read 36 = .ok (.aload_n 0, 1) := by decide +kernel
theorem dX5_read_37 : decode cX5_read 37 = .ok (.aload_n 2, 1) := by decide +kernel
theorem dX5_read_38 : decode cX5_read 38 = .ok (.invokevirtual 40, 3) := by decide +kernel
theorem dX5_read_41 : decode cX5_read 41 = .ok (.istore_n 3, 1) := by decide +kernel
theorem dX5_read_42 : decode cX5_read 42 = .ok (.iconst 0, 1) := by decide +kernel
theorem dX5_read_43 : decode cX5_read 43 = .ok (.istore 4, 2) := by decide +kernel
theorem dX5_read_45 : decode cX5_read 45 = .ok (.iload_n 3, 1) := by decide +kernel
theorem dX5_read_46 : decode cX5_read 46 = .ok (.ifCond .eq 38, 3) := by decide +kernel
theorem dX5_read_49 : decode cX5_read 49 = .ok (.iload 4, 2) := by decide +kernel
theorem dX5_read_51 : decode cX5_read 51 = .ok (.sipush 600, 3) := by decide +kernel
theorem dX5_read_54 : decode cX5_read 54 = .ok (.if_icmp .gt 30, 3) := by decide +kernel
theorem dX5_read_57 : decode cX5_read 57 = .ok (.aload_n 0, 1) := by decide +kernel
theorem dX5_read_58 : decode cX5_read 58 = .ok (.invokevirtual 44, 3) := by decide +kernel
theorem dX5_read_61 : decode cX5_read 61 = .ok (.aload_n 0, 1) := by decide +kernel
theorem dX5_read_62 : decode cX5_read 62 = .ok (.getfield 47, 3) := by decide +kernel
theorem dX5_read_65 : decode cX5_read 65 = .ok (.iconst 1, 1) := by decide +kernel
theorem dX5_read_66 : decode cX5_read 66 = .ok (.if_icmp .ne 6, 3) := by decide +kernel
theorem dX5_read_69 : decode cX5_read 69 = .ok (.goto 15, 3) := by decide +kernel
theorem dX5_read_72 : decode cX5_read 72 = .ok (.aload_n 0, 1) := by decide +kernel
theorem dX5_read_73 : decode cX5_read 73 = .ok (.aload_n 2, 1) := by decide +kernel
theorem dX5_read_74 : decode cX5_read 74 = .ok (.invokevirtual 50, 3) := by decide +kernel
theorem dX5_read_77 : decode cX5_read 77 = .ok (.istore_n 3, 1) := by decide +kernel
theorem dX5_read_78 : decode cX5_read 78 = .ok (.iinc 4 1, 3) := by decide +kernel
theorem dX5_read_81 : decode cX5_read 81 = .ok (.goto (-36), 3) := by decide +kernel
theorem dX5_read_84 : decode cX5_read 84 = .ok (.iload_n 3, 1) := by decide +kernel
theorem dX5_read_85 : decode cX5_read 85 = .ok (.ireturn, 1) := by decide +kernel
theorem dX5_readHead_0 : decode cX5_readHead 0 = .ok (.aload_n 0, 1) := by decide +kernel
theorem dX5_readHead_1 : decode cX5_readHead 1 = .ok (.invokevirtual 44, 3) := by decide +kernel
theorem dX5_readHead_4 : decode cX5_readHead 4 = .ok (.aload_n 0, 1) := by decide +kernel
theorem dX5_readHead_5 : decode cX5_readHead 5 = .ok (.iconst 2, 1) := by decide +kernel
theorem dX5_readHead_6 : decode cX5_readHead 6 = .ok (.invokevirtual 53, 3) := by decide +kernel
theorem dX5_readHead_9 : decode cX5_readHead 9 = .ok (.ifCond .ne 5, 3) := by decide +kernel
theorem dX5_readHead_12 : decode cX5_readHead 12 = .ok (.iconst 0, 1) := by decide +kernel
theorem dX5_readHead_13 : decode cX5_readHead 13 = .ok (.ireturn, 1) := by decide +kernel
theorem dX5_readHead_14 : decode cX5_readHead 14 = .ok (.aload_n 0, 1) := by decide +kernel
theorem dX5_readHead_15 : decode cX5_readHead 15 = .ok (.ldc 57, 2) := by decide +kernel
theorem dX5_readHead_17 : decode cX5_readHead 17 = .ok (.invokevirtual 59, 3) := by decide +kernel
theorem dX5_readHead_20 : decode cX5_readHead 20 = .ok (.ifCond .ne 9, 3) := by decide +kernel
theorem dX5_readHead_23 : decode cX5_readHead 23 = .ok (.aload_n 0, 1) := by decide +kernel
theorem dX5_readHead_24 : decode cX5_readHead 24 = .ok (.iconst 2, 1) := by decide +kernel
theorem dX5_readHead_25 : decode cX5_readHead 25 = .ok (.invokevirtual 63, 3) := by decide +kernel
theorem dX5_readHead_28 : decode cX5_readHead 28 = .ok (.ireturn, 1) := by decide +kernel
theorem dX5_readHead_29 : decode cX5_readHead 29 = .ok (.aload_n 0, 1) := by decide +kernel
theorem dX5_readHead_30 : decode cX5_readHead 30 = .ok (.iconst 2, 1) := by decide +kernel
theorem dX5_readHead_31 : decode cX5_readHead 31 = .ok (.bipush 8, 2) := by decide +kernel
theorem dX5_readHead_33 : decode cX5_readHead 33 = .ok (.invokevirtual 66, 3) := by decide +kernel
theorem dX5_readHead_36 : decode cX5_readHead 36 = .ok (.ifCond .ne 5, 3) := by decide +kernel
theorem dX5_readHead_39 : decode cX5_readHead 39 = .ok (.iconst 0, 1) := by decide +kernel
theorem dX5_readHead_40 : decode cX5_readHead 40 = .ok (.ireturn, 1) := by decide +kernel
theorem dX5_readHead_41 : decode cX5_readHead 41 = .ok (.aload_n 1, 1) := by decide +kernel
theorem dX5_readHead_42 : decode cX5_readHead 42 = .ok (.aload_n 0, 1) := by decide +kernel
theorem dX5_readHead_43 : decode cX5_readHead 43 = .ok (.getfield 70, 3) := by decide +kernel
theorem dX5_readHead_46 : decode cX5_readHead 46 = .ok (.invokevirtual 73, 3) := by decide +kernel
theorem dX5_readHead_49 : decode cX5_readHead 49 = .ok (.aload_n 0, 1) := by decide +kernel
theorem dX5_readHead_50 : decode cX5_readHead 50 = .ok (.invokevirtual 79, 3) := by decide +kernel
theorem dX5_readHead_53 : decode cX5_readHead 53 = .ok (.ireturn, 1) := by decide +kernel
theorem dX5_readLine_0 : decode cX5_readLine 0 = .ok (.aload_n 0, 1) := by decide +kernel
theorem dX5_readLine_1 : decode cX5_readLine 1 = .ok (.iconst 2, 1) := by decide +kernel
theorem dX5_readLine_2 : decode cX5_readLine 2 = .ok (.invokevirtual 53, 3) := by decide +kernel
theorem dX5_readLine_5 : decode cX5_readLine 5 = .ok (.ifCond .ne 5, 3) := by decide +kernel
theorem dX5_readLine_8 : decode cX5_readLine 8 = .ok (.iconst 0, 1) := by decide +kernel
theorem dX5_readLine_9 : decode cX5_readLine 9 = .ok (.ireturn, 1) := by decide +kernel
theorem dX5_readLine_10 : decode cX5_readLine 10 = .ok (.aload_n 0, 1) := by decide +kernel
theorem dX5_readLine_11 : decode cX5_readLine 11 = .ok (.ldc 83, 2) := by decide +kernel
theorem dX5_readLine_13 : decode cX5_readLine 13 = .ok (.invokevirtual 59, 3) := by decide +kernel
theorem dX5_readLine_16 : decode cX5_readLine 16 = .ok (.ifCond .eq 10, 3) := by decide +kernel
theorem dX5_readLine_19 : decode cX5_readLine 19 = .ok (.aload_n 0, 1) := by decide +kernel
theorem dX5_readLine_20 : decode cX5_readLine 20 = .ok (.aload_n 1, 1) := by decide +kernel
theorem dX5_readLine_21 : decode cX5_readLine 21 = .ok (.iconst 0, 1) := by decide +kernel
theorem dX5_readLine_22 : decode cX5_readLine 22 = .ok (.invokevirtual 85, 3) := by decide +kernel
theorem dX5_readLine_25 : decode cX5_readLine 25 = .ok (.ireturn, 1) := by decide +kernel
theorem dX5_readLine_26 : decode cX5_readLine 26 = .ok (.aload_n 0, 1) := by decide +kernel
theorem dX5_readLine_27 : decode cX5_readLine 27 = .ok (.ldc 89, 2) := by decide +kernel
theorem dX5_readLine_29 : decode cX5_readLine 29 = .ok (.invokevirtual 59, 3) := by decide +kernel
theorem dX5_readLine_32 : decode cX5_readLine 32 = .ok (.ifCond .eq 10, 3) := by decide +kernel
theorem dX5_readLine_35 : decode cX5_readLine 35 = .ok (.aload_n 0, 1) := by decide +kernel
theorem dX5_readLine_36 : decode cX5_readLine 36 = .ok (.aload_n 1, 1) := by decide +kernel
theorem dX5_readLine_37 : decode cX5_readLine 37 = .ok (.iconst 1, 1) := by decide +kernel
theorem dX5_readLine_38 : decode cX5_readLine 38 = .ok (.invokevirtual 85, 3) := by decide +kernel
theorem dX5_readLine_41 : decode cX5_readLine 41 = .ok (.ireturn, 1) := by decide +kernel
theorem dX5_readLine_42 : decode cX5_readLine 42 = .ok (.aload_n 0, 1) := by decide +kernel
theorem dX5_readLine_43 : decode cX5_readLine 43 = .ok (.ldc 91, 2) := by decide +kernel
theorem dX5_readLine_45 : decode cX5_readLine 45 = .ok (.invokevirtual 59, 3) := by decide +kernel
theorem dX5_readLine_48 : decode cX5_readLine 48 = .ok (.ifCond .ne 9, 3) := by decide +kernel
theorem dX5_readLine_51 : decode cX5_readLine 51 = .ok (.aload_n 0, 1) := by decide +kernel
theorem dX5_readLine_52 : decode cX5_readLine 52 = .ok (.iconst 2, 1) := by decide +kernel
theorem dX5_readLine_53 : decode cX5_readLine 53 = .ok (.invokevirtual 63, 3) := by decide +kernel
theorem dX5_readLine_56 : decode cX5_readLine 56 = .ok (.ireturn, 1) := by decide +kernel
theorem dX5_readLine_57 : decode cX5_readLine 57 = .ok (.aload_n 1, 1) := by decide +kernel
theorem dX5_readLine_58 : decode cX5_readLine 58 = .ok (.getfield 93, 3) := by decide +kernel
theorem dX5_readLine_61 : decode cX5_readLine 61 = .ok (.getfield 96, 3) := by decide +kernel
theorem dX5_readLine_64 : decode cX5_readLine 64 = .ok (.bipush 40, 2) := by decide +kernel
theorem dX5_readLine_66 : decode cX5_readLine 66 = .ok (.if_icmp .ge 11, 3) := by decide +kernel
theorem dX5_readLine_69 : decode cX5_readLine 69 = .ok (.aload_n 0, 1) := by decide +kernel
theorem dX5_readLine_70 : decode cX5_readLine 70 = .ok (.aload_n 1, 1) := by decide +kernel
theorem dX5_readLine_71 : decode cX5_readLine 71 = .ok (.invokevirtual 101, 3) := by decide +kernel
theorem dX5_readLine_74 : decode cX5_readLine 74 = .ok (.goto 8, 3) := by decide +kernel
theorem dX5_readLine_77 : decode cX5_readLine 77 = .ok (.aload_n 0, 1) := by decide +kernel
theorem dX5_readLine_78 : decode cX5_readLine 78 = .ok (.iconst 5, 1) := by decide +kernel
theorem dX5_readLine_79 : decode cX5_readLine 79 = .ok (.invokevirtual 63, 3) := by decide +kernel
theorem dX5_readLine_82 : decode cX5_readLine 82 = .ok (.ireturn, 1) := by decide +kernel
theorem dX5_readWire_0 : decode cX5_readWire 0 = .ok (.aload_n 0, 1) := by decide +kernel
theorem dX5_readWire_1 : decode cX5_readWire 1 = .ok (.aload_n 1, 1) := by decide +kernel
theorem dX5_readWire_2 : decode cX5_readWire 2 = .ok (.iconst (-1), 1) := by decide +kernel
theorem dX5_readWire_3 : decode cX5_readWire 3 = .ok (.invokevirtual 104, 3) := by decide +kernel
theorem dX5_readWire_6 : decode cX5_readWire 6 = .ok (.ifCond .ne 5, 3) := by decide +kernel
theorem dX5_readWire_9 : decode cX5_readWire 9 = .ok (.iconst 0, 1) := by decide +kernel
theorem dX5_readWire_10 : decode cX5_readWire 10 = .ok (.ireturn, 1) := by decide +kernel
theorem dX5_readWire_11 : decode cX5_readWire 11 = .ok (.aload_n 0, 1) := by decide +kernel
theorem dX5_readWire_12 : decode cX5_readWire 12 = .ok (.getfield 70, 3) := by decide +kernel
theorem dX5_readWire_15 : decode cX5_readWire 15 = .ok (.istore_n 3, 1) := by decide +kernel
theorem dX5_readWire_16 : decode cX5_readWire 16 = .ok (.aload_n 0, 1) := by decide +kernel
theorem dX5_readWire_17 : decode cX5_readWire 17 = .ok (.aload_n 1, 1) := by decide +kernel
theorem dX5_readWire_18 : decode cX5_readWire 18 = .ok (.iload_n 3, 1) := by decide +kernel
theorem dX5_readWire_19 : decode cX5_readWire 19 = .ok (.invokevirtual 104, 3) := by decide +kernel
theorem dX5_readWire_22 : decode cX5_readWire 22 = .ok (.ifCond .ne 5, 3) := by decide +kernel
theorem dX5_readWire_25 : decode cX5_readWire 25 = .ok (.iconst 0, 1) := by decide +kernel
theorem dX5_readWire_26 : decode cX5_readWire 26 = .ok (.ireturn, 1) := by decide +kernel
theorem dX5_readWire_27 : decode cX5_readWire 27 = .ok (.aload_n 0, 1) := by decide +kernel
theorem dX5_readWire_28 : decode cX5_readWire 28 = .ok (.getfield 70, 3) := by decide +kernel
theorem dX5_readWire_31 : decode cX5_readWire 31 = .ok (.istore 4, 2) := by decide +kernel
theorem dX5_readWire_33 : decode cX5_readWire 33 = .ok (.aload_n 0, 1) := by decide +kernel
theorem dX5_readWire_34 : decode cX5_readWire 34 = .ok (.iconst 1, 1) := by decide +kernel
theorem dX5_readWire_35 : decode cX5_readWire 35 = .ok (.bipush 9, 2) := by decide +kernel
theorem dX5_readWire_37 : decode cX5_readWire 37 = .ok (.invokevirtual 66, 3) := by decide +kernel
theorem dX5_readWire_40 : decode cX5_readWire 40 = .ok (.ifCond .ne 5, 3) := by decide +kernel
theorem dX5_readWire_43 : decode cX5_readWire 43 = .ok (.iconst 0, 1) := by decide +kernel
theorem dX5_readWire_44 : decode cX5_readWire 44 = .ok (.ireturn, 1) := by decide +kernel
theorem dX5_readWire_45 : decode cX5_readWire 45 = .ok (.aload_n 1, 1) := by decide +kernel
theorem dX5_readWire_46 : decode cX5_readWire 46 = .ok (.getfield 108, 3) := by decide +kernel
theorem dX5_readWire_49 : decode cX5_readWire 49 = .ok (.iload_n 3, 1) := by decide +kernel
theorem dX5_readWire_50 : decode cX5_readWire 50 = .ok (.iload 4, 2) := by decide +kernel
theorem dX5_readWire_52 : decode cX5_readWire 52 = .ok (.invokestatic 111, 3) := by decide +kernel
theorem dX5_readWire_55 : decode cX5_readWire 55 = .ok (.aload_n 0, 1) := by decide +kernel
theorem dX5_readWire_56 : decode cX5_readWire 56 = .ok (.getfield 70, 3) := by decide +kernel
theorem dX5_readWire_59 : decode cX5_readWire 59 = .ok (.iastore, 1) := by decide +kernel
theorem dX5_readWire_60 : decode cX5_readWire 60 = .ok (.iload_n 2, 1) := by decide +kernel
theorem dX5_readWire_61 : decode cX5_readWire 61 = .ok (.ifCond .eq 18, 3) := by decide +kernel
theorem dX5_readWire_64 : decode cX5_readWire 64 = .ok (.aload_n 1, 1) := by decide +kernel
theorem dX5_readWire_65 : decode cX5_readWire 65 = .ok (.getfield 108, 3) := by decide +kernel
theorem dX5_readWire_68 : decode cX5_readWire 68 = .ok (.iload 4, 2) := by decide +kernel
theorem dX5_readWire_70 : decode cX5_readWire 70 = .ok (.iload_n 3, 1) := by decide +kernel
theorem dX5_readWire_71 : decode cX5_readWire 71 = .ok (.invokestatic 111, 3) := by decide +kernel
theorem dX5_readWire_74 : decode cX5_readWire 74 = .ok (.aload_n 0, 1) := by decide +kernel
theorem dX5_readWire_75 : decode cX5_readWire 75 = .ok (.getfield 70, 3) := by decide +kernel
theorem dX5_readWire_78 : decode cX5_readWire 78 = .ok (.iastore, 1) := by decide +kernel
theorem dX5_readWire_79 : decode cX5_readWire 79 = .ok (.aload_n 0, 1) := by decide +kernel
theorem dX5_readWire_80 : decode cX5_readWire 80 = .ok (.invokevirtual 79, 3) := by decide +kernel
theorem dX5_readWire_83 : decode cX5_readWire 83 = .ok (.ireturn, 1) := by decide +kernel
theorem dX5_readRow_0 : decode cX5_readRow 0 = .ok (.aload_n 0, 1) := by decide +kernel
theorem dX5_readRow_1 : decode cX5_readRow 1 = .ok (.aload_n 1, 1) := by decide +kernel
theorem dX5_readRow_2 : decode cX5_readRow 2 = .ok (.iconst (-1), 1) := by decide +kernel
theorem dX5_readRow_3 : decode cX5_readRow 3 = .ok (.invokevirtual 104, 3) := by decide +kernel
theorem dX5_readRow_6 : decode cX5_readRow 6 = .ok (.ifCond .ne 5, 3) := by decide +kernel
theorem dX5_readRow_9 : decode cX5_readRow 9 = .ok (.iconst 0, 1) := by decide +kernel
theorem dX5_readRow_10 : decode cX5_readRow 10 = .ok (.ireturn, 1) := by decide +kernel
theorem dX5_readRow_11 : decode cX5_readRow 11 = .ok (.aload_n 0, 1) := by decide +kernel
theorem dX5_readRow_12 : decode cX5_readRow 12 = .ok (.getfield 70, 3) := by decide +kernel
theorem dX5_readRow_15 : decode cX5_readRow 15 = .ok (.istore_n 2, 1) := by decide +kernel
theorem dX5_readRow_16 : decode cX5_readRow 16 = .ok (.aload_n 0, 1) := by decide +kernel
theorem dX5_readRow_17 : decode cX5_readRow 17 = .ok (.iconst 1, 1) := by decide +kernel
theorem dX5_readRow_18 : decode cX5_readRow 18 = .ok (.sipush 200, 3) := by decide +kernel
theorem dX5_readRow_21 : decode cX5_readRow 21 = .ok (.invokevirtual 66, 3) := by decide +kernel
theorem dX5_readRow_24 : decode cX5_readRow 24 = .ok (.ifCond .ne 5, 3) := by decide +kernel
theorem dX5_readRow_27 : decode cX5_readRow 27 = .ok (.iconst 0, 1) := by decide +kernel
theorem dX5_readRow_28 : decode cX5_readRow 28 = .ok (.ireturn, 1) := by decide +kernel
theorem dX5_readRow_29 : decode cX5_readRow 29 = .ok (.aload_n 0, 1) := by decide +kernel
theorem dX5_readRow_30 : decode cX5_readRow 30 = .ok (.getfield 70, 3) := by decide +kernel
theorem dX5_readRow_33 : decode cX5_readRow 33 = .ok (.istore_n 3, 1) := by decide +kernel
theorem dX5_readRow_34 : decode cX5_readRow 34 = .ok (.aload_n 0, 1) := by decide +kernel
theorem dX5_readRow_35 : decode cX5_readRow 35 = .ok (.aload_n 1, 1) := by decide +kernel
theorem dX5_readRow_36 : decode cX5_readRow 36 = .ok (.iload_n 2, 1) := by decide +kernel
theorem dX5_readRow_37 : decode cX5_readRow 37 = .ok (.invokevirtual 104, 3) := by decide +kernel
theorem dX5_readRow_40 : decode cX5_readRow 40 = .ok (.ifCond .ne 5, 3) := by decide +kernel
theorem dX5_readRow_43 : decode cX5_readRow 43 = .ok (.iconst 0, 1) := by decide +kernel
theorem dX5_readRow_44 : decode cX5_readRow 44 = .ok (.ireturn, 1) := by decide +kernel
theorem dX5_readRow_45 : decode cX5_readRow 45 = .ok (.aload_n 0, 1) := by decide +kernel
theorem dX5_readRow_46 : decode cX5_readRow 46 = .ok (.getfield 70, 3) := by decide +kernel
theorem dX5_readRow_49 : decode cX5_readRow 49 = .ok (.istore 4, 2) := by decide +kernel
theorem dX5_readRow_51 : decode cX5_readRow 51 = .ok (.aload_n 0, 1) := by decide +kernel
theorem dX5_readRow_52 : decode cX5_readRow 52 = .ok (.iconst 1, 1) := by decide +kernel
theorem dX5_readRow_53 : decode cX5_readRow 53 = .ok (.bipush 20, 2) := by decide +kernel
theorem dX5_readRow_55 : decode cX5_readRow 55 = .ok (.invokevirtual 66, 3) := by decide +kernel
theorem dX5_readRow_58 : decode cX5_readRow 58 = .ok (.ifCond .ne 5, 3) := by decide +kernel
theorem dX5_readRow_61 : decode cX5_readRow 61 = .ok (.iconst 0, 1) := by decide +kernel
theorem dX5_readRow_62 : decode cX5_readRow 62 = .ok (.ireturn, 1) := by decide +kernel
theorem dX5_readRow_63 : decode cX5_readRow 63 = .ok (.aload_n 1, 1) := by decide +kernel
theorem dX5_readRow_64 : decode cX5_readRow 64 = .ok (.getfield 93, 3) := by decide +kernel
theorem dX5_readRow_67 : decode cX5_readRow 67 = .ok (.iload_n 2, 1) := by decide +kernel
theorem dX5_readRow_68 : decode cX5_readRow 68 = .ok (.iload_n 3, 1) := by decide +kernel
theorem dX5_readRow_69 : decode cX5_readRow 69 = .ok (.iload 4, 2) := by decide +kernel
theorem dX5_readRow_71 : decode cX5_readRow 71 = .ok (.aload_n 0, 1) := by decide +kernel
theorem dX5_readRow_72 : decode cX5_readRow 72 = .ok (.getfield 70, 3) := by decide +kernel
theorem dX5_readRow_75 : decode cX5_readRow 75 = .ok (.invokevirtual 114, 3) := by decide +kernel
theorem dX5_readRow_78 : decode cX5_readRow 78 = .ok (.aload_n 0, 1) := by decide +kernel
theorem dX5_readRow_79 : decode cX5_readRow 79 = .ok (.invokevirtual 79, 3) := by decide +kernel
theorem dX5_readRow_82 : decode cX5_readRow 82 = .ok (.ireturn, 1) := by decide +kernel
theorem dX5_wants_0 : decode cX5_wants 0 = .ok (.aload_n 0, 1) := by decide +kernel
theorem dX5_wants_1 : decode cX5_wants 1 = .ok (.getfield 47, 3) := by decide +kernel
theorem dX5_wants_4 : decode cX5_wants 4 = .ok (.ifCond .ne 9, 3) := by decide +kernel
theorem dX5_wants_7 : decode cX5_wants 7 = .ok (.aload_n 0, 1) := by decide +kernel
theorem dX5_wants_8 : decode cX5_wants 8 = .ok (.iconst 1, 1) := by decide +kernel
theorem dX5_wants_9 : decode cX5_wants 9 = .ok (.invokevirtual 63, 3) := by decide +kernel
theorem dX5_wants_12 : decode cX5_wants 12 = .ok (.ireturn, 1) := by decide +kernel
theorem dX5_wants_13 : decode cX5_wants 13 = .ok (.aload_n 0, 1) := by decide +kernel
theorem dX5_wants_14 : decode cX5_wants 14 = .ok (.getfield 47, 3) := by decide +kernel
theorem dX5_wants_17 : decode cX5_wants 17 = .ok (.iload_n 1, 1) := by decide +kernel
theorem dX5_wants_18 : decode cX5_wants 18 = .ok (.if_icmp .eq 11, 3) := by decide +kernel
theorem dX5_wants_21 : decode cX5_wants 21 = .ok (.aload_n 0, 1) := by decide +kernel
theorem dX5_wants_22 : decode cX5_wants 22 = .ok (.iconst 2, 1) := by decide +kernel
theorem dX5_wants_23 : decode cX5_wants 23 = .ok (.invokevirtual 63, 3) := by decide +kernel
theorem dX5_wants_26 : decode cX5_wants 26 = .ok (.ifCond .eq 7, 3) := by decide +kernel
theorem dX5_wants_29 : decode cX5_wants 29 = .ok (.iconst 1, 1) := by decide +kernel
theorem dX5_wants_30 : decode cX5_wants 30 = .ok (.goto 4, 3) := by decide +kernel
theorem dX5_wants_33 : decode cX5_wants 33 = .ok (.iconst 0, 1) := by decide +kernel
theorem dX5_wants_34 : decode cX5_wants 34 = .ok (.ireturn, 1) := by decide +kernel
theorem dX5_wantsSign_0 : decode cX5_wantsSign 0 = .ok (.aload_n 0, 1) := by decide +kernel
theorem dX5_wantsSign_1 : decode cX5_wantsSign 1 = .ok (.invokevirtual 44, 3) := by decide +kernel
theorem dX5_wantsSign_4 : decode cX5_wantsSign 4 = .ok (.aload_n 0, 1) := by decide +kernel
theorem dX5_wantsSign_5 : decode cX5_wantsSign 5 = .ok (.iconst 4, 1) := by decide +kernel
theorem dX5_wantsSign_6 : decode cX5_wantsSign 6 = .ok (.invokevirtual 53, 3) := by decide +kernel
theorem dX5_wantsSign_9 : decode cX5_wantsSign 9 = .ok (.ireturn, 1) := by decide +kernel
theorem dX5_wantsNumber_0 : decode cX5_wantsNumber 0 = .ok (.aload_n 0, 1) := by decide +kernel
theorem dX5_wantsNumber_1 : decode cX5_wantsNumber 1 = .ok (.invokevirtual 44, 3) := by decide +kernel
theorem dX5_wantsNumber_4 : decode cX5_wantsNumber 4 = .ok (.aload_n 0, 1) := by decide +kernel
theorem dX5_wantsNumber_5 : decode cX5_wantsNumber 5 = .ok (.iconst 3, 1) := by decide +kernel
theorem dX5_wantsNumber_6 : decode cX5_wantsNumber 6 = .ok (.invokevirtual 53, 3) := by decide +kernel
theorem dX5_wantsNumber_9 : decode cX5_wantsNumber 9 = .ok (.ifCond .eq 27, 3) := by decide +kernel
theorem dX5_wantsNumber_12 : decode cX5_wantsNumber 12 = .ok (.aload_n 0, 1) := by decide +kernel
theorem dX5_wantsNumber_13 : decode cX5_wantsNumber 13 = .ok (.getfield 70, 3) := by decide +kernel
theorem dX5_wantsNumber_16 : decode cX5_wantsNumber 16 = .ok (.iload_n 1, 1) := by decide +kernel
theorem dX5_wantsNumber_17 : decode cX5_wantsNumber 17 = .ok (.iload_n 2, 1) := by decide +kernel
theorem dX5_wantsNumber_18 : decode cX5_wantsNumber 18 = .ok (.invokestatic 118, 3) := by decide +kernel
theorem dX5_wantsNumber_21 : decode cX5_wantsNumber 21 = .ok (.ifCond .ne 11, 3) := by decide +kernel
theorem dX5_wantsNumber_24 : decode cX5_wantsNumber 24 = .ok (.aload_n 0, 1) := by decide +kernel
theorem dX5_wantsNumber_25 : decode cX5_wantsNumber 25 = .ok (.iconst 4, 1) := by decide +kernel
theorem dX5_wantsNumber_26 : decode cX5_wantsNumber 26 = .ok (.invokevirtual 63, 3) := by decide +kernel
theorem dX5_wantsNumber_29 : decode cX5_wantsNumber 29 = .ok (.ifCond .eq 7, 3) := by decide +kernel
theorem dX5_wantsNumber_32 : decode cX5_wantsNumber 32 = .ok (.iconst 1, 1) := by decide +kernel
theorem dX5_wantsNumber_33 : decode cX5_wantsNumber 33 = .ok (.goto 4, 3) := by decide +kernel
theorem dX5_wantsNumber_36 : decode cX5_wantsNumber 36 = .ok (.iconst 0, 1) := by decide +kernel
theorem dX5_wantsNumber_37 : decode cX5_wantsNumber 37 = .ok (.ireturn, 1) := by decide +kernel
theorem dX5_wantsNode_0 : decode cX5_wantsNode 0 = .ok (.aload_n 0, 1) := by decide +kernel
theorem dX5_wantsNode_1 : decode cX5_wantsNode 1 = .ok (.invokevirtual 44, 3) := by decide +kernel
theorem dX5_wantsNode_4 : decode cX5_wantsNode 4 = .ok (.aload_n 0, 1) := by decide +kernel
theorem dX5_wantsNode_5 : decode cX5_wantsNode 5 = .ok (.iconst 3, 1) := by decide +kernel
theorem dX5_wantsNode_6 : decode cX5_wantsNode 6 = .ok (.invokevirtual 53, 3) := by decide +kernel
theorem dX5_wantsNode_9 : decode cX5_wantsNode 9 = .ok (.ifCond .ne 5, 3) := by decide +kernel
theorem dX5_wantsNode_12 : decode cX5_wantsNode 12 = .ok (.iconst 0, 1) := by decide +kernel
theorem dX5_wantsNode_13 : decode cX5_wantsNode 13 = .ok (.ireturn, 1) := by decide +kernel
theorem dX5_wantsNode_14 : decode cX5_wantsNode 14 = .ok (.aload_n 1, 1) := by decide +kernel
theorem dX5_wantsNode_15 : decode cX5_wantsNode 15 = .ok (.aload_n 0, 1) := by decide +kernel
theorem dX5_wantsNode_16 : decode cX5_wantsNode 16 = .ok (.getfield 70, 3) := by decide +kernel
theorem dX5_wantsNode_19 : decode cX5_wantsNode 19 = .ok (.invokevirtual 122, 3) := by decide +kernel
theorem dX5_wantsNode_22 : decode cX5_wantsNode 22 = .ok (.ifCond .ne 9, 3) := by decide +kernel
theorem dX5_wantsNode_25 : decode cX5_wantsNode 25 = .ok (.aload_n 0, 1) := by decide +kernel
theorem dX5_wantsNode_26 : decode cX5_wantsNode 26 = .ok (.iconst 3, 1) := by decide +kernel
theorem dX5_wantsNode_27 : decode cX5_wantsNode 27 = .ok (.invokevirtual 63, 3) := by decide +kernel
theorem dX5_wantsNode_30 : decode cX5_wantsNode 30 = .ok (.ireturn, 1) := by decide +kernel
theorem dX5_wantsNode_31 : decode cX5_wantsNode 31 = .ok (.aload_n 0, 1) := by decide +kernel
theorem dX5_wantsNode_32 : decode cX5_wantsNode 32 = .ok (.getfield 70, 3) := by decide +kernel
theorem dX5_wantsNode_35 : decode cX5_wantsNode 35 = .ok (.iload_n 2, 1) := by decide +kernel
theorem dX5_wantsNode_36 : decode cX5_wantsNode 36 = .ok (.if_icmp .ne 11, 3) := by decide +kernel
theorem dX5_wantsNode_39 : decode cX5_wantsNode 39 = .ok (.aload_n 0, 1) := by decide +kernel
theorem dX5_wantsNode_40 : decode cX5_wantsNode 40 = .ok (.iconst 4, 1) := by decide +kernel
theorem dX5_wantsNode_41 : decode cX5_wantsNode 41 = .ok (.invokevirtual 63, 3) := by decide +kernel
theorem dX5_wantsNode_44 : decode cX5_wantsNode 44 = .ok (.ifCond .eq 7, 3) := by decide +kernel
theorem dX5_wantsNode_47 : decode cX5_wantsNode 47 = .ok (.iconst 1, 1) := by decide +kernel
theorem dX5_wantsNode_48 : decode cX5_wantsNode 48 = .ok (.goto 4, 3) := by decide +kernel
theorem dX5_wantsNode_51 : decode cX5_wantsNode 51 = .ok (.iconst 0, 1) := by decide +kernel
theorem dX5_wantsNode_52 : decode cX5_wantsNode 52 = .ok (.ireturn, 1) := by decide +kernel
theorem dX5_blame_0 : decode cX5_blame 0 = .ok (.aload_n 0, 1) := by decide +kernel
theorem dX5_blame_1 : decode cX5_blame 1 = .ok (.iload_n 1, 1) := by decide +kernel
theorem dX5_blame_2 : decode cX5_blame 2 = .ok (.putfield 15, 3) := by decide +kernel
theorem dX5_blame_5 : decode cX5_blame 5 = .ok (.aload_n 0, 1) := by decide +kernel
theorem dX5_blame_6 : decode cX5_blame 6 = .ok (.aload_n 0, 1) := by decide +kernel
theorem dX5_blame_7 : decode cX5_blame 7 = .ok (.getfield 125, 3) := by decide +kernel
theorem dX5_blame_10 : decode cX5_blame 10 = .ok (.putfield 19, 3) := by decide +kernel
theorem dX5_blame_13 : decode cX5_blame 13 = .ok (.iconst 0, 1) := by decide +kernel
theorem dX5_blame_14 : decode cX5_blame 14 = .ok (.ireturn, 1) := by decide +kernel
theorem dX5_scan_0 : decode cX5_scan 0 = .ok (.aload_n 0, 1) := by decide +kernel
theorem dX5_scan_1 : decode cX5_scan 1 = .ok (.getfield 37, 3) := by decide +kernel
theorem dX5_scan_4 : decode cX5_scan 4 = .ok (.aload_n 0, 1) := by decide +kernel
theorem dX5_scan_5 : decode cX5_scan 5 = .ok (.getfield 34, 3) := by decide +kernel
theorem dX5_scan_8 : decode cX5_scan 8 = .ok (.if_icmp .ge 44, 3) := by decide +kernel
theorem dX5_scan_11 : decode cX5_scan 11 = .ok (.aload_n 0, 1) := by decide +kernel
theorem dX5_scan_12 : decode cX5_scan 12 = .ok (.getfield 11, 3) := by decide +kernel
theorem dX5_scan_15 : decode cX5_scan 15 = .ok (.aload_n 0, 1) := by decide +kernel
theorem dX5_scan_16 : decode cX5_scan 16 = .ok (.getfield 37, 3) := by decide +kernel
theorem dX5_scan_19 : decode cX5_scan 19 = .ok (.iaload, 1) := by decide +kernel
theorem dX5_scan_20 : decode cX5_scan 20 = .ok (.bipush 10, 2) := by decide +kernel
theorem dX5_scan_22 : decode cX5_scan 22 = .ok (.if_icmp .eq 17, 3) := by decide +kernel
theorem dX5_scan_25 : decode cX5_scan 25 = .ok (.aload_n 0, 1) := by decide +kernel
theorem dX5_scan_26 : decode cX5_scan 26 = .ok (.getfield 11, 3) := by decide +kernel
theorem dX5_scan_29 : decode cX5_scan 29 = .ok (.aload_n 0, 1) := by decide +kernel
theorem dX5_scan_30 : decode cX5_scan 30 = .ok (.getfield 37, 3) := by decide +kernel
theorem dX5_scan_33 : decode cX5_scan 33 = .ok (.iaload, 1) := by decide +kernel
theorem dX5_scan_34 : decode cX5_scan 34 = .ok (.bipush 32, 2) := by decide +kernel
theorem dX5_scan_36 : decode cX5_scan 36 = .ok (.if_icmp .ne 16, 3) := by decide +kernel
theorem dX5_scan_39 : decode cX5_scan 39 = .ok (.aload_n 0, 1) := by decide +kernel
theorem dX5_scan_40 : decode cX5_scan 40 = .ok (.dup, 1) := by decide +kernel
theorem dX5_scan_41 : decode cX5_scan 41 = .ok (.getfield 37, 3) := by decide +kernel
theorem dX5_scan_44 : decode cX5_scan 44 = .ok (.iconst 1, 1) := by decide +kernel
theorem dX5_scan_45 : decode cX5_scan 45 = .ok (.iadd, 1) := by decide +kernel
theorem dX5_scan_46 : decode cX5_scan 46 = .ok (.putfield 37, 3) := by decide +kernel
theorem dX5_scan_49 : decode cX5_scan 49 = .ok (.goto (-49), 3) := by decide +kernel
theorem dX5_scan_52 : decode cX5_scan 52 = .ok (.aload_n 0, 1) := by decide +kernel
theorem dX5_scan_53 : decode cX5_scan 53 = .ok (.aload_n 0, 1) := by decide +kernel
theorem dX5_scan_54 : decode cX5_scan 54 = .ok (.getfield 37, 3) := by decide +kernel
theorem dX5_scan_57 : decode cX5_scan 57 = .ok (.putfield 125, 3) := by decide +kernel
theorem dX5_scan_60 : decode cX5_scan 60 = .ok (.aload_n 0, 1) := by decide +kernel
theorem dX5_scan_61 : decode cX5_scan 61 = .ok (.getfield 37, 3) := by decide +kernel
theorem dX5_scan_64 : decode cX5_scan 64 = .ok (.aload_n 0, 1) := by decide +kernel
theorem dX5_scan_65 : decode cX5_scan 65 = .ok (.getfield 34, 3) := by decide +kernel
theorem dX5_scan_68 : decode cX5_scan 68 = .ok (.if_icmp .lt 11, 3) := by decide +kernel
theorem dX5_scan_71 : decode cX5_scan 71 = .ok (.aload_n 0, 1) := by decide +kernel
theorem dX5_scan_72 : decode cX5_scan 72 = .ok (.iconst 1, 1) := by decide +kernel
theorem dX5_scan_73 : decode cX5_scan 73 = .ok (.putfield 47, 3) := by decide +kernel
theorem dX5_scan_76 : decode cX5_scan 76 = .ok (.goto 84, 3) := by decide +kernel
theorem dX5_scan_79 : decode cX5_scan 79 = .ok (.aload_n 0, 1) := by decide +kernel
theorem dX5_scan_80 : decode cX5_scan 80 = .ok (.getfield 11, 3) := by decide +kernel
theorem dX5_scan_83 : decode cX5_scan 83 = .ok (.aload_n 0, 1) := by decide +kernel
theorem dX5_scan_84 : decode cX5_scan 84 = .ok (.getfield 37, 3) := by decide +kernel
theorem dX5_scan_87 : decode cX5_scan 87 = .ok (.iaload, 1) := by decide +kernel
theorem dX5_scan_88 : decode cX5_scan 88 = .ok (.bipush 59, 2) := by decide +kernel
theorem dX5_scan_90 : decode cX5_scan 90 = .ok (.if_icmp .ne 21, 3) := by decide +kernel
theorem dX5_scan_93 : decode cX5_scan 93 = .ok (.aload_n 0, 1) := by decide +kernel
theorem dX5_scan_94 : decode cX5_scan 94 = .ok (.iconst 4, 1) := by decide +kernel
theorem dX5_scan_95 : decode cX5_scan 95 = .ok (.putfield 47, 3) := by decide +kernel
theorem dX5_scan_98 : decode cX5_scan 98 = .ok (.aload_n 0, 1) := by decide +kernel
theorem dX5_scan_99 : decode cX5_scan 99 = .ok (.dup, 1) := by decide +kernel
theorem dX5_scan_100 : decode cX5_scan 100 = .ok (.getfield 37, 3) := by decide +kernel
theorem dX5_scan_103 : decode cX5_scan 103 = .ok (.iconst 1, 1) := by decide +kernel
theorem dX5_scan_104 : decode cX5_scan 104 = .ok (.iadd, 1) := by decide +kernel
theorem dX5_scan_105 : decode cX5_scan 105 = .ok (.putfield 37, 3) := by decide +kernel
theorem dX5_scan_108 : decode cX5_scan 108 = .ok (.goto 52, 3) := by decide +kernel
theorem dX5_scan_111 : decode cX5_scan 111 = .ok (.aload_n 0, 1) := by decide +kernel
theorem dX5_scan_112 : decode cX5_scan 112 = .ok (.getfield 11, 3) := by decide +kernel
theorem dX5_scan_115 : decode cX5_scan 115 = .ok (.aload_n 0, 1) := by decide +kernel
theorem dX5_scan_116 : decode cX5_scan 116 = .ok (.getfield 37, 3) := by decide +kernel
theorem dX5_scan_119 : decode cX5_scan 119 = .ok (.iaload, 1) := by decide +kernel
theorem dX5_scan_120 : decode cX5_scan 120 = .ok (.invokestatic 128, 3) := by decide +kernel
theorem dX5_scan_123 : decode cX5_scan 123 = .ok (.ifCond .eq 10, 3) := by decide +kernel
theorem dX5_scan_126 : decode cX5_scan 126 = .ok (.aload_n 0, 1) := by decide +kernel
theorem dX5_scan_127 : decode cX5_scan 127 = .ok (.invokevirtual 131, 3) := by decide +kernel
theorem dX5_scan_130 : decode cX5_scan 130 = .ok (.goto 30, 3) := by decide +kernel
theorem dX5_scan_133 : decode cX5_scan 133 = .ok (.aload_n 0, 1) := by decide +kernel
theorem dX5_scan_134 : decode cX5_scan 134 = .ok (.getfield 11, 3) := by decide +kernel
theorem dX5_scan_137 : decode cX5_scan 137 = .ok (.aload_n 0, 1) := by decide +kernel
theorem dX5_scan_138 : decode cX5_scan 138 = .ok (.getfield 37, 3) := by decide +kernel
theorem dX5_scan_141 : decode cX5_scan 141 = .ok (.iaload, 1) := by decide +kernel
theorem dX5_scan_142 : decode cX5_scan 142 = .ok (.invokestatic 134, 3) := by decide +kernel
theorem dX5_scan_145 : decode cX5_scan 145 = .ok (.ifCond .eq 10, 3) := by decide +kernel
theorem dX5_scan_148 : decode cX5_scan 148 = .ok (.aload_n 0, 1) := by decide +kernel
theorem dX5_scan_149 : decode cX5_scan 149 = .ok (.invokevirtual 137, 3) := by decide +kernel
theorem dX5_scan_152 : decode cX5_scan 152 = .ok (.goto 8, 3) := by decide +kernel
theorem dX5_scan_155 : decode cX5_scan 155 = .ok (.aload_n 0, 1) := by decide +kernel
theorem dX5_scan_156 : decode cX5_scan 156 = .ok (.iconst 0, 1) := by decide +kernel
theorem dX5_scan_157 : decode cX5_scan 157 = .ok (.putfield 47, 3) := by decide +kernel
theorem dX5_scan_160 : decode cX5_scan 160 = .ok (.return_, 1) := by decide +kernel
theorem dX5_scanWord_0 : decode cX5_scanWord 0 = .ok (.aload_n 0, 1) := by decide +kernel
theorem dX5_scanWord_1 : decode cX5_scanWord 1 = .ok (.iconst 2, 1) := by decide +kernel
theorem dX5_scanWord_2 : decode cX5_scanWord 2 = .ok (.putfield 47, 3) := by decide +kernel
theorem dX5_scanWord_5 : decode cX5_scanWord 5 = .ok (.aload_n 0, 1) := by decide +kernel
theorem dX5_scanWord_6 : decode cX5_scanWord 6 = .ok (.getfield 37, 3) := by decide +kernel
theorem dX5_scanWord_9 : decode cX5_scanWord 9 = .ok (.aload_n 0, 1) := by decide +kernel
theorem dX5_scanWord_10 : decode cX5_scanWord 10 = .ok (.getfield 34, 3) := by decide +kernel
theorem dX5_scanWord_13 : decode cX5_scanWord 13 = .ok (.if_icmp .ge 31, 3) := by decide +kernel
theorem dX5_scanWord_16 : decode cX5_scanWord 16 = .ok (.aload_n 0, 1) := by decide +kernel
theorem dX5_scanWord_17 : decode cX5_scanWord 17 = .ok (.getfield 11, 3) := by decide +kernel
theorem dX5_scanWord_20 : decode cX5_scanWord 20 = .ok (.aload_n 0, 1) := by decide +kernel
theorem dX5_scanWord_21 : decode cX5_scanWord 21 = .ok (.getfield 37, 3) := by decide +kernel
theorem dX5_scanWord_24 : decode cX5_scanWord 24 = .ok (.iaload, 1) := by decide +kernel
theorem dX5_scanWord_25 : decode cX5_scanWord 25 = .ok (.invokestatic 128, 3) := by decide +kernel
theorem dX5_scanWord_28 : decode cX5_scanWord 28 = .ok (.ifCond .eq 16, 3) := by decide +kernel
theorem dX5_scanWord_31 : decode cX5_scanWord 31 = .ok (.aload_n 0, 1) := by decide +kernel
theorem dX5_scanWord_32 : decode cX5_scanWord 32 = .ok (.dup, 1) := by decide +kernel
theorem dX5_scanWord_33 : decode cX5_scanWord 33 = .ok (.getfield 37, 3) := by decide +kernel
theorem dX5_scanWord_36 : decode cX5_scanWord 36 = .ok (.iconst 1, 1) := by decide +kernel
theorem dX5_scanWord_37 : decode cX5_scanWord 37 = .ok (.iadd, 1) := by decide +kernel
theorem dX5_scanWord_38 : decode cX5_scanWord 38 = .ok (.putfield 37, 3) := by decide +kernel
theorem dX5_scanWord_41 : decode cX5_scanWord 41 = .ok (.goto (-36), 3) := by decide +kernel
theorem dX5_scanWord_44 : decode cX5_scanWord 44 = .ok (.return_, 1) := by decide +kernel
theorem dX5_scanNumber_0 : decode cX5_scanNumber 0 = .ok (.aload_n 0, 1) := by decide +kernel
theorem dX5_scanNumber_1 : decode cX5_scanNumber 1 = .ok (.iconst 0, 1) := by decide +kernel
theorem dX5_scanNumber_2 : decode cX5_scanNumber 2 = .ok (.putfield 70, 3) := by decide +kernel
theorem dX5_scanNumber_5 : decode cX5_scanNumber 5 = .ok (.aload_n 0, 1) := by decide +kernel
theorem dX5_scanNumber_6 : decode cX5_scanNumber 6 = .ok (.getfield 37, 3) := by decide +kernel
theorem dX5_scanNumber_9 : decode cX5_scanNumber 9 = .ok (.aload_n 0, 1) := by decide +kernel
theorem dX5_scanNumber_10 : decode cX5_scanNumber 10 = .ok (.getfield 34, 3) := by decide +kernel
theorem dX5_scanNumber_13 : decode cX5_scanNumber 13 = .ok (.if_icmp .ge 55, 3) := by decide +kernel
theorem dX5_scanNumber_16 : decode cX5_scanNumber 16 = .ok (.aload_n 0, 1) := by decide +kernel
theorem dX5_scanNumber_17 : decode cX5_scanNumber 17 = .ok (.getfield 11, 3) := by decide +kernel
theorem dX5_scanNumber_20 : decode cX5_scanNumber 20 = .ok (.aload_n 0, 1) := by decide +kernel
theorem dX5_scanNumber_21 : decode cX5_scanNumber 21 = .ok (.getfield 37, 3) := by decide +kernel
theorem dX5_scanNumber_24 : decode cX5_scanNumber 24 = .ok (.iaload, 1) := by decide +kernel
theorem dX5_scanNumber_25 : decode cX5_scanNumber 25 = .ok (.invokestatic 134, 3) := by decide +kernel
theorem dX5_scanNumber_28 : decode cX5_scanNumber 28 = .ok (.ifCond .eq 40, 3) := by decide +kernel
theorem dX5_scanNumber_31 : decode cX5_scanNumber 31 = .ok (.aload_n 0, 1) := by decide +kernel
theorem dX5_scanNumber_32 : decode cX5_scanNumber 32 = .ok (.aload_n 0, 1) := by decide +kernel
theorem dX5_scanNumber_33 : decode cX5_scanNumber 33 = .ok (.getfield 70, 3) := by decide +kernel
theorem dX5_scanNumber_36 : decode cX5_scanNumber 36 = .ok (.bipush 10, 2) := by decide +kernel
theorem dX5_scanNumber_38 : decode cX5_scanNumber 38 = .ok (.imul, 1) := by decide +kernel
theorem dX5_scanNumber_39 : decode cX5_scanNumber 39 = .ok (.aload_n 0, 1) := by decide +kernel
theorem dX5_scanNumber_40 : decode cX5_scanNumber 40 = .ok (.getfield 11, 3) := by decide +kernel
theorem dX5_scanNumber_43 : decode cX5_scanNumber 43 = .ok (.aload_n 0, 1) := by decide +kernel
theorem dX5_scanNumber_44 : decode cX5_scanNumber 44 = .ok (.getfield 37, 3) := by decide +kernel
theorem dX5_scanNumber_47 : decode cX5_scanNumber 47 = .ok (.iaload, 1) := by decide +kernel
theorem dX5_scanNumber_48 : decode cX5_scanNumber 48 = .ok (.iadd, 1) := by decide +kernel
theorem dX5_scanNumber_49 : decode cX5_scanNumber 49 = .ok (.bipush 48, 2) := by decide +kernel
theorem dX5_scanNumber_51 : decode cX5_scanNumber 51 = .ok (.isub, 1) := by decide +kernel
theorem dX5_scanNumber_52 : decode cX5_scanNumber 52 = .ok (.putfield 70, 3) := by decide +kernel
theorem dX5_scanNumber_55 : decode cX5_scanNumber 55 = .ok (.aload_n 0, 1) := by decide +kernel
theorem dX5_scanNumber_56 : decode cX5_scanNumber 56 = .ok (.dup, 1) := by decide +kernel
theorem dX5_scanNumber_57 : decode cX5_scanNumber 57 = .ok (.getfield 37, 3) := by decide +kernel
theorem dX5_scanNumber_60 : decode cX5_scanNumber 60 = .ok (.iconst 1, 1) := by decide +kernel
theorem dX5_scanNumber_61 : decode cX5_scanNumber 61 = .ok (.iadd, 1) := by decide +kernel
theorem dX5_scanNumber_62 : decode cX5_scanNumber 62 = .ok (.putfield 37, 3) := by decide +kernel
theorem dX5_scanNumber_65 : decode cX5_scanNumber 65 = .ok (.goto (-60), 3) := by decide +kernel
theorem dX5_scanNumber_68 : decode cX5_scanNumber 68 = .ok (.aload_n 0, 1) := by decide +kernel
theorem dX5_scanNumber_69 : decode cX5_scanNumber 69 = .ok (.aload_n 0, 1) := by decide +kernel
theorem dX5_scanNumber_70 : decode cX5_scanNumber 70 = .ok (.getfield 37, 3) := by decide +kernel
theorem dX5_scanNumber_73 : decode cX5_scanNumber 73 = .ok (.aload_n 0, 1) := by decide +kernel
theorem dX5_scanNumber_74 : decode cX5_scanNumber 74 = .ok (.getfield 125, 3) := by decide +kernel
theorem dX5_scanNumber_77 : decode cX5_scanNumber 77 = .ok (.isub, 1) := by decide +kernel
theorem dX5_scanNumber_78 : decode cX5_scanNumber 78 = .ok (.iconst 3, 1) := by decide +kernel
theorem dX5_scanNumber_79 : decode cX5_scanNumber 79 = .ok (.if_icmp .gt 7, 3) := by decide +kernel
theorem dX5_scanNumber_82 : decode cX5_scanNumber 82 = .ok (.iconst 3, 1) := by decide +kernel
theorem dX5_scanNumber_83 : decode cX5_scanNumber 83 = .ok (.goto 4, 3) := by decide +kernel
theorem dX5_scanNumber_86 : decode cX5_scanNumber 86 = .ok (.iconst 0, 1) := by decide +kernel
theorem dX5_scanNumber_87 : decode cX5_scanNumber 87 = .ok (.putfield 47, 3) := by decide +kernel
theorem dX5_scanNumber_90 : decode cX5_scanNumber 90 = .ok (.return_, 1) := by decide +kernel
theorem dX5_isWord_0 : decode cX5_isWord 0 = .ok (.aload_n 0, 1) := by decide +kernel
theorem dX5_isWord_1 : decode cX5_isWord 1 = .ok (.getfield 37, 3) := by decide +kernel
theorem dX5_isWord_4 : decode cX5_isWord 4 = .ok (.aload_n 0, 1) := by decide +kernel
theorem dX5_isWord_5 : decode cX5_isWord 5 = .ok (.getfield 125, 3) := by decide +kernel
theorem dX5_isWord_8 : decode cX5_isWord 8 = .ok (.isub, 1) := by decide +kernel
theorem dX5_isWord_9 : decode cX5_isWord 9 = .ok (.aload_n 1, 1) := by decide +kernel
theorem dX5_isWord_10 : decode cX5_isWord 10 = .ok (.invokevirtual 140, 3) := by decide +kernel
theorem dX5_isWord_13 : decode cX5_isWord 13 = .ok (.if_icmp .ne 7, 3) := by decide +kernel
theorem dX5_isWord_16 : decode cX5_isWord 16 = .ok (.iconst 1, 1) := by decide +kernel
theorem dX5_isWord_17 : decode cX5_isWord 17 = .ok (.goto 4, 3) := by decide +kernel
theorem dX5_isWord_20 : decode cX5_isWord 20 = .ok (.iconst 0, 1) := by decide +kernel
theorem dX5_isWord_21 : decode cX5_isWord 21 = .ok (.istore_n 2, 1) := by decide +kernel
theorem dX5_isWord_22 : decode cX5_isWord 22 = .ok (.iconst 0, 1) := by decide +kernel
theorem dX5_isWord_23 : decode cX5_isWord 23 = .ok (.istore_n 3, 1) := by decide +kernel
theorem dX5_isWord_24 : decode cX5_isWord 24 = .ok (.iload_n 2, 1) := by decide +kernel
theorem dX5_isWord_25 : decode cX5_isWord 25 = .ok (.ifCond .eq 42, 3) := by decide +kernel
theorem dX5_isWord_28 : decode cX5_isWord 28 = .ok (.iload_n 3, 1) := by decide +kernel
theorem dX5_isWord_29 : decode cX5_isWord 29 = .ok (.aload_n 1, 1) := by decide +kernel
theorem dX5_isWord_30 : decode cX5_isWord 30 = .ok (.invokevirtual 140, 3) := by decide +kernel
theorem dX5_isWord_33 : decode cX5_isWord 33 = .ok (.if_icmp .ge 34, 3) := by decide +kernel
theorem dX5_isWord_36 : decode cX5_isWord 36 = .ok (.aload_n 0, 1) := by decide +kernel
theorem dX5_isWord_37 : decode cX5_isWord 37 = .ok (.getfield 11, 3) := by decide +kernel
theorem dX5_isWord_40 : decode cX5_isWord 40 = .ok (.aload_n 0, 1) := by decide +kernel
theorem dX5_isWord_41 : decode cX5_isWord 41 = .ok (.getfield 125, 3) := by decide +kernel
theorem dX5_isWord_44 : decode cX5_isWord 44 = .ok (.iload_n 3, 1) := by decide +kernel
theorem dX5_isWord_45 : decode cX5_isWord 45 = .ok (.iadd, 1) := by decide +kernel
theorem dX5_isWord_46 : decode cX5_isWord 46 = .ok (.iaload, 1) := by decide +kernel
theorem dX5_isWord_47 : decode cX5_isWord 47 = .ok (.aload_n 1, 1) := by decide +kernel
theorem dX5_isWord_48 : decode cX5_isWord 48 = .ok (.iload_n 3, 1) := by decide +kernel
theorem dX5_isWord_49 : decode cX5_isWord 49 = .ok (.invokevirtual 146, 3) := by decide +kernel
theorem dX5_isWord_52 : decode cX5_isWord 52 = .ok (.if_icmp .ne 7, 3) := by decide +kernel
theorem dX5_isWord_55 : decode cX5_isWord 55 = .ok (.iconst 1, 1) := by decide +kernel
theorem dX5_isWord_56 : decode cX5_isWord 56 = .ok (.goto 4, 3) := by decide +kernel
theorem dX5_isWord_59 : decode cX5_isWord 59 = .ok (.iconst 0, 1) := by decide +kernel
theorem dX5_isWord_60 : decode cX5_isWord 60 = .ok (.istore_n 2, 1) := by decide +kernel
theorem dX5_isWord_61 : decode cX5_isWord 61 = .ok (.iinc 3 1, 3) := by decide +kernel
theorem dX5_isWord_64 : decode cX5_isWord 64 = .ok (.goto (-40), 3) := by decide +kernel
theorem dX5_isWord_67 : decode cX5_isWord 67 = .ok (.iload_n 2, 1) := by decide +kernel
theorem dX5_isWord_68 : decode cX5_isWord 68 = .ok (.ireturn, 1) := by decide +kernel
theorem dX5_isSmallLetter_0 : decode cX5_isSmallLetter 0 = .ok (.iload_n 0, 1) := by decide +kernel
theorem dX5_isSmallLetter_1 : decode cX5_isSmallLetter 1 = .ok (.bipush 97, 2) := by decide +kernel
theorem dX5_isSmallLetter_3 : decode cX5_isSmallLetter 3 = .ok (.if_icmp .lt 13, 3) := by decide +kernel
theorem dX5_isSmallLetter_6 : decode cX5_isSmallLetter 6 = .ok (.iload_n 0, 1) := by decide +kernel
theorem dX5_isSmallLetter_7 : decode cX5_isSmallLetter 7 = .ok (.bipush 122, 2) := by decide +kernel
theorem dX5_isSmallLetter_9 : decode cX5_isSmallLetter 9 = .ok (.if_icmp .gt 7, 3) := by decide +kernel
theorem dX5_isSmallLetter_12 : decode cX5_isSmallLetter 12 = .ok (.iconst 1, 1) := by decide +kernel
theorem dX5_isSmallLetter_13 : decode cX5_isSmallLetter 13 = .ok (.goto 4, 3) := by decide +kernel
theorem dX5_isSmallLetter_16 : decode cX5_isSmallLetter 16 = .ok (.iconst 0, 1) := by decide +kernel
theorem dX5_isSmallLetter_17 : decode cX5_isSmallLetter 17 = .ok (.ireturn, 1) := by decide +kernel
theorem dX5_isDigit_0 : decode cX5_isDigit 0 = .ok (.iload_n 0, 1) := by decide +kernel
theorem dX5_isDigit_1 : decode cX5_isDigit 1 = .ok (.bipush 48, 2) := by decide +kernel
theorem dX5_isDigit_3 : decode cX5_isDigit 3 = .ok (.if_icmp .lt 13, 3) := by decide +kernel
theorem dX5_isDigit_6 : decode cX5_isDigit 6 = .ok (.iload_n 0, 1) := by decide +kernel
theorem dX5_isDigit_7 : decode cX5_isDigit 7 = .ok (.bipush 57, 2) := by decide +kernel
theorem dX5_isDigit_9 : decode cX5_isDigit 9 = .ok (.if_icmp .gt 7, 3) := by decide +kernel
theorem dX5_isDigit_12 : decode cX5_isDigit 12 = .ok (.iconst 1, 1) := by decide +kernel
theorem dX5_isDigit_13 : decode cX5_isDigit 13 = .ok (.goto 4, 3) := by decide +kernel
theorem dX5_isDigit_16 : decode cX5_isDigit 16 = .ok (.iconst 0, 1) := by decide +kernel
theorem dX5_isDigit_17 : decode cX5_isDigit 17 = .ok (.ireturn, 1) := by decide +kernel
theorem dX6_init_0 : decode cX6_init 0 = .ok (.aload_n 0, 1) := by decide +kernel
theorem dX6_init_1 : decode cX6_init 1 = .ok (.invokespecial 3, 3) := by decide +kernel
theorem dX6_init_4 : decode cX6_init 4 = .ok (.aload_n 0, 1) := by decide +kernel
theorem dX6_init_5 : decode cX6_init 5 = .ok (.iconst 4, 1) := by decide +kernel
theorem dX6_init_6 : decode cX6_init 6 = .ok (.newarray .int, 2) := by decide +kernel
theorem dX6_init_8 : decode cX6_init 8 = .ok (.putfield 9, 3) := by decide +kernel
theorem dX6_init_11 : decode cX6_init 11 = .ok (.aload_n 0, 1) := by decide +kernel
theorem dX6_init_12 : decode cX6_init 12 = .ok (.iconst 4, 1) := by decide +kernel
theorem dX6_init_13 : decode cX6_init 13 = .ok (.newarray .int, 2) := by decide +kernel
theorem dX6_init_15 : decode cX6_init 15 = .ok (.putfield 15, 3) := by decide +kernel
theorem dX6_init_18 : decode cX6_init 18 = .ok (.return_, 1) := by decide +kernel
theorem dX6_hasTold_0 : decode cX6_hasTold 0 = .ok (.aload_n 0, 1) := by decide +kernel
theorem dX6_hasTold_1 : decode cX6_hasTold 1 = .ok (.getfield 9, 3) := by decide +kernel
theorem dX6_hasTold_4 : decode cX6_hasTold 4 = .ok (.iload_n 1, 1) := by decide +kernel
theorem dX6_hasTold_5 : decode cX6_hasTold 5 = .ok (.iaload, 1) := by decide +kernel
theorem dX6_hasTold_6 : decode cX6_hasTold 6 = .ok (.iconst (-1), 1) := by decide +kernel
theorem dX6_hasTold_7 : decode cX6_hasTold 7 = .ok (.if_icmp .eq 7, 3) := by decide +kernel
theorem dX6_hasTold_10 : decode cX6_hasTold 10 = .ok (.iconst 1, 1) := by decide +kernel
theorem dX6_hasTold_11 : decode cX6_hasTold 11 = .ok (.goto 4, 3) := by decide +kernel
theorem dX6_hasTold_14 : decode cX6_hasTold 14 = .ok (.iconst 0, 1) := by decide +kernel
theorem dX6_hasTold_15 : decode cX6_hasTold 15 = .ok (.ireturn, 1) := by decide +kernel
theorem dX6_haveAllTold_0 : decode cX6_haveAllTold 0 = .ok (.aload_n 0, 1) := by decide +kernel
theorem dX6_haveAllTold_1 : decode cX6_haveAllTold 1 = .ok (.iconst 0, 1) := by decide +kernel
theorem dX6_haveAllTold_2 : decode cX6_haveAllTold 2 = .ok (.invokevirtual 18, 3) := by decide +kernel
theorem dX6_haveAllTold_5 : decode cX6_haveAllTold 5 = .ok (.ifCond .eq 31, 3) := by decide +kernel
theorem dX6_haveAllTold_8 : decode cX6_haveAllTold 8 = .ok (.aload_n 0, 1) := by decide +kernel
theorem dX6_haveAllTold_9 : decode cX6_haveAllTold 9 = .ok (.iconst 1, 1) := by decide +kernel
theorem dX6_haveAllTold_10 : decode cX6_haveAllTold 10 = .ok (.invokevirtual 18, 3) := by decide +kernel
theorem dX6_haveAllTold_13 : decode cX6_haveAllTold 13 = .ok (.ifCond .eq 23, 3) := by decide +kernel
theorem dX6_haveAllTold_16 : decode cX6_haveAllTold 16 = .ok (.aload_n 0, 1) := by decide +kernel
theorem dX6_haveAllTold_17 : decode cX6_haveAllTold 17 = .ok (.iconst 2, 1) := by decide +kernel
theorem dX6_haveAllTold_18 : decode cX6_haveAllTold 18 = .ok (.invokevirtual 18, 3) := by decide +kernel
theorem dX6_haveAllTold_21 : decode cX6_haveAllTold 21 = .ok (.ifCond .eq 15, 3) := by decide +kernel
theorem dX6_haveAllTold_24 : decode cX6_haveAllTold 24 = .ok (.aload_n 0, 1) := by decide +kernel
theorem dX6_haveAllTold_25 : decode cX6_haveAllTold 25 = .ok (.iconst 3, 1) := by decide +kernel
theorem dX6_haveAllTold_26 : decode cX6_haveAllTold 26 = .ok (.invokevirtual 18, 3) := by decide +kernel
theorem dX6_haveAllTold_29 : decode cX6_haveAllTold 29 = .ok (.ifCond .eq 7, 3) := by decide +kernel
theorem dX6_haveAllTold_32 : decode cX6_haveAllTold 32 = .ok (.iconst 1, 1) := by decide +kernel
theorem dX6_haveAllTold_33 : decode cX6_haveAllTold 33 = .ok (.goto 4, 3) := by decide +kernel
theorem dX6_haveAllTold_36 : decode cX6_haveAllTold 36 = .ok (.iconst 0, 1) := by decide +kernel
theorem dX6_haveAllTold_37 : decode cX6_haveAllTold 37 = .ok (.ireturn, 1) := by decide +kernel
theorem dX6_fewestSignals_0 : decode cX6_fewestSignals 0 = .ok (.iconst (-1), 1) := by decide +kernel
theorem dX6_fewestSignals_1 : decode cX6_fewestSignals 1 = .ok (.istore_n 1, 1) := by decide +kernel
theorem dX6_fewestSignals_2 : decode cX6_fewestSignals 2 = .ok (.iconst 0, 1) := by decide +kernel
theorem dX6_fewestSignals_3 : decode cX6_fewestSignals 3 = .ok (.istore_n 2, 1) := by decide +kernel
theorem dX6_fewestSignals_4 : decode cX6_fewestSignals 4 = .ok (.iload_n 2, 1) := by decide +kernel
theorem dX6_fewestSignals_5 : decode cX6_fewestSignals 5 = .ok (.iconst 4, 1) := by decide +kernel
theorem dX6_fewestSignals_6 : decode cX6_fewestSignals 6 = .ok (.if_icmp .ge 39, 3) := by decide +kernel
theorem dX6_fewestSignals_9 : decode cX6_fewestSignals 9 = .ok (.aload_n 0, 1) := by decide +kernel
theorem dX6_fewestSignals_10 : decode cX6_fewestSignals 10 = .ok (.iload_n 2, 1) := by decide +kernel
theorem dX6_fewestSignals_11 : decode cX6_fewestSignals 11 = .ok (.invokevirtual 18, 3) := by decide +kernel
theorem dX6_fewestSignals_14 : decode cX6_fewestSignals 14 = .ok (.ifCond .eq 25, 3) := by decide +kernel
theorem dX6_fewestSignals_17 : decode cX6_fewestSignals 17 = .ok (.iload_n 1, 1) := by decide +kernel
theorem dX6_fewestSignals_18 : decode cX6_fewestSignals 18 = .ok (.iconst (-1), 1) := by decide +kernel
theorem dX6_fewestSignals_19 : decode cX6_fewestSignals 19 = .ok (.if_icmp .eq 18, 3) := by decide +kernel
theorem dX6_fewestSignals_22 : decode cX6_fewestSignals 22 = .ok (.aload_n 0, 1) := by decide +kernel
theorem dX6_fewestSignals_23 : decode cX6_fewestSignals 23 = .ok (.getfield 15, 3) := by decide +kernel
theorem dX6_fewestSignals_26 : decode cX6_fewestSignals 26 = .ok (.iload_n 2, 1) := by decide +kernel
theorem dX6_fewestSignals_27 : decode cX6_fewestSignals 27 = .ok (.iaload, 1) := by decide +kernel
theorem dX6_fewestSignals_28 : decode cX6_fewestSignals 28 = .ok (.aload_n 0, 1) := by decide +kernel
theorem dX6_fewestSignals_29 : decode cX6_fewestSignals 29 = .ok (.getfield 15, 3) := by decide +kernel
theorem dX6_fewestSignals_32 : decode cX6_fewestSignals 32 = .ok (.iload_n 1, 1) := by decide +kernel
theorem dX6_fewestSignals_33 : decode cX6_fewestSignals 33 = .ok (.iaload, 1) := by decide +kernel
theorem dX6_fewestSignals_34 : decode cX6_fewestSignals 34 = .ok (.if_icmp .ge 5, 3) := by decide +kernel
theorem dX6_fewestSignals_37 : decode cX6_fewestSignals 37 = .ok (.iload_n 2, 1) := by decide +kernel
theorem dX6_fewestSignals_38 : decode cX6_fewestSignals 38 = .ok (.istore_n 1, 1) := by decide +kernel
theorem dX6_fewestSignals_39 : decode cX6_fewestSignals 39 = .ok (.iinc 2 1, 3) := by decide +kernel
theorem dX6_fewestSignals_42 : decode cX6_fewestSignals 42 = .ok (.goto (-38), 3) := by decide +kernel
theorem dX6_fewestSignals_45 : decode cX6_fewestSignals 45 = .ok (.iload_n 1, 1) := by decide +kernel
theorem dX6_fewestSignals_46 : decode cX6_fewestSignals 46 = .ok (.ireturn, 1) := by decide +kernel
theorem dX6_allFourAlike_0 : decode cX6_allFourAlike 0 = .ok (.aload_n 0, 1) := by decide +kernel
theorem dX6_allFourAlike_1 : decode cX6_allFourAlike 1 = .ok (.getfield 22, 3) := by decide +kernel
theorem dX6_allFourAlike_4 : decode cX6_allFourAlike 4 = .ok (.ifCond .eq 40, 3) := by decide +kernel
theorem dX6_allFourAlike_7 : decode cX6_allFourAlike 7 = .ok (.aload_n 0, 1) := by decide +kernel
theorem dX6_allFourAlike_8 : decode cX6_allFourAlike 8 = .ok (.getfield 26, 3) := by decide +kernel
theorem dX6_allFourAlike_11 : decode cX6_allFourAlike 11 = .ok (.aload_n 0, 1) := by decide +kernel
theorem dX6_allFourAlike_12 : decode cX6_allFourAlike 12 = .ok (.getfield 30, 3) := by decide +kernel
theorem dX6_allFourAlike_15 : decode cX6_allFourAlike 15 = .ok (.if_icmp .ne 29, 3) := by decide +kernel
theorem dX6_allFourAlike_18 : decode cX6_allFourAlike 18 = .ok (.aload_n 0, 1) := by decide +kernel
theorem dX6_allFourAlike_19 : decode cX6_allFourAlike 19 = .ok (.getfield 26, 3) := by decide +kernel
theorem dX6_allFourAlike_22 : decode cX6_allFourAlike 22 = .ok (.aload_n 0, 1) := by decide +kernel
theorem dX6_allFourAlike_23 : decode cX6_allFourAlike 23 = .ok (.getfield 33, 3) := by decide +kernel
theorem dX6_allFourAlike_26 : decode cX6_allFourAlike 26 = .ok (.if_icmp .ne 18, 3) := by decide +kernel
theorem dX6_allFourAlike_29 : decode cX6_allFourAlike 29 = .ok (.aload_n 0, 1) := by decide +kernel
theorem dX6_allFourAlike_30 : decode cX6_allFourAlike 30 = .ok (.getfield 26, 3) := by decide +kernel
theorem dX6_allFourAlike_33 : decode cX6_allFourAlike 33 = .ok (.aload_n 0, 1) := by decide +kernel
theorem dX6_allFourAlike_34 : decode cX6_allFourAlike 34 = .ok (.getfield 36, 3) := by decide +kernel
theorem dX6_allFourAlike_37 : decode cX6_allFourAlike 37 = .ok (.if_icmp .ne 7, 3) := by decide +kernel
theorem dX6_allFourAlike_40 : decode cX6_allFourAlike 40 = .ok (.iconst 1, 1) := by decide +kernel
theorem dX6_allFourAlike_41 : decode cX6_allFourAlike 41 = .ok (.goto 4, 3) := by decide +kernel
theorem dX6_allFourAlike_44 : decode cX6_allFourAlike 44 = .ok (.iconst 0, 1) := by decide +kernel
theorem dX6_allFourAlike_45 : decode cX6_allFourAlike 45 = .ok (.ireturn, 1) := by decide +kernel
theorem dX6_renewWave_0 : decode cX6_renewWave 0 = .ok (.aload_n 0, 1) := by decide +kernel
theorem dX6_renewWave_1 : decode cX6_renewWave 1 = .ok (.getfield 39, 3) := by decide +kernel
theorem dX6_renewWave_4 : decode cX6_renewWave 4 = .ok (.ifCond .ne 24, 3) := by decide +kernel
theorem dX6_renewWave_7 : decode cX6_renewWave 7 = .ok (.aload_n 0, 1) := by decide +kernel
theorem dX6_renewWave_8 : decode cX6_renewWave 8 = .ok (.iconst 1, 1) := by decide +kernel
theorem dX6_renewWave_9 : decode cX6_renewWave 9 = .ok (.putfield 22, 3) := by decide +kernel
theorem dX6_renewWave_12 : decode cX6_renewWave 12 = .ok (.aload_n 0, 1) := by decide +kernel
theorem dX6_renewWave_13 : decode cX6_renewWave 13 = .ok (.aload_n 0, 1) := by decide +kernel
theorem dX6_renewWave_14 : decode cX6_renewWave 14 = .ok (.getfield 26, 3) := by decide +kernel
theorem dX6_renewWave_17 : decode cX6_renewWave 17 = .ok (.putfield 33, 3) := by decide +kernel
theorem dX6_renewWave_20 : decode cX6_renewWave 20 = .ok (.aload_n 0, 1) := by decide +kernel
theorem dX6_renewWave_21 : decode cX6_renewWave 21 = .ok (.aload_n 0, 1) := by decide +kernel
theorem dX6_renewWave_22 : decode cX6_renewWave 22 = .ok (.getfield 30, 3) := by decide +kernel
theorem dX6_renewWave_25 : decode cX6_renewWave 25 = .ok (.putfield 36, 3) := by decide +kernel
theorem dX6_renewWave_28 : decode cX6_renewWave 28 = .ok (.aload_n 0, 1) := by decide +kernel
theorem dX6_renewWave_29 : decode cX6_renewWave 29 = .ok (.iconst 0, 1) := by decide +kernel
theorem dX6_renewWave_30 : decode cX6_renewWave 30 = .ok (.putfield 39, 3) := by decide +kernel
theorem dX6_renewWave_33 : decode cX6_renewWave 33 = .ok (.aload_n 0, 1) := by decide +kernel
theorem dX6_renewWave_34 : decode cX6_renewWave 34 = .ok (.iload_n 1, 1) := by decide +kernel
theorem dX6_renewWave_35 : decode cX6_renewWave 35 = .ok (.putfield 26, 3) := by decide +kernel
theorem dX6_renewWave_38 : decode cX6_renewWave 38 = .ok (.aload_n 0, 1) := by decide +kernel
theorem dX6_renewWave_39 : decode cX6_renewWave 39 = .ok (.iload_n 2, 1) := by decide +kernel
theorem dX6_renewWave_40 : decode cX6_renewWave 40 = .ok (.putfield 30, 3) := by decide +kernel
theorem dX6_renewWave_43 : decode cX6_renewWave 43 = .ok (.aload_n 0, 1) := by decide +kernel
theorem dX6_renewWave_44 : decode cX6_renewWave 44 = .ok (.dup, 1) := by decide +kernel
theorem dX6_renewWave_45 : decode cX6_renewWave 45 = .ok (.getfield 42, 3) := by decide +kernel
theorem dX6_renewWave_48 : decode cX6_renewWave 48 = .ok (.iconst 1, 1) := by decide +kernel
theorem dX6_renewWave_49 : decode cX6_renewWave 49 = .ok (.iadd, 1) := by decide +kernel
theorem dX6_renewWave_50 : decode cX6_renewWave 50 = .ok (.putfield 42, 3) := by decide +kernel
theorem dX6_renewWave_53 : decode cX6_renewWave 53 = .ok (.return_, 1) := by decide +kernel
theorem dX6_renewRound_0 : decode cX6_renewRound 0 = .ok (.aload_n 0, 1) := by decide +kernel
theorem dX6_renewRound_1 : decode cX6_renewRound 1 = .ok (.iconst 0, 1) := by decide +kernel
theorem dX6_renewRound_2 : decode cX6_renewRound 2 = .ok (.putfield 45, 3) := by decide +kernel
theorem dX6_renewRound_5 : decode cX6_renewRound 5 = .ok (.aload_n 0, 1) := by decide +kernel
theorem dX6_renewRound_6 : decode cX6_renewRound 6 = .ok (.iconst 0, 1) := by decide +kernel
theorem dX6_renewRound_7 : decode cX6_renewRound 7 = .ok (.putfield 48, 3) := by decide +kernel
theorem dX6_renewRound_10 : decode cX6_renewRound 10 = .ok (.aload_n 0, 1) := by decide +kernel
theorem dX6_renewRound_11 : decode cX6_renewRound 11 = .ok (.iconst 0, 1) := by decide +kernel
theorem dX6_renewRound_12 : decode cX6_renewRound 12 = .ok (.putfield 51, 3) := by decide +kernel
theorem dX6_renewRound_15 : decode cX6_renewRound 15 = .ok (.aload_n 0, 1) := by decide +kernel
theorem dX6_renewRound_16 : decode cX6_renewRound 16 = .ok (.dup, 1) := by decide +kernel
theorem dX6_renewRound_17 : decode cX6_renewRound 17 = .ok (.getfield 54, 3) := by decide +kernel
theorem dX6_renewRound_20 : decode cX6_renewRound 20 = .ok (.iconst 1, 1) := by decide +kernel
theorem dX6_renewRound_21 : decode cX6_renewRound 21 = .ok (.iadd, 1) := by decide +kernel
theorem dX6_renewRound_22 : decode cX6_renewRound 22 = .ok (.putfield 54, 3) := by decide +kernel
theorem dX6_renewRound_25 : decode cX6_renewRound 25 = .ok (.return_, 1) := by decide +kernel
theorem dX6_clear_0 : decode cX6_clear 0 = .ok (.aload_n 0, 1) := by decide +kernel
theorem dX6_clear_1 : decode cX6_clear 1 = .ok (.getfield 9, 3) := by decide +kernel
theorem dX6_clear_4 : decode cX6_clear 4 = .ok (.iconst (-1), 1) := by decide +kernel
theorem dX6_clear_5 : decode cX6_clear 5 = .ok (.invokestatic 57, 3) := by decide +kernel
theorem dX6_clear_8 : decode cX6_clear 8 = .ok (.aload_n 0, 1) := by decide +kernel
theorem dX6_clear_9 : decode cX6_clear 9 = .ok (.getfield 15, 3) := by decide +kernel
theorem dX6_clear_12 : decode cX6_clear 12 = .ok (.iconst 0, 1) := by decide +kernel
theorem dX6_clear_13 : decode cX6_clear 13 = .ok (.invokestatic 57, 3) := by decide +kernel
theorem dX6_clear_16 : decode cX6_clear 16 = .ok (.aload_n 0, 1) := by decide +kernel
theorem dX6_clear_17 : decode cX6_clear 17 = .ok (.iconst 0, 1) := by decide +kernel
theorem dX6_clear_18 : decode cX6_clear 18 = .ok (.putfield 63, 3) := by decide +kernel
theorem dX6_clear_21 : decode cX6_clear 21 = .ok (.aload_n 0, 1) := by decide +kernel
theorem dX6_clear_22 : decode cX6_clear 22 = .ok (.iconst 0, 1) := by decide +kernel
theorem dX6_clear_23 : decode cX6_clear 23 = .ok (.putfield 66, 3) := by decide +kernel
theorem dX6_clear_26 : decode cX6_clear 26 = .ok (.aload_n 0, 1) := by decide +kernel
theorem dX6_clear_27 : decode cX6_clear 27 = .ok (.iconst 0, 1) := by decide +kernel
theorem dX6_clear_28 : decode cX6_clear 28 = .ok (.putfield 48, 3) := by decide +kernel
theorem dX6_clear_31 : decode cX6_clear 31 = .ok (.aload_n 0, 1) := by decide +kernel
theorem dX6_clear_32 : decode cX6_clear 32 = .ok (.iconst 0, 1) := by decide +kernel
theorem dX6_clear_33 : decode cX6_clear 33 = .ok (.putfield 45, 3) := by decide +kernel
theorem dX6_clear_36 : decode cX6_clear 36 = .ok (.aload_n 0, 1) := by decide +kernel
theorem dX6_clear_37 : decode cX6_clear 37 = .ok (.iconst 1, 1) := by decide +kernel
theorem dX6_clear_38 : decode cX6_clear 38 = .ok (.putfield 51, 3) := by decide +kernel
theorem dX6_clear_41 : decode cX6_clear 41 = .ok (.aload_n 0, 1) := by decide +kernel
theorem dX6_clear_42 : decode cX6_clear 42 = .ok (.iconst 0, 1) := by decide +kernel
theorem dX6_clear_43 : decode cX6_clear 43 = .ok (.putfield 54, 3) := by decide +kernel
theorem dX6_clear_46 : decode cX6_clear 46 = .ok (.aload_n 0, 1) := by decide +kernel
theorem dX6_clear_47 : decode cX6_clear 47 = .ok (.iconst 0, 1) := by decide +kernel
theorem dX6_clear_48 : decode cX6_clear 48 = .ok (.putfield 69, 3) := by decide +kernel
theorem dX6_clear_51 : decode cX6_clear 51 = .ok (.aload_n 0, 1) := by decide +kernel
theorem dX6_clear_52 : decode cX6_clear 52 = .ok (.iconst 0, 1) := by decide +kernel
theorem dX6_clear_53 : decode cX6_clear 53 = .ok (.putfield 72, 3) := by decide +kernel
theorem dX6_clear_56 : decode cX6_clear 56 = .ok (.aload_n 0, 1) := by decide +kernel
theorem dX6_clear_57 : decode cX6_clear 57 = .ok (.iconst 0, 1) := by decide +kernel
theorem dX6_clear_58 : decode cX6_clear 58 = .ok (.putfield 75, 3) := by decide +kernel
theorem dX6_clear_61 : decode cX6_clear 61 = .ok (.aload_n 0, 1) := by decide +kernel
theorem dX6_clear_62 : decode cX6_clear 62 = .ok (.iconst 0, 1) := by decide +kernel
theorem dX6_clear_63 : decode cX6_clear 63 = .ok (.putfield 78, 3) := by decide +kernel
theorem dX6_clear_66 : decode cX6_clear 66 = .ok (.aload_n 0, 1) := by decide +kernel
theorem dX6_clear_67 : decode cX6_clear 67 = .ok (.iconst 0, 1) := by decide +kernel
theorem dX6_clear_68 : decode cX6_clear 68 = .ok (.putfield 26, 3) := by decide +kernel
theorem dX6_clear_71 : decode cX6_clear 71 = .ok (.aload_n 0, 1) := by decide +kernel
theorem dX6_clear_72 : decode cX6_clear 72 = .ok (.iconst 0, 1) := by decide +kernel
theorem dX6_clear_73 : decode cX6_clear 73 = .ok (.putfield 30, 3) := by decide +kernel
theorem dX6_clear_76 : decode cX6_clear 76 = .ok (.aload_n 0, 1) := by decide +kernel
theorem dX6_clear_77 : decode cX6_clear 77 = .ok (.iconst 1, 1) := by decide +kernel
theorem dX6_clear_78 : decode cX6_clear 78 = .ok (.putfield 39, 3) := by decide +kernel
theorem dX6_clear_81 : decode cX6_clear 81 = .ok (.aload_n 0, 1) := by decide +kernel
theorem dX6_clear_82 : decode cX6_clear 82 = .ok (.iconst 0, 1) := by decide +kernel
theorem dX6_clear_83 : decode cX6_clear 83 = .ok (.putfield 42, 3) := by decide +kernel
theorem dX6_clear_86 : decode cX6_clear 86 = .ok (.aload_n 0, 1) := by decide +kernel
theorem dX6_clear_87 : decode cX6_clear 87 = .ok (.iconst 0, 1) := by decide +kernel
theorem dX6_clear_88 : decode cX6_clear 88 = .ok (.putfield 22, 3) := by decide +kernel
theorem dX6_clear_91 : decode cX6_clear 91 = .ok (.aload_n 0, 1) := by decide +kernel
theorem dX6_clear_92 : decode cX6_clear 92 = .ok (.iconst 0, 1) := by decide +kernel
theorem dX6_clear_93 : decode cX6_clear 93 = .ok (.putfield 33, 3) := by decide +kernel
theorem dX6_clear_96 : decode cX6_clear 96 = .ok (.aload_n 0, 1) := by decide +kernel
theorem dX6_clear_97 : decode cX6_clear 97 = .ok (.iconst 0, 1) := by decide +kernel
theorem dX6_clear_98 : decode cX6_clear 98 = .ok (.putfield 36, 3) := by decide +kernel
theorem dX6_clear_101 : decode cX6_clear 101 = .ok (.return_, 1) := by decide +kernel
theorem dX6_copyFrom_0 : decode cX6_copyFrom 0 = .ok (.aload_n 1, 1) := by decide +kernel
theorem dX6_copyFrom_1 : decode cX6_copyFrom 1 = .ok (.getfield 9, 3) := by decide +kernel
theorem dX6_copyFrom_4 : decode cX6_copyFrom 4 = .ok (.iconst 0, 1) := by decide +kernel
theorem dX6_copyFrom_5 : decode cX6_copyFrom 5 = .ok (.aload_n 0, 1) := by decide +kernel
theorem dX6_copyFrom_6 : decode cX6_copyFrom 6 = .ok (.getfield 9, 3) := by decide +kernel
theorem dX6_copyFrom_9 : decode cX6_copyFrom 9 = .ok (.iconst 0, 1) := by decide +kernel
theorem dX6_copyFrom_10 : decode cX6_copyFrom 10 = .ok (.iconst 4, 1) := by decide +kernel
theorem dX6_copyFrom_11 : decode cX6_copyFrom 11 = .ok (.invokestatic 81, 3) := by decide +kernel
theorem dX6_copyFrom_14 : decode cX6_copyFrom 14 = .ok (.aload_n 1, 1) := by decide +kernel
theorem dX6_copyFrom_15 : decode cX6_copyFrom 15 = .ok (.getfield 15, 3) := by decide +kernel
theorem dX6_copyFrom_18 : decode cX6_copyFrom 18 = .ok (.iconst 0, 1) := by decide +kernel
theorem dX6_copyFrom_19 : decode cX6_copyFrom 19 = .ok (.aload_n 0, 1) := by decide +kernel
theorem dX6_copyFrom_20 : decode cX6_copyFrom 20 = .ok (.getfield 15, 3) := by decide +kernel
theorem dX6_copyFrom_23 : decode cX6_copyFrom 23 = .ok (.iconst 0, 1) := by decide +kernel
theorem dX6_copyFrom_24 : decode cX6_copyFrom 24 = .ok (.iconst 4, 1) := by decide +kernel
theorem dX6_copyFrom_25 : decode cX6_copyFrom 25 = .ok (.invokestatic 81, 3) := by decide +kernel
theorem dX6_copyFrom_28 : decode cX6_copyFrom 28 = .ok (.aload_n 0, 1) := by decide +kernel
theorem dX6_copyFrom_29 : decode cX6_copyFrom 29 = .ok (.aload_n 1, 1) := by decide +kernel
theorem dX6_copyFrom_30 : decode cX6_copyFrom 30 = .ok (.getfield 63, 3) := by decide +kernel
theorem dX6_copyFrom_33 : decode cX6_copyFrom 33 = .ok (.putfield 63, 3) := by decide +kernel
theorem dX6_copyFrom_36 : decode cX6_copyFrom 36 = .ok (.aload_n 0, 1) := by decide +kernel
theorem dX6_copyFrom_37 : decode cX6_copyFrom 37 = .ok (.aload_n 1, 1) := by decide +kernel
theorem dX6_copyFrom_38 : decode cX6_copyFrom 38 = .ok (.getfield 66, 3) := by decide +kernel
theorem dX6_copyFrom_41 : decode cX6_copyFrom 41 = .ok (.putfield 66, 3) := by decide +kernel
theorem dX6_copyFrom_44 : decode cX6_copyFrom 44 = .ok (.aload_n 0, 1) := by decide +kernel
theorem dX6_copyFrom_45 : decode cX6_copyFrom 45 = .ok (.aload_n 1, 1) := by decide +kernel
theorem dX6_copyFrom_46 : decode cX6_copyFrom 46 = .ok (.getfield 48, 3) := by decide +kernel
theorem dX6_copyFrom_49 : decode cX6_copyFrom 49 = .ok (.putfield 48, 3) := by decide +kernel
theorem dX6_copyFrom_52 : decode cX6_copyFrom 52 = .ok (.aload_n 0, 1) := by decide +kernel
theorem dX6_copyFrom_53 : decode cX6_copyFrom 53 = .ok (.aload_n 1, 1) := by decide +kernel
theorem dX6_copyFrom_54 : decode cX6_copyFrom 54 = .ok (.getfield 45, 3) := by decide +kernel
theorem dX6_copyFrom_57 : decode cX6_copyFrom 57 = .ok (.putfield 45, 3) := by decide +kernel
theorem dX6_copyFrom_60 : decode cX6_copyFrom 60 = .ok (.aload_n 0, 1) := by decide +kernel
theorem dX6_copyFrom_61 : decode cX6_copyFrom 61 = .ok (.aload_n 1, 1) := by decide +kernel
theorem dX6_copyFrom_62 : decode cX6_copyFrom 62 = .ok (.getfield 51, 3) := by decide +kernel
theorem dX6_copyFrom_65 : decode cX6_copyFrom 65 = .ok (.putfield 51, 3) := by decide +kernel
theorem dX6_copyFrom_68 : decode cX6_copyFrom 68 = .ok (.aload_n 0, 1) := by decide +kernel
theorem dX6_copyFrom_69 : decode cX6_copyFrom 69 = .ok (.aload_n 1, 1) := by decide +kernel
theorem dX6_copyFrom_70 : decode cX6_copyFrom 70 = .ok (.getfield 54, 3) := by decide +kernel
theorem dX6_copyFrom_73 : decode cX6_copyFrom 73 = .ok (.putfield 54, 3) := by decide +kernel
theorem dX6_copyFrom_76 : decode cX6_copyFrom 76 = .ok (.aload_n 0, 1) := by decide +kernel
theorem dX6_copyFrom_77 : decode cX6_copyFrom 77 = .ok (.aload_n 1, 1) := by decide +kernel
theorem dX6_copyFrom_78 : decode cX6_copyFrom 78 = .ok (.getfield 69, 3) := by decide +kernel
theorem dX6_copyFrom_81 : decode cX6_copyFrom 81 = .ok (.putfield 69, 3) := by decide +kernel
theorem dX6_copyFrom_84 : decode cX6_copyFrom 84 = .ok (.aload_n 0, 1) := by decide +kernel
theorem dX6_copyFrom_85 : decode cX6_copyFrom 85 = .ok (.aload_n 1, 1) := by decide +kernel
theorem dX6_copyFrom_86 : decode cX6_copyFrom 86 = .ok (.getfield 72, 3) := by decide +kernel
theorem dX6_copyFrom_89 : decode cX6_copyFrom 89 = .ok (.putfield 72, 3) := by decide +kernel
theorem dX6_copyFrom_92 : decode cX6_copyFrom 92 = .ok (.aload_n 0, 1) := by decide +kernel
theorem dX6_copyFrom_93 : decode cX6_copyFrom 93 = .ok (.aload_n 1, 1) := by decide +kernel
theorem dX6_copyFrom_94 : decode cX6_copyFrom 94 = .ok (.getfield 75, 3) := by decide +kernel
theorem dX6_copyFrom_97 : decode cX6_copyFrom 97 = .ok (.putfield 75, 3) := by decide +kernel
theorem dX6_copyFrom_100 : decode cX6_copyFrom 100 = .ok (.aload_n 0, 1) := by decide +kernel
theorem dX6_copyFrom_101 : decode cX6_copyFrom 101 = .ok (.aload_n 1, 1) := by decide +kernel
theorem dX6_copyFrom_102 : decode cX6_copyFrom 102 = .ok (.getfield 78, 3) := by decide +kernel
theorem dX6_copyFrom_105 : decode cX6_copyFrom 105 = .ok (.putfield 78, 3) := by decide +kernel
theorem dX6_copyFrom_108 : decode cX6_copyFrom 108 = .ok (.aload_n 0, 1) := by decide +kernel
theorem dX6_copyFrom_109 : decode cX6_copyFrom 109 = .ok (.aload_n 1, 1) := by decide +kernel
theorem dX6_copyFrom_110 : decode cX6_copyFrom 110 = .ok (.getfield 26, 3) := by decide +kernel
theorem dX6_copyFrom_113 : decode cX6_copyFrom 113 = .ok (.putfield 26, 3) := by decide +kernel
theorem dX6_copyFrom_116 : decode cX6_copyFrom 116 = .ok (.aload_n 0, 1) := by decide +kernel
theorem dX6_copyFrom_117 : decode cX6_copyFrom 117 = .ok (.aload_n 1, 1) := by decide +kernel
theorem dX6_copyFrom_118 : decode cX6_copyFrom 118 = .ok (.getfield 30, 3) := by decide +kernel
theorem dX6_copyFrom_121 : decode cX6_copyFrom 121 = .ok (.putfield 30, 3) := by decide +kernel
theorem dX6_copyFrom_124 : decode cX6_copyFrom 124 = .ok (.aload_n 0, 1) := by decide +kernel
theorem dX6_copyFrom_125 : decode cX6_copyFrom 125 = .ok (.aload_n 1, 1) := by decide +kernel
theorem dX6_copyFrom_126 : decode cX6_copyFrom 126 = .ok (.getfield 39, 3) := by decide +kernel
theorem dX6_copyFrom_129 : decode cX6_copyFrom 129 = .ok (.putfield 39, 3) := by decide +kernel
theorem dX6_copyFrom_132 : decode cX6_copyFrom 132 = .ok (.aload_n 0, 1) := by decide +kernel
theorem dX6_copyFrom_133 : decode cX6_copyFrom 133 = .ok (.aload_n 1, 1) := by decide +kernel
theorem dX6_copyFrom_134 : decode cX6_copyFrom 134 = .ok (.getfield 42, 3) := by decide +kernel
theorem dX6_copyFrom_137 : decode cX6_copyFrom 137 = .ok (.putfield 42, 3) := by decide +kernel
theorem dX6_copyFrom_140 : decode cX6_copyFrom 140 = .ok (.aload_n 0, 1) := by decide +kernel
theorem dX6_copyFrom_141 : decode cX6_copyFrom 141 = .ok (.aload_n 1, 1) := by decide +kernel
theorem dX6_copyFrom_142 : decode cX6_copyFrom 142 = .ok (.getfield 22, 3) := by decide +kernel
theorem dX6_copyFrom_145 : decode cX6_copyFrom 145 = .ok (.putfield 22, 3) := by decide +kernel
theorem dX6_copyFrom_148 : decode cX6_copyFrom 148 = .ok (.aload_n 0, 1) := by decide +kernel
theorem dX6_copyFrom_149 : decode cX6_copyFrom 149 = .ok (.aload_n 1, 1) := by decide +kernel
theorem dX6_copyFrom_150 : decode cX6_copyFrom 150 = .ok (.getfield 33, 3) := by decide +kernel
theorem dX6_copyFrom_153 : decode cX6_copyFrom 153 = .ok (.putfield 33, 3) := by decide +kernel
theorem dX6_copyFrom_156 : decode cX6_copyFrom 156 = .ok (.aload_n 0, 1) := by decide +kernel
theorem dX6_copyFrom_157 : decode cX6_copyFrom 157 = .ok (.aload_n 1, 1) := by decide +kernel
theorem dX6_copyFrom_158 : decode cX6_copyFrom 158 = .ok (.getfield 36, 3) := by decide +kernel
theorem dX6_copyFrom_161 : decode cX6_copyFrom 161 = .ok (.putfield 36, 3) := by decide +kernel
theorem dX6_copyFrom_164 : decode cX6_copyFrom 164 = .ok (.return_, 1) := by decide +kernel
theorem dX7_init_0 : decode cX7_init 0 = .ok (.aload_n 0, 1) := by decide +kernel
theorem dX7_init_1 : decode cX7_init 1 = .ok (.invokespecial 3, 3) := by decide +kernel
theorem dX7_init_4 : decode cX7_init 4 = .ok (.aload_n 0, 1) := by decide +kernel
theorem dX7_init_5 : decode cX7_init 5 = .ok (.bipush 8, 2) := by decide +kernel
theorem dX7_init_7 : decode cX7_init 7 = .ok (.anewarray 9, 3) := by decide +kernel
theorem dX7_init_10 : decode cX7_init 10 = .ok (.putfield 11, 3) := by decide +kernel
theorem dX7_init_13 : decode cX7_init 13 = .ok (.aload_n 0, 1) := by decide +kernel
theorem dX7_init_14 : decode cX7_init 14 = .ok (.bipush 64, 2) := by decide +kernel
theorem dX7_init_16 : decode cX7_init 16 = .ok (.newarray .int, 2) := by decide +kernel
theorem dX7_init_18 : decode cX7_init 18 = .ok (.putfield 17, 3) := by decide +kernel
theorem dX7_init_21 : decode cX7_init 21 = .ok (.aload_n 0, 1) := by decide +kernel
theorem dX7_init_22 : decode cX7_init 22 = .ok (.new 21, 3) := by decide +kernel
theorem dX7_init_25 : decode cX7_init 25 = .ok (.dup, 1) := by decide +kernel
theorem dX7_init_26 : decode cX7_init 26 = .ok (.invokespecial 23, 3) := by decide +kernel
theorem dX7_init_29 : decode cX7_init 29 = .ok (.putfield 24, 3) := by decide +kernel
theorem dX7_init_32 : decode cX7_init 32 = .ok (.aload_n 0, 1) := by decide +kernel
theorem dX7_init_33 : decode cX7_init 33 = .ok (.new 28, 3) := by decide +kernel
theorem dX7_init_36 : decode cX7_init 36 = .ok (.dup, 1) := by decide +kernel
theorem dX7_init_37 : decode cX7_init 37 = .ok (.invokespecial 30, 3) := by decide +kernel
theorem dX7_init_40 : decode cX7_init 40 = .ok (.putfield 31, 3) := by decide +kernel
theorem dX7_init_43 : decode cX7_init 43 = .ok (.aload_n 0, 1) := by decide +kernel
theorem dX7_init_44 : decode cX7_init 44 = .ok (.new 35, 3) := by decide +kernel
theorem dX7_init_47 : decode cX7_init 47 = .ok (.dup, 1) := by decide +kernel
theorem dX7_init_48 : decode cX7_init 48 = .ok (.invokespecial 37, 3) := by decide +kernel
theorem dX7_init_51 : decode cX7_init 51 = .ok (.putfield 38, 3) := by decide +kernel
theorem dX7_init_54 : decode cX7_init 54 = .ok (.aload_n 0, 1) := by decide +kernel
theorem dX7_init_55 : decode cX7_init 55 = .ok (.new 42, 3) := by decide +kernel
theorem dX7_init_58 : decode cX7_init 58 = .ok (.dup, 1) := by decide +kernel
theorem dX7_init_59 : decode cX7_init 59 = .ok (.invokespecial 44, 3) := by decide +kernel
theorem dX7_init_62 : decode cX7_init 62 = .ok (.putfield 45, 3) := by decide +kernel
theorem dX7_init_65 : decode cX7_init 65 = .ok (.aload_n 0, 1) := by decide +kernel
theorem dX7_init_66 : decode cX7_init 66 = .ok (.new 49, 3) := by decide +kernel
theorem dX7_init_69 : decode cX7_init 69 = .ok (.dup, 1) := by decide +kernel
theorem dX7_init_70 : decode cX7_init 70 = .ok (.invokespecial 51, 3) := by decide +kernel
theorem dX7_init_73 : decode cX7_init 73 = .ok (.putfield 52, 3) := by decide +kernel
theorem dX7_init_76 : decode cX7_init 76 = .ok (.iconst 0, 1) := by decide +kernel
theorem dX7_init_77 : decode cX7_init 77 = .ok (.istore_n 1, 1) := by decide +kernel
theorem dX7_init_78 : decode cX7_init 78 = .ok (.iload_n 1, 1) := by decide +kernel
theorem dX7_init_79 : decode cX7_init 79 = .ok (.bipush 8, 2) := by decide +kernel
theorem dX7_init_81 : decode cX7_init 81 = .ok (.if_icmp .ge 22, 3) := by decide +kernel
theorem dX7_init_84 : decode cX7_init 84 = .ok (.aload_n 0, 1) := by decide +kernel
theorem dX7_init_85 : decode cX7_init 85 = .ok (.getfield 11, 3) := by decide +kernel
theorem dX7_init_88 : decode cX7_init 88 = .ok (.iload_n 1, 1) := by decide +kernel
theorem dX7_init_89 : decode cX7_init 89 = .ok (.new 9, 3) := by decide +kernel
theorem dX7_init_92 : decode cX7_init 92 = .ok (.dup, 1) := by decide +kernel
theorem dX7_init_93 : decode cX7_init 93 = .ok (.invokespecial 56, 3) := by decide +kernel
theorem dX7_init_96 : decode cX7_init 96 = .ok (.aastore, 1) := by decide +kernel
theorem dX7_init_97 : decode cX7_init 97 = .ok (.iinc 1 1, 3) := by decide +kernel
theorem dX7_init_100 : decode cX7_init 100 = .ok (.goto (-22), 3) := by decide +kernel
theorem dX7_init_103 : decode cX7_init 103 = .ok (.aload_n 0, 1) := by decide +kernel
theorem dX7_init_104 : decode cX7_init 104 = .ok (.iconst 2, 1) := by decide +kernel
theorem dX7_init_105 : decode cX7_init 105 = .ok (.invokevirtual 57, 3) := by decide +kernel
theorem dX7_init_108 : decode cX7_init 108 = .ok (.return_, 1) := by decide +kernel
theorem dX7_renew_0 : decode cX7_renew 0 = .ok (.aload_n 0, 1) := by decide +kernel
theorem dX7_renew_1 : decode cX7_renew 1 = .ok (.iload_n 1, 1) := by decide +kernel
theorem dX7_renew_2 : decode cX7_renew 2 = .ok (.putfield 61, 3) := by decide +kernel
theorem dX7_renew_5 : decode cX7_renew 5 = .ok (.aload_n 0, 1) := by decide +kernel
theorem dX7_renew_6 : decode cX7_renew 6 = .ok (.iconst 0, 1) := by decide +kernel
theorem dX7_renew_7 : decode cX7_renew 7 = .ok (.putfield 65, 3) := by decide +kernel
theorem dX7_renew_10 : decode cX7_renew 10 = .ok (.aload_n 0, 1) := by decide +kernel
theorem dX7_renew_11 : decode cX7_renew 11 = .ok (.iconst (-1), 1) := by decide +kernel
theorem dX7_renew_12 : decode cX7_renew 12 = .ok (.putfield 68, 3) := by decide +kernel
theorem dX7_renew_15 : decode cX7_renew 15 = .ok (.aload_n 0, 1) := by decide +kernel
theorem dX7_renew_16 : decode cX7_renew 16 = .ok (.getfield 24, 3) := by decide +kernel
theorem dX7_renew_19 : decode cX7_renew 19 = .ok (.iconst 0, 1) := by decide +kernel
theorem dX7_renew_20 : decode cX7_renew 20 = .ok (.putfield 71, 3) := by decide +kernel
theorem dX7_renew_23 : decode cX7_renew 23 = .ok (.aload_n 0, 1) := by decide +kernel
theorem dX7_renew_24 : decode cX7_renew 24 = .ok (.getfield 45, 3) := by decide +kernel
theorem dX7_renew_27 : decode cX7_renew 27 = .ok (.invokevirtual 72, 3) := by decide +kernel
theorem dX7_renew_30 : decode cX7_renew 30 = .ok (.aload_n 0, 1) := by decide +kernel
theorem dX7_renew_31 : decode cX7_renew 31 = .ok (.getfield 17, 3) := by decide +kernel
theorem dX7_renew_34 : decode cX7_renew 34 = .ok (.iconst 1, 1) := by decide +kernel
theorem dX7_renew_35 : decode cX7_renew 35 = .ok (.invokestatic 75, 3) := by decide +kernel
theorem dX7_renew_38 : decode cX7_renew 38 = .ok (.iconst 0, 1) := by decide +kernel
theorem dX7_renew_39 : decode cX7_renew 39 = .ok (.istore_n 2, 1) := by decide +kernel
theorem dX7_renew_40 : decode cX7_renew 40 = .ok (.iload_n 2, 1) := by decide +kernel
theorem dX7_renew_41 : decode cX7_renew 41 = .ok (.bipush 8, 2) := by decide +kernel
theorem dX7_renew_43 : decode cX7_renew 43 = .ok (.if_icmp .ge 19, 3) := by decide +kernel
theorem dX7_renew_46 : decode cX7_renew 46 = .ok (.aload_n 0, 1) := by decide +kernel
theorem dX7_renew_47 : decode cX7_renew 47 = .ok (.getfield 11, 3) := by decide +kernel
theorem dX7_renew_50 : decode cX7_renew 50 = .ok (.iload_n 2, 1) := by decide +kernel
theorem dX7_renew_51 : decode cX7_renew 51 = .ok (.aaload, 1) := by decide +kernel
theorem dX7_renew_52 : decode cX7_renew 52 = .ok (.iconst 0, 1) := by decide +kernel
theorem dX7_renew_53 : decode cX7_renew 53 = .ok (.putfield 81, 3) := by decide +kernel
theorem dX7_renew_56 : decode cX7_renew 56 = .ok (.iinc 2 1, 3) := by decide +kernel
theorem dX7_renew_59 : decode cX7_renew 59 = .ok (.goto (-19), 3) := by decide +kernel
theorem dX7_renew_62 : decode cX7_renew 62 = .ok (.aload_n 0, 1) := by decide +kernel
theorem dX7_renew_63 : decode cX7_renew 63 = .ok (.invokevirtual 84, 3) := by decide +kernel
theorem dX7_renew_66 : decode cX7_renew 66 = .ok (.return_, 1) := by decide +kernel
theorem dX7_clearWork_0 : decode cX7_clearWork 0 = .ok (.aload_n 0, 1) := by decide +kernel
theorem dX7_clearWork_1 : decode cX7_clearWork 1 = .ok (.iconst (-1), 1) := by decide +kernel
theorem dX7_clearWork_2 : decode cX7_clearWork 2 = .ok (.putfield 87, 3) := by decide +kernel
theorem dX7_clearWork_5 : decode cX7_clearWork 5 = .ok (.aload_n 0, 1) := by decide +kernel
theorem dX7_clearWork_6 : decode cX7_clearWork 6 = .ok (.iconst (-1), 1) := by decide +kernel
theorem dX7_clearWork_7 : decode cX7_clearWork 7 = .ok (.putfield 90, 3) := by decide +kernel
theorem dX7_clearWork_10 : decode cX7_clearWork 10 = .ok (.aload_n 0, 1) := by decide +kernel
theorem dX7_clearWork_11 : decode cX7_clearWork 11 = .ok (.iconst 0, 1) := by decide +kernel
theorem dX7_clearWork_12 : decode cX7_clearWork 12 = .ok (.putfield 93, 3) := by decide +kernel
theorem dX7_clearWork_15 : decode cX7_clearWork 15 = .ok (.aload_n 0, 1) := by decide +kernel
theorem dX7_clearWork_16 : decode cX7_clearWork 16 = .ok (.invokevirtual 96, 3) := by decide +kernel
theorem dX7_clearWork_19 : decode cX7_clearWork 19 = .ok (.aload_n 0, 1) := by decide +kernel
theorem dX7_clearWork_20 : decode cX7_clearWork 20 = .ok (.getfield 31, 3) := by decide +kernel
theorem dX7_clearWork_23 : decode cX7_clearWork 23 = .ok (.iconst 0, 1) := by decide +kernel
theorem dX7_clearWork_24 : decode cX7_clearWork 24 = .ok (.putfield 99, 3) := by decide +kernel
theorem dX7_clearWork_27 : decode cX7_clearWork 27 = .ok (.aload_n 0, 1) := by decide +kernel
theorem dX7_clearWork_28 : decode cX7_clearWork 28 = .ok (.getfield 38, 3) := by decide +kernel
theorem dX7_clearWork_31 : decode cX7_clearWork 31 = .ok (.invokevirtual 100, 3) := by decide +kernel
theorem dX7_clearWork_34 : decode cX7_clearWork 34 = .ok (.aload_n 0, 1) := by decide +kernel
theorem dX7_clearWork_35 : decode cX7_clearWork 35 = .ok (.getfield 52, 3) := by decide +kernel
theorem dX7_clearWork_38 : decode cX7_clearWork 38 = .ok (.invokevirtual 101, 3) := by decide +kernel
theorem dX7_clearWork_41 : decode cX7_clearWork 41 = .ok (.iconst 0, 1) := by decide +kernel
theorem dX7_clearWork_42 : decode cX7_clearWork 42 = .ok (.istore_n 1, 1) := by decide +kernel
theorem dX7_clearWork_43 : decode cX7_clearWork 43 = .ok (.iload_n 1, 1) := by decide +kernel
theorem dX7_clearWork_44 : decode cX7_clearWork 44 = .ok (.bipush 8, 2) := by decide +kernel
theorem dX7_clearWork_46 : decode cX7_clearWork 46 = .ok (.if_icmp .ge 18, 3) := by decide +kernel
theorem dX7_clearWork_49 : decode cX7_clearWork 49 = .ok (.aload_n 0, 1) := by decide +kernel
theorem dX7_clearWork_50 : decode cX7_clearWork 50 = .ok (.getfield 11, 3) := by decide +kernel
theorem dX7_clearWork_53 : decode cX7_clearWork 53 = .ok (.iload_n 1, 1) := by decide +kernel
theorem dX7_clearWork_54 : decode cX7_clearWork 54 = .ok (.aaload, 1) := by decide +kernel
theorem dX7_clearWork_55 : decode cX7_clearWork 55 = .ok (.invokevirtual 102, 3) := by decide +kernel
theorem dX7_clearWork_58 : decode cX7_clearWork 58 = .ok (.iinc 1 1, 3) := by decide +kernel
theorem dX7_clearWork_61 : decode cX7_clearWork 61 = .ok (.goto (-18), 3) := by decide +kernel
theorem dX7_clearWork_64 : decode cX7_clearWork 64 = .ok (.return_, 1) := by decide +kernel
theorem dX7_start_0 : decode cX7_start 0 = .ok (.aload_n 0, 1) := by decide +kernel
theorem dX7_start_1 : decode cX7_start 1 = .ok (.invokevirtual 84, 3) := by decide +kernel
theorem dX7_start_4 : decode cX7_start 4 = .ok (.aload_n 0, 1) := by decide +kernel
theorem dX7_start_5 : decode cX7_start 5 = .ok (.aload_n 0, 1) := by decide +kernel
theorem dX7_start_6 : decode cX7_start 6 = .ok (.getfield 65, 3) := by decide +kernel
theorem dX7_start_9 : decode cX7_start 9 = .ok (.putfield 68, 3) := by decide +kernel
theorem dX7_start_12 : decode cX7_start 12 = .ok (.aload_n 0, 1) := by decide +kernel
theorem dX7_start_13 : decode cX7_start 13 = .ok (.getfield 11, 3) := by decide +kernel
theorem dX7_start_16 : decode cX7_start 16 = .ok (.iconst 0, 1) := by decide +kernel
theorem dX7_start_17 : decode cX7_start 17 = .ok (.aaload, 1) := by decide +kernel
theorem dX7_start_18 : decode cX7_start 18 = .ok (.astore_n 2, 1) := by decide +kernel
theorem dX7_start_19 : decode cX7_start 19 = .ok (.aload_n 2, 1) := by decide +kernel
theorem dX7_start_20 : decode cX7_start 20 = .ok (.iload_n 1, 1) := by decide +kernel
theorem dX7_start_21 : decode cX7_start 21 = .ok (.putfield 103, 3) := by decide +kernel
theorem dX7_start_24 : decode cX7_start 24 = .ok (.aload_n 2, 1) := by decide +kernel
theorem dX7_start_25 : decode cX7_start 25 = .ok (.iconst 1, 1) := by decide +kernel
theorem dX7_start_26 : decode cX7_start 26 = .ok (.putfield 106, 3) := by decide +kernel
theorem dX7_start_29 : decode cX7_start 29 = .ok (.aload_n 2, 1) := by decide +kernel
theorem dX7_start_30 : decode cX7_start 30 = .ok (.ldc 110, 2) := by decide +kernel
theorem dX7_start_32 : decode cX7_start 32 = .ok (.putfield 111, 3) := by decide +kernel
theorem dX7_start_35 : decode cX7_start 35 = .ok (.aload_n 0, 1) := by decide +kernel
theorem dX7_start_36 : decode cX7_start 36 = .ok (.getfield 52, 3) := by decide +kernel
theorem dX7_start_39 : decode cX7_start 39 = .ok (.ldc 110, 2) := by decide +kernel
theorem dX7_start_41 : decode cX7_start 41 = .ok (.putfield 114, 3) := by decide +kernel
theorem dX7_start_44 : decode cX7_start 44 = .ok (.aload_n 0, 1) := by decide +kernel
theorem dX7_start_45 : decode cX7_start 45 = .ok (.getfield 45, 3) := by decide +kernel
theorem dX7_start_48 : decode cX7_start 48 = .ok (.iconst 0, 1) := by decide +kernel
theorem dX7_start_49 : decode cX7_start 49 = .ok (.aload_n 0, 1) := by decide +kernel
theorem dX7_start_50 : decode cX7_start 50 = .ok (.getfield 65, 3) := by decide +kernel
theorem dX7_start_53 : decode cX7_start 53 = .ok (.iload_n 1, 1) := by decide +kernel
theorem dX7_start_54 : decode cX7_start 54 = .ok (.invokevirtual 117, 3) := by decide +kernel
theorem dX7_start_57 : decode cX7_start 57 = .ok (.return_, 1) := by decide +kernel
theorem dX7_growByOne_0 : decode cX7_growByOne 0 = .ok (.aload_n 0, 1) := by decide +kernel
theorem dX7_growByOne_1 : decode cX7_growByOne 1 = .ok (.getfield 61, 3) := by decide +kernel
theorem dX7_growByOne_4 : decode cX7_growByOne 4 = .ok (.bipush 8, 2) := by decide +kernel
theorem dX7_growByOne_6 : decode cX7_growByOne 6 = .ok (.if_icmp .lt 4, 3) := by decide +kernel
theorem dX7_growByOne_9 : decode cX7_growByOne 9 = .ok (.return_, 1) := by decide +kernel
theorem dX7_growByOne_10 : decode cX7_growByOne 10 = .ok (.iconst 0, 1) := by decide +kernel
theorem dX7_growByOne_11 : decode cX7_growByOne 11 = .ok (.istore_n 1, 1) := by decide +kernel
theorem dX7_growByOne_12 : decode cX7_growByOne 12 = .ok (.iload_n 1, 1) := by decide +kernel
theorem dX7_growByOne_13 : decode cX7_growByOne 13 = .ok (.aload_n 0, 1) := by decide +kernel
theorem dX7_growByOne_14 : decode cX7_growByOne 14 = .ok (.getfield 61, 3) := by decide +kernel
theorem dX7_growByOne_17 : decode cX7_growByOne 17 = .ok (.if_icmp .ge 37, 3) := by decide +kernel
theorem dX7_growByOne_20 : decode cX7_growByOne 20 = .ok (.aload_n 0, 1) := by decide +kernel
theorem dX7_growByOne_21 : decode cX7_growByOne 21 = .ok (.getfield 17, 3) := by decide +kernel
theorem dX7_growByOne_24 : decode cX7_growByOne 24 = .ok (.iload_n 1, 1) := by decide +kernel
theorem dX7_growByOne_25 : decode cX7_growByOne 25 = .ok (.aload_n 0, 1) := by decide +kernel
theorem dX7_growByOne_26 : decode cX7_growByOne 26 = .ok (.getfield 61, 3) := by decide +kernel
theorem dX7_growByOne_29 : decode cX7_growByOne 29 = .ok (.invokestatic 121, 3) := by decide +kernel
theorem dX7_growByOne_32 : decode cX7_growByOne 32 = .ok (.iconst 1, 1) := by decide +kernel
theorem dX7_growByOne_33 : decode cX7_growByOne 33 = .ok (.iastore, 1) := by decide +kernel
theorem dX7_growByOne_34 : decode cX7_growByOne 34 = .ok (.aload_n 0, 1) := by decide +kernel
theorem dX7_growByOne_35 : decode cX7_growByOne 35 = .ok (.getfield 17, 3) := by decide +kernel
theorem dX7_growByOne_38 : decode cX7_growByOne 38 = .ok (.aload_n 0, 1) := by decide +kernel
theorem dX7_growByOne_39 : decode cX7_growByOne 39 = .ok (.getfield 61, 3) := by decide +kernel
theorem dX7_growByOne_42 : decode cX7_growByOne 42 = .ok (.iload_n 1, 1) := by decide +kernel
theorem dX7_growByOne_43 : decode cX7_growByOne 43 = .ok (.invokestatic 121, 3) := by decide +kernel
theorem dX7_growByOne_46 : decode cX7_growByOne 46 = .ok (.iconst 1, 1) := by decide +kernel
theorem dX7_growByOne_47 : decode cX7_growByOne 47 = .ok (.iastore, 1) := by decide +kernel
theorem dX7_growByOne_48 : decode cX7_growByOne 48 = .ok (.iinc 1 1, 3) := by decide +kernel
theorem dX7_growByOne_51 : decode cX7_growByOne 51 = .ok (.goto (-39), 3) := by decide +kernel
theorem dX7_growByOne_54 : decode cX7_growByOne 54 = .ok (.aload_n 0, 1) := by decide +kernel
theorem dX7_growByOne_55 : decode cX7_growByOne 55 = .ok (.getfield 11, 3) := by decide +kernel
theorem dX7_growByOne_58 : decode cX7_growByOne 58 = .ok (.aload_n 0, 1) := by decide +kernel
theorem dX7_growByOne_59 : decode cX7_growByOne 59 = .ok (.getfield 61, 3) := by decide +kernel
theorem dX7_growByOne_62 : decode cX7_growByOne 62 = .ok (.aaload, 1) := by decide +kernel
theorem dX7_growByOne_63 : decode cX7_growByOne 63 = .ok (.invokevirtual 102, 3) := by decide +kernel
theorem dX7_growByOne_66 : decode cX7_growByOne 66 = .ok (.aload_n 0, 1) := by decide +kernel
theorem dX7_growByOne_67 : decode cX7_growByOne 67 = .ok (.getfield 11, 3) := by decide +kernel
theorem dX7_growByOne_70 : decode cX7_growByOne 70 = .ok (.aload_n 0, 1) := by decide +kernel
theorem dX7_growByOne_71 : decode cX7_growByOne 71 = .ok (.getfield 61, 3) := by decide +kernel
theorem dX7_growByOne_74 : decode cX7_growByOne 74 = .ok (.aaload, 1) := by decide +kernel
theorem dX7_growByOne_75 : decode cX7_growByOne 75 = .ok (.iconst 0, 1) := by decide +kernel
theorem dX7_growByOne_76 : decode cX7_growByOne 76 = .ok (.putfield 81, 3) := by decide +kernel
theorem dX7_growByOne_79 : decode cX7_growByOne 79 = .ok (.aload_n 0, 1) := by decide +kernel
theorem dX7_growByOne_80 : decode cX7_growByOne 80 = .ok (.dup, 1) := by decide +kernel
theorem dX7_growByOne_81 : decode cX7_growByOne 81 = .ok (.getfield 61, 3) := by decide +kernel
theorem dX7_growByOne_84 : decode cX7_growByOne 84 = .ok (.iconst 1, 1) := by decide +kernel
theorem dX7_growByOne_85 : decode cX7_growByOne 85 = .ok (.iadd, 1) := by decide +kernel
theorem dX7_growByOne_86 : decode cX7_growByOne 86 = .ok (.putfield 61, 3) := by decide +kernel
theorem dX7_growByOne_89 : decode cX7_growByOne 89 = .ok (.aload_n 0, 1) := by decide +kernel
theorem dX7_growByOne_90 : decode cX7_growByOne 90 = .ok (.invokevirtual 125, 3) := by decide +kernel
theorem dX7_growByOne_93 : decode cX7_growByOne 93 = .ok (.return_, 1) := by decide +kernel
theorem dX7_copyFrom_0 : decode cX7_copyFrom 0 = .ok (.iconst 0, 1) := by decide +kernel
theorem dX7_copyFrom_1 : decode cX7_copyFrom 1 = .ok (.istore_n 2, 1) := by decide +kernel
theorem dX7_copyFrom_2 : decode cX7_copyFrom 2 = .ok (.iload_n 2, 1) := by decide +kernel
theorem dX7_copyFrom_3 : decode cX7_copyFrom 3 = .ok (.bipush 8, 2) := by decide +kernel
theorem dX7_copyFrom_5 : decode cX7_copyFrom 5 = .ok (.if_icmp .ge 24, 3) := by decide +kernel
theorem dX7_copyFrom_8 : decode cX7_copyFrom 8 = .ok (.aload_n 0, 1) := by decide +kernel
theorem dX7_copyFrom_9 : decode cX7_copyFrom 9 = .ok (.getfield 11, 3) := by decide +kernel
theorem dX7_copyFrom_12 : decode cX7_copyFrom 12 = .ok (.iload_n 2, 1) := by decide +kernel
theorem dX7_copyFrom_13 : decode cX7_copyFrom 13 = .ok (.aaload, 1) := by decide +kernel
theorem dX7_copyFrom_14 : decode cX7_copyFrom 14 = .ok (.aload_n 1, 1) := by decide +kernel
theorem dX7_copyFrom_15 : decode cX7_copyFrom 15 = .ok (.getfield 11, 3) := by decide +kernel
theorem dX7_copyFrom_18 : decode cX7_copyFrom 18 = .ok (.iload_n 2, 1) := by decide +kernel
theorem dX7_copyFrom_19 : decode cX7_copyFrom 19 = .ok (.aaload, 1) := by decide +kernel
theorem dX7_copyFrom_20 : decode cX7_copyFrom 20 = .ok (.invokevirtual 128, 3) := by decide +kernel
theorem dX7_copyFrom_23 : decode cX7_copyFrom 23 = .ok (.iinc 2 1, 3) := by decide +kernel
theorem dX7_copyFrom_26 : decode cX7_copyFrom 26 = .ok (.goto (-24), 3) := by decide +kernel
theorem dX7_copyFrom_29 : decode cX7_copyFrom 29 = .ok (.aload_n 1, 1) := by decide +kernel
theorem dX7_copyFrom_30 : decode cX7_copyFrom 30 = .ok (.getfield 17, 3) := by decide +kernel
theorem dX7_copyFrom_33 : decode cX7_copyFrom 33 = .ok (.iconst 0, 1) := by decide +kernel
theorem dX7_copyFrom_34 : decode cX7_copyFrom 34 = .ok (.aload_n 0, 1) := by decide +kernel
theorem dX7_copyFrom_35 : decode cX7_copyFrom 35 = .ok (.getfield 17, 3) := by decide +kernel
theorem dX7_copyFrom_38 : decode cX7_copyFrom 38 = .ok (.iconst 0, 1) := by decide +kernel
theorem dX7_copyFrom_39 : decode cX7_copyFrom 39 = .ok (.aload_n 0, 1) := by decide +kernel
theorem dX7_copyFrom_40 : decode cX7_copyFrom 40 = .ok (.getfield 17, 3) := by decide +kernel
theorem dX7_copyFrom_43 : decode cX7_copyFrom 43 = .ok (.arraylength, 1) := by decide +kernel
theorem dX7_copyFrom_44 : decode cX7_copyFrom 44 = .ok (.invokestatic 132, 3) := by decide +kernel
theorem dX7_copyFrom_47 : decode cX7_copyFrom 47 = .ok (.aload_n 0, 1) := by decide +kernel
theorem dX7_copyFrom_48 : decode cX7_copyFrom 48 = .ok (.getfield 24, 3) := by decide +kernel
theorem dX7_copyFrom_51 : decode cX7_copyFrom 51 = .ok (.aload_n 1, 1) := by decide +kernel
theorem dX7_copyFrom_52 : decode cX7_copyFrom 52 = .ok (.getfield 24, 3) := by decide +kernel
theorem dX7_copyFrom_55 : decode cX7_copyFrom 55 = .ok (.invokevirtual 138, 3) := by decide +kernel
theorem dX7_copyFrom_58 : decode cX7_copyFrom 58 = .ok (.aload_n 0, 1) := by decide +kernel
theorem dX7_copyFrom_59 : decode cX7_copyFrom 59 = .ok (.getfield 31, 3) := by decide +kernel
theorem dX7_copyFrom_62 : decode cX7_copyFrom 62 = .ok (.aload_n 1, 1) := by decide +kernel
theorem dX7_copyFrom_63 : decode cX7_copyFrom 63 = .ok (.getfield 31, 3) := by decide +kernel
theorem dX7_copyFrom_66 : decode cX7_copyFrom 66 = .ok (.invokevirtual 141, 3) := by decide +kernel
theorem dX7_copyFrom_69 : decode cX7_copyFrom 69 = .ok (.aload_n 0, 1) := by decide +kernel
theorem dX7_copyFrom_70 : decode cX7_copyFrom 70 = .ok (.getfield 38, 3) := by decide +kernel
theorem dX7_copyFrom_73 : decode cX7_copyFrom 73 = .ok (.aload_n 1, 1) := by decide +kernel
theorem dX7_copyFrom_74 : decode cX7_copyFrom 74 = .ok (.getfield 38, 3) := by decide +kernel
theorem dX7_copyFrom_77 : decode cX7_copyFrom 77 = .ok (.invokevirtual 144, 3) := by decide +kernel
theorem dX7_copyFrom_80 : decode cX7_copyFrom 80 = .ok (.aload_n 0, 1) := by decide +kernel
theorem dX7_copyFrom_81 : decode cX7_copyFrom 81 = .ok (.getfield 45, 3) := by decide +kernel
theorem dX7_copyFrom_84 : decode cX7_copyFrom 84 = .ok (.aload_n 1, 1) := by decide +kernel
theorem dX7_copyFrom_85 : decode cX7_copyFrom 85 = .ok (.getfield 45, 3) := by decide +kernel
theorem dX7_copyFrom_88 : decode cX7_copyFrom 88 = .ok (.invokevirtual 147, 3) := by decide +kernel
theorem dX7_copyFrom_91 : decode cX7_copyFrom 91 = .ok (.aload_n 0, 1) := by decide +kernel
theorem dX7_copyFrom_92 : decode cX7_copyFrom 92 = .ok (.getfield 52, 3) := by decide +kernel
theorem dX7_copyFrom_95 : decode cX7_copyFrom 95 = .ok (.aload_n 1, 1) := by decide +kernel
theorem dX7_copyFrom_96 : decode cX7_copyFrom 96 = .ok (.getfield 52, 3) := by decide +kernel
theorem dX7_copyFrom_99 : decode cX7_copyFrom 99 = .ok (.invokevirtual 150, 3) := by decide +kernel
theorem dX7_copyFrom_102 : decode cX7_copyFrom 102 = .ok (.aload_n 0, 1) := by decide +kernel
theorem dX7_copyFrom_103 : decode cX7_copyFrom 103 = .ok (.aload_n 1, 1) := by decide +kernel
theorem dX7_copyFrom_104 : decode cX7_copyFrom 104 = .ok (.getfield 61, 3) := by decide +kernel
theorem dX7_copyFrom_107 : decode cX7_copyFrom 107 = .ok (.putfield 61, 3) := by decide +kernel
theorem dX7_copyFrom_110 : decode cX7_copyFrom 110 = .ok (.aload_n 0, 1) := by decide +kernel
theorem dX7_copyFrom_111 : decode cX7_copyFrom 111 = .ok (.aload_n 1, 1) := by decide +kernel
theorem dX7_copyFrom_112 : decode cX7_copyFrom 112 = .ok (.getfield 65, 3) := by decide +kernel
theorem dX7_copyFrom_115 : decode cX7_copyFrom 115 = .ok (.putfield 65, 3) := by decide +kernel
theorem dX7_copyFrom_118 : decode cX7_copyFrom 118 = .ok (.aload_n 0, 1) := by decide +kernel
theorem dX7_copyFrom_119 : decode cX7_copyFrom 119 = .ok (.aload_n 1, 1) := by decide +kernel
theorem dX7_copyFrom_120 : decode cX7_copyFrom 120 = .ok (.getfield 68, 3) := by decide +kernel
theorem dX7_copyFrom_123 : decode cX7_copyFrom 123 = .ok (.putfield 68, 3) := by decide +kernel
theorem dX7_copyFrom_126 : decode cX7_copyFrom 126 = .ok (.aload_n 0, 1) := by decide +kernel
theorem dX7_copyFrom_127 : decode cX7_copyFrom 127 = .ok (.aload_n 1, 1) := by decide +kernel
theorem dX7_copyFrom_128 : decode cX7_copyFrom 128 = .ok (.getfield 87, 3) := by decide +kernel
theorem dX7_copyFrom_131 : decode cX7_copyFrom 131 = .ok (.putfield 87, 3) := by decide +kernel
theorem dX7_copyFrom_134 : decode cX7_copyFrom 134 = .ok (.aload_n 0, 1) := by decide +kernel
theorem dX7_copyFrom_135 : decode cX7_copyFrom 135 = .ok (.aload_n 1, 1) := by decide +kernel
theorem dX7_copyFrom_136 : decode cX7_copyFrom 136 = .ok (.getfield 90, 3) := by decide +kernel
theorem dX7_copyFrom_139 : decode cX7_copyFrom 139 = .ok (.putfield 90, 3) := by decide +kernel
theorem dX7_copyFrom_142 : decode cX7_copyFrom 142 = .ok (.aload_n 0, 1) := by decide +kernel
theorem dX7_copyFrom_143 : decode cX7_copyFrom 143 = .ok (.aload_n 1, 1) := by decide +kernel
theorem dX7_copyFrom_144 : decode cX7_copyFrom 144 = .ok (.getfield 93, 3) := by decide +kernel
theorem dX7_copyFrom_147 : decode cX7_copyFrom 147 = .ok (.putfield 93, 3) := by decide +kernel
theorem dX7_copyFrom_150 : decode cX7_copyFrom 150 = .ok (.aload_n 0, 1) := by decide +kernel
theorem dX7_copyFrom_151 : decode cX7_copyFrom 151 = .ok (.aload_n 1, 1) := by decide +kernel
theorem dX7_copyFrom_152 : decode cX7_copyFrom 152 = .ok (.getfield 153, 3) := by decide +kernel
theorem dX7_copyFrom_155 : decode cX7_copyFrom 155 = .ok (.putfield 153, 3) := by decide +kernel
theorem dX7_copyFrom_158 : decode cX7_copyFrom 158 = .ok (.aload_n 0, 1) := by decide +kernel
theorem dX7_copyFrom_159 : decode cX7_copyFrom 159 = .ok (.aload_n 1, 1) := by decide +kernel
theorem dX7_copyFrom_160 : decode cX7_copyFrom 160 = .ok (.getfield 156, 3) := by decide +kernel
theorem dX7_copyFrom_163 : decode cX7_copyFrom 163 = .ok (.putfield 156, 3) := by decide +kernel
theorem dX7_copyFrom_166 : decode cX7_copyFrom 166 = .ok (.aload_n 0, 1) := by decide +kernel
theorem dX7_copyFrom_167 : decode cX7_copyFrom 167 = .ok (.aload_n 1, 1) := by decide +kernel
theorem dX7_copyFrom_168 : decode cX7_copyFrom 168 = .ok (.getfield 159, 3) := by decide +kernel
theorem dX7_copyFrom_171 : decode cX7_copyFrom 171 = .ok (.putfield 159, 3) := by decide +kernel
theorem dX7_copyFrom_174 : decode cX7_copyFrom 174 = .ok (.return_, 1) := by decide +kernel
theorem dX7_pass_0 : decode cX7_pass 0 = .ok (.aload_n 0, 1) := by decide +kernel
theorem dX7_pass_1 : decode cX7_pass 1 = .ok (.dup, 1) := by decide +kernel
theorem dX7_pass_2 : decode cX7_pass 2 = .ok (.getfield 65, 3) := by decide +kernel
theorem dX7_pass_5 : decode cX7_pass 5 = .ok (.iconst 1, 1) := by decide +kernel
theorem dX7_pass_6 : decode cX7_pass 6 = .ok (.iadd, 1) := by decide +kernel
theorem dX7_pass_7 : decode cX7_pass 7 = .ok (.putfield 65, 3) := by decide +kernel
theorem dX7_pass_10 : decode cX7_pass 10 = .ok (.aload_n 0, 1) := by decide +kernel
theorem dX7_pass_11 : decode cX7_pass 11 = .ok (.getfield 68, 3) := by decide +kernel
theorem dX7_pass_14 : decode cX7_pass 14 = .ok (.iconst (-1), 1) := by decide +kernel
theorem dX7_pass_15 : decode cX7_pass 15 = .ok (.if_icmp .ne 4, 3) := by decide +kernel
theorem dX7_pass_18 : decode cX7_pass 18 = .ok (.return_, 1) := by decide +kernel
theorem dX7_pass_19 : decode cX7_pass 19 = .ok (.aload_n 0, 1) := by decide +kernel
theorem dX7_pass_20 : decode cX7_pass 20 = .ok (.invokevirtual 162, 3) := by decide +kernel
theorem dX7_pass_23 : decode cX7_pass 23 = .ok (.iconst 0, 1) := by decide +kernel
theorem dX7_pass_24 : decode cX7_pass 24 = .ok (.istore_n 1, 1) := by decide +kernel
theorem dX7_pass_25 : decode cX7_pass 25 = .ok (.iload_n 1, 1) := by decide +kernel
theorem dX7_pass_26 : decode cX7_pass 26 = .ok (.aload_n 0, 1) := by decide +kernel
theorem dX7_pass_27 : decode cX7_pass 27 = .ok (.getfield 61, 3) := by decide +kernel
theorem dX7_pass_30 : decode cX7_pass 30 = .ok (.if_icmp .ge 38, 3) := by decide +kernel
theorem dX7_pass_33 : decode cX7_pass 33 = .ok (.aload_n 0, 1) := by decide +kernel
theorem dX7_pass_34 : decode cX7_pass 34 = .ok (.getfield 11, 3) := by decide +kernel
theorem dX7_pass_37 : decode cX7_pass 37 = .ok (.iload_n 1, 1) := by decide +kernel
theorem dX7_pass_38 : decode cX7_pass 38 = .ok (.aaload, 1) := by decide +kernel
theorem dX7_pass_39 : decode cX7_pass 39 = .ok (.getfield 103, 3) := by decide +kernel
theorem dX7_pass_42 : decode cX7_pass 42 = .ok (.ifCond .le 20, 3) := by decide +kernel
theorem dX7_pass_45 : decode cX7_pass 45 = .ok (.aload_n 0, 1) := by decide +kernel
theorem dX7_pass_46 : decode cX7_pass 46 = .ok (.getfield 11, 3) := by decide +kernel
theorem dX7_pass_49 : decode cX7_pass 49 = .ok (.iload_n 1, 1) := by decide +kernel
theorem dX7_pass_50 : decode cX7_pass 50 = .ok (.aaload, 1) := by decide +kernel
theorem dX7_pass_51 : decode cX7_pass 51 = .ok (.getfield 81, 3) := by decide +kernel
theorem dX7_pass_54 : decode cX7_pass 54 = .ok (.ifCond .ne 8, 3) := by decide +kernel
theorem dX7_pass_57 : decode cX7_pass 57 = .ok (.aload_n 0, 1) := by decide +kernel
theorem dX7_pass_58 : decode cX7_pass 58 = .ok (.iload_n 1, 1) := by decide +kernel
theorem dX7_pass_59 : decode cX7_pass 59 = .ok (.invokevirtual 165, 3) := by decide +kernel
theorem dX7_pass_62 : decode cX7_pass 62 = .ok (.iinc 1 1, 3) := by decide +kernel
theorem dX7_pass_65 : decode cX7_pass 65 = .ok (.goto (-40), 3) := by decide +kernel
theorem dX7_pass_68 : decode cX7_pass 68 = .ok (.iconst 0, 1) := by decide +kernel
theorem dX7_pass_69 : decode cX7_pass 69 = .ok (.istore_n 1, 1) := by decide +kernel
theorem dX7_pass_70 : decode cX7_pass 70 = .ok (.iload_n 1, 1) := by decide +kernel
theorem dX7_pass_71 : decode cX7_pass 71 = .ok (.aload_n 0, 1) := by decide +kernel
theorem dX7_pass_72 : decode cX7_pass 72 = .ok (.getfield 61, 3) := by decide +kernel
theorem dX7_pass_75 : decode cX7_pass 75 = .ok (.if_icmp .ge 38, 3) := by decide +kernel
theorem dX7_pass_78 : decode cX7_pass 78 = .ok (.aload_n 0, 1) := by decide +kernel
theorem dX7_pass_79 : decode cX7_pass 79 = .ok (.getfield 11, 3) := by decide +kernel
theorem dX7_pass_82 : decode cX7_pass 82 = .ok (.iload_n 1, 1) := by decide +kernel
theorem dX7_pass_83 : decode cX7_pass 83 = .ok (.aaload, 1) := by decide +kernel
theorem dX7_pass_84 : decode cX7_pass 84 = .ok (.getfield 103, 3) := by decide +kernel
theorem dX7_pass_87 : decode cX7_pass 87 = .ok (.ifCond .ne 20, 3) := by decide +kernel
theorem dX7_pass_90 : decode cX7_pass 90 = .ok (.aload_n 0, 1) := by decide +kernel
theorem dX7_pass_91 : decode cX7_pass 91 = .ok (.getfield 11, 3) := by decide +kernel
theorem dX7_pass_94 : decode cX7_pass 94 = .ok (.iload_n 1, 1) := by decide +kernel
theorem dX7_pass_95 : decode cX7_pass 95 = .ok (.aaload, 1) := by decide +kernel
theorem dX7_pass_96 : decode cX7_pass 96 = .ok (.getfield 81, 3) := by decide +kernel
theorem dX7_pass_99 : decode cX7_pass 99 = .ok (.ifCond .ne 8, 3) := by decide +kernel
theorem dX7_pass_102 : decode cX7_pass 102 = .ok (.aload_n 0, 1) := by decide +kernel
theorem dX7_pass_103 : decode cX7_pass 103 = .ok (.iload_n 1, 1) := by decide +kernel
theorem dX7_pass_104 : decode cX7_pass 104 = .ok (.invokevirtual 168, 3) := by decide +kernel
theorem dX7_pass_107 : decode cX7_pass 107 = .ok (.iinc 1 1, 3) := by decide +kernel
theorem dX7_pass_110 : decode cX7_pass 110 = .ok (.goto (-40), 3) := by decide +kernel
theorem dX7_pass_113 : decode cX7_pass 113 = .ok (.aload_n 0, 1) := by decide +kernel
theorem dX7_pass_114 : decode cX7_pass 114 = .ok (.invokevirtual 171, 3) := by decide +kernel
theorem dX7_pass_117 : decode cX7_pass 117 = .ok (.aload_n 0, 1) := by decide +kernel
theorem dX7_pass_118 : decode cX7_pass 118 = .ok (.invokevirtual 174, 3) := by decide +kernel
theorem dX7_pass_121 : decode cX7_pass 121 = .ok (.aload_n 0, 1) := by decide +kernel
theorem dX7_pass_122 : decode cX7_pass 122 = .ok (.getfield 52, 3) := by decide +kernel
theorem dX7_pass_125 : decode cX7_pass 125 = .ok (.aload_n 0, 1) := by decide +kernel
theorem dX7_pass_126 : decode cX7_pass 126 = .ok (.getfield 52, 3) := by decide +kernel
theorem dX7_pass_129 : decode cX7_pass 129 = .ok (.getfield 177, 3) := by decide +kernel
theorem dX7_pass_132 : decode cX7_pass 132 = .ok (.aload_n 0, 1) := by decide +kernel
theorem dX7_pass_133 : decode cX7_pass 133 = .ok (.invokevirtual 180, 3) := by decide +kernel
theorem dX7_pass_136 : decode cX7_pass 136 = .ok (.invokestatic 184, 3) := by decide +kernel
theorem dX7_pass_139 : decode cX7_pass 139 = .ok (.putfield 177, 3) := by decide +kernel
theorem dX7_pass_142 : decode cX7_pass 142 = .ok (.aload_n 0, 1) := by decide +kernel
theorem dX7_pass_143 : decode cX7_pass 143 = .ok (.getfield 38, 3) := by decide +kernel
theorem dX7_pass_146 : decode cX7_pass 146 = .ok (.aload_n 0, 1) := by decide +kernel
theorem dX7_pass_147 : decode cX7_pass 147 = .ok (.getfield 31, 3) := by decide +kernel
theorem dX7_pass_150 : decode cX7_pass 150 = .ok (.invokevirtual 189, 3) := by decide +kernel
theorem dX7_pass_153 : decode cX7_pass 153 = .ok (.return_, 1) := by decide +kernel
theorem dX7_takeLetters_0 : decode cX7_takeLetters 0 = .ok (.aload_n 0, 1) := by decide +kernel
theorem dX7_takeLetters_1 : decode cX7_takeLetters 1 = .ok (.getfield 31, 3) := by decide +kernel
theorem dX7_takeLetters_4 : decode cX7_takeLetters 4 = .ok (.getfield 99, 3) := by decide +kernel
theorem dX7_takeLetters_7 : decode cX7_takeLetters 7 = .ok (.istore_n 1, 1) := by decide +kernel
theorem dX7_takeLetters_8 : decode cX7_takeLetters 8 = .ok (.iconst 0, 1) := by decide +kernel
theorem dX7_takeLetters_9 : decode cX7_takeLetters 9 = .ok (.istore_n 2, 1) := by decide +kernel
theorem dX7_takeLetters_10 : decode cX7_takeLetters 10 = .ok (.iconst 0, 1) := by decide +kernel
theorem dX7_takeLetters_11 : decode cX7_takeLetters 11 = .ok (.istore_n 3, 1) := by decide +kernel
theorem dX7_takeLetters_12 : decode cX7_takeLetters 12 = .ok (.iload_n 3, 1) := by decide +kernel
theorem dX7_takeLetters_13 : decode cX7_takeLetters 13 = .ok (.iload_n 1, 1) := by decide +kernel
theorem dX7_takeLetters_14 : decode cX7_takeLetters 14 = .ok (.if_icmp .ge 78, 3) := by decide +kernel
theorem dX7_takeLetters_17 : decode cX7_takeLetters 17 = .ok (.aload_n 0, 1) := by decide +kernel
theorem dX7_takeLetters_18 : decode cX7_takeLetters 18 = .ok (.getfield 31, 3) := by decide +kernel
theorem dX7_takeLetters_21 : decode cX7_takeLetters 21 = .ok (.iload_n 3, 1) := by decide +kernel
theorem dX7_takeLetters_22 : decode cX7_takeLetters 22 = .ok (.iconst 3, 1) := by decide +kernel
theorem dX7_takeLetters_23 : decode cX7_takeLetters 23 = .ok (.invokevirtual 192, 3) := by decide +kernel
theorem dX7_takeLetters_26 : decode cX7_takeLetters 26 = .ok (.aload_n 0, 1) := by decide +kernel
theorem dX7_takeLetters_27 : decode cX7_takeLetters 27 = .ok (.getfield 65, 3) := by decide +kernel
theorem dX7_takeLetters_30 : decode cX7_takeLetters 30 = .ok (.if_icmp .gt 56, 3) := by decide +kernel
theorem dX7_takeLetters_33 : decode cX7_takeLetters 33 = .ok (.iconst 1, 1) := by decide +kernel
theorem dX7_takeLetters_34 : decode cX7_takeLetters 34 = .ok (.istore_n 2, 1) := by decide +kernel
theorem dX7_takeLetters_35 : decode cX7_takeLetters 35 = .ok (.aload_n 0, 1) := by decide +kernel
theorem dX7_takeLetters_36 : decode cX7_takeLetters 36 = .ok (.getfield 31, 3) := by decide +kernel
theorem dX7_takeLetters_39 : decode cX7_takeLetters 39 = .ok (.iload_n 3, 1) := by decide +kernel
theorem dX7_takeLetters_40 : decode cX7_takeLetters 40 = .ok (.bipush 7, 2) := by decide +kernel
theorem dX7_takeLetters_42 : decode cX7_takeLetters 42 = .ok (.invokevirtual 192, 3) := by decide +kernel
theorem dX7_takeLetters_45 : decode cX7_takeLetters 45 = .ok (.ifCond .eq 16, 3) := by decide +kernel
theorem dX7_takeLetters_48 : decode cX7_takeLetters 48 = .ok (.aload_n 0, 1) := by decide +kernel
theorem dX7_takeLetters_49 : decode cX7_takeLetters 49 = .ok (.aload_n 0, 1) := by decide +kernel
theorem dX7_takeLetters_50 : decode cX7_takeLetters 50 = .ok (.getfield 31, 3) := by decide +kernel
theorem dX7_takeLetters_53 : decode cX7_takeLetters 53 = .ok (.iload_n 3, 1) := by decide +kernel
theorem dX7_takeLetters_54 : decode cX7_takeLetters 54 = .ok (.iconst 2, 1) := by decide +kernel
theorem dX7_takeLetters_55 : decode cX7_takeLetters 55 = .ok (.invokevirtual 192, 3) := by decide +kernel
theorem dX7_takeLetters_58 : decode cX7_takeLetters 58 = .ok (.invokevirtual 195, 3) := by decide +kernel
theorem dX7_takeLetters_61 : decode cX7_takeLetters 61 = .ok (.aload_n 0, 1) := by decide +kernel
theorem dX7_takeLetters_62 : decode cX7_takeLetters 62 = .ok (.getfield 31, 3) := by decide +kernel
theorem dX7_takeLetters_65 : decode cX7_takeLetters 65 = .ok (.iload_n 3, 1) := by decide +kernel
theorem dX7_takeLetters_66 : decode cX7_takeLetters 66 = .ok (.iconst 0, 1) := by decide +kernel
theorem dX7_takeLetters_67 : decode cX7_takeLetters 67 = .ok (.invokevirtual 192, 3) := by decide +kernel
theorem dX7_takeLetters_70 : decode cX7_takeLetters 70 = .ok (.ifCond .ne 11, 3) := by decide +kernel
theorem dX7_takeLetters_73 : decode cX7_takeLetters 73 = .ok (.aload_n 0, 1) := by decide +kernel
theorem dX7_takeLetters_74 : decode cX7_takeLetters 74 = .ok (.iload_n 3, 1) := by decide +kernel
theorem dX7_takeLetters_75 : decode cX7_takeLetters 75 = .ok (.invokevirtual 198, 3) := by decide +kernel
theorem dX7_takeLetters_78 : decode cX7_takeLetters 78 = .ok (.goto 8, 3) := by decide +kernel
theorem dX7_takeLetters_81 : decode cX7_takeLetters 81 = .ok (.aload_n 0, 1) := by decide +kernel
theorem dX7_takeLetters_82 : decode cX7_takeLetters 82 = .ok (.iload_n 3, 1) := by decide +kernel
theorem dX7_takeLetters_83 : decode cX7_takeLetters 83 = .ok (.invokevirtual 201, 3) := by decide +kernel
theorem dX7_takeLetters_86 : decode cX7_takeLetters 86 = .ok (.iinc 3 1, 3) := by decide +kernel
theorem dX7_takeLetters_89 : decode cX7_takeLetters 89 = .ok (.goto (-77), 3) := by decide +kernel
theorem dX7_takeLetters_92 : decode cX7_takeLetters 92 = .ok (.iload_n 2, 1) := by decide +kernel
theorem dX7_takeLetters_93 : decode cX7_takeLetters 93 = .ok (.ifCond .eq 14, 3) := by decide +kernel
theorem dX7_takeLetters_96 : decode cX7_takeLetters 96 = .ok (.aload_n 0, 1) := by decide +kernel
theorem dX7_takeLetters_97 : decode cX7_takeLetters 97 = .ok (.getfield 31, 3) := by decide +kernel
theorem dX7_takeLetters_100 : decode cX7_takeLetters 100 = .ok (.aload_n 0, 1) := by decide +kernel
theorem dX7_takeLetters_101 : decode cX7_takeLetters 101 = .ok (.getfield 65, 3) := by decide +kernel
theorem dX7_takeLetters_104 : decode cX7_takeLetters 104 = .ok (.invokevirtual 204, 3) := by decide +kernel
theorem dX7_takeLetters_107 : decode cX7_takeLetters 107 = .ok (.return_, 1) := by decide +kernel
theorem dX7_takeWork_0 : decode cX7_takeWork 0 = .ok (.aload_n 0, 1) := by decide +kernel
theorem dX7_takeWork_1 : decode cX7_takeWork 1 = .ok (.getfield 31, 3) := by decide +kernel
theorem dX7_takeWork_4 : decode cX7_takeWork 4 = .ok (.iload_n 1, 1) := by decide +kernel
theorem dX7_takeWork_5 : decode cX7_takeWork 5 = .ok (.iconst 1, 1) := by decide +kernel
theorem dX7_takeWork_6 : decode cX7_takeWork 6 = .ok (.invokevirtual 192, 3) := by decide +kernel
theorem dX7_takeWork_9 : decode cX7_takeWork 9 = .ok (.istore_n 2, 1) := by decide +kernel
theorem dX7_takeWork_10 : decode cX7_takeWork 10 = .ok (.aload_n 0, 1) := by decide +kernel
theorem dX7_takeWork_11 : decode cX7_takeWork 11 = .ok (.getfield 31, 3) := by decide +kernel
theorem dX7_takeWork_14 : decode cX7_takeWork 14 = .ok (.iload_n 1, 1) := by decide +kernel
theorem dX7_takeWork_15 : decode cX7_takeWork 15 = .ok (.iconst 2, 1) := by decide +kernel
theorem dX7_takeWork_16 : decode cX7_takeWork 16 = .ok (.invokevirtual 192, 3) := by decide +kernel
theorem dX7_takeWork_19 : decode cX7_takeWork 19 = .ok (.istore_n 3, 1) := by decide +kernel
theorem dX7_takeWork_20 : decode cX7_takeWork 20 = .ok (.aload_n 0, 1) := by decide +kernel
theorem dX7_takeWork_21 : decode cX7_takeWork 21 = .ok (.getfield 31, 3) := by decide +kernel
theorem dX7_takeWork_24 : decode cX7_takeWork 24 = .ok (.iload_n 1, 1) := by decide +kernel
theorem dX7_takeWork_25 : decode cX7_takeWork 25 = .ok (.iconst 4, 1) := by decide +kernel
theorem dX7_takeWork_26 : decode cX7_takeWork 26 = .ok (.invokevirtual 192, 3) := by decide +kernel
theorem dX7_takeWork_29 : decode cX7_takeWork 29 = .ok (.istore 4, 2) := by decide +kernel
theorem dX7_takeWork_31 : decode cX7_takeWork 31 = .ok (.aload_n 0, 1) := by decide +kernel
theorem dX7_takeWork_32 : decode cX7_takeWork 32 = .ok (.getfield 11, 3) := by decide +kernel
theorem dX7_takeWork_35 : decode cX7_takeWork 35 = .ok (.iload_n 3, 1) := by decide +kernel
theorem dX7_takeWork_36 : decode cX7_takeWork 36 = .ok (.aaload, 1) := by decide +kernel
theorem dX7_takeWork_37 : decode cX7_takeWork 37 = .ok (.astore 5, 2) := by decide +kernel
theorem dX7_takeWork_39 : decode cX7_takeWork 39 = .ok (.aload_n 0, 1) := by decide +kernel
theorem dX7_takeWork_40 : decode cX7_takeWork 40 = .ok (.getfield 38, 3) := by decide +kernel
theorem dX7_takeWork_43 : decode cX7_takeWork 43 = .ok (.iload_n 2, 1) := by decide +kernel
theorem dX7_takeWork_44 : decode cX7_takeWork 44 = .ok (.iload_n 3, 1) := by decide +kernel
theorem dX7_takeWork_45 : decode cX7_takeWork 45 = .ok (.invokestatic 121, 3) := by decide +kernel
theorem dX7_takeWork_48 : decode cX7_takeWork 48 = .ok (.invokevirtual 207, 3) := by decide +kernel
theorem dX7_takeWork_51 : decode cX7_takeWork 51 = .ok (.aload 5, 2) := by decide +kernel
theorem dX7_takeWork_53 : decode cX7_takeWork 53 = .ok (.getfield 210, 3) := by decide +kernel
theorem dX7_takeWork_56 : decode cX7_takeWork 56 = .ok (.ifCond .eq 37, 3) := by decide +kernel
theorem dX7_takeWork_59 : decode cX7_takeWork 59 = .ok (.aload_n 0, 1) := by decide +kernel
theorem dX7_takeWork_60 : decode cX7_takeWork 60 = .ok (.getfield 31, 3) := by decide +kernel
theorem dX7_takeWork_63 : decode cX7_takeWork 63 = .ok (.iload_n 1, 1) := by decide +kernel
theorem dX7_takeWork_64 : decode cX7_takeWork 64 = .ok (.bipush 7, 2) := by decide +kernel
theorem dX7_takeWork_66 : decode cX7_takeWork 66 = .ok (.invokevirtual 192, 3) := by decide +kernel
theorem dX7_takeWork_69 : decode cX7_takeWork 69 = .ok (.ifCond .ne 24, 3) := by decide +kernel
theorem dX7_takeWork_72 : decode cX7_takeWork 72 = .ok (.aload_n 0, 1) := by decide +kernel
theorem dX7_takeWork_73 : decode cX7_takeWork 73 = .ok (.dup, 1) := by decide +kernel
theorem dX7_takeWork_74 : decode cX7_takeWork 74 = .ok (.getfield 153, 3) := by decide +kernel
theorem dX7_takeWork_77 : decode cX7_takeWork 77 = .ok (.iconst 1, 1) := by decide +kernel
theorem dX7_takeWork_78 : decode cX7_takeWork 78 = .ok (.iadd, 1) := by decide +kernel
theorem dX7_takeWork_79 : decode cX7_takeWork 79 = .ok (.putfield 153, 3) := by decide +kernel
theorem dX7_takeWork_82 : decode cX7_takeWork 82 = .ok (.aload_n 0, 1) := by decide +kernel
theorem dX7_takeWork_83 : decode cX7_takeWork 83 = .ok (.dup, 1) := by decide +kernel
theorem dX7_takeWork_84 : decode cX7_takeWork 84 = .ok (.getfield 156, 3) := by decide +kernel
theorem dX7_takeWork_87 : decode cX7_takeWork 87 = .ok (.iload 4, 2) := by decide +kernel
theorem dX7_takeWork_89 : decode cX7_takeWork 89 = .ok (.iadd, 1) := by decide +kernel
theorem dX7_takeWork_90 : decode cX7_takeWork 90 = .ok (.putfield 156, 3) := by decide +kernel
theorem dX7_takeWork_93 : decode cX7_takeWork 93 = .ok (.aload 5, 2) := by decide +kernel
theorem dX7_takeWork_95 : decode cX7_takeWork 95 = .ok (.getfield 103, 3) := by decide +kernel
theorem dX7_takeWork_98 : decode cX7_takeWork 98 = .ok (.ifCond .ne 46, 3) := by decide +kernel
theorem dX7_takeWork_101 : decode cX7_takeWork 101 = .ok (.aload 5, 2) := by decide +kernel
theorem dX7_takeWork_103 : decode cX7_takeWork 103 = .ok (.aload_n 0, 1) := by decide +kernel
theorem dX7_takeWork_104 : decode cX7_takeWork 104 = .ok (.getfield 31, 3) := by decide +kernel
theorem dX7_takeWork_107 : decode cX7_takeWork 107 = .ok (.iload_n 1, 1) := by decide +kernel
theorem dX7_takeWork_108 : decode cX7_takeWork 108 = .ok (.bipush 6, 2) := by decide +kernel
theorem dX7_takeWork_110 : decode cX7_takeWork 110 = .ok (.invokevirtual 192, 3) := by decide +kernel
theorem dX7_takeWork_113 : decode cX7_takeWork 113 = .ok (.putfield 213, 3) := by decide +kernel
theorem dX7_takeWork_116 : decode cX7_takeWork 116 = .ok (.aload 5, 2) := by decide +kernel
theorem dX7_takeWork_118 : decode cX7_takeWork 118 = .ok (.iload_n 2, 1) := by decide +kernel
theorem dX7_takeWork_119 : decode cX7_takeWork 119 = .ok (.putfield 216, 3) := by decide +kernel
theorem dX7_takeWork_122 : decode cX7_takeWork 122 = .ok (.aload 5, 2) := by decide +kernel
theorem dX7_takeWork_124 : decode cX7_takeWork 124 = .ok (.aload_n 0, 1) := by decide +kernel
theorem dX7_takeWork_125 : decode cX7_takeWork 125 = .ok (.getfield 65, 3) := by decide +kernel
theorem dX7_takeWork_128 : decode cX7_takeWork 128 = .ok (.putfield 219, 3) := by decide +kernel
theorem dX7_takeWork_131 : decode cX7_takeWork 131 = .ok (.aload_n 0, 1) := by decide +kernel
theorem dX7_takeWork_132 : decode cX7_takeWork 132 = .ok (.getfield 45, 3) := by decide +kernel
theorem dX7_takeWork_135 : decode cX7_takeWork 135 = .ok (.iconst 1, 1) := by decide +kernel
theorem dX7_takeWork_136 : decode cX7_takeWork 136 = .ok (.aload_n 0, 1) := by decide +kernel
theorem dX7_takeWork_137 : decode cX7_takeWork 137 = .ok (.getfield 65, 3) := by decide +kernel
theorem dX7_takeWork_140 : decode cX7_takeWork 140 = .ok (.iload_n 3, 1) := by decide +kernel
theorem dX7_takeWork_141 : decode cX7_takeWork 141 = .ok (.invokevirtual 117, 3) := by decide +kernel
theorem dX7_takeWork_144 : decode cX7_takeWork 144 = .ok (.aload 5, 2) := by decide +kernel
theorem dX7_takeWork_146 : decode cX7_takeWork 146 = .ok (.dup, 1) := by decide +kernel
theorem dX7_takeWork_147 : decode cX7_takeWork 147 = .ok (.getfield 103, 3) := by decide +kernel
theorem dX7_takeWork_150 : decode cX7_takeWork 150 = .ok (.iload 4, 2) := by decide +kernel
theorem dX7_takeWork_152 : decode cX7_takeWork 152 = .ok (.iadd, 1) := by decide +kernel
theorem dX7_takeWork_153 : decode cX7_takeWork 153 = .ok (.putfield 103, 3) := by decide +kernel
theorem dX7_takeWork_156 : decode cX7_takeWork 156 = .ok (.aload 5, 2) := by decide +kernel
theorem dX7_takeWork_158 : decode cX7_takeWork 158 = .ok (.dup, 1) := by decide +kernel
theorem dX7_takeWork_159 : decode cX7_takeWork 159 = .ok (.getfield 111, 3) := by decide +kernel
theorem dX7_takeWork_162 : decode cX7_takeWork 162 = .ok (.aload_n 0, 1) := by decide +kernel
theorem dX7_takeWork_163 : decode cX7_takeWork 163 = .ok (.getfield 31, 3) := by decide +kernel
theorem dX7_takeWork_166 : decode cX7_takeWork 166 = .ok (.iload_n 1, 1) := by decide +kernel
theorem dX7_takeWork_167 : decode cX7_takeWork 167 = .ok (.iconst 5, 1) := by decide +kernel
theorem dX7_takeWork_168 : decode cX7_takeWork 168 = .ok (.invokevirtual 192, 3) := by decide +kernel
theorem dX7_takeWork_171 : decode cX7_takeWork 171 = .ok (.iadd, 1) := by decide +kernel
theorem dX7_takeWork_172 : decode cX7_takeWork 172 = .ok (.putfield 111, 3) := by decide +kernel
theorem dX7_takeWork_175 : decode cX7_takeWork 175 = .ok (.aload 5, 2) := by decide +kernel
theorem dX7_takeWork_177 : decode cX7_takeWork 177 = .ok (.dup, 1) := by decide +kernel
theorem dX7_takeWork_178 : decode cX7_takeWork 178 = .ok (.getfield 222, 3) := by decide +kernel
theorem dX7_takeWork_181 : decode cX7_takeWork 181 = .ok (.iconst 1, 1) := by decide +kernel
theorem dX7_takeWork_182 : decode cX7_takeWork 182 = .ok (.iadd, 1) := by decide +kernel
theorem dX7_takeWork_183 : decode cX7_takeWork 183 = .ok (.putfield 222, 3) := by decide +kernel
theorem dX7_takeWork_186 : decode cX7_takeWork 186 = .ok (.aload 5, 2) := by decide +kernel
theorem dX7_takeWork_188 : decode cX7_takeWork 188 = .ok (.dup, 1) := by decide +kernel
theorem dX7_takeWork_189 : decode cX7_takeWork 189 = .ok (.getfield 225, 3) := by decide +kernel
theorem dX7_takeWork_192 : decode cX7_takeWork 192 = .ok (.iconst 1, 1) := by decide +kernel
theorem dX7_takeWork_193 : decode cX7_takeWork 193 = .ok (.isub, 1) := by decide +kernel
theorem dX7_takeWork_194 : decode cX7_takeWork 194 = .ok (.putfield 225, 3) := by decide +kernel
theorem dX7_takeWork_197 : decode cX7_takeWork 197 = .ok (.aload 5, 2) := by decide +kernel
theorem dX7_takeWork_199 : decode cX7_takeWork 199 = .ok (.iconst 1, 1) := by decide +kernel
theorem dX7_takeWork_200 : decode cX7_takeWork 200 = .ok (.putfield 228, 3) := by decide +kernel
theorem dX7_takeWork_203 : decode cX7_takeWork 203 = .ok (.aload 5, 2) := by decide +kernel
theorem dX7_takeWork_205 : decode cX7_takeWork 205 = .ok (.getfield 106, 3) := by decide +kernel
theorem dX7_takeWork_208 : decode cX7_takeWork 208 = .ok (.ifCond .eq 14, 3) := by decide +kernel
theorem dX7_takeWork_211 : decode cX7_takeWork 211 = .ok (.aload_n 0, 1) := by decide +kernel
theorem dX7_takeWork_212 : decode cX7_takeWork 212 = .ok (.iconst 1, 1) := by decide +kernel
theorem dX7_takeWork_213 : decode cX7_takeWork 213 = .ok (.iload_n 3, 1) := by decide +kernel
theorem dX7_takeWork_214 : decode cX7_takeWork 214 = .ok (.iload_n 2, 1) := by decide +kernel
theorem dX7_takeWork_215 : decode cX7_takeWork 215 = .ok (.invokevirtual 231, 3) := by decide +kernel
theorem dX7_takeWork_218 : decode cX7_takeWork 218 = .ok (.pop, 1) := by decide +kernel
theorem dX7_takeWork_219 : decode cX7_takeWork 219 = .ok (.goto 15, 3) := by decide +kernel
theorem dX7_takeWork_222 : decode cX7_takeWork 222 = .ok (.aload 5, 2) := by decide +kernel
theorem dX7_takeWork_224 : decode cX7_takeWork 224 = .ok (.iconst 1, 1) := by decide +kernel
theorem dX7_takeWork_225 : decode cX7_takeWork 225 = .ok (.putfield 106, 3) := by decide +kernel
theorem dX7_takeWork_228 : decode cX7_takeWork 228 = .ok (.aload 5, 2) := by decide +kernel
theorem dX7_takeWork_230 : decode cX7_takeWork 230 = .ok (.iload_n 2, 1) := by decide +kernel
theorem dX7_takeWork_231 : decode cX7_takeWork 231 = .ok (.putfield 235, 3) := by decide +kernel
theorem dX7_takeWork_234 : decode cX7_takeWork 234 = .ok (.return_, 1) := by decide +kernel
theorem dX7_takeSignal_0 : decode cX7_takeSignal 0 = .ok (.aload_n 0, 1) := by decide +kernel
theorem dX7_takeSignal_1 : decode cX7_takeSignal 1 = .ok (.getfield 31, 3) := by decide +kernel
theorem dX7_takeSignal_4 : decode cX7_takeSignal 4 = .ok (.iload_n 1, 1) := by decide +kernel
theorem dX7_takeSignal_5 : decode cX7_takeSignal 5 = .ok (.iconst 2, 1) := by decide +kernel
theorem dX7_takeSignal_6 : decode cX7_takeSignal 6 = .ok (.invokevirtual 192, 3) := by decide +kernel
theorem dX7_takeSignal_9 : decode cX7_takeSignal 9 = .ok (.istore_n 2, 1) := by decide +kernel
theorem dX7_takeSignal_10 : decode cX7_takeSignal 10 = .ok (.aload_n 0, 1) := by decide +kernel
theorem dX7_takeSignal_11 : decode cX7_takeSignal 11 = .ok (.getfield 38, 3) := by decide +kernel
theorem dX7_takeSignal_14 : decode cX7_takeSignal 14 = .ok (.aload_n 0, 1) := by decide +kernel
theorem dX7_takeSignal_15 : decode cX7_takeSignal 15 = .ok (.getfield 31, 3) := by decide +kernel
theorem dX7_takeSignal_18 : decode cX7_takeSignal 18 = .ok (.iload_n 1, 1) := by decide +kernel
theorem dX7_takeSignal_19 : decode cX7_takeSignal 19 = .ok (.iconst 1, 1) := by decide +kernel
theorem dX7_takeSignal_20 : decode cX7_takeSignal 20 = .ok (.invokevirtual 192, 3) := by decide +kernel
theorem dX7_takeSignal_23 : decode cX7_takeSignal 23 = .ok (.iload_n 2, 1) := by decide +kernel
theorem dX7_takeSignal_24 : decode cX7_takeSignal 24 = .ok (.invokestatic 121, 3) := by decide +kernel
theorem dX7_takeSignal_27 : decode cX7_takeSignal 27 = .ok (.invokevirtual 207, 3) := by decide +kernel
theorem dX7_takeSignal_30 : decode cX7_takeSignal 30 = .ok (.aload_n 0, 1) := by decide +kernel
theorem dX7_takeSignal_31 : decode cX7_takeSignal 31 = .ok (.getfield 31, 3) := by decide +kernel
theorem dX7_takeSignal_34 : decode cX7_takeSignal 34 = .ok (.iload_n 1, 1) := by decide +kernel
theorem dX7_takeSignal_35 : decode cX7_takeSignal 35 = .ok (.iconst 0, 1) := by decide +kernel
theorem dX7_takeSignal_36 : decode cX7_takeSignal 36 = .ok (.invokevirtual 192, 3) := by decide +kernel
theorem dX7_takeSignal_39 : decode cX7_takeSignal 39 = .ok (.tableswitch 78 1 3 #[25, 43, 54], 25) := by decide +kernel
theorem dX7_takeSignal_64 : decode cX7_takeSignal 64 = .ok (.aload_n 0, 1) := by decide +kernel
theorem dX7_takeSignal_65 : decode cX7_takeSignal 65 = .ok (.getfield 11, 3) := by decide +kernel
theorem dX7_takeSignal_68 : decode cX7_takeSignal 68 = .ok (.iload_n 2, 1) := by decide +kernel
theorem dX7_takeSignal_69 : decode cX7_takeSignal 69 = .ok (.aaload, 1) := by decide +kernel
theorem dX7_takeSignal_70 : decode cX7_takeSignal 70 = .ok (.dup, 1) := by decide +kernel
theorem dX7_takeSignal_71 : decode cX7_takeSignal 71 = .ok (.getfield 238, 3) := by decide +kernel
theorem dX7_takeSignal_74 : decode cX7_takeSignal 74 = .ok (.iconst 1, 1) := by decide +kernel
theorem dX7_takeSignal_75 : decode cX7_takeSignal 75 = .ok (.isub, 1) := by decide +kernel
theorem dX7_takeSignal_76 : decode cX7_takeSignal 76 = .ok (.putfield 238, 3) := by decide +kernel
theorem dX7_takeSignal_79 : decode cX7_takeSignal 79 = .ok (.goto 46, 3) := by decide +kernel
theorem dX7_takeSignal_82 : decode cX7_takeSignal 82 = .ok (.aload_n 0, 1) := by decide +kernel
theorem dX7_takeSignal_83 : decode cX7_takeSignal 83 = .ok (.getfield 52, 3) := by decide +kernel
theorem dX7_takeSignal_86 : decode cX7_takeSignal 86 = .ok (.iload_n 2, 1) := by decide +kernel
theorem dX7_takeSignal_87 : decode cX7_takeSignal 87 = .ok (.putfield 241, 3) := by decide +kernel
theorem dX7_takeSignal_90 : decode cX7_takeSignal 90 = .ok (.goto 35, 3) := by decide +kernel
theorem dX7_takeSignal_93 : decode cX7_takeSignal 93 = .ok (.aload_n 0, 1) := by decide +kernel
theorem dX7_takeSignal_94 : decode cX7_takeSignal 94 = .ok (.getfield 52, 3) := by decide +kernel
theorem dX7_takeSignal_97 : decode cX7_takeSignal 97 = .ok (.dup, 1) := by decide +kernel
theorem dX7_takeSignal_98 : decode cX7_takeSignal 98 = .ok (.getfield 244, 3) := by decide +kernel
theorem dX7_takeSignal_101 : decode cX7_takeSignal 101 = .ok (.aload_n 0, 1) := by decide +kernel
theorem dX7_takeSignal_102 : decode cX7_takeSignal 102 = .ok (.getfield 31, 3) := by decide +kernel
theorem dX7_takeSignal_105 : decode cX7_takeSignal 105 = .ok (.iload_n 1, 1) := by decide +kernel
theorem dX7_takeSignal_106 : decode cX7_takeSignal 106 = .ok (.iconst 5, 1) := by decide +kernel
theorem dX7_takeSignal_107 : decode cX7_takeSignal 107 = .ok (.invokevirtual 192, 3) := by decide +kernel
theorem dX7_takeSignal_110 : decode cX7_takeSignal 110 = .ok (.iadd, 1) := by decide +kernel
theorem dX7_takeSignal_111 : decode cX7_takeSignal 111 = .ok (.putfield 244, 3) := by decide +kernel
theorem dX7_takeSignal_114 : decode cX7_takeSignal 114 = .ok (.goto 11, 3) := by decide +kernel
theorem dX7_takeSignal_117 : decode cX7_takeSignal 117 = .ok (.aload_n 0, 1) := by decide +kernel
theorem dX7_takeSignal_118 : decode cX7_takeSignal 118 = .ok (.getfield 52, 3) := by decide +kernel
theorem dX7_takeSignal_121 : decode cX7_takeSignal 121 = .ok (.iload_n 2, 1) := by decide +kernel
theorem dX7_takeSignal_122 : decode cX7_takeSignal 122 = .ok (.putfield 247, 3) := by decide +kernel
theorem dX7_takeSignal_125 : decode cX7_takeSignal 125 = .ok (.return_, 1) := by decide +kernel
theorem dX7_workOff_0 : decode cX7_workOff 0 = .ok (.aload_n 0, 1) := by decide +kernel
theorem dX7_workOff_1 : decode cX7_workOff 1 = .ok (.getfield 11, 3) := by decide +kernel
theorem dX7_workOff_4 : decode cX7_workOff 4 = .ok (.iload_n 1, 1) := by decide +kernel
theorem dX7_workOff_5 : decode cX7_workOff 5 = .ok (.aaload, 1) := by decide +kernel
theorem dX7_workOff_6 : decode cX7_workOff 6 = .ok (.astore_n 2, 1) := by decide +kernel
theorem dX7_workOff_7 : decode cX7_workOff 7 = .ok (.aload_n 2, 1) := by decide +kernel
theorem dX7_workOff_8 : decode cX7_workOff 8 = .ok (.dup, 1) := by decide +kernel
theorem dX7_workOff_9 : decode cX7_workOff 9 = .ok (.getfield 103, 3) := by decide +kernel
theorem dX7_workOff_12 : decode cX7_workOff 12 = .ok (.iconst 1, 1) := by decide +kernel
theorem dX7_workOff_13 : decode cX7_workOff 13 = .ok (.isub, 1) := by decide +kernel
theorem dX7_workOff_14 : decode cX7_workOff 14 = .ok (.putfield 103, 3) := by decide +kernel
theorem dX7_workOff_17 : decode cX7_workOff 17 = .ok (.aload_n 2, 1) := by decide +kernel
theorem dX7_workOff_18 : decode cX7_workOff 18 = .ok (.dup, 1) := by decide +kernel
theorem dX7_workOff_19 : decode cX7_workOff 19 = .ok (.getfield 250, 3) := by decide +kernel
theorem dX7_workOff_22 : decode cX7_workOff 22 = .ok (.iconst 1, 1) := by decide +kernel
theorem dX7_workOff_23 : decode cX7_workOff 23 = .ok (.iadd, 1) := by decide +kernel
theorem dX7_workOff_24 : decode cX7_workOff 24 = .ok (.putfield 250, 3) := by decide +kernel
theorem dX7_workOff_27 : decode cX7_workOff 27 = .ok (.aload_n 2, 1) := by decide +kernel
theorem dX7_workOff_28 : decode cX7_workOff 28 = .ok (.getfield 103, 3) := by decide +kernel
theorem dX7_workOff_31 : decode cX7_workOff 31 = .ok (.ifCond .ne 21, 3) := by decide +kernel
theorem dX7_workOff_34 : decode cX7_workOff 34 = .ok (.aload_n 0, 1) := by decide +kernel
theorem dX7_workOff_35 : decode cX7_workOff 35 = .ok (.iload_n 1, 1) := by decide +kernel
theorem dX7_workOff_36 : decode cX7_workOff 36 = .ok (.putfield 90, 3) := by decide +kernel
theorem dX7_workOff_39 : decode cX7_workOff 39 = .ok (.aload_n 0, 1) := by decide +kernel
theorem dX7_workOff_40 : decode cX7_workOff 40 = .ok (.getfield 45, 3) := by decide +kernel
theorem dX7_workOff_43 : decode cX7_workOff 43 = .ok (.iconst 2, 1) := by decide +kernel
theorem dX7_workOff_44 : decode cX7_workOff 44 = .ok (.aload_n 0, 1) := by decide +kernel
theorem dX7_workOff_45 : decode cX7_workOff 45 = .ok (.getfield 65, 3) := by decide +kernel
theorem dX7_workOff_48 : decode cX7_workOff 48 = .ok (.iload_n 1, 1) := by decide +kernel
theorem dX7_workOff_49 : decode cX7_workOff 49 = .ok (.invokevirtual 117, 3) := by decide +kernel
theorem dX7_workOff_52 : decode cX7_workOff 52 = .ok (.iconst 0, 1) := by decide +kernel
theorem dX7_workOff_53 : decode cX7_workOff 53 = .ok (.istore_n 3, 1) := by decide +kernel
theorem dX7_workOff_54 : decode cX7_workOff 54 = .ok (.iload_n 3, 1) := by decide +kernel
theorem dX7_workOff_55 : decode cX7_workOff 55 = .ok (.aload_n 0, 1) := by decide +kernel
theorem dX7_workOff_56 : decode cX7_workOff 56 = .ok (.getfield 24, 3) := by decide +kernel
theorem dX7_workOff_59 : decode cX7_workOff 59 = .ok (.getfield 71, 3) := by decide +kernel
theorem dX7_workOff_62 : decode cX7_workOff 62 = .ok (.if_icmp .ge 61, 3) := by decide +kernel
theorem dX7_workOff_65 : decode cX7_workOff 65 = .ok (.aload_n 0, 1) := by decide +kernel
theorem dX7_workOff_66 : decode cX7_workOff 66 = .ok (.getfield 24, 3) := by decide +kernel
theorem dX7_workOff_69 : decode cX7_workOff 69 = .ok (.iload_n 3, 1) := by decide +kernel
theorem dX7_workOff_70 : decode cX7_workOff 70 = .ok (.iconst 0, 1) := by decide +kernel
theorem dX7_workOff_71 : decode cX7_workOff 71 = .ok (.invokevirtual 253, 3) := by decide +kernel
theorem dX7_workOff_74 : decode cX7_workOff 74 = .ok (.iload_n 1, 1) := by decide +kernel
theorem dX7_workOff_75 : decode cX7_workOff 75 = .ok (.if_icmp .ne 42, 3) := by decide +kernel
theorem dX7_workOff_78 : decode cX7_workOff 78 = .ok (.aload_n 0, 1) := by decide +kernel
theorem dX7_workOff_79 : decode cX7_workOff 79 = .ok (.getfield 24, 3) := by decide +kernel
theorem dX7_workOff_82 : decode cX7_workOff 82 = .ok (.iload_n 3, 1) := by decide +kernel
theorem dX7_workOff_83 : decode cX7_workOff 83 = .ok (.iconst 1, 1) := by decide +kernel
theorem dX7_workOff_84 : decode cX7_workOff 84 = .ok (.invokevirtual 253, 3) := by decide +kernel
theorem dX7_workOff_87 : decode cX7_workOff 87 = .ok (.aload_n 2, 1) := by decide +kernel
theorem dX7_workOff_88 : decode cX7_workOff 88 = .ok (.getfield 250, 3) := by decide +kernel
theorem dX7_workOff_91 : decode cX7_workOff 91 = .ok (.if_icmp .ne 26, 3) := by decide +kernel
theorem dX7_workOff_94 : decode cX7_workOff 94 = .ok (.aload_n 0, 1) := by decide +kernel
theorem dX7_workOff_95 : decode cX7_workOff 95 = .ok (.iload_n 1, 1) := by decide +kernel
theorem dX7_workOff_96 : decode cX7_workOff 96 = .ok (.aload_n 0, 1) := by decide +kernel
theorem dX7_workOff_97 : decode cX7_workOff 97 = .ok (.getfield 24, 3) := by decide +kernel
theorem dX7_workOff_100 : decode cX7_workOff 100 = .ok (.iload_n 3, 1) := by decide +kernel
theorem dX7_workOff_101 : decode cX7_workOff 101 = .ok (.iconst 2, 1) := by decide +kernel
theorem dX7_workOff_102 : decode cX7_workOff 102 = .ok (.invokevirtual 253, 3) := by decide +kernel
theorem dX7_workOff_105 : decode cX7_workOff 105 = .ok (.aload_n 0, 1) := by decide +kernel
theorem dX7_workOff_106 : decode cX7_workOff 106 = .ok (.getfield 24, 3) := by decide +kernel
theorem dX7_workOff_109 : decode cX7_workOff 109 = .ok (.iload_n 3, 1) := by decide +kernel
theorem dX7_workOff_110 : decode cX7_workOff 110 = .ok (.iconst 3, 1) := by decide +kernel
theorem dX7_workOff_111 : decode cX7_workOff 111 = .ok (.invokevirtual 253, 3) := by decide +kernel
theorem dX7_workOff_114 : decode cX7_workOff 114 = .ok (.invokevirtual 254, 3) := by decide +kernel
theorem dX7_workOff_117 : decode cX7_workOff 117 = .ok (.iinc 3 1, 3) := by decide +kernel
theorem dX7_workOff_120 : decode cX7_workOff 120 = .ok (.goto (-66), 3) := by decide +kernel
theorem dX7_workOff_123 : decode cX7_workOff 123 = .ok (.return_, 1) := by decide +kernel
theorem dX7_sendWork_0 : decode cX7_sendWork 0 = .ok (.aload_n 0, 1) := by decide +kernel
theorem dX7_sendWork_1 : decode cX7_sendWork 1 = .ok (.getfield 11, 3) := by decide +kernel
theorem dX7_sendWork_4 : decode cX7_sendWork 4 = .ok (.iload_n 1, 1) := by decide +kernel
theorem dX7_sendWork_5 : decode cX7_sendWork 5 = .ok (.aaload, 1) := by decide +kernel
theorem dX7_sendWork_6 : decode cX7_sendWork 6 = .ok (.astore 4, 2) := by decide +kernel
theorem dX7_sendWork_8 : decode cX7_sendWork 8 = .ok (.aload 4, 2) := by decide +kernel
theorem dX7_sendWork_10 : decode cX7_sendWork 10 = .ok (.getfield 111, 3) := by decide +kernel
theorem dX7_sendWork_13 : decode cX7_sendWork 13 = .ok (.iconst 1, 1) := by decide +kernel
theorem dX7_sendWork_14 : decode cX7_sendWork 14 = .ok (.if_icmp .ne 70, 3) := by decide +kernel
theorem dX7_sendWork_17 : decode cX7_sendWork 17 = .ok (.aload 4, 2) := by decide +kernel
theorem dX7_sendWork_19 : decode cX7_sendWork 19 = .ok (.dup, 1) := by decide +kernel
theorem dX7_sendWork_20 : decode cX7_sendWork 20 = .ok (.getfield 111, 3) := by decide +kernel
theorem dX7_sendWork_23 : decode cX7_sendWork 23 = .ok (.sipush 1024, 3) := by decide +kernel
theorem dX7_sendWork_26 : decode cX7_sendWork 26 = .ok (.iadd, 1) := by decide +kernel
theorem dX7_sendWork_27 : decode cX7_sendWork 27 = .ok (.putfield 111, 3) := by decide +kernel
theorem dX7_sendWork_30 : decode cX7_sendWork 30 = .ok (.aload_n 0, 1) := by decide +kernel
theorem dX7_sendWork_31 : decode cX7_sendWork 31 = .ok (.getfield 52, 3) := by decide +kernel
theorem dX7_sendWork_34 : decode cX7_sendWork 34 = .ok (.dup, 1) := by decide +kernel
theorem dX7_sendWork_35 : decode cX7_sendWork 35 = .ok (.getfield 114, 3) := by decide +kernel
theorem dX7_sendWork_38 : decode cX7_sendWork 38 = .ok (.sipush 1024, 3) := by decide +kernel
theorem dX7_sendWork_41 : decode cX7_sendWork 41 = .ok (.iadd, 1) := by decide +kernel
theorem dX7_sendWork_42 : decode cX7_sendWork 42 = .ok (.putfield 114, 3) := by decide +kernel
theorem dX7_sendWork_45 : decode cX7_sendWork 45 = .ok (.aload_n 0, 1) := by decide +kernel
theorem dX7_sendWork_46 : decode cX7_sendWork 46 = .ok (.getfield 52, 3) := by decide +kernel
theorem dX7_sendWork_49 : decode cX7_sendWork 49 = .ok (.dup, 1) := by decide +kernel
theorem dX7_sendWork_50 : decode cX7_sendWork 50 = .ok (.getfield 257, 3) := by decide +kernel
theorem dX7_sendWork_53 : decode cX7_sendWork 53 = .ok (.iconst 1, 1) := by decide +kernel
theorem dX7_sendWork_54 : decode cX7_sendWork 54 = .ok (.iadd, 1) := by decide +kernel
theorem dX7_sendWork_55 : decode cX7_sendWork 55 = .ok (.putfield 257, 3) := by decide +kernel
theorem dX7_sendWork_58 : decode cX7_sendWork 58 = .ok (.aload_n 0, 1) := by decide +kernel
theorem dX7_sendWork_59 : decode cX7_sendWork 59 = .ok (.getfield 52, 3) := by decide +kernel
theorem dX7_sendWork_62 : decode cX7_sendWork 62 = .ok (.getfield 260, 3) := by decide +kernel
theorem dX7_sendWork_65 : decode cX7_sendWork 65 = .ok (.iconst 2, 1) := by decide +kernel
theorem dX7_sendWork_66 : decode cX7_sendWork 66 = .ok (.dup2, 1) := by decide +kernel
theorem dX7_sendWork_67 : decode cX7_sendWork 67 = .ok (.iaload, 1) := by decide +kernel
theorem dX7_sendWork_68 : decode cX7_sendWork 68 = .ok (.iconst 2, 1) := by decide +kernel
theorem dX7_sendWork_69 : decode cX7_sendWork 69 = .ok (.iadd, 1) := by decide +kernel
theorem dX7_sendWork_70 : decode cX7_sendWork 70 = .ok (.iastore, 1) := by decide +kernel
theorem dX7_sendWork_71 : decode cX7_sendWork 71 = .ok (.aload_n 0, 1) := by decide +kernel
theorem dX7_sendWork_72 : decode cX7_sendWork 72 = .ok (.getfield 45, 3) := by decide +kernel
theorem dX7_sendWork_75 : decode cX7_sendWork 75 = .ok (.iconst 5, 1) := by decide +kernel
theorem dX7_sendWork_76 : decode cX7_sendWork 76 = .ok (.aload_n 0, 1) := by decide +kernel
theorem dX7_sendWork_77 : decode cX7_sendWork 77 = .ok (.getfield 65, 3) := by decide +kernel
theorem dX7_sendWork_80 : decode cX7_sendWork 80 = .ok (.iload_n 1, 1) := by decide +kernel
theorem dX7_sendWork_81 : decode cX7_sendWork 81 = .ok (.invokevirtual 117, 3) := by decide +kernel
theorem dX7_sendWork_84 : decode cX7_sendWork 84 = .ok (.aload_n 0, 1) := by decide +kernel
theorem dX7_sendWork_85 : decode cX7_sendWork 85 = .ok (.iconst 0, 1) := by decide +kernel
theorem dX7_sendWork_86 : decode cX7_sendWork 86 = .ok (.iload_n 1, 1) := by decide +kernel
theorem dX7_sendWork_87 : decode cX7_sendWork 87 = .ok (.iload_n 2, 1) := by decide +kernel
theorem dX7_sendWork_88 : decode cX7_sendWork 88 = .ok (.invokevirtual 231, 3) := by decide +kernel
theorem dX7_sendWork_91 : decode cX7_sendWork 91 = .ok (.istore 5, 2) := by decide +kernel
theorem dX7_sendWork_93 : decode cX7_sendWork 93 = .ok (.iload 5, 2) := by decide +kernel
theorem dX7_sendWork_95 : decode cX7_sendWork 95 = .ok (.iconst (-1), 1) := by decide +kernel
theorem dX7_sendWork_96 : decode cX7_sendWork 96 = .ok (.if_icmp .ne 4, 3) := by decide +kernel
theorem dX7_sendWork_99 : decode cX7_sendWork 99 = .ok (.return_, 1) := by decide +kernel
theorem dX7_sendWork_100 : decode cX7_sendWork 100 = .ok (.aload 4, 2) := by decide +kernel
theorem dX7_sendWork_102 : decode cX7_sendWork 102 = .ok (.getfield 111, 3) := by decide +kernel
theorem dX7_sendWork_105 : decode cX7_sendWork 105 = .ok (.iconst 2, 1) := by decide +kernel
theorem dX7_sendWork_106 : decode cX7_sendWork 106 = .ok (.idiv, 1) := by decide +kernel
theorem dX7_sendWork_107 : decode cX7_sendWork 107 = .ok (.istore 6, 2) := by decide +kernel
theorem dX7_sendWork_109 : decode cX7_sendWork 109 = .ok (.aload 4, 2) := by decide +kernel
theorem dX7_sendWork_111 : decode cX7_sendWork 111 = .ok (.dup, 1) := by decide +kernel
theorem dX7_sendWork_112 : decode cX7_sendWork 112 = .ok (.getfield 111, 3) := by decide +kernel
theorem dX7_sendWork_115 : decode cX7_sendWork 115 = .ok (.iload 6, 2) := by decide +kernel
theorem dX7_sendWork_117 : decode cX7_sendWork 117 = .ok (.isub, 1) := by decide +kernel
theorem dX7_sendWork_118 : decode cX7_sendWork 118 = .ok (.putfield 111, 3) := by decide +kernel
theorem dX7_sendWork_121 : decode cX7_sendWork 121 = .ok (.aload_n 0, 1) := by decide +kernel
theorem dX7_sendWork_122 : decode cX7_sendWork 122 = .ok (.getfield 31, 3) := by decide +kernel
theorem dX7_sendWork_125 : decode cX7_sendWork 125 = .ok (.iload 5, 2) := by decide +kernel
theorem dX7_sendWork_127 : decode cX7_sendWork 127 = .ok (.iload_n 3, 1) := by decide +kernel
theorem dX7_sendWork_128 : decode cX7_sendWork 128 = .ok (.iload 6, 2) := by decide +kernel
theorem dX7_sendWork_130 : decode cX7_sendWork 130 = .ok (.aload 4, 2) := by decide +kernel
theorem dX7_sendWork_132 : decode cX7_sendWork 132 = .ok (.getfield 213, 3) := by decide +kernel
theorem dX7_sendWork_135 : decode cX7_sendWork 135 = .ok (.iconst 1, 1) := by decide +kernel
theorem dX7_sendWork_136 : decode cX7_sendWork 136 = .ok (.iadd, 1) := by decide +kernel
theorem dX7_sendWork_137 : decode cX7_sendWork 137 = .ok (.invokevirtual 263, 3) := by decide +kernel
theorem dX7_sendWork_140 : decode cX7_sendWork 140 = .ok (.aload 4, 2) := by decide +kernel
theorem dX7_sendWork_142 : decode cX7_sendWork 142 = .ok (.dup, 1) := by decide +kernel
theorem dX7_sendWork_143 : decode cX7_sendWork 143 = .ok (.getfield 266, 3) := by decide +kernel
theorem dX7_sendWork_146 : decode cX7_sendWork 146 = .ok (.iconst 1, 1) := by decide +kernel
theorem dX7_sendWork_147 : decode cX7_sendWork 147 = .ok (.iadd, 1) := by decide +kernel
theorem dX7_sendWork_148 : decode cX7_sendWork 148 = .ok (.putfield 266, 3) := by decide +kernel
theorem dX7_sendWork_151 : decode cX7_sendWork 151 = .ok (.aload 4, 2) := by decide +kernel
theorem dX7_sendWork_153 : decode cX7_sendWork 153 = .ok (.dup, 1) := by decide +kernel
theorem dX7_sendWork_154 : decode cX7_sendWork 154 = .ok (.getfield 238, 3) := by decide +kernel
theorem dX7_sendWork_157 : decode cX7_sendWork 157 = .ok (.iconst 1, 1) := by decide +kernel
theorem dX7_sendWork_158 : decode cX7_sendWork 158 = .ok (.iadd, 1) := by decide +kernel
theorem dX7_sendWork_159 : decode cX7_sendWork 159 = .ok (.putfield 238, 3) := by decide +kernel
theorem dX7_sendWork_162 : decode cX7_sendWork 162 = .ok (.aload 4, 2) := by decide +kernel
theorem dX7_sendWork_164 : decode cX7_sendWork 164 = .ok (.dup, 1) := by decide +kernel
theorem dX7_sendWork_165 : decode cX7_sendWork 165 = .ok (.getfield 225, 3) := by decide +kernel
theorem dX7_sendWork_168 : decode cX7_sendWork 168 = .ok (.iconst 1, 1) := by decide +kernel
theorem dX7_sendWork_169 : decode cX7_sendWork 169 = .ok (.iadd, 1) := by decide +kernel
theorem dX7_sendWork_170 : decode cX7_sendWork 170 = .ok (.putfield 225, 3) := by decide +kernel
theorem dX7_sendWork_173 : decode cX7_sendWork 173 = .ok (.return_, 1) := by decide +kernel
theorem dX7_post_0 : decode cX7_post 0 = .ok (.aload_n 0, 1) := by decide +kernel
theorem dX7_post_1 : decode cX7_post 1 = .ok (.iload_n 2, 1) := by decide +kernel
theorem dX7_post_2 : decode cX7_post 2 = .ok (.invokevirtual 269, 3) := by decide +kernel
theorem dX7_post_5 : decode cX7_post 5 = .ok (.ifCond .eq 11, 3) := by decide +kernel
theorem dX7_post_8 : decode cX7_post 8 = .ok (.aload_n 0, 1) := by decide +kernel
theorem dX7_post_9 : decode cX7_post 9 = .ok (.iload_n 3, 1) := by decide +kernel
theorem dX7_post_10 : decode cX7_post 10 = .ok (.invokevirtual 269, 3) := by decide +kernel
theorem dX7_post_13 : decode cX7_post 13 = .ok (.ifCond .ne 5, 3) := by decide +kernel
theorem dX7_post_16 : decode cX7_post 16 = .ok (.iconst (-1), 1) := by decide +kernel
theorem dX7_post_17 : decode cX7_post 17 = .ok (.ireturn, 1) := by decide +kernel
theorem dX7_post_18 : decode cX7_post 18 = .ok (.iload_n 2, 1) := by decide +kernel
theorem dX7_post_19 : decode cX7_post 19 = .ok (.iload_n 3, 1) := by decide +kernel
theorem dX7_post_20 : decode cX7_post 20 = .ok (.invokestatic 121, 3) := by decide +kernel
theorem dX7_post_23 : decode cX7_post 23 = .ok (.istore 4, 2) := by decide +kernel
theorem dX7_post_25 : decode cX7_post 25 = .ok (.aload_n 0, 1) := by decide +kernel
theorem dX7_post_26 : decode cX7_post 26 = .ok (.getfield 31, 3) := by decide +kernel
theorem dX7_post_29 : decode cX7_post 29 = .ok (.iload_n 1, 1) := by decide +kernel
theorem dX7_post_30 : decode cX7_post 30 = .ok (.iload_n 2, 1) := by decide +kernel
theorem dX7_post_31 : decode cX7_post 31 = .ok (.iload_n 3, 1) := by decide +kernel
theorem dX7_post_32 : decode cX7_post 32 = .ok (.aload_n 0, 1) := by decide +kernel
theorem dX7_post_33 : decode cX7_post 33 = .ok (.getfield 65, 3) := by decide +kernel
theorem dX7_post_36 : decode cX7_post 36 = .ok (.aload_n 0, 1) := by decide +kernel
theorem dX7_post_37 : decode cX7_post 37 = .ok (.getfield 17, 3) := by decide +kernel
theorem dX7_post_40 : decode cX7_post 40 = .ok (.iload 4, 2) := by decide +kernel
theorem dX7_post_42 : decode cX7_post 42 = .ok (.iaload, 1) := by decide +kernel
theorem dX7_post_43 : decode cX7_post 43 = .ok (.iadd, 1) := by decide +kernel
theorem dX7_post_44 : decode cX7_post 44 = .ok (.aload_n 0, 1) := by decide +kernel
theorem dX7_post_45 : decode cX7_post 45 = .ok (.getfield 11, 3) := by decide +kernel
theorem dX7_post_48 : decode cX7_post 48 = .ok (.iload_n 2, 1) := by decide +kernel
theorem dX7_post_49 : decode cX7_post 49 = .ok (.aaload, 1) := by decide +kernel
theorem dX7_post_50 : decode cX7_post 50 = .ok (.getfield 210, 3) := by decide +kernel
theorem dX7_post_53 : decode cX7_post 53 = .ok (.invokestatic 273, 3) := by decide +kernel
theorem dX7_post_56 : decode cX7_post 56 = .ok (.invokevirtual 277, 3) := by decide +kernel
theorem dX7_post_59 : decode cX7_post 59 = .ok (.istore 5, 2) := by decide +kernel
theorem dX7_post_61 : decode cX7_post 61 = .ok (.iload 5, 2) := by decide +kernel
theorem dX7_post_63 : decode cX7_post 63 = .ok (.iconst (-1), 1) := by decide +kernel
theorem dX7_post_64 : decode cX7_post 64 = .ok (.if_icmp .eq 25, 3) := by decide +kernel
theorem dX7_post_67 : decode cX7_post 67 = .ok (.aload_n 0, 1) := by decide +kernel
theorem dX7_post_68 : decode cX7_post 68 = .ok (.getfield 38, 3) := by decide +kernel
theorem dX7_post_71 : decode cX7_post 71 = .ok (.iload 4, 2) := by decide +kernel
theorem dX7_post_73 : decode cX7_post 73 = .ok (.iload_n 1, 1) := by decide +kernel
theorem dX7_post_74 : decode cX7_post 74 = .ok (.aload_n 0, 1) := by decide +kernel
theorem dX7_post_75 : decode cX7_post 75 = .ok (.getfield 17, 3) := by decide +kernel
theorem dX7_post_78 : decode cX7_post 78 = .ok (.iload 4, 2) := by decide +kernel
theorem dX7_post_80 : decode cX7_post 80 = .ok (.iaload, 1) := by decide +kernel
theorem dX7_post_81 : decode cX7_post 81 = .ok (.invokevirtual 281, 3) := by decide +kernel
theorem dX7_post_84 : decode cX7_post 84 = .ok (.aload_n 0, 1) := by decide +kernel
theorem dX7_post_85 : decode cX7_post 85 = .ok (.iload_n 1, 1) := by decide +kernel
theorem dX7_post_86 : decode cX7_post 86 = .ok (.invokevirtual 284, 3) := by decide +kernel
theorem dX7_post_89 : decode cX7_post 89 = .ok (.iload 5, 2) := by decide +kernel
theorem dX7_post_91 : decode cX7_post 91 = .ok (.ireturn, 1) := by decide +kernel
theorem dX7_countSignal_0 : decode cX7_countSignal 0 = .ok (.iload_n 1, 1) := by decide +kernel
theorem dX7_countSignal_1 : decode cX7_countSignal 1 = .ok (.tableswitch 95 1 4 #[31, 47, 63, 79], 31) := by decide +kernel
theorem dX7_countSignal_32 : decode cX7_countSignal 32 = .ok (.aload_n 0, 1) := by decide +kernel
theorem dX7_countSignal_33 : decode cX7_countSignal 33 = .ok (.getfield 52, 3) := by decide +kernel
theorem dX7_countSignal_36 : decode cX7_countSignal 36 = .ok (.getfield 260, 3) := by decide +kernel
theorem dX7_countSignal_39 : decode cX7_countSignal 39 = .ok (.iconst 0, 1) := by decide +kernel
theorem dX7_countSignal_40 : decode cX7_countSignal 40 = .ok (.dup2, 1) := by decide +kernel
theorem dX7_countSignal_41 : decode cX7_countSignal 41 = .ok (.iaload, 1) := by decide +kernel
theorem dX7_countSignal_42 : decode cX7_countSignal 42 = .ok (.iconst 1, 1) := by decide +kernel
theorem dX7_countSignal_43 : decode cX7_countSignal 43 = .ok (.iadd, 1) := by decide +kernel
theorem dX7_countSignal_44 : decode cX7_countSignal 44 = .ok (.iastore, 1) := by decide +kernel
theorem dX7_countSignal_45 : decode cX7_countSignal 45 = .ok (.goto 51, 3) := by decide +kernel
theorem dX7_countSignal_48 : decode cX7_countSignal 48 = .ok (.aload_n 0, 1) := by decide +kernel
theorem dX7_countSignal_49 : decode cX7_countSignal 49 = .ok (.getfield 52, 3) := by decide +kernel
theorem dX7_countSignal_52 : decode cX7_countSignal 52 = .ok (.getfield 260, 3) := by decide +kernel
theorem dX7_countSignal_55 : decode cX7_countSignal 55 = .ok (.iconst 1, 1) := by decide +kernel
theorem dX7_countSignal_56 : decode cX7_countSignal 56 = .ok (.dup2, 1) := by decide +kernel
theorem dX7_countSignal_57 : decode cX7_countSignal 57 = .ok (.iaload, 1) := by decide +kernel
theorem dX7_countSignal_58 : decode cX7_countSignal 58 = .ok (.iconst 1, 1) := by decide +kernel
theorem dX7_countSignal_59 : decode cX7_countSignal 59 = .ok (.iadd, 1) := by decide +kernel
theorem dX7_countSignal_60 : decode cX7_countSignal 60 = .ok (.iastore, 1) := by decide +kernel
theorem dX7_countSignal_61 : decode cX7_countSignal 61 = .ok (.goto 35, 3) := by decide +kernel
theorem dX7_countSignal_64 : decode cX7_countSignal 64 = .ok (.aload_n 0, 1) := by decide +kernel
theorem dX7_countSignal_65 : decode cX7_countSignal 65 = .ok (.getfield 52, 3) := by decide +kernel
theorem dX7_countSignal_68 : decode cX7_countSignal 68 = .ok (.getfield 260, 3) := by decide +kernel
theorem dX7_countSignal_71 : decode cX7_countSignal 71 = .ok (.iconst 2, 1) := by decide +kernel
theorem dX7_countSignal_72 : decode cX7_countSignal 72 = .ok (.dup2, 1) := by decide +kernel
theorem dX7_countSignal_73 : decode cX7_countSignal 73 = .ok (.iaload, 1) := by decide +kernel
theorem dX7_countSignal_74 : decode cX7_countSignal 74 = .ok (.iconst 1, 1) := by decide +kernel
theorem dX7_countSignal_75 : decode cX7_countSignal 75 = .ok (.iadd, 1) := by decide +kernel
theorem dX7_countSignal_76 : decode cX7_countSignal 76 = .ok (.iastore, 1) := by decide +kernel
theorem dX7_countSignal_77 : decode cX7_countSignal 77 = .ok (.goto 19, 3) := by decide +kernel
theorem dX7_countSignal_80 : decode cX7_countSignal 80 = .ok (.aload_n 0, 1) := by decide +kernel
theorem dX7_countSignal_81 : decode cX7_countSignal 81 = .ok (.getfield 52, 3) := by decide +kernel
theorem dX7_countSignal_84 : decode cX7_countSignal 84 = .ok (.getfield 260, 3) := by decide +kernel
theorem dX7_countSignal_87 : decode cX7_countSignal 87 = .ok (.iconst 3, 1) := by decide +kernel
theorem dX7_countSignal_88 : decode cX7_countSignal 88 = .ok (.dup2, 1) := by decide +kernel
theorem dX7_countSignal_89 : decode cX7_countSignal 89 = .ok (.iaload, 1) := by decide +kernel
theorem dX7_countSignal_90 : decode cX7_countSignal 90 = .ok (.iconst 1, 1) := by decide +kernel
theorem dX7_countSignal_91 : decode cX7_countSignal 91 = .ok (.iadd, 1) := by decide +kernel
theorem dX7_countSignal_92 : decode cX7_countSignal 92 = .ok (.iastore, 1) := by decide +kernel
theorem dX7_countSignal_93 : decode cX7_countSignal 93 = .ok (.goto 3, 3) := by decide +kernel
theorem dX7_countSignal_96 : decode cX7_countSignal 96 = .ok (.return_, 1) := by decide +kernel
theorem dX7_tendWatches_0 : decode cX7_tendWatches 0 = .ok (.aload_n 0, 1) := by decide +kernel
theorem dX7_tendWatches_1 : decode cX7_tendWatches 1 = .ok (.iload_n 1, 1) := by decide +kernel
theorem dX7_tendWatches_2 : decode cX7_tendWatches 2 = .ok (.invokevirtual 287, 3) := by decide +kernel
theorem dX7_tendWatches_5 : decode cX7_tendWatches 5 = .ok (.aload_n 0, 1) := by decide +kernel
theorem dX7_tendWatches_6 : decode cX7_tendWatches 6 = .ok (.iload_n 1, 1) := by decide +kernel
theorem dX7_tendWatches_7 : decode cX7_tendWatches 7 = .ok (.invokevirtual 290, 3) := by decide +kernel
theorem dX7_tendWatches_10 : decode cX7_tendWatches 10 = .ok (.aload_n 0, 1) := by decide +kernel
theorem dX7_tendWatches_11 : decode cX7_tendWatches 11 = .ok (.iload_n 1, 1) := by decide +kernel
theorem dX7_tendWatches_12 : decode cX7_tendWatches 12 = .ok (.invokevirtual 293, 3) := by decide +kernel
theorem dX7_tendWatches_15 : decode cX7_tendWatches 15 = .ok (.aload_n 0, 1) := by decide +kernel
theorem dX7_tendWatches_16 : decode cX7_tendWatches 16 = .ok (.iload_n 1, 1) := by decide +kernel
theorem dX7_tendWatches_17 : decode cX7_tendWatches 17 = .ok (.invokevirtual 296, 3) := by decide +kernel
theorem dX7_tendWatches_20 : decode cX7_tendWatches 20 = .ok (.return_, 1) := by decide +kernel
theorem dX7_tendTree_0 : decode cX7_tendTree 0 = .ok (.aload_n 0, 1) := by decide +kernel
theorem dX7_tendTree_1 : decode cX7_tendTree 1 = .ok (.getfield 11, 3) := by decide +kernel
theorem dX7_tendTree_4 : decode cX7_tendTree 4 = .ok (.iload_n 1, 1) := by decide +kernel
theorem dX7_tendTree_5 : decode cX7_tendTree 5 = .ok (.aaload, 1) := by decide +kernel
theorem dX7_tendTree_6 : decode cX7_tendTree 6 = .ok (.astore_n 2, 1) := by decide +kernel
theorem dX7_tendTree_7 : decode cX7_tendTree 7 = .ok (.aload_n 0, 1) := by decide +kernel
theorem dX7_tendTree_8 : decode cX7_tendTree 8 = .ok (.getfield 52, 3) := by decide +kernel
theorem dX7_tendTree_11 : decode cX7_tendTree 11 = .ok (.iconst 0, 1) := by decide +kernel
theorem dX7_tendTree_12 : decode cX7_tendTree 12 = .ok (.invokevirtual 299, 3) := by decide +kernel
theorem dX7_tendTree_15 : decode cX7_tendTree 15 = .ok (.ifCond .ne 17, 3) := by decide +kernel
theorem dX7_tendTree_18 : decode cX7_tendTree 18 = .ok (.aload_n 2, 1) := by decide +kernel
theorem dX7_tendTree_19 : decode cX7_tendTree 19 = .ok (.getfield 106, 3) := by decide +kernel
theorem dX7_tendTree_22 : decode cX7_tendTree 22 = .ok (.ifCond .eq 10, 3) := by decide +kernel
theorem dX7_tendTree_25 : decode cX7_tendTree 25 = .ok (.aload_n 2, 1) := by decide +kernel
theorem dX7_tendTree_26 : decode cX7_tendTree 26 = .ok (.getfield 238, 3) := by decide +kernel
theorem dX7_tendTree_29 : decode cX7_tendTree 29 = .ok (.ifCond .eq 4, 3) := by decide +kernel
theorem dX7_tendTree_32 : decode cX7_tendTree 32 = .ok (.return_, 1) := by decide +kernel
theorem dX7_tendTree_33 : decode cX7_tendTree 33 = .ok (.iload_n 1, 1) := by decide +kernel
theorem dX7_tendTree_34 : decode cX7_tendTree 34 = .ok (.ifCond .ne 9, 3) := by decide +kernel
theorem dX7_tendTree_37 : decode cX7_tendTree 37 = .ok (.aload_n 0, 1) := by decide +kernel
theorem dX7_tendTree_38 : decode cX7_tendTree 38 = .ok (.iconst 0, 1) := by decide +kernel
theorem dX7_tendTree_39 : decode cX7_tendTree 39 = .ok (.invokevirtual 302, 3) := by decide +kernel
theorem dX7_tendTree_42 : decode cX7_tendTree 42 = .ok (.return_, 1) := by decide +kernel
theorem dX7_tendTree_43 : decode cX7_tendTree 43 = .ok (.aload_n 0, 1) := by decide +kernel
theorem dX7_tendTree_44 : decode cX7_tendTree 44 = .ok (.iconst 1, 1) := by decide +kernel
theorem dX7_tendTree_45 : decode cX7_tendTree 45 = .ok (.iload_n 1, 1) := by decide +kernel
theorem dX7_tendTree_46 : decode cX7_tendTree 46 = .ok (.aload_n 2, 1) := by decide +kernel
theorem dX7_tendTree_47 : decode cX7_tendTree 47 = .ok (.getfield 235, 3) := by decide +kernel
theorem dX7_tendTree_50 : decode cX7_tendTree 50 = .ok (.invokevirtual 231, 3) := by decide +kernel
theorem dX7_tendTree_53 : decode cX7_tendTree 53 = .ok (.pop, 1) := by decide +kernel
theorem dX7_tendTree_54 : decode cX7_tendTree 54 = .ok (.aload_n 2, 1) := by decide +kernel
theorem dX7_tendTree_55 : decode cX7_tendTree 55 = .ok (.iconst 0, 1) := by decide +kernel
theorem dX7_tendTree_56 : decode cX7_tendTree 56 = .ok (.putfield 106, 3) := by decide +kernel
theorem dX7_tendTree_59 : decode cX7_tendTree 59 = .ok (.aload_n 2, 1) := by decide +kernel
theorem dX7_tendTree_60 : decode cX7_tendTree 60 = .ok (.iconst (-1), 1) := by decide +kernel
theorem dX7_tendTree_61 : decode cX7_tendTree 61 = .ok (.putfield 235, 3) := by decide +kernel
theorem dX7_tendTree_64 : decode cX7_tendTree 64 = .ok (.return_, 1) := by decide +kernel
theorem dX7_tendToken_0 : decode cX7_tendToken 0 = .ok (.aload_n 0, 1) := by decide +kernel
theorem dX7_tendToken_1 : decode cX7_tendToken 1 = .ok (.getfield 52, 3) := by decide +kernel
theorem dX7_tendToken_4 : decode cX7_tendToken 4 = .ok (.iconst 1, 1) := by decide +kernel
theorem dX7_tendToken_5 : decode cX7_tendToken 5 = .ok (.invokevirtual 299, 3) := by decide +kernel
theorem dX7_tendToken_8 : decode cX7_tendToken 8 = .ok (.ifCond .ne 14, 3) := by decide +kernel
theorem dX7_tendToken_11 : decode cX7_tendToken 11 = .ok (.aload_n 0, 1) := by decide +kernel
theorem dX7_tendToken_12 : decode cX7_tendToken 12 = .ok (.getfield 52, 3) := by decide +kernel
theorem dX7_tendToken_15 : decode cX7_tendToken 15 = .ok (.getfield 241, 3) := by decide +kernel
theorem dX7_tendToken_18 : decode cX7_tendToken 18 = .ok (.iload_n 1, 1) := by decide +kernel
theorem dX7_tendToken_19 : decode cX7_tendToken 19 = .ok (.if_icmp .eq 4, 3) := by decide +kernel
theorem dX7_tendToken_22 : decode cX7_tendToken 22 = .ok (.return_, 1) := by decide +kernel
theorem dX7_tendToken_23 : decode cX7_tendToken 23 = .ok (.aload_n 0, 1) := by decide +kernel
theorem dX7_tendToken_24 : decode cX7_tendToken 24 = .ok (.getfield 11, 3) := by decide +kernel
theorem dX7_tendToken_27 : decode cX7_tendToken 27 = .ok (.iload_n 1, 1) := by decide +kernel
theorem dX7_tendToken_28 : decode cX7_tendToken 28 = .ok (.aaload, 1) := by decide +kernel
theorem dX7_tendToken_29 : decode cX7_tendToken 29 = .ok (.astore_n 2, 1) := by decide +kernel
theorem dX7_tendToken_30 : decode cX7_tendToken 30 = .ok (.iload_n 1, 1) := by decide +kernel
theorem dX7_tendToken_31 : decode cX7_tendToken 31 = .ok (.ifCond .eq 51, 3) := by decide +kernel
theorem dX7_tendToken_34 : decode cX7_tendToken 34 = .ok (.aload_n 0, 1) := by decide +kernel
theorem dX7_tendToken_35 : decode cX7_tendToken 35 = .ok (.getfield 52, 3) := by decide +kernel
theorem dX7_tendToken_38 : decode cX7_tendToken 38 = .ok (.dup, 1) := by decide +kernel
theorem dX7_tendToken_39 : decode cX7_tendToken 39 = .ok (.getfield 305, 3) := by decide +kernel
theorem dX7_tendToken_42 : decode cX7_tendToken 42 = .ok (.aload_n 2, 1) := by decide +kernel
theorem dX7_tendToken_43 : decode cX7_tendToken 43 = .ok (.getfield 225, 3) := by decide +kernel
theorem dX7_tendToken_46 : decode cX7_tendToken 46 = .ok (.iadd, 1) := by decide +kernel
theorem dX7_tendToken_47 : decode cX7_tendToken 47 = .ok (.putfield 305, 3) := by decide +kernel
theorem dX7_tendToken_50 : decode cX7_tendToken 50 = .ok (.aload_n 0, 1) := by decide +kernel
theorem dX7_tendToken_51 : decode cX7_tendToken 51 = .ok (.getfield 52, 3) := by decide +kernel
theorem dX7_tendToken_54 : decode cX7_tendToken 54 = .ok (.aload_n 0, 1) := by decide +kernel
theorem dX7_tendToken_55 : decode cX7_tendToken 55 = .ok (.getfield 52, 3) := by decide +kernel
theorem dX7_tendToken_58 : decode cX7_tendToken 58 = .ok (.getfield 308, 3) := by decide +kernel
theorem dX7_tendToken_61 : decode cX7_tendToken 61 = .ok (.ifCond .ne 10, 3) := by decide +kernel
theorem dX7_tendToken_64 : decode cX7_tendToken 64 = .ok (.aload_n 2, 1) := by decide +kernel
theorem dX7_tendToken_65 : decode cX7_tendToken 65 = .ok (.getfield 228, 3) := by decide +kernel
theorem dX7_tendToken_68 : decode cX7_tendToken 68 = .ok (.ifCond .eq 7, 3) := by decide +kernel
theorem dX7_tendToken_71 : decode cX7_tendToken 71 = .ok (.iconst 1, 1) := by decide +kernel
theorem dX7_tendToken_72 : decode cX7_tendToken 72 = .ok (.goto 4, 3) := by decide +kernel
theorem dX7_tendToken_75 : decode cX7_tendToken 75 = .ok (.iconst 0, 1) := by decide +kernel
theorem dX7_tendToken_76 : decode cX7_tendToken 76 = .ok (.putfield 308, 3) := by decide +kernel
theorem dX7_tendToken_79 : decode cX7_tendToken 79 = .ok (.goto 72, 3) := by decide +kernel
theorem dX7_tendToken_82 : decode cX7_tendToken 82 = .ok (.aload_n 0, 1) := by decide +kernel
theorem dX7_tendToken_83 : decode cX7_tendToken 83 = .ok (.getfield 52, 3) := by decide +kernel
theorem dX7_tendToken_86 : decode cX7_tendToken 86 = .ok (.getfield 311, 3) := by decide +kernel
theorem dX7_tendToken_89 : decode cX7_tendToken 89 = .ok (.ifCond .ne 41, 3) := by decide +kernel
theorem dX7_tendToken_92 : decode cX7_tendToken 92 = .ok (.aload_n 0, 1) := by decide +kernel
theorem dX7_tendToken_93 : decode cX7_tendToken 93 = .ok (.getfield 52, 3) := by decide +kernel
theorem dX7_tendToken_96 : decode cX7_tendToken 96 = .ok (.getfield 308, 3) := by decide +kernel
theorem dX7_tendToken_99 : decode cX7_tendToken 99 = .ok (.ifCond .ne 31, 3) := by decide +kernel
theorem dX7_tendToken_102 : decode cX7_tendToken 102 = .ok (.aload_n 2, 1) := by decide +kernel
theorem dX7_tendToken_103 : decode cX7_tendToken 103 = .ok (.getfield 228, 3) := by decide +kernel
theorem dX7_tendToken_106 : decode cX7_tendToken 106 = .ok (.ifCond .ne 24, 3) := by decide +kernel
theorem dX7_tendToken_109 : decode cX7_tendToken 109 = .ok (.aload_n 0, 1) := by decide +kernel
theorem dX7_tendToken_110 : decode cX7_tendToken 110 = .ok (.getfield 52, 3) := by decide +kernel
theorem dX7_tendToken_113 : decode cX7_tendToken 113 = .ok (.getfield 305, 3) := by decide +kernel
theorem dX7_tendToken_116 : decode cX7_tendToken 116 = .ok (.aload_n 2, 1) := by decide +kernel
theorem dX7_tendToken_117 : decode cX7_tendToken 117 = .ok (.getfield 225, 3) := by decide +kernel
theorem dX7_tendToken_120 : decode cX7_tendToken 120 = .ok (.iadd, 1) := by decide +kernel
theorem dX7_tendToken_121 : decode cX7_tendToken 121 = .ok (.ifCond .ne 9, 3) := by decide +kernel
theorem dX7_tendToken_124 : decode cX7_tendToken 124 = .ok (.aload_n 0, 1) := by decide +kernel
theorem dX7_tendToken_125 : decode cX7_tendToken 125 = .ok (.iconst 1, 1) := by decide +kernel
theorem dX7_tendToken_126 : decode cX7_tendToken 126 = .ok (.invokevirtual 302, 3) := by decide +kernel
theorem dX7_tendToken_129 : decode cX7_tendToken 129 = .ok (.return_, 1) := by decide +kernel
theorem dX7_tendToken_130 : decode cX7_tendToken 130 = .ok (.aload_n 0, 1) := by decide +kernel
theorem dX7_tendToken_131 : decode cX7_tendToken 131 = .ok (.getfield 52, 3) := by decide +kernel
theorem dX7_tendToken_134 : decode cX7_tendToken 134 = .ok (.invokevirtual 314, 3) := by decide +kernel
theorem dX7_tendToken_137 : decode cX7_tendToken 137 = .ok (.aload_n 0, 1) := by decide +kernel
theorem dX7_tendToken_138 : decode cX7_tendToken 138 = .ok (.getfield 45, 3) := by decide +kernel
theorem dX7_tendToken_141 : decode cX7_tendToken 141 = .ok (.bipush 6, 2) := by decide +kernel
theorem dX7_tendToken_143 : decode cX7_tendToken 143 = .ok (.aload_n 0, 1) := by decide +kernel
theorem dX7_tendToken_144 : decode cX7_tendToken 144 = .ok (.getfield 65, 3) := by decide +kernel
theorem dX7_tendToken_147 : decode cX7_tendToken 147 = .ok (.iconst 1, 1) := by decide +kernel
theorem dX7_tendToken_148 : decode cX7_tendToken 148 = .ok (.invokevirtual 117, 3) := by decide +kernel
theorem dX7_tendToken_151 : decode cX7_tendToken 151 = .ok (.aload_n 2, 1) := by decide +kernel
theorem dX7_tendToken_152 : decode cX7_tendToken 152 = .ok (.iconst 0, 1) := by decide +kernel
theorem dX7_tendToken_153 : decode cX7_tendToken 153 = .ok (.putfield 228, 3) := by decide +kernel
theorem dX7_tendToken_156 : decode cX7_tendToken 156 = .ok (.aload_n 0, 1) := by decide +kernel
theorem dX7_tendToken_157 : decode cX7_tendToken 157 = .ok (.getfield 52, 3) := by decide +kernel
theorem dX7_tendToken_160 : decode cX7_tendToken 160 = .ok (.iconst (-1), 1) := by decide +kernel
theorem dX7_tendToken_161 : decode cX7_tendToken 161 = .ok (.putfield 241, 3) := by decide +kernel
theorem dX7_tendToken_164 : decode cX7_tendToken 164 = .ok (.aload_n 0, 1) := by decide +kernel
theorem dX7_tendToken_165 : decode cX7_tendToken 165 = .ok (.iconst 2, 1) := by decide +kernel
theorem dX7_tendToken_166 : decode cX7_tendToken 166 = .ok (.iload_n 1, 1) := by decide +kernel
theorem dX7_tendToken_167 : decode cX7_tendToken 167 = .ok (.iload_n 1, 1) := by decide +kernel
theorem dX7_tendToken_168 : decode cX7_tendToken 168 = .ok (.ifCond .ne 12, 3) := by decide +kernel
theorem dX7_tendToken_171 : decode cX7_tendToken 171 = .ok (.aload_n 0, 1) := by decide +kernel
theorem dX7_tendToken_172 : decode cX7_tendToken 172 = .ok (.getfield 61, 3) := by decide +kernel
theorem dX7_tendToken_175 : decode cX7_tendToken 175 = .ok (.iconst 1, 1) := by decide +kernel
theorem dX7_tendToken_176 : decode cX7_tendToken 176 = .ok (.isub, 1) := by decide +kernel
theorem dX7_tendToken_177 : decode cX7_tendToken 177 = .ok (.goto 6, 3) := by decide +kernel
theorem dX7_tendToken_180 : decode cX7_tendToken 180 = .ok (.iload_n 1, 1) := by decide +kernel
theorem dX7_tendToken_181 : decode cX7_tendToken 181 = .ok (.iconst 1, 1) := by decide +kernel
theorem dX7_tendToken_182 : decode cX7_tendToken 182 = .ok (.isub, 1) := by decide +kernel
theorem dX7_tendToken_183 : decode cX7_tendToken 183 = .ok (.invokevirtual 231, 3) := by decide +kernel
theorem dX7_tendToken_186 : decode cX7_tendToken 186 = .ok (.pop, 1) := by decide +kernel
theorem dX7_tendToken_187 : decode cX7_tendToken 187 = .ok (.return_, 1) := by decide +kernel
theorem dX7_tendWeight_0 : decode cX7_tendWeight 0 = .ok (.aload_n 0, 1) := by decide +kernel
theorem dX7_tendWeight_1 : decode cX7_tendWeight 1 = .ok (.getfield 52, 3) := by decide +kernel
theorem dX7_tendWeight_4 : decode cX7_tendWeight 4 = .ok (.iconst 2, 1) := by decide +kernel
theorem dX7_tendWeight_5 : decode cX7_tendWeight 5 = .ok (.invokevirtual 299, 3) := by decide +kernel
theorem dX7_tendWeight_8 : decode cX7_tendWeight 8 = .ok (.ifCond .eq 4, 3) := by decide +kernel
theorem dX7_tendWeight_11 : decode cX7_tendWeight 11 = .ok (.return_, 1) := by decide +kernel
theorem dX7_tendWeight_12 : decode cX7_tendWeight 12 = .ok (.aload_n 0, 1) := by decide +kernel
theorem dX7_tendWeight_13 : decode cX7_tendWeight 13 = .ok (.getfield 11, 3) := by decide +kernel
theorem dX7_tendWeight_16 : decode cX7_tendWeight 16 = .ok (.iload_n 1, 1) := by decide +kernel
theorem dX7_tendWeight_17 : decode cX7_tendWeight 17 = .ok (.aaload, 1) := by decide +kernel
theorem dX7_tendWeight_18 : decode cX7_tendWeight 18 = .ok (.astore_n 2, 1) := by decide +kernel
theorem dX7_tendWeight_19 : decode cX7_tendWeight 19 = .ok (.iload_n 1, 1) := by decide +kernel
theorem dX7_tendWeight_20 : decode cX7_tendWeight 20 = .ok (.ifCond .ne 49, 3) := by decide +kernel
theorem dX7_tendWeight_23 : decode cX7_tendWeight 23 = .ok (.aload_n 0, 1) := by decide +kernel
theorem dX7_tendWeight_24 : decode cX7_tendWeight 24 = .ok (.getfield 52, 3) := by decide +kernel
theorem dX7_tendWeight_27 : decode cX7_tendWeight 27 = .ok (.dup, 1) := by decide +kernel
theorem dX7_tendWeight_28 : decode cX7_tendWeight 28 = .ok (.getfield 244, 3) := by decide +kernel
theorem dX7_tendWeight_31 : decode cX7_tendWeight 31 = .ok (.aload_n 2, 1) := by decide +kernel
theorem dX7_tendWeight_32 : decode cX7_tendWeight 32 = .ok (.getfield 111, 3) := by decide +kernel
theorem dX7_tendWeight_35 : decode cX7_tendWeight 35 = .ok (.iadd, 1) := by decide +kernel
theorem dX7_tendWeight_36 : decode cX7_tendWeight 36 = .ok (.putfield 244, 3) := by decide +kernel
theorem dX7_tendWeight_39 : decode cX7_tendWeight 39 = .ok (.aload_n 2, 1) := by decide +kernel
theorem dX7_tendWeight_40 : decode cX7_tendWeight 40 = .ok (.iconst 0, 1) := by decide +kernel
theorem dX7_tendWeight_41 : decode cX7_tendWeight 41 = .ok (.putfield 111, 3) := by decide +kernel
theorem dX7_tendWeight_44 : decode cX7_tendWeight 44 = .ok (.aload_n 0, 1) := by decide +kernel
theorem dX7_tendWeight_45 : decode cX7_tendWeight 45 = .ok (.getfield 52, 3) := by decide +kernel
theorem dX7_tendWeight_48 : decode cX7_tendWeight 48 = .ok (.getfield 244, 3) := by decide +kernel
theorem dX7_tendWeight_51 : decode cX7_tendWeight 51 = .ok (.aload_n 0, 1) := by decide +kernel
theorem dX7_tendWeight_52 : decode cX7_tendWeight 52 = .ok (.getfield 52, 3) := by decide +kernel
theorem dX7_tendWeight_55 : decode cX7_tendWeight 55 = .ok (.getfield 114, 3) := by decide +kernel
theorem dX7_tendWeight_58 : decode cX7_tendWeight 58 = .ok (.if_icmp .ne 50, 3) := by decide +kernel
theorem dX7_tendWeight_61 : decode cX7_tendWeight 61 = .ok (.aload_n 0, 1) := by decide +kernel
theorem dX7_tendWeight_62 : decode cX7_tendWeight 62 = .ok (.iconst 2, 1) := by decide +kernel
theorem dX7_tendWeight_63 : decode cX7_tendWeight 63 = .ok (.invokevirtual 302, 3) := by decide +kernel
theorem dX7_tendWeight_66 : decode cX7_tendWeight 66 = .ok (.goto 42, 3) := by decide +kernel
theorem dX7_tendWeight_69 : decode cX7_tendWeight 69 = .ok (.aload_n 2, 1) := by decide +kernel
theorem dX7_tendWeight_70 : decode cX7_tendWeight 70 = .ok (.getfield 111, 3) := by decide +kernel
theorem dX7_tendWeight_73 : decode cX7_tendWeight 73 = .ok (.ifCond .le 35, 3) := by decide +kernel
theorem dX7_tendWeight_76 : decode cX7_tendWeight 76 = .ok (.aload_n 0, 1) := by decide +kernel
theorem dX7_tendWeight_77 : decode cX7_tendWeight 77 = .ok (.iconst 3, 1) := by decide +kernel
theorem dX7_tendWeight_78 : decode cX7_tendWeight 78 = .ok (.iload_n 1, 1) := by decide +kernel
theorem dX7_tendWeight_79 : decode cX7_tendWeight 79 = .ok (.iconst 0, 1) := by decide +kernel
theorem dX7_tendWeight_80 : decode cX7_tendWeight 80 = .ok (.invokevirtual 231, 3) := by decide +kernel
theorem dX7_tendWeight_83 : decode cX7_tendWeight 83 = .ok (.istore_n 3, 1) := by decide +kernel
theorem dX7_tendWeight_84 : decode cX7_tendWeight 84 = .ok (.iload_n 3, 1) := by decide +kernel
theorem dX7_tendWeight_85 : decode cX7_tendWeight 85 = .ok (.iconst (-1), 1) := by decide +kernel
theorem dX7_tendWeight_86 : decode cX7_tendWeight 86 = .ok (.if_icmp .eq 22, 3) := by decide +kernel
theorem dX7_tendWeight_89 : decode cX7_tendWeight 89 = .ok (.aload_n 0, 1) := by decide +kernel
theorem dX7_tendWeight_90 : decode cX7_tendWeight 90 = .ok (.getfield 31, 3) := by decide +kernel
theorem dX7_tendWeight_93 : decode cX7_tendWeight 93 = .ok (.iload_n 3, 1) := by decide +kernel
theorem dX7_tendWeight_94 : decode cX7_tendWeight 94 = .ok (.iconst 0, 1) := by decide +kernel
theorem dX7_tendWeight_95 : decode cX7_tendWeight 95 = .ok (.aload_n 2, 1) := by decide +kernel
theorem dX7_tendWeight_96 : decode cX7_tendWeight 96 = .ok (.getfield 111, 3) := by decide +kernel
theorem dX7_tendWeight_99 : decode cX7_tendWeight 99 = .ok (.iconst 0, 1) := by decide +kernel
theorem dX7_tendWeight_100 : decode cX7_tendWeight 100 = .ok (.invokevirtual 263, 3) := by decide +kernel
theorem dX7_tendWeight_103 : decode cX7_tendWeight 103 = .ok (.aload_n 2, 1) := by decide +kernel
theorem dX7_tendWeight_104 : decode cX7_tendWeight 104 = .ok (.iconst 0, 1) := by decide +kernel
theorem dX7_tendWeight_105 : decode cX7_tendWeight 105 = .ok (.putfield 111, 3) := by decide +kernel
theorem dX7_tendWeight_108 : decode cX7_tendWeight 108 = .ok (.return_, 1) := by decide +kernel
theorem dX7_tendWaves_0 : decode cX7_tendWaves 0 = .ok (.aload_n 0, 1) := by decide +kernel
theorem dX7_tendWaves_1 : decode cX7_tendWaves 1 = .ok (.getfield 52, 3) := by decide +kernel
theorem dX7_tendWaves_4 : decode cX7_tendWaves 4 = .ok (.iconst 3, 1) := by decide +kernel
theorem dX7_tendWaves_5 : decode cX7_tendWaves 5 = .ok (.invokevirtual 299, 3) := by decide +kernel
theorem dX7_tendWaves_8 : decode cX7_tendWaves 8 = .ok (.ifCond .ne 14, 3) := by decide +kernel
theorem dX7_tendWaves_11 : decode cX7_tendWaves 11 = .ok (.aload_n 0, 1) := by decide +kernel
theorem dX7_tendWaves_12 : decode cX7_tendWaves 12 = .ok (.getfield 52, 3) := by decide +kernel
theorem dX7_tendWaves_15 : decode cX7_tendWaves 15 = .ok (.getfield 247, 3) := by decide +kernel
theorem dX7_tendWaves_18 : decode cX7_tendWaves 18 = .ok (.iload_n 1, 1) := by decide +kernel
theorem dX7_tendWaves_19 : decode cX7_tendWaves 19 = .ok (.if_icmp .eq 4, 3) := by decide +kernel
theorem dX7_tendWaves_22 : decode cX7_tendWaves 22 = .ok (.return_, 1) := by decide +kernel
theorem dX7_tendWaves_23 : decode cX7_tendWaves 23 = .ok (.aload_n 0, 1) := by decide +kernel
theorem dX7_tendWaves_24 : decode cX7_tendWaves 24 = .ok (.getfield 11, 3) := by decide +kernel
theorem dX7_tendWaves_27 : decode cX7_tendWaves 27 = .ok (.iload_n 1, 1) := by decide +kernel
theorem dX7_tendWaves_28 : decode cX7_tendWaves 28 = .ok (.aaload, 1) := by decide +kernel
theorem dX7_tendWaves_29 : decode cX7_tendWaves 29 = .ok (.astore_n 2, 1) := by decide +kernel
theorem dX7_tendWaves_30 : decode cX7_tendWaves 30 = .ok (.iload_n 1, 1) := by decide +kernel
theorem dX7_tendWaves_31 : decode cX7_tendWaves 31 = .ok (.ifCond .eq 38, 3) := by decide +kernel
theorem dX7_tendWaves_34 : decode cX7_tendWaves 34 = .ok (.aload_n 0, 1) := by decide +kernel
theorem dX7_tendWaves_35 : decode cX7_tendWaves 35 = .ok (.getfield 52, 3) := by decide +kernel
theorem dX7_tendWaves_38 : decode cX7_tendWaves 38 = .ok (.dup, 1) := by decide +kernel
theorem dX7_tendWaves_39 : decode cX7_tendWaves 39 = .ok (.getfield 317, 3) := by decide +kernel
theorem dX7_tendWaves_42 : decode cX7_tendWaves 42 = .ok (.aload_n 2, 1) := by decide +kernel
theorem dX7_tendWaves_43 : decode cX7_tendWaves 43 = .ok (.getfield 266, 3) := by decide +kernel
theorem dX7_tendWaves_46 : decode cX7_tendWaves 46 = .ok (.iadd, 1) := by decide +kernel
theorem dX7_tendWaves_47 : decode cX7_tendWaves 47 = .ok (.putfield 317, 3) := by decide +kernel
theorem dX7_tendWaves_50 : decode cX7_tendWaves 50 = .ok (.aload_n 0, 1) := by decide +kernel
theorem dX7_tendWaves_51 : decode cX7_tendWaves 51 = .ok (.getfield 52, 3) := by decide +kernel
theorem dX7_tendWaves_54 : decode cX7_tendWaves 54 = .ok (.dup, 1) := by decide +kernel
theorem dX7_tendWaves_55 : decode cX7_tendWaves 55 = .ok (.getfield 320, 3) := by decide +kernel
theorem dX7_tendWaves_58 : decode cX7_tendWaves 58 = .ok (.aload_n 2, 1) := by decide +kernel
theorem dX7_tendWaves_59 : decode cX7_tendWaves 59 = .ok (.getfield 222, 3) := by decide +kernel
theorem dX7_tendWaves_62 : decode cX7_tendWaves 62 = .ok (.iadd, 1) := by decide +kernel
theorem dX7_tendWaves_63 : decode cX7_tendWaves 63 = .ok (.putfield 320, 3) := by decide +kernel
theorem dX7_tendWaves_66 : decode cX7_tendWaves 66 = .ok (.goto 58, 3) := by decide +kernel
theorem dX7_tendWaves_69 : decode cX7_tendWaves 69 = .ok (.aload_n 0, 1) := by decide +kernel
theorem dX7_tendWaves_70 : decode cX7_tendWaves 70 = .ok (.getfield 52, 3) := by decide +kernel
theorem dX7_tendWaves_73 : decode cX7_tendWaves 73 = .ok (.getfield 323, 3) := by decide +kernel
theorem dX7_tendWaves_76 : decode cX7_tendWaves 76 = .ok (.ifCond .ne 19, 3) := by decide +kernel
theorem dX7_tendWaves_79 : decode cX7_tendWaves 79 = .ok (.aload_n 0, 1) := by decide +kernel
theorem dX7_tendWaves_80 : decode cX7_tendWaves 80 = .ok (.getfield 52, 3) := by decide +kernel
theorem dX7_tendWaves_83 : decode cX7_tendWaves 83 = .ok (.invokevirtual 326, 3) := by decide +kernel
theorem dX7_tendWaves_86 : decode cX7_tendWaves 86 = .ok (.ifCond .eq 9, 3) := by decide +kernel
theorem dX7_tendWaves_89 : decode cX7_tendWaves 89 = .ok (.aload_n 0, 1) := by decide +kernel
theorem dX7_tendWaves_90 : decode cX7_tendWaves 90 = .ok (.iconst 3, 1) := by decide +kernel
theorem dX7_tendWaves_91 : decode cX7_tendWaves 91 = .ok (.invokevirtual 302, 3) := by decide +kernel
theorem dX7_tendWaves_94 : decode cX7_tendWaves 94 = .ok (.return_, 1) := by decide +kernel
theorem dX7_tendWaves_95 : decode cX7_tendWaves 95 = .ok (.aload_n 0, 1) := by decide +kernel
theorem dX7_tendWaves_96 : decode cX7_tendWaves 96 = .ok (.getfield 52, 3) := by decide +kernel
theorem dX7_tendWaves_99 : decode cX7_tendWaves 99 = .ok (.aload_n 2, 1) := by decide +kernel
theorem dX7_tendWaves_100 : decode cX7_tendWaves 100 = .ok (.getfield 266, 3) := by decide +kernel
theorem dX7_tendWaves_103 : decode cX7_tendWaves 103 = .ok (.aload_n 2, 1) := by decide +kernel
theorem dX7_tendWaves_104 : decode cX7_tendWaves 104 = .ok (.getfield 222, 3) := by decide +kernel
theorem dX7_tendWaves_107 : decode cX7_tendWaves 107 = .ok (.invokevirtual 330, 3) := by decide +kernel
theorem dX7_tendWaves_110 : decode cX7_tendWaves 110 = .ok (.aload_n 0, 1) := by decide +kernel
theorem dX7_tendWaves_111 : decode cX7_tendWaves 111 = .ok (.getfield 45, 3) := by decide +kernel
theorem dX7_tendWaves_114 : decode cX7_tendWaves 114 = .ok (.bipush 6, 2) := by decide +kernel
theorem dX7_tendWaves_116 : decode cX7_tendWaves 116 = .ok (.aload_n 0, 1) := by decide +kernel
theorem dX7_tendWaves_117 : decode cX7_tendWaves 117 = .ok (.getfield 65, 3) := by decide +kernel
theorem dX7_tendWaves_120 : decode cX7_tendWaves 120 = .ok (.iconst 3, 1) := by decide +kernel
theorem dX7_tendWaves_121 : decode cX7_tendWaves 121 = .ok (.invokevirtual 117, 3) := by decide +kernel
theorem dX7_tendWaves_124 : decode cX7_tendWaves 124 = .ok (.aload_n 0, 1) := by decide +kernel
theorem dX7_tendWaves_125 : decode cX7_tendWaves 125 = .ok (.getfield 52, 3) := by decide +kernel
theorem dX7_tendWaves_128 : decode cX7_tendWaves 128 = .ok (.iconst (-1), 1) := by decide +kernel
theorem dX7_tendWaves_129 : decode cX7_tendWaves 129 = .ok (.putfield 247, 3) := by decide +kernel
theorem dX7_tendWaves_132 : decode cX7_tendWaves 132 = .ok (.aload_n 0, 1) := by decide +kernel
theorem dX7_tendWaves_133 : decode cX7_tendWaves 133 = .ok (.iconst 4, 1) := by decide +kernel
theorem dX7_tendWaves_134 : decode cX7_tendWaves 134 = .ok (.iload_n 1, 1) := by decide +kernel
theorem dX7_tendWaves_135 : decode cX7_tendWaves 135 = .ok (.iload_n 1, 1) := by decide +kernel
theorem dX7_tendWaves_136 : decode cX7_tendWaves 136 = .ok (.iconst 1, 1) := by decide +kernel
theorem dX7_tendWaves_137 : decode cX7_tendWaves 137 = .ok (.iadd, 1) := by decide +kernel
theorem dX7_tendWaves_138 : decode cX7_tendWaves 138 = .ok (.aload_n 0, 1) := by decide +kernel
theorem dX7_tendWaves_139 : decode cX7_tendWaves 139 = .ok (.getfield 61, 3) := by decide +kernel
theorem dX7_tendWaves_142 : decode cX7_tendWaves 142 = .ok (.if_icmp .ge 9, 3) := by decide +kernel
theorem dX7_tendWaves_145 : decode cX7_tendWaves 145 = .ok (.iload_n 1, 1) := by decide +kernel
theorem dX7_tendWaves_146 : decode cX7_tendWaves 146 = .ok (.iconst 1, 1) := by decide +kernel
theorem dX7_tendWaves_147 : decode cX7_tendWaves 147 = .ok (.iadd, 1) := by decide +kernel
theorem dX7_tendWaves_148 : decode cX7_tendWaves 148 = .ok (.goto 4, 3) := by decide +kernel
theorem dX7_tendWaves_151 : decode cX7_tendWaves 151 = .ok (.iconst 0, 1) := by decide +kernel
theorem dX7_tendWaves_152 : decode cX7_tendWaves 152 = .ok (.invokevirtual 231, 3) := by decide +kernel
theorem dX7_tendWaves_155 : decode cX7_tendWaves 155 = .ok (.pop, 1) := by decide +kernel
theorem dX7_tendWaves_156 : decode cX7_tendWaves 156 = .ok (.return_, 1) := by decide +kernel
theorem dX7_tellEnd_0 : decode cX7_tellEnd 0 = .ok (.aload_n 0, 1) := by decide +kernel
theorem dX7_tellEnd_1 : decode cX7_tellEnd 1 = .ok (.getfield 52, 3) := by decide +kernel
theorem dX7_tellEnd_4 : decode cX7_tellEnd 4 = .ok (.getfield 334, 3) := by decide +kernel
theorem dX7_tellEnd_7 : decode cX7_tellEnd 7 = .ok (.iload_n 1, 1) := by decide +kernel
theorem dX7_tellEnd_8 : decode cX7_tellEnd 8 = .ok (.aload_n 0, 1) := by decide +kernel
theorem dX7_tellEnd_9 : decode cX7_tellEnd 9 = .ok (.getfield 65, 3) := by decide +kernel
theorem dX7_tellEnd_12 : decode cX7_tellEnd 12 = .ok (.iastore, 1) := by decide +kernel
theorem dX7_tellEnd_13 : decode cX7_tellEnd 13 = .ok (.aload_n 0, 1) := by decide +kernel
theorem dX7_tellEnd_14 : decode cX7_tellEnd 14 = .ok (.getfield 45, 3) := by decide +kernel
theorem dX7_tellEnd_17 : decode cX7_tellEnd 17 = .ok (.iconst 4, 1) := by decide +kernel
theorem dX7_tellEnd_18 : decode cX7_tellEnd 18 = .ok (.aload_n 0, 1) := by decide +kernel
theorem dX7_tellEnd_19 : decode cX7_tellEnd 19 = .ok (.getfield 65, 3) := by decide +kernel
theorem dX7_tellEnd_22 : decode cX7_tellEnd 22 = .ok (.iload_n 1, 1) := by decide +kernel
theorem dX7_tellEnd_23 : decode cX7_tellEnd 23 = .ok (.invokevirtual 117, 3) := by decide +kernel
theorem dX7_tellEnd_26 : decode cX7_tellEnd 26 = .ok (.return_, 1) := by decide +kernel
theorem dX7_seeTruth_0 : decode cX7_seeTruth 0 = .ok (.aload_n 0, 1) := by decide +kernel
theorem dX7_seeTruth_1 : decode cX7_seeTruth 1 = .ok (.getfield 87, 3) := by decide +kernel
theorem dX7_seeTruth_4 : decode cX7_seeTruth 4 = .ok (.iconst (-1), 1) := by decide +kernel
theorem dX7_seeTruth_5 : decode cX7_seeTruth 5 = .ok (.if_icmp .ne 35, 3) := by decide +kernel
theorem dX7_seeTruth_8 : decode cX7_seeTruth 8 = .ok (.aload_n 0, 1) := by decide +kernel
theorem dX7_seeTruth_9 : decode cX7_seeTruth 9 = .ok (.invokevirtual 337, 3) := by decide +kernel
theorem dX7_seeTruth_12 : decode cX7_seeTruth 12 = .ok (.ifCond .ne 28, 3) := by decide +kernel
theorem dX7_seeTruth_15 : decode cX7_seeTruth 15 = .ok (.aload_n 0, 1) := by decide +kernel
theorem dX7_seeTruth_16 : decode cX7_seeTruth 16 = .ok (.aload_n 0, 1) := by decide +kernel
theorem dX7_seeTruth_17 : decode cX7_seeTruth 17 = .ok (.getfield 65, 3) := by decide +kernel
theorem dX7_seeTruth_20 : decode cX7_seeTruth 20 = .ok (.putfield 87, 3) := by decide +kernel
theorem dX7_seeTruth_23 : decode cX7_seeTruth 23 = .ok (.aload_n 0, 1) := by decide +kernel
theorem dX7_seeTruth_24 : decode cX7_seeTruth 24 = .ok (.getfield 45, 3) := by decide +kernel
theorem dX7_seeTruth_27 : decode cX7_seeTruth 27 = .ok (.iconst 3, 1) := by decide +kernel
theorem dX7_seeTruth_28 : decode cX7_seeTruth 28 = .ok (.aload_n 0, 1) := by decide +kernel
theorem dX7_seeTruth_29 : decode cX7_seeTruth 29 = .ok (.getfield 65, 3) := by decide +kernel
theorem dX7_seeTruth_32 : decode cX7_seeTruth 32 = .ok (.aload_n 0, 1) := by decide +kernel
theorem dX7_seeTruth_33 : decode cX7_seeTruth 33 = .ok (.iconst 2, 1) := by decide +kernel
theorem dX7_seeTruth_34 : decode cX7_seeTruth 34 = .ok (.invokevirtual 340, 3) := by decide +kernel
theorem dX7_seeTruth_37 : decode cX7_seeTruth 37 = .ok (.invokevirtual 117, 3) := by decide +kernel
theorem dX7_seeTruth_40 : decode cX7_seeTruth 40 = .ok (.return_, 1) := by decide +kernel
theorem dX7_sleepOn_0 : decode cX7_sleepOn 0 = .ok (.iconst 0, 1) := by decide +kernel
theorem dX7_sleepOn_1 : decode cX7_sleepOn 1 = .ok (.istore_n 1, 1) := by decide +kernel
theorem dX7_sleepOn_2 : decode cX7_sleepOn 2 = .ok (.iload_n 1, 1) := by decide +kernel
theorem dX7_sleepOn_3 : decode cX7_sleepOn 3 = .ok (.aload_n 0, 1) := by decide +kernel
theorem dX7_sleepOn_4 : decode cX7_sleepOn 4 = .ok (.getfield 61, 3) := by decide +kernel
theorem dX7_sleepOn_7 : decode cX7_sleepOn 7 = .ok (.if_icmp .ge 36, 3) := by decide +kernel
theorem dX7_sleepOn_10 : decode cX7_sleepOn 10 = .ok (.aload_n 0, 1) := by decide +kernel
theorem dX7_sleepOn_11 : decode cX7_sleepOn 11 = .ok (.getfield 11, 3) := by decide +kernel
theorem dX7_sleepOn_14 : decode cX7_sleepOn 14 = .ok (.iload_n 1, 1) := by decide +kernel
theorem dX7_sleepOn_15 : decode cX7_sleepOn 15 = .ok (.aaload, 1) := by decide +kernel
theorem dX7_sleepOn_16 : decode cX7_sleepOn 16 = .ok (.getfield 81, 3) := by decide +kernel
theorem dX7_sleepOn_19 : decode cX7_sleepOn 19 = .ok (.ifCond .le 18, 3) := by decide +kernel
theorem dX7_sleepOn_22 : decode cX7_sleepOn 22 = .ok (.aload_n 0, 1) := by decide +kernel
theorem dX7_sleepOn_23 : decode cX7_sleepOn 23 = .ok (.getfield 11, 3) := by decide +kernel
theorem dX7_sleepOn_26 : decode cX7_sleepOn 26 = .ok (.iload_n 1, 1) := by decide +kernel
theorem dX7_sleepOn_27 : decode cX7_sleepOn 27 = .ok (.aaload, 1) := by decide +kernel
theorem dX7_sleepOn_28 : decode cX7_sleepOn 28 = .ok (.dup, 1) := by decide +kernel
theorem dX7_sleepOn_29 : decode cX7_sleepOn 29 = .ok (.getfield 81, 3) := by decide +kernel
theorem dX7_sleepOn_32 : decode cX7_sleepOn 32 = .ok (.iconst 1, 1) := by decide +kernel
theorem dX7_sleepOn_33 : decode cX7_sleepOn 33 = .ok (.isub, 1) := by decide +kernel
theorem dX7_sleepOn_34 : decode cX7_sleepOn 34 = .ok (.putfield 81, 3) := by decide +kernel
theorem dX7_sleepOn_37 : decode cX7_sleepOn 37 = .ok (.iinc 1 1, 3) := by decide +kernel
theorem dX7_sleepOn_40 : decode cX7_sleepOn 40 = .ok (.goto (-38), 3) := by decide +kernel
theorem dX7_sleepOn_43 : decode cX7_sleepOn 43 = .ok (.return_, 1) := by decide +kernel
theorem dX7_startCut_0 : decode cX7_startCut 0 = .ok (.aload_n 0, 1) := by decide +kernel
theorem dX7_startCut_1 : decode cX7_startCut 1 = .ok (.invokevirtual 96, 3) := by decide +kernel
theorem dX7_startCut_4 : decode cX7_startCut 4 = .ok (.aload_n 0, 1) := by decide +kernel
theorem dX7_startCut_5 : decode cX7_startCut 5 = .ok (.dup, 1) := by decide +kernel
theorem dX7_startCut_6 : decode cX7_startCut 6 = .ok (.getfield 93, 3) := by decide +kernel
theorem dX7_startCut_9 : decode cX7_startCut 9 = .ok (.iconst 1, 1) := by decide +kernel
theorem dX7_startCut_10 : decode cX7_startCut 10 = .ok (.iadd, 1) := by decide +kernel
theorem dX7_startCut_11 : decode cX7_startCut 11 = .ok (.putfield 93, 3) := by decide +kernel
theorem dX7_startCut_14 : decode cX7_startCut 14 = .ok (.aload_n 0, 1) := by decide +kernel
theorem dX7_startCut_15 : decode cX7_startCut 15 = .ok (.iload_n 1, 1) := by decide +kernel
theorem dX7_startCut_16 : decode cX7_startCut 16 = .ok (.invokevirtual 195, 3) := by decide +kernel
theorem dX7_startCut_19 : decode cX7_startCut 19 = .ok (.return_, 1) := by decide +kernel
theorem dX7_clearCut_0 : decode cX7_clearCut 0 = .ok (.aload_n 0, 1) := by decide +kernel
theorem dX7_clearCut_1 : decode cX7_clearCut 1 = .ok (.iconst 0, 1) := by decide +kernel
theorem dX7_clearCut_2 : decode cX7_clearCut 2 = .ok (.putfield 153, 3) := by decide +kernel
theorem dX7_clearCut_5 : decode cX7_clearCut 5 = .ok (.aload_n 0, 1) := by decide +kernel
theorem dX7_clearCut_6 : decode cX7_clearCut 6 = .ok (.iconst 0, 1) := by decide +kernel
theorem dX7_clearCut_7 : decode cX7_clearCut 7 = .ok (.putfield 156, 3) := by decide +kernel
theorem dX7_clearCut_10 : decode cX7_clearCut 10 = .ok (.aload_n 0, 1) := by decide +kernel
theorem dX7_clearCut_11 : decode cX7_clearCut 11 = .ok (.invokevirtual 125, 3) := by decide +kernel
theorem dX7_clearCut_14 : decode cX7_clearCut 14 = .ok (.return_, 1) := by decide +kernel
theorem dX7_clearRed_0 : decode cX7_clearRed 0 = .ok (.aload_n 0, 1) := by decide +kernel
theorem dX7_clearRed_1 : decode cX7_clearRed 1 = .ok (.iconst (-1), 1) := by decide +kernel
theorem dX7_clearRed_2 : decode cX7_clearRed 2 = .ok (.putfield 159, 3) := by decide +kernel
theorem dX7_clearRed_5 : decode cX7_clearRed 5 = .ok (.aload_n 0, 1) := by decide +kernel
theorem dX7_clearRed_6 : decode cX7_clearRed 6 = .ok (.getfield 31, 3) := by decide +kernel
theorem dX7_clearRed_9 : decode cX7_clearRed 9 = .ok (.invokevirtual 344, 3) := by decide +kernel
theorem dX7_clearRed_12 : decode cX7_clearRed 12 = .ok (.iconst 0, 1) := by decide +kernel
theorem dX7_clearRed_13 : decode cX7_clearRed 13 = .ok (.istore_n 1, 1) := by decide +kernel
theorem dX7_clearRed_14 : decode cX7_clearRed 14 = .ok (.iload_n 1, 1) := by decide +kernel
theorem dX7_clearRed_15 : decode cX7_clearRed 15 = .ok (.bipush 8, 2) := by decide +kernel
theorem dX7_clearRed_17 : decode cX7_clearRed 17 = .ok (.if_icmp .ge 18, 3) := by decide +kernel
theorem dX7_clearRed_20 : decode cX7_clearRed 20 = .ok (.aload_n 0, 1) := by decide +kernel
theorem dX7_clearRed_21 : decode cX7_clearRed 21 = .ok (.getfield 11, 3) := by decide +kernel
theorem dX7_clearRed_24 : decode cX7_clearRed 24 = .ok (.iload_n 1, 1) := by decide +kernel
theorem dX7_clearRed_25 : decode cX7_clearRed 25 = .ok (.aaload, 1) := by decide +kernel
theorem dX7_clearRed_26 : decode cX7_clearRed 26 = .ok (.invokevirtual 345, 3) := by decide +kernel
theorem dX7_clearRed_29 : decode cX7_clearRed 29 = .ok (.iinc 1 1, 3) := by decide +kernel
theorem dX7_clearRed_32 : decode cX7_clearRed 32 = .ok (.goto (-18), 3) := by decide +kernel
theorem dX7_clearRed_35 : decode cX7_clearRed 35 = .ok (.return_, 1) := by decide +kernel
theorem dX7_turnRed_0 : decode cX7_turnRed 0 = .ok (.aload_n 0, 1) := by decide +kernel
theorem dX7_turnRed_1 : decode cX7_turnRed 1 = .ok (.getfield 11, 3) := by decide +kernel
theorem dX7_turnRed_4 : decode cX7_turnRed 4 = .ok (.iload_n 1, 1) := by decide +kernel
theorem dX7_turnRed_5 : decode cX7_turnRed 5 = .ok (.aaload, 1) := by decide +kernel
theorem dX7_turnRed_6 : decode cX7_turnRed 6 = .ok (.getfield 210, 3) := by decide +kernel
theorem dX7_turnRed_9 : decode cX7_turnRed 9 = .ok (.ifCond .eq 4, 3) := by decide +kernel
theorem dX7_turnRed_12 : decode cX7_turnRed 12 = .ok (.return_, 1) := by decide +kernel
theorem dX7_turnRed_13 : decode cX7_turnRed 13 = .ok (.aload_n 0, 1) := by decide +kernel
theorem dX7_turnRed_14 : decode cX7_turnRed 14 = .ok (.getfield 11, 3) := by decide +kernel
theorem dX7_turnRed_17 : decode cX7_turnRed 17 = .ok (.iload_n 1, 1) := by decide +kernel
theorem dX7_turnRed_18 : decode cX7_turnRed 18 = .ok (.aaload, 1) := by decide +kernel
theorem dX7_turnRed_19 : decode cX7_turnRed 19 = .ok (.invokevirtual 346, 3) := by decide +kernel
theorem dX7_turnRed_22 : decode cX7_turnRed 22 = .ok (.aload_n 0, 1) := by decide +kernel
theorem dX7_turnRed_23 : decode cX7_turnRed 23 = .ok (.invokevirtual 348, 3) := by decide +kernel
theorem dX7_turnRed_26 : decode cX7_turnRed 26 = .ok (.iconst 1, 1) := by decide +kernel
theorem dX7_turnRed_27 : decode cX7_turnRed 27 = .ok (.aload_n 0, 1) := by decide +kernel
theorem dX7_turnRed_28 : decode cX7_turnRed 28 = .ok (.getfield 61, 3) := by decide +kernel
theorem dX7_turnRed_31 : decode cX7_turnRed 31 = .ok (.ishl, 1) := by decide +kernel
theorem dX7_turnRed_32 : decode cX7_turnRed 32 = .ok (.iconst 1, 1) := by decide +kernel
theorem dX7_turnRed_33 : decode cX7_turnRed 33 = .ok (.isub, 1) := by decide +kernel
theorem dX7_turnRed_34 : decode cX7_turnRed 34 = .ok (.if_icmp .ne 11, 3) := by decide +kernel
theorem dX7_turnRed_37 : decode cX7_turnRed 37 = .ok (.aload_n 0, 1) := by decide +kernel
theorem dX7_turnRed_38 : decode cX7_turnRed 38 = .ok (.aload_n 0, 1) := by decide +kernel
theorem dX7_turnRed_39 : decode cX7_turnRed 39 = .ok (.getfield 65, 3) := by decide +kernel
theorem dX7_turnRed_42 : decode cX7_turnRed 42 = .ok (.putfield 159, 3) := by decide +kernel
theorem dX7_turnRed_45 : decode cX7_turnRed 45 = .ok (.return_, 1) := by decide +kernel
theorem dX7_isWhole_0 : decode cX7_isWhole 0 = .ok (.aload_n 0, 1) := by decide +kernel
theorem dX7_isWhole_1 : decode cX7_isWhole 1 = .ok (.getfield 159, 3) := by decide +kernel
theorem dX7_isWhole_4 : decode cX7_isWhole 4 = .ok (.iconst (-1), 1) := by decide +kernel
theorem dX7_isWhole_5 : decode cX7_isWhole 5 = .ok (.if_icmp .eq 7, 3) := by decide +kernel
theorem dX7_isWhole_8 : decode cX7_isWhole 8 = .ok (.iconst 1, 1) := by decide +kernel
theorem dX7_isWhole_9 : decode cX7_isWhole 9 = .ok (.goto 4, 3) := by decide +kernel
theorem dX7_isWhole_12 : decode cX7_isWhole 12 = .ok (.iconst 0, 1) := by decide +kernel
theorem dX7_isWhole_13 : decode cX7_isWhole 13 = .ok (.ireturn, 1) := by decide +kernel
theorem dX7_redBits_0 : decode cX7_redBits 0 = .ok (.iconst 0, 1) := by decide +kernel
theorem dX7_redBits_1 : decode cX7_redBits 1 = .ok (.istore_n 1, 1) := by decide +kernel
theorem dX7_redBits_2 : decode cX7_redBits 2 = .ok (.iconst 0, 1) := by decide +kernel
theorem dX7_redBits_3 : decode cX7_redBits 3 = .ok (.istore_n 2, 1) := by decide +kernel
theorem dX7_redBits_4 : decode cX7_redBits 4 = .ok (.iload_n 2, 1) := by decide +kernel
theorem dX7_redBits_5 : decode cX7_redBits 5 = .ok (.aload_n 0, 1) := by decide +kernel
theorem dX7_redBits_6 : decode cX7_redBits 6 = .ok (.getfield 61, 3) := by decide +kernel
theorem dX7_redBits_9 : decode cX7_redBits 9 = .ok (.if_icmp .ge 26, 3) := by decide +kernel
theorem dX7_redBits_12 : decode cX7_redBits 12 = .ok (.iload_n 1, 1) := by decide +kernel
theorem dX7_redBits_13 : decode cX7_redBits 13 = .ok (.aload_n 0, 1) := by decide +kernel
theorem dX7_redBits_14 : decode cX7_redBits 14 = .ok (.getfield 11, 3) := by decide +kernel
theorem dX7_redBits_17 : decode cX7_redBits 17 = .ok (.iload_n 2, 1) := by decide +kernel
theorem dX7_redBits_18 : decode cX7_redBits 18 = .ok (.aaload, 1) := by decide +kernel
theorem dX7_redBits_19 : decode cX7_redBits 19 = .ok (.getfield 210, 3) := by decide +kernel
theorem dX7_redBits_22 : decode cX7_redBits 22 = .ok (.invokestatic 273, 3) := by decide +kernel
theorem dX7_redBits_25 : decode cX7_redBits 25 = .ok (.iload_n 2, 1) := by decide +kernel
theorem dX7_redBits_26 : decode cX7_redBits 26 = .ok (.ishl, 1) := by decide +kernel
theorem dX7_redBits_27 : decode cX7_redBits 27 = .ok (.ior, 1) := by decide +kernel
theorem dX7_redBits_28 : decode cX7_redBits 28 = .ok (.istore_n 1, 1) := by decide +kernel
theorem dX7_redBits_29 : decode cX7_redBits 29 = .ok (.iinc 2 1, 3) := by decide +kernel
theorem dX7_redBits_32 : decode cX7_redBits 32 = .ok (.goto (-28), 3) := by decide +kernel
theorem dX7_redBits_35 : decode cX7_redBits 35 = .ok (.iload_n 1, 1) := by decide +kernel
theorem dX7_redBits_36 : decode cX7_redBits 36 = .ok (.ireturn, 1) := by decide +kernel
theorem dX7_recordTogether_0 : decode cX7_recordTogether 0 = .ok (.iconst 0, 1) := by decide +kernel
theorem dX7_recordTogether_1 : decode cX7_recordTogether 1 = .ok (.istore_n 2, 1) := by decide +kernel
theorem dX7_recordTogether_2 : decode cX7_recordTogether 2 = .ok (.iconst 0, 1) := by decide +kernel
theorem dX7_recordTogether_3 : decode cX7_recordTogether 3 = .ok (.istore_n 3, 1) := by decide +kernel
theorem dX7_recordTogether_4 : decode cX7_recordTogether 4 = .ok (.iload_n 3, 1) := by decide +kernel
theorem dX7_recordTogether_5 : decode cX7_recordTogether 5 = .ok (.aload_n 0, 1) := by decide +kernel
theorem dX7_recordTogether_6 : decode cX7_recordTogether 6 = .ok (.getfield 61, 3) := by decide +kernel
theorem dX7_recordTogether_9 : decode cX7_recordTogether 9 = .ok (.if_icmp .ge 22, 3) := by decide +kernel
theorem dX7_recordTogether_12 : decode cX7_recordTogether 12 = .ok (.iload_n 2, 1) := by decide +kernel
theorem dX7_recordTogether_13 : decode cX7_recordTogether 13 = .ok (.aload_n 0, 1) := by decide +kernel
theorem dX7_recordTogether_14 : decode cX7_recordTogether 14 = .ok (.getfield 11, 3) := by decide +kernel
theorem dX7_recordTogether_17 : decode cX7_recordTogether 17 = .ok (.iload_n 3, 1) := by decide +kernel
theorem dX7_recordTogether_18 : decode cX7_recordTogether 18 = .ok (.aaload, 1) := by decide +kernel
theorem dX7_recordTogether_19 : decode cX7_recordTogether 19 = .ok (.iload_n 1, 1) := by decide +kernel
theorem dX7_recordTogether_20 : decode cX7_recordTogether 20 = .ok (.invokevirtual 351, 3) := by decide +kernel
theorem dX7_recordTogether_23 : decode cX7_recordTogether 23 = .ok (.iadd, 1) := by decide +kernel
theorem dX7_recordTogether_24 : decode cX7_recordTogether 24 = .ok (.istore_n 2, 1) := by decide +kernel
theorem dX7_recordTogether_25 : decode cX7_recordTogether 25 = .ok (.iinc 3 1, 3) := by decide +kernel
theorem dX7_recordTogether_28 : decode cX7_recordTogether 28 = .ok (.goto (-24), 3) := by decide +kernel
theorem dX7_recordTogether_31 : decode cX7_recordTogether 31 = .ok (.iload_n 2, 1) := by decide +kernel
theorem dX7_recordTogether_32 : decode cX7_recordTogether 32 = .ok (.ireturn, 1) := by decide +kernel
theorem dX7_showsEnd_0 : decode cX7_showsEnd 0 = .ok (.aload_n 0, 1) := by decide +kernel
theorem dX7_showsEnd_1 : decode cX7_showsEnd 1 = .ok (.invokevirtual 354, 3) := by decide +kernel
theorem dX7_showsEnd_4 : decode cX7_showsEnd 4 = .ok (.ifCond .eq 28, 3) := by decide +kernel
theorem dX7_showsEnd_7 : decode cX7_showsEnd 7 = .ok (.aload_n 0, 1) := by decide +kernel
theorem dX7_showsEnd_8 : decode cX7_showsEnd 8 = .ok (.iconst 0, 1) := by decide +kernel
theorem dX7_showsEnd_9 : decode cX7_showsEnd 9 = .ok (.invokevirtual 357, 3) := by decide +kernel
theorem dX7_showsEnd_12 : decode cX7_showsEnd 12 = .ok (.ifCond .ne 20, 3) := by decide +kernel
theorem dX7_showsEnd_15 : decode cX7_showsEnd 15 = .ok (.aload_n 0, 1) := by decide +kernel
theorem dX7_showsEnd_16 : decode cX7_showsEnd 16 = .ok (.iconst 1, 1) := by decide +kernel
theorem dX7_showsEnd_17 : decode cX7_showsEnd 17 = .ok (.invokevirtual 357, 3) := by decide +kernel
theorem dX7_showsEnd_20 : decode cX7_showsEnd 20 = .ok (.aload_n 0, 1) := by decide +kernel
theorem dX7_showsEnd_21 : decode cX7_showsEnd 21 = .ok (.iconst 2, 1) := by decide +kernel
theorem dX7_showsEnd_22 : decode cX7_showsEnd 22 = .ok (.invokevirtual 357, 3) := by decide +kernel
theorem dX7_showsEnd_25 : decode cX7_showsEnd 25 = .ok (.if_icmp .ne 7, 3) := by decide +kernel
theorem dX7_showsEnd_28 : decode cX7_showsEnd 28 = .ok (.iconst 1, 1) := by decide +kernel
theorem dX7_showsEnd_29 : decode cX7_showsEnd 29 = .ok (.goto 4, 3) := by decide +kernel
theorem dX7_showsEnd_32 : decode cX7_showsEnd 32 = .ok (.iconst 0, 1) := by decide +kernel
theorem dX7_showsEnd_33 : decode cX7_showsEnd 33 = .ok (.ireturn, 1) := by decide +kernel
theorem dX7_ofCut_0 : decode cX7_ofCut 0 = .ok (.iload_n 1, 1) := by decide +kernel
theorem dX7_ofCut_1 : decode cX7_ofCut 1 = .ok (.tableswitch 96 0 7 #[47, 52, 60, 66, 72, 78, 83, 88], 47) := by decide +kernel
theorem dX7_ofCut_48 : decode cX7_ofCut 48 = .ok (.aload_n 0, 1) := by decide +kernel
theorem dX7_ofCut_49 : decode cX7_ofCut 49 = .ok (.invokevirtual 348, 3) := by decide +kernel
theorem dX7_ofCut_52 : decode cX7_ofCut 52 = .ok (.ireturn, 1) := by decide +kernel
theorem dX7_ofCut_53 : decode cX7_ofCut 53 = .ok (.aload_n 0, 1) := by decide +kernel
theorem dX7_ofCut_54 : decode cX7_ofCut 54 = .ok (.invokevirtual 354, 3) := by decide +kernel
theorem dX7_ofCut_57 : decode cX7_ofCut 57 = .ok (.invokestatic 273, 3) := by decide +kernel
theorem dX7_ofCut_60 : decode cX7_ofCut 60 = .ok (.ireturn, 1) := by decide +kernel
theorem dX7_ofCut_61 : decode cX7_ofCut 61 = .ok (.aload_n 0, 1) := by decide +kernel
theorem dX7_ofCut_62 : decode cX7_ofCut 62 = .ok (.iconst 0, 1) := by decide +kernel
theorem dX7_ofCut_63 : decode cX7_ofCut 63 = .ok (.invokevirtual 357, 3) := by decide +kernel
theorem dX7_ofCut_66 : decode cX7_ofCut 66 = .ok (.ireturn, 1) := by decide +kernel
theorem dX7_ofCut_67 : decode cX7_ofCut 67 = .ok (.aload_n 0, 1) := by decide +kernel
theorem dX7_ofCut_68 : decode cX7_ofCut 68 = .ok (.iconst 1, 1) := by decide +kernel
theorem dX7_ofCut_69 : decode cX7_ofCut 69 = .ok (.invokevirtual 357, 3) := by decide +kernel
theorem dX7_ofCut_72 : decode cX7_ofCut 72 = .ok (.ireturn, 1) := by decide +kernel
theorem dX7_ofCut_73 : decode cX7_ofCut 73 = .ok (.aload_n 0, 1) := by decide +kernel
theorem dX7_ofCut_74 : decode cX7_ofCut 74 = .ok (.iconst 2, 1) := by decide +kernel
theorem dX7_ofCut_75 : decode cX7_ofCut 75 = .ok (.invokevirtual 357, 3) := by decide +kernel
theorem dX7_ofCut_78 : decode cX7_ofCut 78 = .ok (.ireturn, 1) := by decide +kernel
theorem dX7_ofCut_79 : decode cX7_ofCut 79 = .ok (.aload_n 0, 1) := by decide +kernel
theorem dX7_ofCut_80 : decode cX7_ofCut 80 = .ok (.getfield 153, 3) := by decide +kernel
theorem dX7_ofCut_83 : decode cX7_ofCut 83 = .ok (.ireturn, 1) := by decide +kernel
theorem dX7_ofCut_84 : decode cX7_ofCut 84 = .ok (.aload_n 0, 1) := by decide +kernel
theorem dX7_ofCut_85 : decode cX7_ofCut 85 = .ok (.getfield 156, 3) := by decide +kernel
theorem dX7_ofCut_88 : decode cX7_ofCut 88 = .ok (.ireturn, 1) := by decide +kernel
theorem dX7_ofCut_89 : decode cX7_ofCut 89 = .ok (.aload_n 0, 1) := by decide +kernel
theorem dX7_ofCut_90 : decode cX7_ofCut 90 = .ok (.invokevirtual 360, 3) := by decide +kernel
theorem dX7_ofCut_93 : decode cX7_ofCut 93 = .ok (.invokestatic 273, 3) := by decide +kernel
theorem dX7_ofCut_96 : decode cX7_ofCut 96 = .ok (.ireturn, 1) := by decide +kernel
theorem dX7_ofCut_97 : decode cX7_ofCut 97 = .ok (.aload_n 0, 1) := by decide +kernel
theorem dX7_ofCut_98 : decode cX7_ofCut 98 = .ok (.getfield 159, 3) := by decide +kernel
theorem dX7_ofCut_101 : decode cX7_ofCut 101 = .ok (.ireturn, 1) := by decide +kernel
theorem dX7_passUntilTruth_0 : decode cX7_passUntilTruth 0 = .ok (.iconst 0, 1) := by decide +kernel
theorem dX7_passUntilTruth_1 : decode cX7_passUntilTruth 1 = .ok (.istore_n 1, 1) := by decide +kernel
theorem dX7_passUntilTruth_2 : decode cX7_passUntilTruth 2 = .ok (.aload_n 0, 1) := by decide +kernel
theorem dX7_passUntilTruth_3 : decode cX7_passUntilTruth 3 = .ok (.getfield 87, 3) := by decide +kernel
theorem dX7_passUntilTruth_6 : decode cX7_passUntilTruth 6 = .ok (.iconst (-1), 1) := by decide +kernel
theorem dX7_passUntilTruth_7 : decode cX7_passUntilTruth 7 = .ok (.if_icmp .ne 20, 3) := by decide +kernel
theorem dX7_passUntilTruth_10 : decode cX7_passUntilTruth 10 = .ok (.iload_n 1, 1) := by decide +kernel
theorem dX7_passUntilTruth_11 : decode cX7_passUntilTruth 11 = .ok (.ldc_w 363, 3) := by decide +kernel
theorem dX7_passUntilTruth_14 : decode cX7_passUntilTruth 14 = .ok (.if_icmp .ge 13, 3) := by decide +kernel
theorem dX7_passUntilTruth_17 : decode cX7_passUntilTruth 17 = .ok (.aload_n 0, 1) := by decide +kernel
theorem dX7_passUntilTruth_18 : decode cX7_passUntilTruth 18 = .ok (.invokevirtual 364, 3) := by decide +kernel
theorem dX7_passUntilTruth_21 : decode cX7_passUntilTruth 21 = .ok (.iinc 1 1, 3) := by decide +kernel
theorem dX7_passUntilTruth_24 : decode cX7_passUntilTruth 24 = .ok (.goto (-22), 3) := by decide +kernel
theorem dX7_passUntilTruth_27 : decode cX7_passUntilTruth 27 = .ok (.return_, 1) := by decide +kernel
theorem dX7_passUntilTold_0 : decode cX7_passUntilTold 0 = .ok (.iconst 0, 1) := by decide +kernel
theorem dX7_passUntilTold_1 : decode cX7_passUntilTold 1 = .ok (.istore_n 2, 1) := by decide +kernel
theorem dX7_passUntilTold_2 : decode cX7_passUntilTold 2 = .ok (.aload_n 0, 1) := by decide +kernel
theorem dX7_passUntilTold_3 : decode cX7_passUntilTold 3 = .ok (.getfield 52, 3) := by decide +kernel
theorem dX7_passUntilTold_6 : decode cX7_passUntilTold 6 = .ok (.iload_n 1, 1) := by decide +kernel
theorem dX7_passUntilTold_7 : decode cX7_passUntilTold 7 = .ok (.invokevirtual 299, 3) := by decide +kernel
theorem dX7_passUntilTold_10 : decode cX7_passUntilTold 10 = .ok (.ifCond .ne 20, 3) := by decide +kernel
theorem dX7_passUntilTold_13 : decode cX7_passUntilTold 13 = .ok (.iload_n 2, 1) := by decide +kernel
theorem dX7_passUntilTold_14 : decode cX7_passUntilTold 14 = .ok (.ldc_w 363, 3) := by decide +kernel
theorem dX7_passUntilTold_17 : decode cX7_passUntilTold 17 = .ok (.if_icmp .ge 13, 3) := by decide +kernel
theorem dX7_passUntilTold_20 : decode cX7_passUntilTold 20 = .ok (.aload_n 0, 1) := by decide +kernel
theorem dX7_passUntilTold_21 : decode cX7_passUntilTold 21 = .ok (.invokevirtual 364, 3) := by decide +kernel
theorem dX7_passUntilTold_24 : decode cX7_passUntilTold 24 = .ok (.iinc 2 1, 3) := by decide +kernel
theorem dX7_passUntilTold_27 : decode cX7_passUntilTold 27 = .ok (.goto (-25), 3) := by decide +kernel
theorem dX7_passUntilTold_30 : decode cX7_passUntilTold 30 = .ok (.return_, 1) := by decide +kernel
theorem dX7_passUntilWhole_0 : decode cX7_passUntilWhole 0 = .ok (.iconst 0, 1) := by decide +kernel
theorem dX7_passUntilWhole_1 : decode cX7_passUntilWhole 1 = .ok (.istore_n 1, 1) := by decide +kernel
theorem dX7_passUntilWhole_2 : decode cX7_passUntilWhole 2 = .ok (.aload_n 0, 1) := by decide +kernel
theorem dX7_passUntilWhole_3 : decode cX7_passUntilWhole 3 = .ok (.invokevirtual 354, 3) := by decide +kernel
theorem dX7_passUntilWhole_6 : decode cX7_passUntilWhole 6 = .ok (.ifCond .ne 27, 3) := by decide +kernel
theorem dX7_passUntilWhole_9 : decode cX7_passUntilWhole 9 = .ok (.aload_n 0, 1) := by decide +kernel
theorem dX7_passUntilWhole_10 : decode cX7_passUntilWhole 10 = .ok (.invokevirtual 367, 3) := by decide +kernel
theorem dX7_passUntilWhole_13 : decode cX7_passUntilWhole 13 = .ok (.ifCond .ne 20, 3) := by decide +kernel
theorem dX7_passUntilWhole_16 : decode cX7_passUntilWhole 16 = .ok (.iload_n 1, 1) := by decide +kernel
theorem dX7_passUntilWhole_17 : decode cX7_passUntilWhole 17 = .ok (.sipush 2000, 3) := by decide +kernel
theorem dX7_passUntilWhole_20 : decode cX7_passUntilWhole 20 = .ok (.if_icmp .ge 13, 3) := by decide +kernel
theorem dX7_passUntilWhole_23 : decode cX7_passUntilWhole 23 = .ok (.aload_n 0, 1) := by decide +kernel
theorem dX7_passUntilWhole_24 : decode cX7_passUntilWhole 24 = .ok (.invokevirtual 364, 3) := by decide +kernel
theorem dX7_passUntilWhole_27 : decode cX7_passUntilWhole 27 = .ok (.iinc 1 1, 3) := by decide +kernel
theorem dX7_passUntilWhole_30 : decode cX7_passUntilWhole 30 = .ok (.goto (-28), 3) := by decide +kernel
theorem dX7_passUntilWhole_33 : decode cX7_passUntilWhole 33 = .ok (.return_, 1) := by decide +kernel
theorem dX7_isStill_0 : decode cX7_isStill 0 = .ok (.aload_n 0, 1) := by decide +kernel
theorem dX7_isStill_1 : decode cX7_isStill 1 = .ok (.getfield 31, 3) := by decide +kernel
theorem dX7_isStill_4 : decode cX7_isStill 4 = .ok (.getfield 99, 3) := by decide +kernel
theorem dX7_isStill_7 : decode cX7_isStill 7 = .ok (.ifCond .ne 24, 3) := by decide +kernel
theorem dX7_isStill_10 : decode cX7_isStill 10 = .ok (.aload_n 0, 1) := by decide +kernel
theorem dX7_isStill_11 : decode cX7_isStill 11 = .ok (.getfield 52, 3) := by decide +kernel
theorem dX7_isStill_14 : decode cX7_isStill 14 = .ok (.invokevirtual 370, 3) := by decide +kernel
theorem dX7_isStill_17 : decode cX7_isStill 17 = .ok (.ifCond .eq 14, 3) := by decide +kernel
theorem dX7_isStill_20 : decode cX7_isStill 20 = .ok (.aload_n 0, 1) := by decide +kernel
theorem dX7_isStill_21 : decode cX7_isStill 21 = .ok (.invokevirtual 337, 3) := by decide +kernel
theorem dX7_isStill_24 : decode cX7_isStill 24 = .ok (.ifCond .ne 7, 3) := by decide +kernel
theorem dX7_isStill_27 : decode cX7_isStill 27 = .ok (.iconst 1, 1) := by decide +kernel
theorem dX7_isStill_28 : decode cX7_isStill 28 = .ok (.goto 4, 3) := by decide +kernel
theorem dX7_isStill_31 : decode cX7_isStill 31 = .ok (.iconst 0, 1) := by decide +kernel
theorem dX7_isStill_32 : decode cX7_isStill 32 = .ok (.ireturn, 1) := by decide +kernel
theorem dX7_hasNode_0 : decode cX7_hasNode 0 = .ok (.iload_n 1, 1) := by decide +kernel
theorem dX7_hasNode_1 : decode cX7_hasNode 1 = .ok (.ifCond .lt 15, 3) := by decide +kernel
theorem dX7_hasNode_4 : decode cX7_hasNode 4 = .ok (.iload_n 1, 1) := by decide +kernel
theorem dX7_hasNode_5 : decode cX7_hasNode 5 = .ok (.aload_n 0, 1) := by decide +kernel
theorem dX7_hasNode_6 : decode cX7_hasNode 6 = .ok (.getfield 61, 3) := by decide +kernel
theorem dX7_hasNode_9 : decode cX7_hasNode 9 = .ok (.if_icmp .ge 7, 3) := by decide +kernel
theorem dX7_hasNode_12 : decode cX7_hasNode 12 = .ok (.iconst 1, 1) := by decide +kernel
theorem dX7_hasNode_13 : decode cX7_hasNode 13 = .ok (.goto 4, 3) := by decide +kernel
theorem dX7_hasNode_16 : decode cX7_hasNode 16 = .ok (.iconst 0, 1) := by decide +kernel
theorem dX7_hasNode_17 : decode cX7_hasNode 17 = .ok (.ireturn, 1) := by decide +kernel
theorem dX7_busyBits_0 : decode cX7_busyBits 0 = .ok (.iconst 0, 1) := by decide +kernel
theorem dX7_busyBits_1 : decode cX7_busyBits 1 = .ok (.istore_n 1, 1) := by decide +kernel
theorem dX7_busyBits_2 : decode cX7_busyBits 2 = .ok (.iconst 0, 1) := by decide +kernel
theorem dX7_busyBits_3 : decode cX7_busyBits 3 = .ok (.istore_n 2, 1) := by decide +kernel
theorem dX7_busyBits_4 : decode cX7_busyBits 4 = .ok (.iload_n 2, 1) := by decide +kernel
theorem dX7_busyBits_5 : decode cX7_busyBits 5 = .ok (.aload_n 0, 1) := by decide +kernel
theorem dX7_busyBits_6 : decode cX7_busyBits 6 = .ok (.getfield 61, 3) := by decide +kernel
theorem dX7_busyBits_9 : decode cX7_busyBits 9 = .ok (.if_icmp .ge 34, 3) := by decide +kernel
theorem dX7_busyBits_12 : decode cX7_busyBits 12 = .ok (.iload_n 1, 1) := by decide +kernel
theorem dX7_busyBits_13 : decode cX7_busyBits 13 = .ok (.aload_n 0, 1) := by decide +kernel
theorem dX7_busyBits_14 : decode cX7_busyBits 14 = .ok (.getfield 11, 3) := by decide +kernel
theorem dX7_busyBits_17 : decode cX7_busyBits 17 = .ok (.iload_n 2, 1) := by decide +kernel
theorem dX7_busyBits_18 : decode cX7_busyBits 18 = .ok (.aaload, 1) := by decide +kernel
theorem dX7_busyBits_19 : decode cX7_busyBits 19 = .ok (.getfield 103, 3) := by decide +kernel
theorem dX7_busyBits_22 : decode cX7_busyBits 22 = .ok (.ifCond .le 7, 3) := by decide +kernel
theorem dX7_busyBits_25 : decode cX7_busyBits 25 = .ok (.iconst 1, 1) := by decide +kernel
theorem dX7_busyBits_26 : decode cX7_busyBits 26 = .ok (.goto 4, 3) := by decide +kernel
theorem dX7_busyBits_29 : decode cX7_busyBits 29 = .ok (.iconst 0, 1) := by decide +kernel
theorem dX7_busyBits_30 : decode cX7_busyBits 30 = .ok (.invokestatic 273, 3) := by decide +kernel
theorem dX7_busyBits_33 : decode cX7_busyBits 33 = .ok (.iload_n 2, 1) := by decide +kernel
theorem dX7_busyBits_34 : decode cX7_busyBits 34 = .ok (.ishl, 1) := by decide +kernel
theorem dX7_busyBits_35 : decode cX7_busyBits 35 = .ok (.ior, 1) := by decide +kernel
theorem dX7_busyBits_36 : decode cX7_busyBits 36 = .ok (.istore_n 1, 1) := by decide +kernel
theorem dX7_busyBits_37 : decode cX7_busyBits 37 = .ok (.iinc 2 1, 3) := by decide +kernel
theorem dX7_busyBits_40 : decode cX7_busyBits 40 = .ok (.goto (-36), 3) := by decide +kernel
theorem dX7_busyBits_43 : decode cX7_busyBits 43 = .ok (.iload_n 1, 1) := by decide +kernel
theorem dX7_busyBits_44 : decode cX7_busyBits 44 = .ok (.ireturn, 1) := by decide +kernel
theorem dX7_isWorking_0 : decode cX7_isWorking 0 = .ok (.aload_n 0, 1) := by decide +kernel
theorem dX7_isWorking_1 : decode cX7_isWorking 1 = .ok (.invokevirtual 373, 3) := by decide +kernel
theorem dX7_isWorking_4 : decode cX7_isWorking 4 = .ok (.ifCond .ne 13, 3) := by decide +kernel
theorem dX7_isWorking_7 : decode cX7_isWorking 7 = .ok (.aload_n 0, 1) := by decide +kernel
theorem dX7_isWorking_8 : decode cX7_isWorking 8 = .ok (.getfield 31, 3) := by decide +kernel
theorem dX7_isWorking_11 : decode cX7_isWorking 11 = .ok (.invokevirtual 376, 3) := by decide +kernel
theorem dX7_isWorking_14 : decode cX7_isWorking 14 = .ok (.ifCond .le 7, 3) := by decide +kernel
theorem dX7_isWorking_17 : decode cX7_isWorking 17 = .ok (.iconst 1, 1) := by decide +kernel
theorem dX7_isWorking_18 : decode cX7_isWorking 18 = .ok (.goto 4, 3) := by decide +kernel
theorem dX7_isWorking_21 : decode cX7_isWorking 21 = .ok (.iconst 0, 1) := by decide +kernel
theorem dX7_isWorking_22 : decode cX7_isWorking 22 = .ok (.ireturn, 1) := by decide +kernel
theorem dX7_overall_0 : decode cX7_overall 0 = .ok (.iload_n 1, 1) := by decide +kernel
theorem dX7_overall_1 : decode cX7_overall 1 = .ok (.tableswitch 117 0 9 #[55, 60, 68, 73, 78, 84, 90, 98, 106, 112], 55) := by decide +kernel
theorem dX7_overall_56 : decode cX7_overall 56 = .ok (.aload_n 0, 1) := by decide +kernel
theorem dX7_overall_57 : decode cX7_overall 57 = .ok (.getfield 61, 3) := by decide +kernel
theorem dX7_overall_60 : decode cX7_overall 60 = .ok (.ireturn, 1) := by decide +kernel
theorem dX7_overall_61 : decode cX7_overall 61 = .ok (.aload_n 0, 1) := by decide +kernel
theorem dX7_overall_62 : decode cX7_overall 62 = .ok (.getfield 24, 3) := by decide +kernel
theorem dX7_overall_65 : decode cX7_overall 65 = .ok (.getfield 71, 3) := by decide +kernel
theorem dX7_overall_68 : decode cX7_overall 68 = .ok (.ireturn, 1) := by decide +kernel
theorem dX7_overall_69 : decode cX7_overall 69 = .ok (.aload_n 0, 1) := by decide +kernel
theorem dX7_overall_70 : decode cX7_overall 70 = .ok (.getfield 65, 3) := by decide +kernel
theorem dX7_overall_73 : decode cX7_overall 73 = .ok (.ireturn, 1) := by decide +kernel
theorem dX7_overall_74 : decode cX7_overall 74 = .ok (.aload_n 0, 1) := by decide +kernel
theorem dX7_overall_75 : decode cX7_overall 75 = .ok (.invokevirtual 373, 3) := by decide +kernel
theorem dX7_overall_78 : decode cX7_overall 78 = .ok (.ireturn, 1) := by decide +kernel
theorem dX7_overall_79 : decode cX7_overall 79 = .ok (.aload_n 0, 1) := by decide +kernel
theorem dX7_overall_80 : decode cX7_overall 80 = .ok (.iconst 0, 1) := by decide +kernel
theorem dX7_overall_81 : decode cX7_overall 81 = .ok (.invokevirtual 340, 3) := by decide +kernel
theorem dX7_overall_84 : decode cX7_overall 84 = .ok (.ireturn, 1) := by decide +kernel
theorem dX7_overall_85 : decode cX7_overall 85 = .ok (.aload_n 0, 1) := by decide +kernel
theorem dX7_overall_86 : decode cX7_overall 86 = .ok (.iconst 1, 1) := by decide +kernel
theorem dX7_overall_87 : decode cX7_overall 87 = .ok (.invokevirtual 340, 3) := by decide +kernel
theorem dX7_overall_90 : decode cX7_overall 90 = .ok (.ireturn, 1) := by decide +kernel
theorem dX7_overall_91 : decode cX7_overall 91 = .ok (.aload_n 0, 1) := by decide +kernel
theorem dX7_overall_92 : decode cX7_overall 92 = .ok (.getfield 31, 3) := by decide +kernel
theorem dX7_overall_95 : decode cX7_overall 95 = .ok (.invokevirtual 376, 3) := by decide +kernel
theorem dX7_overall_98 : decode cX7_overall 98 = .ok (.ireturn, 1) := by decide +kernel
theorem dX7_overall_99 : decode cX7_overall 99 = .ok (.aload_n 0, 1) := by decide +kernel
theorem dX7_overall_100 : decode cX7_overall 100 = .ok (.getfield 31, 3) := by decide +kernel
theorem dX7_overall_103 : decode cX7_overall 103 = .ok (.invokevirtual 379, 3) := by decide +kernel
theorem dX7_overall_106 : decode cX7_overall 106 = .ok (.ireturn, 1) := by decide +kernel
theorem dX7_overall_107 : decode cX7_overall 107 = .ok (.aload_n 0, 1) := by decide +kernel
theorem dX7_overall_108 : decode cX7_overall 108 = .ok (.iconst 2, 1) := by decide +kernel
theorem dX7_overall_109 : decode cX7_overall 109 = .ok (.invokevirtual 340, 3) := by decide +kernel
theorem dX7_overall_112 : decode cX7_overall 112 = .ok (.ireturn, 1) := by decide +kernel
theorem dX7_overall_113 : decode cX7_overall 113 = .ok (.aload_n 0, 1) := by decide +kernel
theorem dX7_overall_114 : decode cX7_overall 114 = .ok (.getfield 68, 3) := by decide +kernel
theorem dX7_overall_117 : decode cX7_overall 117 = .ok (.ireturn, 1) := by decide +kernel
theorem dX7_overall_118 : decode cX7_overall 118 = .ok (.aload_n 0, 1) := by decide +kernel
theorem dX7_overall_119 : decode cX7_overall 119 = .ok (.getfield 87, 3) := by decide +kernel
theorem dX7_overall_122 : decode cX7_overall 122 = .ok (.ireturn, 1) := by decide +kernel
theorem dX7_ofNode_0 : decode cX7_ofNode 0 = .ok (.aload_n 0, 1) := by decide +kernel
theorem dX7_ofNode_1 : decode cX7_ofNode 1 = .ok (.getfield 11, 3) := by decide +kernel
theorem dX7_ofNode_4 : decode cX7_ofNode 4 = .ok (.iload_n 1, 1) := by decide +kernel
theorem dX7_ofNode_5 : decode cX7_ofNode 5 = .ok (.aaload, 1) := by decide +kernel
theorem dX7_ofNode_6 : decode cX7_ofNode 6 = .ok (.astore_n 3, 1) := by decide +kernel
theorem dX7_ofNode_7 : decode cX7_ofNode 7 = .ok (.iload_n 2, 1) := by decide +kernel
theorem dX7_ofNode_8 : decode cX7_ofNode 8 = .ok (.tableswitch 140 0 12 #[68, 73, 78, 83, 88, 93, 101, 106, 111, 119, 124, 130, 135], 68) := by decide +kernel
theorem dX7_ofNode_76 : decode cX7_ofNode 76 = .ok (.aload_n 3, 1) := by decide +kernel
theorem dX7_ofNode_77 : decode cX7_ofNode 77 = .ok (.getfield 103, 3) := by decide +kernel
theorem dX7_ofNode_80 : decode cX7_ofNode 80 = .ok (.ireturn, 1) := by decide +kernel
theorem dX7_ofNode_81 : decode cX7_ofNode 81 = .ok (.aload_n 3, 1) := by decide +kernel
theorem dX7_ofNode_82 : decode cX7_ofNode 82 = .ok (.getfield 250, 3) := by decide +kernel
theorem dX7_ofNode_85 : decode cX7_ofNode 85 = .ok (.ireturn, 1) := by decide +kernel
theorem dX7_ofNode_86 : decode cX7_ofNode 86 = .ok (.aload_n 3, 1) := by decide +kernel
theorem dX7_ofNode_87 : decode cX7_ofNode 87 = .ok (.getfield 266, 3) := by decide +kernel
theorem dX7_ofNode_90 : decode cX7_ofNode 90 = .ok (.ireturn, 1) := by decide +kernel
theorem dX7_ofNode_91 : decode cX7_ofNode 91 = .ok (.aload_n 3, 1) := by decide +kernel
theorem dX7_ofNode_92 : decode cX7_ofNode 92 = .ok (.getfield 222, 3) := by decide +kernel
theorem dX7_ofNode_95 : decode cX7_ofNode 95 = .ok (.ireturn, 1) := by decide +kernel
theorem dX7_ofNode_96 : decode cX7_ofNode 96 = .ok (.aload_n 3, 1) := by decide +kernel
theorem dX7_ofNode_97 : decode cX7_ofNode 97 = .ok (.getfield 235, 3) := by decide +kernel
theorem dX7_ofNode_100 : decode cX7_ofNode 100 = .ok (.ireturn, 1) := by decide +kernel
theorem dX7_ofNode_101 : decode cX7_ofNode 101 = .ok (.aload_n 3, 1) := by decide +kernel
theorem dX7_ofNode_102 : decode cX7_ofNode 102 = .ok (.getfield 106, 3) := by decide +kernel
theorem dX7_ofNode_105 : decode cX7_ofNode 105 = .ok (.invokestatic 273, 3) := by decide +kernel
theorem dX7_ofNode_108 : decode cX7_ofNode 108 = .ok (.ireturn, 1) := by decide +kernel
theorem dX7_ofNode_109 : decode cX7_ofNode 109 = .ok (.aload_n 3, 1) := by decide +kernel
theorem dX7_ofNode_110 : decode cX7_ofNode 110 = .ok (.getfield 238, 3) := by decide +kernel
theorem dX7_ofNode_113 : decode cX7_ofNode 113 = .ok (.ireturn, 1) := by decide +kernel
theorem dX7_ofNode_114 : decode cX7_ofNode 114 = .ok (.aload_n 3, 1) := by decide +kernel
theorem dX7_ofNode_115 : decode cX7_ofNode 115 = .ok (.getfield 225, 3) := by decide +kernel
theorem dX7_ofNode_118 : decode cX7_ofNode 118 = .ok (.ireturn, 1) := by decide +kernel
theorem dX7_ofNode_119 : decode cX7_ofNode 119 = .ok (.aload_n 3, 1) := by decide +kernel
theorem dX7_ofNode_120 : decode cX7_ofNode 120 = .ok (.getfield 228, 3) := by decide +kernel
theorem dX7_ofNode_123 : decode cX7_ofNode 123 = .ok (.invokestatic 273, 3) := by decide +kernel
theorem dX7_ofNode_126 : decode cX7_ofNode 126 = .ok (.ireturn, 1) := by decide +kernel
theorem dX7_ofNode_127 : decode cX7_ofNode 127 = .ok (.aload_n 3, 1) := by decide +kernel
theorem dX7_ofNode_128 : decode cX7_ofNode 128 = .ok (.getfield 111, 3) := by decide +kernel
theorem dX7_ofNode_131 : decode cX7_ofNode 131 = .ok (.ireturn, 1) := by decide +kernel
theorem dX7_ofNode_132 : decode cX7_ofNode 132 = .ok (.aload_n 0, 1) := by decide +kernel
theorem dX7_ofNode_133 : decode cX7_ofNode 133 = .ok (.iload_n 1, 1) := by decide +kernel
theorem dX7_ofNode_134 : decode cX7_ofNode 134 = .ok (.invokevirtual 381, 3) := by decide +kernel
theorem dX7_ofNode_137 : decode cX7_ofNode 137 = .ok (.ireturn, 1) := by decide +kernel
theorem dX7_ofNode_138 : decode cX7_ofNode 138 = .ok (.aload_n 3, 1) := by decide +kernel
theorem dX7_ofNode_139 : decode cX7_ofNode 139 = .ok (.getfield 213, 3) := by decide +kernel
theorem dX7_ofNode_142 : decode cX7_ofNode 142 = .ok (.ireturn, 1) := by decide +kernel
theorem dX7_ofNode_143 : decode cX7_ofNode 143 = .ok (.aload_n 3, 1) := by decide +kernel
theorem dX7_ofNode_144 : decode cX7_ofNode 144 = .ok (.getfield 81, 3) := by decide +kernel
theorem dX7_ofNode_147 : decode cX7_ofNode 147 = .ok (.ireturn, 1) := by decide +kernel
theorem dX7_ofNode_148 : decode cX7_ofNode 148 = .ok (.aload_n 3, 1) := by decide +kernel
theorem dX7_ofNode_149 : decode cX7_ofNode 149 = .ok (.getfield 210, 3) := by decide +kernel
theorem dX7_ofNode_152 : decode cX7_ofNode 152 = .ok (.invokestatic 273, 3) := by decide +kernel
theorem dX7_ofNode_155 : decode cX7_ofNode 155 = .ok (.ireturn, 1) := by decide +kernel
theorem dX7_together_0 : decode cX7_together 0 = .ok (.iconst 0, 1) := by decide +kernel
theorem dX7_together_1 : decode cX7_together 1 = .ok (.istore_n 2, 1) := by decide +kernel
theorem dX7_together_2 : decode cX7_together 2 = .ok (.iconst 0, 1) := by decide +kernel
theorem dX7_together_3 : decode cX7_together 3 = .ok (.istore_n 3, 1) := by decide +kernel
theorem dX7_together_4 : decode cX7_together 4 = .ok (.iload_n 3, 1) := by decide +kernel
theorem dX7_together_5 : decode cX7_together 5 = .ok (.aload_n 0, 1) := by decide +kernel
theorem dX7_together_6 : decode cX7_together 6 = .ok (.getfield 61, 3) := by decide +kernel
theorem dX7_together_9 : decode cX7_together 9 = .ok (.if_icmp .ge 18, 3) := by decide +kernel
theorem dX7_together_12 : decode cX7_together 12 = .ok (.iload_n 2, 1) := by decide +kernel
theorem dX7_together_13 : decode cX7_together 13 = .ok (.aload_n 0, 1) := by decide +kernel
theorem dX7_together_14 : decode cX7_together 14 = .ok (.iload_n 3, 1) := by decide +kernel
theorem dX7_together_15 : decode cX7_together 15 = .ok (.iload_n 1, 1) := by decide +kernel
theorem dX7_together_16 : decode cX7_together 16 = .ok (.invokevirtual 384, 3) := by decide +kernel
theorem dX7_together_19 : decode cX7_together 19 = .ok (.iadd, 1) := by decide +kernel
theorem dX7_together_20 : decode cX7_together 20 = .ok (.istore_n 2, 1) := by decide +kernel
theorem dX7_together_21 : decode cX7_together 21 = .ok (.iinc 3 1, 3) := by decide +kernel
theorem dX7_together_24 : decode cX7_together 24 = .ok (.goto (-20), 3) := by decide +kernel
theorem dX7_together_27 : decode cX7_together 27 = .ok (.iload_n 2, 1) := by decide +kernel
theorem dX7_together_28 : decode cX7_together 28 = .ok (.ireturn, 1) := by decide +kernel
theorem dX7_childBits_0 : decode cX7_childBits 0 = .ok (.iconst 0, 1) := by decide +kernel
theorem dX7_childBits_1 : decode cX7_childBits 1 = .ok (.istore_n 2, 1) := by decide +kernel
theorem dX7_childBits_2 : decode cX7_childBits 2 = .ok (.iconst 0, 1) := by decide +kernel
theorem dX7_childBits_3 : decode cX7_childBits 3 = .ok (.istore_n 3, 1) := by decide +kernel
theorem dX7_childBits_4 : decode cX7_childBits 4 = .ok (.iload_n 3, 1) := by decide +kernel
theorem dX7_childBits_5 : decode cX7_childBits 5 = .ok (.aload_n 0, 1) := by decide +kernel
theorem dX7_childBits_6 : decode cX7_childBits 6 = .ok (.getfield 61, 3) := by decide +kernel
theorem dX7_childBits_9 : decode cX7_childBits 9 = .ok (.if_icmp .ge 35, 3) := by decide +kernel
theorem dX7_childBits_12 : decode cX7_childBits 12 = .ok (.iload_n 2, 1) := by decide +kernel
theorem dX7_childBits_13 : decode cX7_childBits 13 = .ok (.aload_n 0, 1) := by decide +kernel
theorem dX7_childBits_14 : decode cX7_childBits 14 = .ok (.getfield 11, 3) := by decide +kernel
theorem dX7_childBits_17 : decode cX7_childBits 17 = .ok (.iload_n 3, 1) := by decide +kernel
theorem dX7_childBits_18 : decode cX7_childBits 18 = .ok (.aaload, 1) := by decide +kernel
theorem dX7_childBits_19 : decode cX7_childBits 19 = .ok (.getfield 235, 3) := by decide +kernel
theorem dX7_childBits_22 : decode cX7_childBits 22 = .ok (.iload_n 1, 1) := by decide +kernel
theorem dX7_childBits_23 : decode cX7_childBits 23 = .ok (.if_icmp .ne 7, 3) := by decide +kernel
theorem dX7_childBits_26 : decode cX7_childBits 26 = .ok (.iconst 1, 1) := by decide +kernel
theorem dX7_childBits_27 : decode cX7_childBits 27 = .ok (.goto 4, 3) := by decide +kernel
theorem dX7_childBits_30 : decode cX7_childBits 30 = .ok (.iconst 0, 1) := by decide +kernel
theorem dX7_childBits_31 : decode cX7_childBits 31 = .ok (.invokestatic 273, 3) := by decide +kernel
theorem dX7_childBits_34 : decode cX7_childBits 34 = .ok (.iload_n 3, 1) := by decide +kernel
theorem dX7_childBits_35 : decode cX7_childBits 35 = .ok (.ishl, 1) := by decide +kernel
theorem dX7_childBits_36 : decode cX7_childBits 36 = .ok (.ior, 1) := by decide +kernel
theorem dX7_childBits_37 : decode cX7_childBits 37 = .ok (.istore_n 2, 1) := by decide +kernel
theorem dX7_childBits_38 : decode cX7_childBits 38 = .ok (.iinc 3 1, 3) := by decide +kernel
theorem dX7_childBits_41 : decode cX7_childBits 41 = .ok (.goto (-37), 3) := by decide +kernel
theorem dX7_childBits_44 : decode cX7_childBits 44 = .ok (.iload_n 2, 1) := by decide +kernel
theorem dX7_childBits_45 : decode cX7_childBits 45 = .ok (.ireturn, 1) := by decide +kernel
theorem dX7_ofWatch_0 : decode cX7_ofWatch 0 = .ok (.iload_n 2, 1) := by decide +kernel
theorem dX7_ofWatch_1 : decode cX7_ofWatch 1 = .ok (.lookupswitch 47 #[(0, 27), (1, 37)], 27) := by decide +kernel
theorem dX7_ofWatch_28 : decode cX7_ofWatch 28 = .ok (.aload_n 0, 1) := by decide +kernel
theorem dX7_ofWatch_29 : decode cX7_ofWatch 29 = .ok (.getfield 52, 3) := by decide +kernel
theorem dX7_ofWatch_32 : decode cX7_ofWatch 32 = .ok (.getfield 334, 3) := by decide +kernel
theorem dX7_ofWatch_35 : decode cX7_ofWatch 35 = .ok (.iload_n 1, 1) := by decide +kernel
theorem dX7_ofWatch_36 : decode cX7_ofWatch 36 = .ok (.iaload, 1) := by decide +kernel
theorem dX7_ofWatch_37 : decode cX7_ofWatch 37 = .ok (.ireturn, 1) := by decide +kernel
theorem dX7_ofWatch_38 : decode cX7_ofWatch 38 = .ok (.aload_n 0, 1) := by decide +kernel
theorem dX7_ofWatch_39 : decode cX7_ofWatch 39 = .ok (.getfield 52, 3) := by decide +kernel
theorem dX7_ofWatch_42 : decode cX7_ofWatch 42 = .ok (.getfield 260, 3) := by decide +kernel
theorem dX7_ofWatch_45 : decode cX7_ofWatch 45 = .ok (.iload_n 1, 1) := by decide +kernel
theorem dX7_ofWatch_46 : decode cX7_ofWatch 46 = .ok (.iaload, 1) := by decide +kernel
theorem dX7_ofWatch_47 : decode cX7_ofWatch 47 = .ok (.ireturn, 1) := by decide +kernel
theorem dX7_ofWatch_48 : decode cX7_ofWatch 48 = .ok (.iload_n 1, 1) := by decide +kernel
theorem dX7_ofWatch_49 : decode cX7_ofWatch 49 = .ok (.tableswitch 45 0 2 #[27, 33, 39], 27) := by decide +kernel
theorem dX7_ofWatch_76 : decode cX7_ofWatch 76 = .ok (.aload_n 0, 1) := by decide +kernel
theorem dX7_ofWatch_77 : decode cX7_ofWatch 77 = .ok (.iload_n 2, 1) := by decide +kernel
theorem dX7_ofWatch_78 : decode cX7_ofWatch 78 = .ok (.invokevirtual 387, 3) := by decide +kernel
theorem dX7_ofWatch_81 : decode cX7_ofWatch 81 = .ok (.ireturn, 1) := by decide +kernel
theorem dX7_ofWatch_82 : decode cX7_ofWatch 82 = .ok (.aload_n 0, 1) := by decide +kernel
theorem dX7_ofWatch_83 : decode cX7_ofWatch 83 = .ok (.iload_n 2, 1) := by decide +kernel
theorem dX7_ofWatch_84 : decode cX7_ofWatch 84 = .ok (.invokevirtual 390, 3) := by decide +kernel
theorem dX7_ofWatch_87 : decode cX7_ofWatch 87 = .ok (.ireturn, 1) := by decide +kernel
theorem dX7_ofWatch_88 : decode cX7_ofWatch 88 = .ok (.aload_n 0, 1) := by decide +kernel
theorem dX7_ofWatch_89 : decode cX7_ofWatch 89 = .ok (.iload_n 2, 1) := by decide +kernel
theorem dX7_ofWatch_90 : decode cX7_ofWatch 90 = .ok (.invokevirtual 393, 3) := by decide +kernel
theorem dX7_ofWatch_93 : decode cX7_ofWatch 93 = .ok (.ireturn, 1) := by decide +kernel
theorem dX7_ofWatch_94 : decode cX7_ofWatch 94 = .ok (.aload_n 0, 1) := by decide +kernel
theorem dX7_ofWatch_95 : decode cX7_ofWatch 95 = .ok (.iload_n 2, 1) := by decide +kernel
theorem dX7_ofWatch_96 : decode cX7_ofWatch 96 = .ok (.invokevirtual 396, 3) := by decide +kernel
theorem dX7_ofWatch_99 : decode cX7_ofWatch 99 = .ok (.ireturn, 1) := by decide +kernel
theorem dX7_ofTree_0 : decode cX7_ofTree 0 = .ok (.iload_n 1, 1) := by decide +kernel
theorem dX7_ofTree_1 : decode cX7_ofTree 1 = .ok (.tableswitch 44 2 4 #[27, 35, 37], 27) := by decide +kernel
theorem dX7_ofTree_28 : decode cX7_ofTree 28 = .ok (.aload_n 0, 1) := by decide +kernel
theorem dX7_ofTree_29 : decode cX7_ofTree 29 = .ok (.getfield 52, 3) := by decide +kernel
theorem dX7_ofTree_32 : decode cX7_ofTree 32 = .ok (.getfield 177, 3) := by decide +kernel
theorem dX7_ofTree_35 : decode cX7_ofTree 35 = .ok (.ireturn, 1) := by decide +kernel
theorem dX7_ofTree_36 : decode cX7_ofTree 36 = .ok (.iconst 0, 1) := by decide +kernel
theorem dX7_ofTree_37 : decode cX7_ofTree 37 = .ok (.ireturn, 1) := by decide +kernel
theorem dX7_ofTree_38 : decode cX7_ofTree 38 = .ok (.aload_n 0, 1) := by decide +kernel
theorem dX7_ofTree_39 : decode cX7_ofTree 39 = .ok (.bipush 6, 2) := by decide +kernel
theorem dX7_ofTree_41 : decode cX7_ofTree 41 = .ok (.invokevirtual 340, 3) := by decide +kernel
theorem dX7_ofTree_44 : decode cX7_ofTree 44 = .ok (.ireturn, 1) := by decide +kernel
theorem dX7_ofTree_45 : decode cX7_ofTree 45 = .ok (.aload_n 0, 1) := by decide +kernel
theorem dX7_ofTree_46 : decode cX7_ofTree 46 = .ok (.invokevirtual 399, 3) := by decide +kernel
theorem dX7_ofTree_49 : decode cX7_ofTree 49 = .ok (.ireturn, 1) := by decide +kernel
theorem dX7_ofToken_0 : decode cX7_ofToken 0 = .ok (.iload_n 1, 1) := by decide +kernel
theorem dX7_ofToken_1 : decode cX7_ofToken 1 = .ok (.tableswitch 51 2 4 #[27, 35, 43], 27) := by decide +kernel
theorem dX7_ofToken_28 : decode cX7_ofToken 28 = .ok (.aload_n 0, 1) := by decide +kernel
theorem dX7_ofToken_29 : decode cX7_ofToken 29 = .ok (.getfield 52, 3) := by decide +kernel
theorem dX7_ofToken_32 : decode cX7_ofToken 32 = .ok (.getfield 402, 3) := by decide +kernel
theorem dX7_ofToken_35 : decode cX7_ofToken 35 = .ok (.ireturn, 1) := by decide +kernel
theorem dX7_ofToken_36 : decode cX7_ofToken 36 = .ok (.aload_n 0, 1) := by decide +kernel
theorem dX7_ofToken_37 : decode cX7_ofToken 37 = .ok (.getfield 52, 3) := by decide +kernel
theorem dX7_ofToken_40 : decode cX7_ofToken 40 = .ok (.getfield 241, 3) := by decide +kernel
theorem dX7_ofToken_43 : decode cX7_ofToken 43 = .ok (.ireturn, 1) := by decide +kernel
theorem dX7_ofToken_44 : decode cX7_ofToken 44 = .ok (.aload_n 0, 1) := by decide +kernel
theorem dX7_ofToken_45 : decode cX7_ofToken 45 = .ok (.getfield 52, 3) := by decide +kernel
theorem dX7_ofToken_48 : decode cX7_ofToken 48 = .ok (.getfield 305, 3) := by decide +kernel
theorem dX7_ofToken_51 : decode cX7_ofToken 51 = .ok (.ireturn, 1) := by decide +kernel
theorem dX7_ofToken_52 : decode cX7_ofToken 52 = .ok (.aload_n 0, 1) := by decide +kernel
theorem dX7_ofToken_53 : decode cX7_ofToken 53 = .ok (.getfield 52, 3) := by decide +kernel
theorem dX7_ofToken_56 : decode cX7_ofToken 56 = .ok (.getfield 308, 3) := by decide +kernel
theorem dX7_ofToken_59 : decode cX7_ofToken 59 = .ok (.invokestatic 273, 3) := by decide +kernel
theorem dX7_ofToken_62 : decode cX7_ofToken 62 = .ok (.ireturn, 1) := by decide +kernel
theorem dX7_ofWeight_0 : decode cX7_ofWeight 0 = .ok (.iload_n 1, 1) := by decide +kernel
theorem dX7_ofWeight_1 : decode cX7_ofWeight 1 = .ok (.tableswitch 45 2 4 #[27, 35, 37], 27) := by decide +kernel
theorem dX7_ofWeight_28 : decode cX7_ofWeight 28 = .ok (.aload_n 0, 1) := by decide +kernel
theorem dX7_ofWeight_29 : decode cX7_ofWeight 29 = .ok (.getfield 52, 3) := by decide +kernel
theorem dX7_ofWeight_32 : decode cX7_ofWeight 32 = .ok (.getfield 257, 3) := by decide +kernel
theorem dX7_ofWeight_35 : decode cX7_ofWeight 35 = .ok (.ireturn, 1) := by decide +kernel
theorem dX7_ofWeight_36 : decode cX7_ofWeight 36 = .ok (.iconst 0, 1) := by decide +kernel
theorem dX7_ofWeight_37 : decode cX7_ofWeight 37 = .ok (.ireturn, 1) := by decide +kernel
theorem dX7_ofWeight_38 : decode cX7_ofWeight 38 = .ok (.aload_n 0, 1) := by decide +kernel
theorem dX7_ofWeight_39 : decode cX7_ofWeight 39 = .ok (.getfield 52, 3) := by decide +kernel
theorem dX7_ofWeight_42 : decode cX7_ofWeight 42 = .ok (.getfield 114, 3) := by decide +kernel
theorem dX7_ofWeight_45 : decode cX7_ofWeight 45 = .ok (.ireturn, 1) := by decide +kernel
theorem dX7_ofWeight_46 : decode cX7_ofWeight 46 = .ok (.aload_n 0, 1) := by decide +kernel
theorem dX7_ofWeight_47 : decode cX7_ofWeight 47 = .ok (.getfield 52, 3) := by decide +kernel
theorem dX7_ofWeight_50 : decode cX7_ofWeight 50 = .ok (.getfield 244, 3) := by decide +kernel
theorem dX7_ofWeight_53 : decode cX7_ofWeight 53 = .ok (.ireturn, 1) := by decide +kernel
theorem dX7_ofWaves_0 : decode cX7_ofWaves 0 = .ok (.iload_n 1, 1) := by decide +kernel
theorem dX7_ofWaves_1 : decode cX7_ofWaves 1 = .ok (.tableswitch 51 2 4 #[27, 35, 43], 27) := by decide +kernel
theorem dX7_ofWaves_28 : decode cX7_ofWaves 28 = .ok (.aload_n 0, 1) := by decide +kernel
theorem dX7_ofWaves_29 : decode cX7_ofWaves 29 = .ok (.getfield 52, 3) := by decide +kernel
theorem dX7_ofWaves_32 : decode cX7_ofWaves 32 = .ok (.getfield 405, 3) := by decide +kernel
theorem dX7_ofWaves_35 : decode cX7_ofWaves 35 = .ok (.ireturn, 1) := by decide +kernel
theorem dX7_ofWaves_36 : decode cX7_ofWaves 36 = .ok (.aload_n 0, 1) := by decide +kernel
theorem dX7_ofWaves_37 : decode cX7_ofWaves 37 = .ok (.getfield 52, 3) := by decide +kernel
theorem dX7_ofWaves_40 : decode cX7_ofWaves 40 = .ok (.getfield 247, 3) := by decide +kernel
theorem dX7_ofWaves_43 : decode cX7_ofWaves 43 = .ok (.ireturn, 1) := by decide +kernel
theorem dX7_ofWaves_44 : decode cX7_ofWaves 44 = .ok (.aload_n 0, 1) := by decide +kernel
theorem dX7_ofWaves_45 : decode cX7_ofWaves 45 = .ok (.getfield 52, 3) := by decide +kernel
theorem dX7_ofWaves_48 : decode cX7_ofWaves 48 = .ok (.getfield 317, 3) := by decide +kernel
theorem dX7_ofWaves_51 : decode cX7_ofWaves 51 = .ok (.ireturn, 1) := by decide +kernel
theorem dX7_ofWaves_52 : decode cX7_ofWaves 52 = .ok (.aload_n 0, 1) := by decide +kernel
theorem dX7_ofWaves_53 : decode cX7_ofWaves 53 = .ok (.getfield 52, 3) := by decide +kernel
theorem dX7_ofWaves_56 : decode cX7_ofWaves 56 = .ok (.getfield 320, 3) := by decide +kernel
theorem dX7_ofWaves_59 : decode cX7_ofWaves 59 = .ok (.ireturn, 1) := by decide +kernel
theorem dX7_treeSize_0 : decode cX7_treeSize 0 = .ok (.iconst 0, 1) := by decide +kernel
theorem dX7_treeSize_1 : decode cX7_treeSize 1 = .ok (.istore_n 1, 1) := by decide +kernel
theorem dX7_treeSize_2 : decode cX7_treeSize 2 = .ok (.iconst 0, 1) := by decide +kernel
theorem dX7_treeSize_3 : decode cX7_treeSize 3 = .ok (.istore_n 2, 1) := by decide +kernel
theorem dX7_treeSize_4 : decode cX7_treeSize 4 = .ok (.iload_n 2, 1) := by decide +kernel
theorem dX7_treeSize_5 : decode cX7_treeSize 5 = .ok (.aload_n 0, 1) := by decide +kernel
theorem dX7_treeSize_6 : decode cX7_treeSize 6 = .ok (.getfield 61, 3) := by decide +kernel
theorem dX7_treeSize_9 : decode cX7_treeSize 9 = .ok (.if_icmp .ge 24, 3) := by decide +kernel
theorem dX7_treeSize_12 : decode cX7_treeSize 12 = .ok (.iload_n 1, 1) := by decide +kernel
theorem dX7_treeSize_13 : decode cX7_treeSize 13 = .ok (.aload_n 0, 1) := by decide +kernel
theorem dX7_treeSize_14 : decode cX7_treeSize 14 = .ok (.getfield 11, 3) := by decide +kernel
theorem dX7_treeSize_17 : decode cX7_treeSize 17 = .ok (.iload_n 2, 1) := by decide +kernel
theorem dX7_treeSize_18 : decode cX7_treeSize 18 = .ok (.aaload, 1) := by decide +kernel
theorem dX7_treeSize_19 : decode cX7_treeSize 19 = .ok (.getfield 106, 3) := by decide +kernel
theorem dX7_treeSize_22 : decode cX7_treeSize 22 = .ok (.invokestatic 273, 3) := by decide +kernel
theorem dX7_treeSize_25 : decode cX7_treeSize 25 = .ok (.iadd, 1) := by decide +kernel
theorem dX7_treeSize_26 : decode cX7_treeSize 26 = .ok (.istore_n 1, 1) := by decide +kernel
theorem dX7_treeSize_27 : decode cX7_treeSize 27 = .ok (.iinc 2 1, 3) := by decide +kernel
theorem dX7_treeSize_30 : decode cX7_treeSize 30 = .ok (.goto (-26), 3) := by decide +kernel
theorem dX7_treeSize_33 : decode cX7_treeSize 33 = .ok (.iload_n 1, 1) := by decide +kernel
theorem dX7_treeSize_34 : decode cX7_treeSize 34 = .ok (.ireturn, 1) := by decide +kernel
theorem dX7_treeDepth_0 : decode cX7_treeDepth 0 = .ok (.iconst 0, 1) := by decide +kernel
theorem dX7_treeDepth_1 : decode cX7_treeDepth 1 = .ok (.istore_n 1, 1) := by decide +kernel
theorem dX7_treeDepth_2 : decode cX7_treeDepth 2 = .ok (.iconst 0, 1) := by decide +kernel
theorem dX7_treeDepth_3 : decode cX7_treeDepth 3 = .ok (.istore_n 2, 1) := by decide +kernel
theorem dX7_treeDepth_4 : decode cX7_treeDepth 4 = .ok (.iload_n 2, 1) := by decide +kernel
theorem dX7_treeDepth_5 : decode cX7_treeDepth 5 = .ok (.aload_n 0, 1) := by decide +kernel
theorem dX7_treeDepth_6 : decode cX7_treeDepth 6 = .ok (.getfield 61, 3) := by decide +kernel
theorem dX7_treeDepth_9 : decode cX7_treeDepth 9 = .ok (.if_icmp .ge 61, 3) := by decide +kernel
theorem dX7_treeDepth_12 : decode cX7_treeDepth 12 = .ok (.iconst 0, 1) := by decide +kernel
theorem dX7_treeDepth_13 : decode cX7_treeDepth 13 = .ok (.istore_n 3, 1) := by decide +kernel
theorem dX7_treeDepth_14 : decode cX7_treeDepth 14 = .ok (.aload_n 0, 1) := by decide +kernel
theorem dX7_treeDepth_15 : decode cX7_treeDepth 15 = .ok (.getfield 11, 3) := by decide +kernel
theorem dX7_treeDepth_18 : decode cX7_treeDepth 18 = .ok (.iload_n 2, 1) := by decide +kernel
theorem dX7_treeDepth_19 : decode cX7_treeDepth 19 = .ok (.aaload, 1) := by decide +kernel
theorem dX7_treeDepth_20 : decode cX7_treeDepth 20 = .ok (.getfield 235, 3) := by decide +kernel
theorem dX7_treeDepth_23 : decode cX7_treeDepth 23 = .ok (.istore 4, 2) := by decide +kernel
theorem dX7_treeDepth_25 : decode cX7_treeDepth 25 = .ok (.aload_n 0, 1) := by decide +kernel
theorem dX7_treeDepth_26 : decode cX7_treeDepth 26 = .ok (.iload 4, 2) := by decide +kernel
theorem dX7_treeDepth_28 : decode cX7_treeDepth 28 = .ok (.invokevirtual 269, 3) := by decide +kernel
theorem dX7_treeDepth_31 : decode cX7_treeDepth 31 = .ok (.ifCond .eq 27, 3) := by decide +kernel
theorem dX7_treeDepth_34 : decode cX7_treeDepth 34 = .ok (.iload_n 3, 1) := by decide +kernel
theorem dX7_treeDepth_35 : decode cX7_treeDepth 35 = .ok (.bipush 8, 2) := by decide +kernel
theorem dX7_treeDepth_37 : decode cX7_treeDepth 37 = .ok (.if_icmp .ge 21, 3) := by decide +kernel
theorem dX7_treeDepth_40 : decode cX7_treeDepth 40 = .ok (.iinc 3 1, 3) := by decide +kernel
theorem dX7_treeDepth_43 : decode cX7_treeDepth 43 = .ok (.aload_n 0, 1) := by decide +kernel
theorem dX7_treeDepth_44 : decode cX7_treeDepth 44 = .ok (.getfield 11, 3) := by decide +kernel
theorem dX7_treeDepth_47 : decode cX7_treeDepth 47 = .ok (.iload 4, 2) := by decide +kernel
theorem dX7_treeDepth_49 : decode cX7_treeDepth 49 = .ok (.aaload, 1) := by decide +kernel
theorem dX7_treeDepth_50 : decode cX7_treeDepth 50 = .ok (.getfield 235, 3) := by decide +kernel
theorem dX7_treeDepth_53 : decode cX7_treeDepth 53 = .ok (.istore 4, 2) := by decide +kernel
theorem dX7_treeDepth_55 : decode cX7_treeDepth 55 = .ok (.goto (-30), 3) := by decide +kernel
theorem dX7_treeDepth_58 : decode cX7_treeDepth 58 = .ok (.iload_n 1, 1) := by decide +kernel
theorem dX7_treeDepth_59 : decode cX7_treeDepth 59 = .ok (.iload_n 3, 1) := by decide +kernel
theorem dX7_treeDepth_60 : decode cX7_treeDepth 60 = .ok (.invokestatic 184, 3) := by decide +kernel
theorem dX7_treeDepth_63 : decode cX7_treeDepth 63 = .ok (.istore_n 1, 1) := by decide +kernel
theorem dX7_treeDepth_64 : decode cX7_treeDepth 64 = .ok (.iinc 2 1, 3) := by decide +kernel
theorem dX7_treeDepth_67 : decode cX7_treeDepth 67 = .ok (.goto (-63), 3) := by decide +kernel
theorem dX7_treeDepth_70 : decode cX7_treeDepth 70 = .ok (.iload_n 1, 1) := by decide +kernel
theorem dX7_treeDepth_71 : decode cX7_treeDepth 71 = .ok (.ireturn, 1) := by decide +kernel
theorem dX7_weighed_0 : decode cX7_weighed 0 = .ok (.iload_n 1, 1) := by decide +kernel
theorem dX7_weighed_1 : decode cX7_weighed 1 = .ok (.tableswitch 50 0 2 #[27, 34, 42], 27) := by decide +kernel
theorem dX7_weighed_28 : decode cX7_weighed 28 = .ok (.aload_n 0, 1) := by decide +kernel
theorem dX7_weighed_29 : decode cX7_weighed 29 = .ok (.bipush 9, 2) := by decide +kernel
theorem dX7_weighed_31 : decode cX7_weighed 31 = .ok (.invokevirtual 340, 3) := by decide +kernel
theorem dX7_weighed_34 : decode cX7_weighed 34 = .ok (.ireturn, 1) := by decide +kernel
theorem dX7_weighed_35 : decode cX7_weighed 35 = .ok (.aload_n 0, 1) := by decide +kernel
theorem dX7_weighed_36 : decode cX7_weighed 36 = .ok (.getfield 31, 3) := by decide +kernel
theorem dX7_weighed_39 : decode cX7_weighed 39 = .ok (.invokevirtual 408, 3) := by decide +kernel
theorem dX7_weighed_42 : decode cX7_weighed 42 = .ok (.ireturn, 1) := by decide +kernel
theorem dX7_weighed_43 : decode cX7_weighed 43 = .ok (.aload_n 0, 1) := by decide +kernel
theorem dX7_weighed_44 : decode cX7_weighed 44 = .ok (.getfield 52, 3) := by decide +kernel
theorem dX7_weighed_47 : decode cX7_weighed 47 = .ok (.getfield 244, 3) := by decide +kernel
theorem dX7_weighed_50 : decode cX7_weighed 50 = .ok (.ireturn, 1) := by decide +kernel
theorem dX7_weighed_51 : decode cX7_weighed 51 = .ok (.aload_n 0, 1) := by decide +kernel
theorem dX7_weighed_52 : decode cX7_weighed 52 = .ok (.getfield 52, 3) := by decide +kernel
theorem dX7_weighed_55 : decode cX7_weighed 55 = .ok (.getfield 114, 3) := by decide +kernel
theorem dX7_weighed_58 : decode cX7_weighed 58 = .ok (.ireturn, 1) := by decide +kernel
theorem dX7_hasLastLetter_0 : decode cX7_hasLastLetter 0 = .ok (.aload_n 0, 1) := by decide +kernel
theorem dX7_hasLastLetter_1 : decode cX7_hasLastLetter 1 = .ok (.getfield 87, 3) := by decide +kernel
theorem dX7_hasLastLetter_4 : decode cX7_hasLastLetter 4 = .ok (.iconst (-1), 1) := by decide +kernel
theorem dX7_hasLastLetter_5 : decode cX7_hasLastLetter 5 = .ok (.if_icmp .eq 34, 3) := by decide +kernel
theorem dX7_hasLastLetter_8 : decode cX7_hasLastLetter 8 = .ok (.aload_n 0, 1) := by decide +kernel
theorem dX7_hasLastLetter_9 : decode cX7_hasLastLetter 9 = .ok (.aload_n 0, 1) := by decide +kernel
theorem dX7_hasLastLetter_10 : decode cX7_hasLastLetter 10 = .ok (.getfield 90, 3) := by decide +kernel
theorem dX7_hasLastLetter_13 : decode cX7_hasLastLetter 13 = .ok (.invokevirtual 269, 3) := by decide +kernel
theorem dX7_hasLastLetter_16 : decode cX7_hasLastLetter 16 = .ok (.ifCond .eq 23, 3) := by decide +kernel
theorem dX7_hasLastLetter_19 : decode cX7_hasLastLetter 19 = .ok (.aload_n 0, 1) := by decide +kernel
theorem dX7_hasLastLetter_20 : decode cX7_hasLastLetter 20 = .ok (.getfield 11, 3) := by decide +kernel
theorem dX7_hasLastLetter_23 : decode cX7_hasLastLetter 23 = .ok (.aload_n 0, 1) := by decide +kernel
theorem dX7_hasLastLetter_24 : decode cX7_hasLastLetter 24 = .ok (.getfield 90, 3) := by decide +kernel
theorem dX7_hasLastLetter_27 : decode cX7_hasLastLetter 27 = .ok (.aaload, 1) := by decide +kernel
theorem dX7_hasLastLetter_28 : decode cX7_hasLastLetter 28 = .ok (.getfield 216, 3) := by decide +kernel
theorem dX7_hasLastLetter_31 : decode cX7_hasLastLetter 31 = .ok (.iconst (-1), 1) := by decide +kernel
theorem dX7_hasLastLetter_32 : decode cX7_hasLastLetter 32 = .ok (.if_icmp .eq 7, 3) := by decide +kernel
theorem dX7_hasLastLetter_35 : decode cX7_hasLastLetter 35 = .ok (.iconst 1, 1) := by decide +kernel
theorem dX7_hasLastLetter_36 : decode cX7_hasLastLetter 36 = .ok (.goto 4, 3) := by decide +kernel
theorem dX7_hasLastLetter_39 : decode cX7_hasLastLetter 39 = .ok (.iconst 0, 1) := by decide +kernel
theorem dX7_hasLastLetter_40 : decode cX7_hasLastLetter 40 = .ok (.ireturn, 1) := by decide +kernel
theorem dX7_ofLastLetter_0 : decode cX7_ofLastLetter 0 = .ok (.aload_n 0, 1) := by decide +kernel
theorem dX7_ofLastLetter_1 : decode cX7_ofLastLetter 1 = .ok (.getfield 11, 3) := by decide +kernel
theorem dX7_ofLastLetter_4 : decode cX7_ofLastLetter 4 = .ok (.aload_n 0, 1) := by decide +kernel
theorem dX7_ofLastLetter_5 : decode cX7_ofLastLetter 5 = .ok (.getfield 90, 3) := by decide +kernel
theorem dX7_ofLastLetter_8 : decode cX7_ofLastLetter 8 = .ok (.aaload, 1) := by decide +kernel
theorem dX7_ofLastLetter_9 : decode cX7_ofLastLetter 9 = .ok (.astore_n 2, 1) := by decide +kernel
theorem dX7_ofLastLetter_10 : decode cX7_ofLastLetter 10 = .ok (.iload_n 1, 1) := by decide +kernel
theorem dX7_ofLastLetter_11 : decode cX7_ofLastLetter 11 = .ok (.tableswitch 40 0 2 #[25, 30, 35], 25) := by decide +kernel
theorem dX7_ofLastLetter_36 : decode cX7_ofLastLetter 36 = .ok (.aload_n 2, 1) := by decide +kernel
theorem dX7_ofLastLetter_37 : decode cX7_ofLastLetter 37 = .ok (.getfield 213, 3) := by decide +kernel
theorem dX7_ofLastLetter_40 : decode cX7_ofLastLetter 40 = .ok (.ireturn, 1) := by decide +kernel
theorem dX7_ofLastLetter_41 : decode cX7_ofLastLetter 41 = .ok (.aload_n 2, 1) := by decide +kernel
theorem dX7_ofLastLetter_42 : decode cX7_ofLastLetter 42 = .ok (.getfield 216, 3) := by decide +kernel
theorem dX7_ofLastLetter_45 : decode cX7_ofLastLetter 45 = .ok (.ireturn, 1) := by decide +kernel
theorem dX7_ofLastLetter_46 : decode cX7_ofLastLetter 46 = .ok (.aload_n 0, 1) := by decide +kernel
theorem dX7_ofLastLetter_47 : decode cX7_ofLastLetter 47 = .ok (.getfield 90, 3) := by decide +kernel
theorem dX7_ofLastLetter_50 : decode cX7_ofLastLetter 50 = .ok (.ireturn, 1) := by decide +kernel
theorem dX7_ofLastLetter_51 : decode cX7_ofLastLetter 51 = .ok (.aload_n 2, 1) := by decide +kernel
theorem dX7_ofLastLetter_52 : decode cX7_ofLastLetter 52 = .ok (.getfield 219, 3) := by decide +kernel
theorem dX7_ofLastLetter_55 : decode cX7_ofLastLetter 55 = .ok (.ireturn, 1) := by decide +kernel
theorem dX7_lagOf_0 : decode cX7_lagOf 0 = .ok (.aload_n 0, 1) := by decide +kernel
theorem dX7_lagOf_1 : decode cX7_lagOf 1 = .ok (.getfield 52, 3) := by decide +kernel
theorem dX7_lagOf_4 : decode cX7_lagOf 4 = .ok (.getfield 334, 3) := by decide +kernel
theorem dX7_lagOf_7 : decode cX7_lagOf 7 = .ok (.iload_n 1, 1) := by decide +kernel
theorem dX7_lagOf_8 : decode cX7_lagOf 8 = .ok (.iaload, 1) := by decide +kernel
theorem dX7_lagOf_9 : decode cX7_lagOf 9 = .ok (.aload_n 0, 1) := by decide +kernel
theorem dX7_lagOf_10 : decode cX7_lagOf 10 = .ok (.getfield 87, 3) := by decide +kernel
theorem dX7_lagOf_13 : decode cX7_lagOf 13 = .ok (.isub, 1) := by decide +kernel
theorem dX7_lagOf_14 : decode cX7_lagOf 14 = .ok (.ireturn, 1) := by decide +kernel
theorem dX7_leastLate_0 : decode cX7_leastLate 0 = .ok (.iconst (-1), 1) := by decide +kernel
theorem dX7_leastLate_1 : decode cX7_leastLate 1 = .ok (.istore_n 1, 1) := by decide +kernel
theorem dX7_leastLate_2 : decode cX7_leastLate 2 = .ok (.iconst 0, 1) := by decide +kernel
theorem dX7_leastLate_3 : decode cX7_leastLate 3 = .ok (.istore_n 2, 1) := by decide +kernel
theorem dX7_leastLate_4 : decode cX7_leastLate 4 = .ok (.iload_n 2, 1) := by decide +kernel
theorem dX7_leastLate_5 : decode cX7_leastLate 5 = .ok (.iconst 4, 1) := by decide +kernel
theorem dX7_leastLate_6 : decode cX7_leastLate 6 = .ok (.if_icmp .ge 40, 3) := by decide +kernel
theorem dX7_leastLate_9 : decode cX7_leastLate 9 = .ok (.aload_n 0, 1) := by decide +kernel
theorem dX7_leastLate_10 : decode cX7_leastLate 10 = .ok (.getfield 52, 3) := by decide +kernel
theorem dX7_leastLate_13 : decode cX7_leastLate 13 = .ok (.iload_n 2, 1) := by decide +kernel
theorem dX7_leastLate_14 : decode cX7_leastLate 14 = .ok (.invokevirtual 299, 3) := by decide +kernel
theorem dX7_leastLate_17 : decode cX7_leastLate 17 = .ok (.ifCond .eq 23, 3) := by decide +kernel
theorem dX7_leastLate_20 : decode cX7_leastLate 20 = .ok (.iload_n 1, 1) := by decide +kernel
theorem dX7_leastLate_21 : decode cX7_leastLate 21 = .ok (.iconst (-1), 1) := by decide +kernel
theorem dX7_leastLate_22 : decode cX7_leastLate 22 = .ok (.if_icmp .eq 16, 3) := by decide +kernel
theorem dX7_leastLate_25 : decode cX7_leastLate 25 = .ok (.aload_n 0, 1) := by decide +kernel
theorem dX7_leastLate_26 : decode cX7_leastLate 26 = .ok (.iload_n 2, 1) := by decide +kernel
theorem dX7_leastLate_27 : decode cX7_leastLate 27 = .ok (.invokevirtual 411, 3) := by decide +kernel
theorem dX7_leastLate_30 : decode cX7_leastLate 30 = .ok (.aload_n 0, 1) := by decide +kernel
theorem dX7_leastLate_31 : decode cX7_leastLate 31 = .ok (.iload_n 1, 1) := by decide +kernel
theorem dX7_leastLate_32 : decode cX7_leastLate 32 = .ok (.invokevirtual 411, 3) := by decide +kernel
theorem dX7_leastLate_35 : decode cX7_leastLate 35 = .ok (.if_icmp .ge 5, 3) := by decide +kernel
theorem dX7_leastLate_38 : decode cX7_leastLate 38 = .ok (.iload_n 2, 1) := by decide +kernel
theorem dX7_leastLate_39 : decode cX7_leastLate 39 = .ok (.istore_n 1, 1) := by decide +kernel
theorem dX7_leastLate_40 : decode cX7_leastLate 40 = .ok (.iinc 2 1, 3) := by decide +kernel
theorem dX7_leastLate_43 : decode cX7_leastLate 43 = .ok (.goto (-39), 3) := by decide +kernel
theorem dX7_leastLate_46 : decode cX7_leastLate 46 = .ok (.iload_n 1, 1) := by decide +kernel
theorem dX7_leastLate_47 : decode cX7_leastLate 47 = .ok (.ireturn, 1) := by decide +kernel
theorem dX7_boundOf_0 : decode cX7_boundOf 0 = .ok (.iload_n 1, 1) := by decide +kernel
theorem dX7_boundOf_1 : decode cX7_boundOf 1 = .ok (.tableswitch 49 0 2 #[27, 42, 37], 27) := by decide +kernel
theorem dX7_boundOf_28 : decode cX7_boundOf 28 = .ok (.aload_n 0, 1) := by decide +kernel
theorem dX7_boundOf_29 : decode cX7_boundOf 29 = .ok (.getfield 61, 3) := by decide +kernel
theorem dX7_boundOf_32 : decode cX7_boundOf 32 = .ok (.aload_n 0, 1) := by decide +kernel
theorem dX7_boundOf_33 : decode cX7_boundOf 33 = .ok (.invokevirtual 414, 3) := by decide +kernel
theorem dX7_boundOf_36 : decode cX7_boundOf 36 = .ok (.imul, 1) := by decide +kernel
theorem dX7_boundOf_37 : decode cX7_boundOf 37 = .ok (.ireturn, 1) := by decide +kernel
theorem dX7_boundOf_38 : decode cX7_boundOf 38 = .ok (.aload_n 0, 1) := by decide +kernel
theorem dX7_boundOf_39 : decode cX7_boundOf 39 = .ok (.invokevirtual 417, 3) := by decide +kernel
theorem dX7_boundOf_42 : decode cX7_boundOf 42 = .ok (.ireturn, 1) := by decide +kernel
theorem dX7_boundOf_43 : decode cX7_boundOf 43 = .ok (.iconst 3, 1) := by decide +kernel
theorem dX7_boundOf_44 : decode cX7_boundOf 44 = .ok (.aload_n 0, 1) := by decide +kernel
theorem dX7_boundOf_45 : decode cX7_boundOf 45 = .ok (.invokevirtual 420, 3) := by decide +kernel
theorem dX7_boundOf_48 : decode cX7_boundOf 48 = .ok (.imul, 1) := by decide +kernel
theorem dX7_boundOf_49 : decode cX7_boundOf 49 = .ok (.ireturn, 1) := by decide +kernel
theorem dX7_boundOf_50 : decode cX7_boundOf 50 = .ok (.iconst 3, 1) := by decide +kernel
theorem dX7_boundOf_51 : decode cX7_boundOf 51 = .ok (.aload_n 0, 1) := by decide +kernel
theorem dX7_boundOf_52 : decode cX7_boundOf 52 = .ok (.invokevirtual 423, 3) := by decide +kernel
theorem dX7_boundOf_55 : decode cX7_boundOf 55 = .ok (.imul, 1) := by decide +kernel
theorem dX7_boundOf_56 : decode cX7_boundOf 56 = .ok (.ireturn, 1) := by decide +kernel
theorem dX7_greatestWire_0 : decode cX7_greatestWire 0 = .ok (.iconst 0, 1) := by decide +kernel
theorem dX7_greatestWire_1 : decode cX7_greatestWire 1 = .ok (.istore_n 1, 1) := by decide +kernel
theorem dX7_greatestWire_2 : decode cX7_greatestWire 2 = .ok (.iconst 0, 1) := by decide +kernel
theorem dX7_greatestWire_3 : decode cX7_greatestWire 3 = .ok (.istore_n 2, 1) := by decide +kernel
theorem dX7_greatestWire_4 : decode cX7_greatestWire 4 = .ok (.iload_n 2, 1) := by decide +kernel
theorem dX7_greatestWire_5 : decode cX7_greatestWire 5 = .ok (.aload_n 0, 1) := by decide +kernel
theorem dX7_greatestWire_6 : decode cX7_greatestWire 6 = .ok (.getfield 61, 3) := by decide +kernel
theorem dX7_greatestWire_9 : decode cX7_greatestWire 9 = .ok (.if_icmp .ge 45, 3) := by decide +kernel
theorem dX7_greatestWire_12 : decode cX7_greatestWire 12 = .ok (.iconst 0, 1) := by decide +kernel
theorem dX7_greatestWire_13 : decode cX7_greatestWire 13 = .ok (.istore_n 3, 1) := by decide +kernel
theorem dX7_greatestWire_14 : decode cX7_greatestWire 14 = .ok (.iload_n 3, 1) := by decide +kernel
theorem dX7_greatestWire_15 : decode cX7_greatestWire 15 = .ok (.aload_n 0, 1) := by decide +kernel
theorem dX7_greatestWire_16 : decode cX7_greatestWire 16 = .ok (.getfield 61, 3) := by decide +kernel
theorem dX7_greatestWire_19 : decode cX7_greatestWire 19 = .ok (.if_icmp .ge 29, 3) := by decide +kernel
theorem dX7_greatestWire_22 : decode cX7_greatestWire 22 = .ok (.iload_n 2, 1) := by decide +kernel
theorem dX7_greatestWire_23 : decode cX7_greatestWire 23 = .ok (.iload_n 3, 1) := by decide +kernel
theorem dX7_greatestWire_24 : decode cX7_greatestWire 24 = .ok (.if_icmp .eq 18, 3) := by decide +kernel
theorem dX7_greatestWire_27 : decode cX7_greatestWire 27 = .ok (.iload_n 1, 1) := by decide +kernel
theorem dX7_greatestWire_28 : decode cX7_greatestWire 28 = .ok (.aload_n 0, 1) := by decide +kernel
theorem dX7_greatestWire_29 : decode cX7_greatestWire 29 = .ok (.getfield 17, 3) := by decide +kernel
theorem dX7_greatestWire_32 : decode cX7_greatestWire 32 = .ok (.iload_n 2, 1) := by decide +kernel
theorem dX7_greatestWire_33 : decode cX7_greatestWire 33 = .ok (.iload_n 3, 1) := by decide +kernel
theorem dX7_greatestWire_34 : decode cX7_greatestWire 34 = .ok (.invokestatic 121, 3) := by decide +kernel
theorem dX7_greatestWire_37 : decode cX7_greatestWire 37 = .ok (.iaload, 1) := by decide +kernel
theorem dX7_greatestWire_38 : decode cX7_greatestWire 38 = .ok (.invokestatic 184, 3) := by decide +kernel
theorem dX7_greatestWire_41 : decode cX7_greatestWire 41 = .ok (.istore_n 1, 1) := by decide +kernel
theorem dX7_greatestWire_42 : decode cX7_greatestWire 42 = .ok (.iinc 3 1, 3) := by decide +kernel
theorem dX7_greatestWire_45 : decode cX7_greatestWire 45 = .ok (.goto (-31), 3) := by decide +kernel
theorem dX7_greatestWire_48 : decode cX7_greatestWire 48 = .ok (.iinc 2 1, 3) := by decide +kernel
theorem dX7_greatestWire_51 : decode cX7_greatestWire 51 = .ok (.goto (-47), 3) := by decide +kernel
theorem dX7_greatestWire_54 : decode cX7_greatestWire 54 = .ok (.iload_n 1, 1) := by decide +kernel
theorem dX7_greatestWire_55 : decode cX7_greatestWire 55 = .ok (.ireturn, 1) := by decide +kernel
theorem dX7_greatestWireToRoot_0 : decode cX7_greatestWireToRoot 0 = .ok (.iconst 0, 1) := by decide +kernel
theorem dX7_greatestWireToRoot_1 : decode cX7_greatestWireToRoot 1 = .ok (.istore_n 1, 1) := by decide +kernel
theorem dX7_greatestWireToRoot_2 : decode cX7_greatestWireToRoot 2 = .ok (.iconst 1, 1) := by decide +kernel
theorem dX7_greatestWireToRoot_3 : decode cX7_greatestWireToRoot 3 = .ok (.istore_n 2, 1) := by decide +kernel
theorem dX7_greatestWireToRoot_4 : decode cX7_greatestWireToRoot 4 = .ok (.iload_n 2, 1) := by decide +kernel
theorem dX7_greatestWireToRoot_5 : decode cX7_greatestWireToRoot 5 = .ok (.aload_n 0, 1) := by decide +kernel
theorem dX7_greatestWireToRoot_6 : decode cX7_greatestWireToRoot 6 = .ok (.getfield 61, 3) := by decide +kernel
theorem dX7_greatestWireToRoot_9 : decode cX7_greatestWireToRoot 9 = .ok (.if_icmp .ge 24, 3) := by decide +kernel
theorem dX7_greatestWireToRoot_12 : decode cX7_greatestWireToRoot 12 = .ok (.iload_n 1, 1) := by decide +kernel
theorem dX7_greatestWireToRoot_13 : decode cX7_greatestWireToRoot 13 = .ok (.aload_n 0, 1) := by decide +kernel
theorem dX7_greatestWireToRoot_14 : decode cX7_greatestWireToRoot 14 = .ok (.getfield 17, 3) := by decide +kernel
theorem dX7_greatestWireToRoot_17 : decode cX7_greatestWireToRoot 17 = .ok (.iload_n 2, 1) := by decide +kernel
theorem dX7_greatestWireToRoot_18 : decode cX7_greatestWireToRoot 18 = .ok (.iconst 0, 1) := by decide +kernel
theorem dX7_greatestWireToRoot_19 : decode cX7_greatestWireToRoot 19 = .ok (.invokestatic 121, 3) := by decide +kernel
theorem dX7_greatestWireToRoot_22 : decode cX7_greatestWireToRoot 22 = .ok (.iaload, 1) := by decide +kernel
theorem dX7_greatestWireToRoot_23 : decode cX7_greatestWireToRoot 23 = .ok (.invokestatic 184, 3) := by decide +kernel
theorem dX7_greatestWireToRoot_26 : decode cX7_greatestWireToRoot 26 = .ok (.istore_n 1, 1) := by decide +kernel
theorem dX7_greatestWireToRoot_27 : decode cX7_greatestWireToRoot 27 = .ok (.iinc 2 1, 3) := by decide +kernel
theorem dX7_greatestWireToRoot_30 : decode cX7_greatestWireToRoot 30 = .ok (.goto (-26), 3) := by decide +kernel
theorem dX7_greatestWireToRoot_33 : decode cX7_greatestWireToRoot 33 = .ok (.iload_n 1, 1) := by decide +kernel
theorem dX7_greatestWireToRoot_34 : decode cX7_greatestWireToRoot 34 = .ok (.ireturn, 1) := by decide +kernel
theorem dX7_wiresDownwards_0 : decode cX7_wiresDownwards 0 = .ok (.aload_n 0, 1) := by decide +kernel
theorem dX7_wiresDownwards_1 : decode cX7_wiresDownwards 1 = .ok (.getfield 17, 3) := by decide +kernel
theorem dX7_wiresDownwards_4 : decode cX7_wiresDownwards 4 = .ok (.iconst 0, 1) := by decide +kernel
theorem dX7_wiresDownwards_5 : decode cX7_wiresDownwards 5 = .ok (.aload_n 0, 1) := by decide +kernel
theorem dX7_wiresDownwards_6 : decode cX7_wiresDownwards 6 = .ok (.getfield 61, 3) := by decide +kernel
theorem dX7_wiresDownwards_9 : decode cX7_wiresDownwards 9 = .ok (.iconst 1, 1) := by decide +kernel
theorem dX7_wiresDownwards_10 : decode cX7_wiresDownwards 10 = .ok (.isub, 1) := by decide +kernel
theorem dX7_wiresDownwards_11 : decode cX7_wiresDownwards 11 = .ok (.invokestatic 121, 3) := by decide +kernel
theorem dX7_wiresDownwards_14 : decode cX7_wiresDownwards 14 = .ok (.iaload, 1) := by decide +kernel
theorem dX7_wiresDownwards_15 : decode cX7_wiresDownwards 15 = .ok (.istore_n 1, 1) := by decide +kernel
theorem dX7_wiresDownwards_16 : decode cX7_wiresDownwards 16 = .ok (.aload_n 0, 1) := by decide +kernel
theorem dX7_wiresDownwards_17 : decode cX7_wiresDownwards 17 = .ok (.getfield 61, 3) := by decide +kernel
theorem dX7_wiresDownwards_20 : decode cX7_wiresDownwards 20 = .ok (.iconst 1, 1) := by decide +kernel
theorem dX7_wiresDownwards_21 : decode cX7_wiresDownwards 21 = .ok (.isub, 1) := by decide +kernel
theorem dX7_wiresDownwards_22 : decode cX7_wiresDownwards 22 = .ok (.istore_n 2, 1) := by decide +kernel
theorem dX7_wiresDownwards_23 : decode cX7_wiresDownwards 23 = .ok (.iload_n 2, 1) := by decide +kernel
theorem dX7_wiresDownwards_24 : decode cX7_wiresDownwards 24 = .ok (.ifCond .le 24, 3) := by decide +kernel
theorem dX7_wiresDownwards_27 : decode cX7_wiresDownwards 27 = .ok (.iload_n 1, 1) := by decide +kernel
theorem dX7_wiresDownwards_28 : decode cX7_wiresDownwards 28 = .ok (.aload_n 0, 1) := by decide +kernel
theorem dX7_wiresDownwards_29 : decode cX7_wiresDownwards 29 = .ok (.getfield 17, 3) := by decide +kernel
theorem dX7_wiresDownwards_32 : decode cX7_wiresDownwards 32 = .ok (.iload_n 2, 1) := by decide +kernel
theorem dX7_wiresDownwards_33 : decode cX7_wiresDownwards 33 = .ok (.iload_n 2, 1) := by decide +kernel
theorem dX7_wiresDownwards_34 : decode cX7_wiresDownwards 34 = .ok (.iconst 1, 1) := by decide +kernel
theorem dX7_wiresDownwards_35 : decode cX7_wiresDownwards 35 = .ok (.isub, 1) := by decide +kernel
theorem dX7_wiresDownwards_36 : decode cX7_wiresDownwards 36 = .ok (.invokestatic 121, 3) := by decide +kernel
theorem dX7_wiresDownwards_39 : decode cX7_wiresDownwards 39 = .ok (.iaload, 1) := by decide +kernel
theorem dX7_wiresDownwards_40 : decode cX7_wiresDownwards 40 = .ok (.iadd, 1) := by decide +kernel
theorem dX7_wiresDownwards_41 : decode cX7_wiresDownwards 41 = .ok (.istore_n 1, 1) := by decide +kernel
theorem dX7_wiresDownwards_42 : decode cX7_wiresDownwards 42 = .ok (.iinc 2 (-1), 3) := by decide +kernel
theorem dX7_wiresDownwards_45 : decode cX7_wiresDownwards 45 = .ok (.goto (-22), 3) := by decide +kernel
theorem dX7_wiresDownwards_48 : decode cX7_wiresDownwards 48 = .ok (.iload_n 1, 1) := by decide +kernel
theorem dX7_wiresDownwards_49 : decode cX7_wiresDownwards 49 = .ok (.ireturn, 1) := by decide +kernel
theorem dX7_wiresUpwards_0 : decode cX7_wiresUpwards 0 = .ok (.aload_n 0, 1) := by decide +kernel
theorem dX7_wiresUpwards_1 : decode cX7_wiresUpwards 1 = .ok (.getfield 17, 3) := by decide +kernel
theorem dX7_wiresUpwards_4 : decode cX7_wiresUpwards 4 = .ok (.aload_n 0, 1) := by decide +kernel
theorem dX7_wiresUpwards_5 : decode cX7_wiresUpwards 5 = .ok (.getfield 61, 3) := by decide +kernel
theorem dX7_wiresUpwards_8 : decode cX7_wiresUpwards 8 = .ok (.iconst 1, 1) := by decide +kernel
theorem dX7_wiresUpwards_9 : decode cX7_wiresUpwards 9 = .ok (.isub, 1) := by decide +kernel
theorem dX7_wiresUpwards_10 : decode cX7_wiresUpwards 10 = .ok (.iconst 0, 1) := by decide +kernel
theorem dX7_wiresUpwards_11 : decode cX7_wiresUpwards 11 = .ok (.invokestatic 121, 3) := by decide +kernel
theorem dX7_wiresUpwards_14 : decode cX7_wiresUpwards 14 = .ok (.iaload, 1) := by decide +kernel
theorem dX7_wiresUpwards_15 : decode cX7_wiresUpwards 15 = .ok (.istore_n 1, 1) := by decide +kernel
theorem dX7_wiresUpwards_16 : decode cX7_wiresUpwards 16 = .ok (.iconst 0, 1) := by decide +kernel
theorem dX7_wiresUpwards_17 : decode cX7_wiresUpwards 17 = .ok (.istore_n 2, 1) := by decide +kernel
theorem dX7_wiresUpwards_18 : decode cX7_wiresUpwards 18 = .ok (.iload_n 2, 1) := by decide +kernel
theorem dX7_wiresUpwards_19 : decode cX7_wiresUpwards 19 = .ok (.aload_n 0, 1) := by decide +kernel
theorem dX7_wiresUpwards_20 : decode cX7_wiresUpwards 20 = .ok (.getfield 61, 3) := by decide +kernel
theorem dX7_wiresUpwards_23 : decode cX7_wiresUpwards 23 = .ok (.iconst 1, 1) := by decide +kernel
theorem dX7_wiresUpwards_24 : decode cX7_wiresUpwards 24 = .ok (.isub, 1) := by decide +kernel
theorem dX7_wiresUpwards_25 : decode cX7_wiresUpwards 25 = .ok (.if_icmp .ge 24, 3) := by decide +kernel
theorem dX7_wiresUpwards_28 : decode cX7_wiresUpwards 28 = .ok (.iload_n 1, 1) := by decide +kernel
theorem dX7_wiresUpwards_29 : decode cX7_wiresUpwards 29 = .ok (.aload_n 0, 1) := by decide +kernel
theorem dX7_wiresUpwards_30 : decode cX7_wiresUpwards 30 = .ok (.getfield 17, 3) := by decide +kernel
theorem dX7_wiresUpwards_33 : decode cX7_wiresUpwards 33 = .ok (.iload_n 2, 1) := by decide +kernel
theorem dX7_wiresUpwards_34 : decode cX7_wiresUpwards 34 = .ok (.iload_n 2, 1) := by decide +kernel
theorem dX7_wiresUpwards_35 : decode cX7_wiresUpwards 35 = .ok (.iconst 1, 1) := by decide +kernel
theorem dX7_wiresUpwards_36 : decode cX7_wiresUpwards 36 = .ok (.iadd, 1) := by decide +kernel
theorem dX7_wiresUpwards_37 : decode cX7_wiresUpwards 37 = .ok (.invokestatic 121, 3) := by decide +kernel
theorem dX7_wiresUpwards_40 : decode cX7_wiresUpwards 40 = .ok (.iaload, 1) := by decide +kernel
theorem dX7_wiresUpwards_41 : decode cX7_wiresUpwards 41 = .ok (.iadd, 1) := by decide +kernel
theorem dX7_wiresUpwards_42 : decode cX7_wiresUpwards 42 = .ok (.istore_n 1, 1) := by decide +kernel
theorem dX7_wiresUpwards_43 : decode cX7_wiresUpwards 43 = .ok (.iinc 2 1, 3) := by decide +kernel
theorem dX7_wiresUpwards_46 : decode cX7_wiresUpwards 46 = .ok (.goto (-28), 3) := by decide +kernel
theorem dX7_wiresUpwards_49 : decode cX7_wiresUpwards 49 = .ok (.iload_n 1, 1) := by decide +kernel
theorem dX7_wiresUpwards_50 : decode cX7_wiresUpwards 50 = .ok (.ireturn, 1) := by decide +kernel
theorem dX8_init_0 : decode cX8_init 0 = .ok (.aload_n 0, 1) := by decide +kernel
theorem dX8_init_1 : decode cX8_init 1 = .ok (.invokespecial 1, 3) := by decide +kernel
theorem dX8_init_4 : decode cX8_init 4 = .ok (.aload_n 0, 1) := by decide +kernel
theorem dX8_init_5 : decode cX8_init 5 = .ok (.new 7, 3) := by decide +kernel
theorem dX8_init_8 : decode cX8_init 8 = .ok (.dup, 1) := by decide +kernel
theorem dX8_init_9 : decode cX8_init 9 = .ok (.invokespecial 9, 3) := by decide +kernel
theorem dX8_init_12 : decode cX8_init 12 = .ok (.putfield 10, 3) := by decide +kernel
theorem dX8_init_15 : decode cX8_init 15 = .ok (.aload_n 0, 1) := by decide +kernel
theorem dX8_init_16 : decode cX8_init 16 = .ok (.new 16, 3) := by decide +kernel
theorem dX8_init_19 : decode cX8_init 19 = .ok (.dup, 1) := by decide +kernel
theorem dX8_init_20 : decode cX8_init 20 = .ok (.invokespecial 18, 3) := by decide +kernel
theorem dX8_init_23 : decode cX8_init 23 = .ok (.putfield 19, 3) := by decide +kernel
theorem dX8_init_26 : decode cX8_init 26 = .ok (.aload_n 0, 1) := by decide +kernel
theorem dX8_init_27 : decode cX8_init 27 = .ok (.new 16, 3) := by decide +kernel
theorem dX8_init_30 : decode cX8_init 30 = .ok (.dup, 1) := by decide +kernel
theorem dX8_init_31 : decode cX8_init 31 = .ok (.invokespecial 18, 3) := by decide +kernel
theorem dX8_init_34 : decode cX8_init 34 = .ok (.putfield 23, 3) := by decide +kernel
theorem dX8_init_37 : decode cX8_init 37 = .ok (.aload_n 0, 1) := by decide +kernel
theorem dX8_init_38 : decode cX8_init 38 = .ok (.iconst 3, 1) := by decide +kernel
theorem dX8_init_39 : decode cX8_init 39 = .ok (.anewarray 16, 3) := by decide +kernel
theorem dX8_init_42 : decode cX8_init 42 = .ok (.putfield 26, 3) := by decide +kernel
theorem dX8_init_45 : decode cX8_init 45 = .ok (.iconst 0, 1) := by decide +kernel
theorem dX8_init_46 : decode cX8_init 46 = .ok (.istore_n 1, 1) := by decide +kernel
theorem dX8_init_47 : decode cX8_init 47 = .ok (.iload_n 1, 1) := by decide +kernel
theorem dX8_init_48 : decode cX8_init 48 = .ok (.iconst 3, 1) := by decide +kernel
theorem dX8_init_49 : decode cX8_init 49 = .ok (.if_icmp .ge 22, 3) := by decide +kernel
theorem dX8_init_52 : decode cX8_init 52 = .ok (.aload_n 0, 1) := by decide +kernel
theorem dX8_init_53 : decode cX8_init 53 = .ok (.getfield 26, 3) := by decide +kernel
theorem dX8_init_56 : decode cX8_init 56 = .ok (.iload_n 1, 1) := by decide +kernel
theorem dX8_init_57 : decode cX8_init 57 = .ok (.new 16, 3) := by decide +kernel
theorem dX8_init_60 : decode cX8_init 60 = .ok (.dup, 1) := by decide +kernel
theorem dX8_init_61 : decode cX8_init 61 = .ok (.invokespecial 18, 3) := by decide +kernel
theorem dX8_init_64 : decode cX8_init 64 = .ok (.aastore, 1) := by decide +kernel
theorem dX8_init_65 : decode cX8_init 65 = .ok (.iinc 1 1, 3) := by decide +kernel
theorem dX8_init_68 : decode cX8_init 68 = .ok (.goto (-21), 3) := by decide +kernel
theorem dX8_init_71 : decode cX8_init 71 = .ok (.aload_n 0, 1) := by decide +kernel
theorem dX8_init_72 : decode cX8_init 72 = .ok (.iconst 0, 1) := by decide +kernel
theorem dX8_init_73 : decode cX8_init 73 = .ok (.putfield 30, 3) := by decide +kernel
theorem dX8_init_76 : decode cX8_init 76 = .ok (.return_, 1) := by decide +kernel
theorem dX8_status_0 : decode cX8_status 0 = .ok (.aload_n 0, 1) := by decide +kernel
theorem dX8_status_1 : decode cX8_status 1 = .ok (.getfield 30, 3) := by decide +kernel
theorem dX8_status_4 : decode cX8_status 4 = .ok (.ireturn, 1) := by decide +kernel
theorem dX8_feed_0 : decode cX8_feed 0 = .ok (.aload_n 0, 1) := by decide +kernel
theorem dX8_feed_1 : decode cX8_feed 1 = .ok (.getfield 10, 3) := by decide +kernel
theorem dX8_feed_4 : decode cX8_feed 4 = .ok (.bipush 20, 2) := by decide +kernel
theorem dX8_feed_6 : decode cX8_feed 6 = .ok (.invokevirtual 34, 3) := by decide +kernel
theorem dX8_feed_9 : decode cX8_feed 9 = .ok (.ifCond .ne 5, 3) := by decide +kernel
theorem dX8_feed_12 : decode cX8_feed 12 = .ok (.iconst (-1), 1) := by decide +kernel
theorem dX8_feed_13 : decode cX8_feed 13 = .ok (.ireturn, 1) := by decide +kernel
theorem dX8_feed_14 : decode cX8_feed 14 = .ok (.aload_n 0, 1) := by decide +kernel
theorem dX8_feed_15 : decode cX8_feed 15 = .ok (.getfield 10, 3) := by decide +kernel
theorem dX8_feed_18 : decode cX8_feed 18 = .ok (.iload_n 1, 1) := by decide +kernel
theorem dX8_feed_19 : decode cX8_feed 19 = .ok (.invokevirtual 38, 3) := by decide +kernel
theorem dX8_feed_22 : decode cX8_feed 22 = .ok (.aload_n 0, 1) := by decide +kernel
theorem dX8_feed_23 : decode cX8_feed 23 = .ok (.getfield 10, 3) := by decide +kernel
theorem dX8_feed_26 : decode cX8_feed 26 = .ok (.iload_n 2, 1) := by decide +kernel
theorem dX8_feed_27 : decode cX8_feed 27 = .ok (.invokevirtual 38, 3) := by decide +kernel
theorem dX8_feed_30 : decode cX8_feed 30 = .ok (.aload_n 0, 1) := by decide +kernel
theorem dX8_feed_31 : decode cX8_feed 31 = .ok (.getfield 10, 3) := by decide +kernel
theorem dX8_feed_34 : decode cX8_feed 34 = .ok (.iload_n 3, 1) := by decide +kernel
theorem dX8_feed_35 : decode cX8_feed 35 = .ok (.invokevirtual 38, 3) := by decide +kernel
theorem dX8_feed_38 : decode cX8_feed 38 = .ok (.aload_n 0, 1) := by decide +kernel
theorem dX8_feed_39 : decode cX8_feed 39 = .ok (.getfield 10, 3) := by decide +kernel
theorem dX8_feed_42 : decode cX8_feed 42 = .ok (.iload 4, 2) := by decide +kernel
theorem dX8_feed_44 : decode cX8_feed 44 = .ok (.invokevirtual 38, 3) := by decide +kernel
theorem dX8_feed_47 : decode cX8_feed 47 = .ok (.aload_n 0, 1) := by decide +kernel
theorem dX8_feed_48 : decode cX8_feed 48 = .ok (.getfield 10, 3) := by decide +kernel
theorem dX8_feed_51 : decode cX8_feed 51 = .ok (.iload 5, 2) := by decide +kernel
theorem dX8_feed_53 : decode cX8_feed 53 = .ok (.invokevirtual 38, 3) := by decide +kernel
theorem dX8_feed_56 : decode cX8_feed 56 = .ok (.aload_n 0, 1) := by decide +kernel
theorem dX8_feed_57 : decode cX8_feed 57 = .ok (.getfield 10, 3) := by decide +kernel
theorem dX8_feed_60 : decode cX8_feed 60 = .ok (.getfield 42, 3) := by decide +kernel
theorem dX8_feed_63 : decode cX8_feed 63 = .ok (.ireturn, 1) := by decide +kernel
theorem dX8_load_0 : decode cX8_load 0 = .ok (.iload_n 1, 1) := by decide +kernel
theorem dX8_load_1 : decode cX8_load 1 = .ok (.ifCond .lt 14, 3) := by decide +kernel
theorem dX8_load_4 : decode cX8_load 4 = .ok (.iload_n 1, 1) := by decide +kernel
theorem dX8_load_5 : decode cX8_load 5 = .ok (.aload_n 0, 1) := by decide +kernel
theorem dX8_load_6 : decode cX8_load 6 = .ok (.getfield 10, 3) := by decide +kernel
theorem dX8_load_9 : decode cX8_load 9 = .ok (.getfield 42, 3) := by decide +kernel
theorem dX8_load_12 : decode cX8_load 12 = .ok (.if_icmp .le 9, 3) := by decide +kernel
theorem dX8_load_15 : decode cX8_load 15 = .ok (.aload_n 0, 1) := by decide +kernel
theorem dX8_load_16 : decode cX8_load 16 = .ok (.iconst 1, 1) := by decide +kernel
theorem dX8_load_17 : decode cX8_load 17 = .ok (.invokevirtual 45, 3) := by decide +kernel
theorem dX8_load_20 : decode cX8_load 20 = .ok (.ireturn, 1) := by decide +kernel
theorem dX8_load_21 : decode cX8_load 21 = .ok (.aload_n 0, 1) := by decide +kernel
theorem dX8_load_22 : decode cX8_load 22 = .ok (.getfield 10, 3) := by decide +kernel
theorem dX8_load_25 : decode cX8_load 25 = .ok (.iload_n 1, 1) := by decide +kernel
theorem dX8_load_26 : decode cX8_load 26 = .ok (.aload_n 0, 1) := by decide +kernel
theorem dX8_load_27 : decode cX8_load 27 = .ok (.getfield 23, 3) := by decide +kernel
theorem dX8_load_30 : decode cX8_load 30 = .ok (.invokevirtual 49, 3) := by decide +kernel
theorem dX8_load_33 : decode cX8_load 33 = .ok (.ifCond .ne 10, 3) := by decide +kernel
theorem dX8_load_36 : decode cX8_load 36 = .ok (.aload_n 0, 1) := by decide +kernel
theorem dX8_load_37 : decode cX8_load 37 = .ok (.bipush 9, 2) := by decide +kernel
theorem dX8_load_39 : decode cX8_load 39 = .ok (.invokevirtual 45, 3) := by decide +kernel
theorem dX8_load_42 : decode cX8_load 42 = .ok (.ireturn, 1) := by decide +kernel
theorem dX8_load_43 : decode cX8_load 43 = .ok (.aload_n 0, 1) := by decide +kernel
theorem dX8_load_44 : decode cX8_load 44 = .ok (.getfield 19, 3) := by decide +kernel
theorem dX8_load_47 : decode cX8_load 47 = .ok (.aload_n 0, 1) := by decide +kernel
theorem dX8_load_48 : decode cX8_load 48 = .ok (.getfield 23, 3) := by decide +kernel
theorem dX8_load_51 : decode cX8_load 51 = .ok (.invokevirtual 53, 3) := by decide +kernel
theorem dX8_load_54 : decode cX8_load 54 = .ok (.aload_n 0, 1) := by decide +kernel
theorem dX8_load_55 : decode cX8_load 55 = .ok (.aload_n 0, 1) := by decide +kernel
theorem dX8_load_56 : decode cX8_load 56 = .ok (.getfield 19, 3) := by decide +kernel
theorem dX8_load_59 : decode cX8_load 59 = .ok (.getfield 57, 3) := by decide +kernel
theorem dX8_load_62 : decode cX8_load 62 = .ok (.invokevirtual 60, 3) := by decide +kernel
theorem dX8_load_65 : decode cX8_load 65 = .ok (.ireturn, 1) := by decide +kernel
theorem dX8_fault_0 : decode cX8_fault 0 = .ok (.iload_n 1, 1) := by decide +kernel
theorem dX8_fault_1 : decode cX8_fault 1 = .ok (.ifCond .ne 11, 3) := by decide +kernel
theorem dX8_fault_4 : decode cX8_fault 4 = .ok (.aload_n 0, 1) := by decide +kernel
theorem dX8_fault_5 : decode cX8_fault 5 = .ok (.getfield 10, 3) := by decide +kernel
theorem dX8_fault_8 : decode cX8_fault 8 = .ok (.getfield 63, 3) := by decide +kernel
theorem dX8_fault_11 : decode cX8_fault 11 = .ok (.ireturn, 1) := by decide +kernel
theorem dX8_fault_12 : decode cX8_fault 12 = .ok (.iload_n 1, 1) := by decide +kernel
theorem dX8_fault_13 : decode cX8_fault 13 = .ok (.iconst 1, 1) := by decide +kernel
theorem dX8_fault_14 : decode cX8_fault 14 = .ok (.if_icmp .ne 13, 3) := by decide +kernel
theorem dX8_fault_17 : decode cX8_fault 17 = .ok (.aload_n 0, 1) := by decide +kernel
theorem dX8_fault_18 : decode cX8_fault 18 = .ok (.getfield 10, 3) := by decide +kernel
theorem dX8_fault_21 : decode cX8_fault 21 = .ok (.getfield 66, 3) := by decide +kernel
theorem dX8_fault_24 : decode cX8_fault 24 = .ok (.goto 4, 3) := by decide +kernel
theorem dX8_fault_27 : decode cX8_fault 27 = .ok (.iconst (-1), 1) := by decide +kernel
theorem dX8_fault_28 : decode cX8_fault 28 = .ok (.ireturn, 1) := by decide +kernel
theorem dX8_many_0 : decode cX8_many 0 = .ok (.iload_n 1, 1) := by decide +kernel
theorem dX8_many_1 : decode cX8_many 1 = .ok (.iconst 0, 1) := by decide +kernel
theorem dX8_many_2 : decode cX8_many 2 = .ok (.bipush 11, 2) := by decide +kernel
theorem dX8_many_4 : decode cX8_many 4 = .ok (.invokestatic 69, 3) := by decide +kernel
theorem dX8_many_7 : decode cX8_many 7 = .ok (.ifCond .ne 9, 3) := by decide +kernel
theorem dX8_many_10 : decode cX8_many 10 = .ok (.aload_n 0, 1) := by decide +kernel
theorem dX8_many_11 : decode cX8_many 11 = .ok (.iconst 1, 1) := by decide +kernel
theorem dX8_many_12 : decode cX8_many 12 = .ok (.invokevirtual 45, 3) := by decide +kernel
theorem dX8_many_15 : decode cX8_many 15 = .ok (.ireturn, 1) := by decide +kernel
theorem dX8_many_16 : decode cX8_many 16 = .ok (.aload_n 0, 1) := by decide +kernel
theorem dX8_many_17 : decode cX8_many 17 = .ok (.iload_n 1, 1) := by decide +kernel
theorem dX8_many_18 : decode cX8_many 18 = .ok (.bipush 11, 2) := by decide +kernel
theorem dX8_many_20 : decode cX8_many 20 = .ok (.if_icmp .ne 10, 3) := by decide +kernel
theorem dX8_many_23 : decode cX8_many 23 = .ok (.aload_n 0, 1) := by decide +kernel
theorem dX8_many_24 : decode cX8_many 24 = .ok (.getfield 73, 3) := by decide +kernel
theorem dX8_many_27 : decode cX8_many 27 = .ok (.goto 11, 3) := by decide +kernel
theorem dX8_many_30 : decode cX8_many 30 = .ok (.aload_n 0, 1) := by decide +kernel
theorem dX8_many_31 : decode cX8_many 31 = .ok (.getfield 19, 3) := by decide +kernel
theorem dX8_many_34 : decode cX8_many 34 = .ok (.iload_n 1, 1) := by decide +kernel
theorem dX8_many_35 : decode cX8_many 35 = .ok (.invokevirtual 76, 3) := by decide +kernel
theorem dX8_many_38 : decode cX8_many 38 = .ok (.invokevirtual 60, 3) := by decide +kernel
theorem dX8_many_41 : decode cX8_many 41 = .ok (.ireturn, 1) := by decide +kernel
theorem dX8_node_0 : decode cX8_node 0 = .ok (.iload_n 2, 1) := by decide +kernel
theorem dX8_node_1 : decode cX8_node 1 = .ok (.iconst 0, 1) := by decide +kernel
theorem dX8_node_2 : decode cX8_node 2 = .ok (.bipush 13, 2) := by decide +kernel
theorem dX8_node_4 : decode cX8_node 4 = .ok (.invokestatic 69, 3) := by decide +kernel
theorem dX8_node_7 : decode cX8_node 7 = .ok (.ifCond .ne 9, 3) := by decide +kernel
theorem dX8_node_10 : decode cX8_node 10 = .ok (.aload_n 0, 1) := by decide +kernel
theorem dX8_node_11 : decode cX8_node 11 = .ok (.iconst 1, 1) := by decide +kernel
theorem dX8_node_12 : decode cX8_node 12 = .ok (.invokevirtual 45, 3) := by decide +kernel
theorem dX8_node_15 : decode cX8_node 15 = .ok (.ireturn, 1) := by decide +kernel
theorem dX8_node_16 : decode cX8_node 16 = .ok (.aload_n 0, 1) := by decide +kernel
theorem dX8_node_17 : decode cX8_node 17 = .ok (.getfield 19, 3) := by decide +kernel
theorem dX8_node_20 : decode cX8_node 20 = .ok (.iload_n 1, 1) := by decide +kernel
theorem dX8_node_21 : decode cX8_node 21 = .ok (.invokevirtual 79, 3) := by decide +kernel
theorem dX8_node_24 : decode cX8_node 24 = .ok (.ifCond .ne 9, 3) := by decide +kernel
theorem dX8_node_27 : decode cX8_node 27 = .ok (.aload_n 0, 1) := by decide +kernel
theorem dX8_node_28 : decode cX8_node 28 = .ok (.iconst 2, 1) := by decide +kernel
theorem dX8_node_29 : decode cX8_node 29 = .ok (.invokevirtual 45, 3) := by decide +kernel
theorem dX8_node_32 : decode cX8_node 32 = .ok (.ireturn, 1) := by decide +kernel
theorem dX8_node_33 : decode cX8_node 33 = .ok (.aload_n 0, 1) := by decide +kernel
theorem dX8_node_34 : decode cX8_node 34 = .ok (.aload_n 0, 1) := by decide +kernel
theorem dX8_node_35 : decode cX8_node 35 = .ok (.getfield 19, 3) := by decide +kernel
theorem dX8_node_38 : decode cX8_node 38 = .ok (.iload_n 1, 1) := by decide +kernel
theorem dX8_node_39 : decode cX8_node 39 = .ok (.iload_n 2, 1) := by decide +kernel
theorem dX8_node_40 : decode cX8_node 40 = .ok (.invokevirtual 82, 3) := by decide +kernel
theorem dX8_node_43 : decode cX8_node 43 = .ok (.invokevirtual 60, 3) := by decide +kernel
theorem dX8_node_46 : decode cX8_node 46 = .ok (.ireturn, 1) := by decide +kernel
theorem dX8_wire_0 : decode cX8_wire 0 = .ok (.aload_n 0, 1) := by decide +kernel
theorem dX8_wire_1 : decode cX8_wire 1 = .ok (.iload_n 1, 1) := by decide +kernel
theorem dX8_wire_2 : decode cX8_wire 2 = .ok (.iload_n 2, 1) := by decide +kernel
theorem dX8_wire_3 : decode cX8_wire 3 = .ok (.invokevirtual 86, 3) := by decide +kernel
theorem dX8_wire_6 : decode cX8_wire 6 = .ok (.istore_n 3, 1) := by decide +kernel
theorem dX8_wire_7 : decode cX8_wire 7 = .ok (.iload_n 3, 1) := by decide +kernel
theorem dX8_wire_8 : decode cX8_wire 8 = .ok (.ifCond .eq 9, 3) := by decide +kernel
theorem dX8_wire_11 : decode cX8_wire 11 = .ok (.aload_n 0, 1) := by decide +kernel
theorem dX8_wire_12 : decode cX8_wire 12 = .ok (.iload_n 3, 1) := by decide +kernel
theorem dX8_wire_13 : decode cX8_wire 13 = .ok (.invokevirtual 45, 3) := by decide +kernel
theorem dX8_wire_16 : decode cX8_wire 16 = .ok (.ireturn, 1) := by decide +kernel
theorem dX8_wire_17 : decode cX8_wire 17 = .ok (.aload_n 0, 1) := by decide +kernel
theorem dX8_wire_18 : decode cX8_wire 18 = .ok (.aload_n 0, 1) := by decide +kernel
theorem dX8_wire_19 : decode cX8_wire 19 = .ok (.getfield 19, 3) := by decide +kernel
theorem dX8_wire_22 : decode cX8_wire 22 = .ok (.getfield 89, 3) := by decide +kernel
theorem dX8_wire_25 : decode cX8_wire 25 = .ok (.iload_n 1, 1) := by decide +kernel
theorem dX8_wire_26 : decode cX8_wire 26 = .ok (.iload_n 2, 1) := by decide +kernel
theorem dX8_wire_27 : decode cX8_wire 27 = .ok (.invokestatic 93, 3) := by decide +kernel
theorem dX8_wire_30 : decode cX8_wire 30 = .ok (.iaload, 1) := by decide +kernel
theorem dX8_wire_31 : decode cX8_wire 31 = .ok (.invokevirtual 60, 3) := by decide +kernel
theorem dX8_wire_34 : decode cX8_wire 34 = .ok (.ireturn, 1) := by decide +kernel
theorem dX8_row_0 : decode cX8_row 0 = .ok (.iload_n 1, 1) := by decide +kernel
theorem dX8_row_1 : decode cX8_row 1 = .ok (.ifCond .lt 12, 3) := by decide +kernel
theorem dX8_row_4 : decode cX8_row 4 = .ok (.iload_n 2, 1) := by decide +kernel
theorem dX8_row_5 : decode cX8_row 5 = .ok (.iconst 0, 1) := by decide +kernel
theorem dX8_row_6 : decode cX8_row 6 = .ok (.iconst 3, 1) := by decide +kernel
theorem dX8_row_7 : decode cX8_row 7 = .ok (.invokestatic 69, 3) := by decide +kernel
theorem dX8_row_10 : decode cX8_row 10 = .ok (.ifCond .ne 9, 3) := by decide +kernel
theorem dX8_row_13 : decode cX8_row 13 = .ok (.aload_n 0, 1) := by decide +kernel
theorem dX8_row_14 : decode cX8_row 14 = .ok (.iconst 1, 1) := by decide +kernel
theorem dX8_row_15 : decode cX8_row 15 = .ok (.invokevirtual 45, 3) := by decide +kernel
theorem dX8_row_18 : decode cX8_row 18 = .ok (.ireturn, 1) := by decide +kernel
theorem dX8_row_19 : decode cX8_row 19 = .ok (.iload_n 1, 1) := by decide +kernel
theorem dX8_row_20 : decode cX8_row 20 = .ok (.aload_n 0, 1) := by decide +kernel
theorem dX8_row_21 : decode cX8_row 21 = .ok (.getfield 19, 3) := by decide +kernel
theorem dX8_row_24 : decode cX8_row 24 = .ok (.getfield 96, 3) := by decide +kernel
theorem dX8_row_27 : decode cX8_row 27 = .ok (.getfield 100, 3) := by decide +kernel
theorem dX8_row_30 : decode cX8_row 30 = .ok (.if_icmp .lt 9, 3) := by decide +kernel
theorem dX8_row_33 : decode cX8_row 33 = .ok (.aload_n 0, 1) := by decide +kernel
theorem dX8_row_34 : decode cX8_row 34 = .ok (.iconst 5, 1) := by decide +kernel
theorem dX8_row_35 : decode cX8_row 35 = .ok (.invokevirtual 45, 3) := by decide +kernel
theorem dX8_row_38 : decode cX8_row 38 = .ok (.ireturn, 1) := by decide +kernel
theorem dX8_row_39 : decode cX8_row 39 = .ok (.aload_n 0, 1) := by decide +kernel
theorem dX8_row_40 : decode cX8_row 40 = .ok (.aload_n 0, 1) := by decide +kernel
theorem dX8_row_41 : decode cX8_row 41 = .ok (.getfield 19, 3) := by decide +kernel
theorem dX8_row_44 : decode cX8_row 44 = .ok (.getfield 96, 3) := by decide +kernel
theorem dX8_row_47 : decode cX8_row 47 = .ok (.iload_n 1, 1) := by decide +kernel
theorem dX8_row_48 : decode cX8_row 48 = .ok (.iload_n 2, 1) := by decide +kernel
theorem dX8_row_49 : decode cX8_row 49 = .ok (.invokevirtual 103, 3) := by decide +kernel
theorem dX8_row_52 : decode cX8_row 52 = .ok (.invokevirtual 60, 3) := by decide +kernel
theorem dX8_row_55 : decode cX8_row 55 = .ok (.ireturn, 1) := by decide +kernel
theorem dX8_letter_0 : decode cX8_letter 0 = .ok (.iload_n 1, 1) := by decide +kernel
theorem dX8_letter_1 : decode cX8_letter 1 = .ok (.ifCond .lt 13, 3) := by decide +kernel
theorem dX8_letter_4 : decode cX8_letter 4 = .ok (.iload_n 2, 1) := by decide +kernel
theorem dX8_letter_5 : decode cX8_letter 5 = .ok (.iconst 0, 1) := by decide +kernel
theorem dX8_letter_6 : decode cX8_letter 6 = .ok (.bipush 7, 2) := by decide +kernel
theorem dX8_letter_8 : decode cX8_letter 8 = .ok (.invokestatic 69, 3) := by decide +kernel
theorem dX8_letter_11 : decode cX8_letter 11 = .ok (.ifCond .ne 9, 3) := by decide +kernel
theorem dX8_letter_14 : decode cX8_letter 14 = .ok (.aload_n 0, 1) := by decide +kernel
theorem dX8_letter_15 : decode cX8_letter 15 = .ok (.iconst 1, 1) := by decide +kernel
theorem dX8_letter_16 : decode cX8_letter 16 = .ok (.invokevirtual 45, 3) := by decide +kernel
theorem dX8_letter_19 : decode cX8_letter 19 = .ok (.ireturn, 1) := by decide +kernel
theorem dX8_letter_20 : decode cX8_letter 20 = .ok (.iload_n 1, 1) := by decide +kernel
theorem dX8_letter_21 : decode cX8_letter 21 = .ok (.aload_n 0, 1) := by decide +kernel
theorem dX8_letter_22 : decode cX8_letter 22 = .ok (.getfield 19, 3) := by decide +kernel
theorem dX8_letter_25 : decode cX8_letter 25 = .ok (.getfield 106, 3) := by decide +kernel
theorem dX8_letter_28 : decode cX8_letter 28 = .ok (.getfield 110, 3) := by decide +kernel
theorem dX8_letter_31 : decode cX8_letter 31 = .ok (.if_icmp .lt 9, 3) := by decide +kernel
theorem dX8_letter_34 : decode cX8_letter 34 = .ok (.aload_n 0, 1) := by decide +kernel
theorem dX8_letter_35 : decode cX8_letter 35 = .ok (.iconst 5, 1) := by decide +kernel
theorem dX8_letter_36 : decode cX8_letter 36 = .ok (.invokevirtual 45, 3) := by decide +kernel
theorem dX8_letter_39 : decode cX8_letter 39 = .ok (.ireturn, 1) := by decide +kernel
theorem dX8_letter_40 : decode cX8_letter 40 = .ok (.aload_n 0, 1) := by decide +kernel
theorem dX8_letter_41 : decode cX8_letter 41 = .ok (.getfield 19, 3) := by decide +kernel
theorem dX8_letter_44 : decode cX8_letter 44 = .ok (.getfield 106, 3) := by decide +kernel
theorem dX8_letter_47 : decode cX8_letter 47 = .ok (.iload_n 1, 1) := by decide +kernel
theorem dX8_letter_48 : decode cX8_letter 48 = .ok (.iload_n 2, 1) := by decide +kernel
theorem dX8_letter_49 : decode cX8_letter 49 = .ok (.invokevirtual 113, 3) := by decide +kernel
theorem dX8_letter_52 : decode cX8_letter 52 = .ok (.istore_n 3, 1) := by decide +kernel
theorem dX8_letter_53 : decode cX8_letter 53 = .ok (.aload_n 0, 1) := by decide +kernel
theorem dX8_letter_54 : decode cX8_letter 54 = .ok (.iload_n 2, 1) := by decide +kernel
theorem dX8_letter_55 : decode cX8_letter 55 = .ok (.iconst 3, 1) := by decide +kernel
theorem dX8_letter_56 : decode cX8_letter 56 = .ok (.if_icmp .ne 15, 3) := by decide +kernel
theorem dX8_letter_59 : decode cX8_letter 59 = .ok (.iload_n 3, 1) := by decide +kernel
theorem dX8_letter_60 : decode cX8_letter 60 = .ok (.aload_n 0, 1) := by decide +kernel
theorem dX8_letter_61 : decode cX8_letter 61 = .ok (.getfield 19, 3) := by decide +kernel
theorem dX8_letter_64 : decode cX8_letter 64 = .ok (.getfield 114, 3) := by decide +kernel
theorem dX8_letter_67 : decode cX8_letter 67 = .ok (.isub, 1) := by decide +kernel
theorem dX8_letter_68 : decode cX8_letter 68 = .ok (.goto 4, 3) := by decide +kernel
theorem dX8_letter_71 : decode cX8_letter 71 = .ok (.iload_n 3, 1) := by decide +kernel
theorem dX8_letter_72 : decode cX8_letter 72 = .ok (.invokevirtual 60, 3) := by decide +kernel
theorem dX8_letter_75 : decode cX8_letter 75 = .ok (.ireturn, 1) := by decide +kernel
theorem dX8_watch_0 : decode cX8_watch 0 = .ok (.iload_n 2, 1) := by decide +kernel
theorem dX8_watch_1 : decode cX8_watch 1 = .ok (.iconst 0, 1) := by decide +kernel
theorem dX8_watch_2 : decode cX8_watch 2 = .ok (.iconst 5, 1) := by decide +kernel
theorem dX8_watch_3 : decode cX8_watch 3 = .ok (.invokestatic 69, 3) := by decide +kernel
theorem dX8_watch_6 : decode cX8_watch 6 = .ok (.ifCond .ne 9, 3) := by decide +kernel
theorem dX8_watch_9 : decode cX8_watch 9 = .ok (.aload_n 0, 1) := by decide +kernel
theorem dX8_watch_10 : decode cX8_watch 10 = .ok (.iconst 1, 1) := by decide +kernel
theorem dX8_watch_11 : decode cX8_watch 11 = .ok (.invokevirtual 45, 3) := by decide +kernel
theorem dX8_watch_14 : decode cX8_watch 14 = .ok (.ireturn, 1) := by decide +kernel
theorem dX8_watch_15 : decode cX8_watch 15 = .ok (.iload_n 1, 1) := by decide +kernel
theorem dX8_watch_16 : decode cX8_watch 16 = .ok (.invokestatic 117, 3) := by decide +kernel
theorem dX8_watch_19 : decode cX8_watch 19 = .ok (.ifCond .ne 9, 3) := by decide +kernel
theorem dX8_watch_22 : decode cX8_watch 22 = .ok (.aload_n 0, 1) := by decide +kernel
theorem dX8_watch_23 : decode cX8_watch 23 = .ok (.iconst 2, 1) := by decide +kernel
theorem dX8_watch_24 : decode cX8_watch 24 = .ok (.invokevirtual 45, 3) := by decide +kernel
theorem dX8_watch_27 : decode cX8_watch 27 = .ok (.ireturn, 1) := by decide +kernel
theorem dX8_watch_28 : decode cX8_watch 28 = .ok (.aload_n 0, 1) := by decide +kernel
theorem dX8_watch_29 : decode cX8_watch 29 = .ok (.aload_n 0, 1) := by decide +kernel
theorem dX8_watch_30 : decode cX8_watch 30 = .ok (.getfield 19, 3) := by decide +kernel
theorem dX8_watch_33 : decode cX8_watch 33 = .ok (.iload_n 1, 1) := by decide +kernel
theorem dX8_watch_34 : decode cX8_watch 34 = .ok (.iload_n 2, 1) := by decide +kernel
theorem dX8_watch_35 : decode cX8_watch 35 = .ok (.invokevirtual 120, 3) := by decide +kernel
theorem dX8_watch_38 : decode cX8_watch 38 = .ok (.invokevirtual 60, 3) := by decide +kernel
theorem dX8_watch_41 : decode cX8_watch 41 = .ok (.ireturn, 1) := by decide +kernel
theorem dX8_lag_0 : decode cX8_lag 0 = .ok (.iload_n 1, 1) := by decide +kernel
theorem dX8_lag_1 : decode cX8_lag 1 = .ok (.invokestatic 117, 3) := by decide +kernel
theorem dX8_lag_4 : decode cX8_lag 4 = .ok (.ifCond .ne 9, 3) := by decide +kernel
theorem dX8_lag_7 : decode cX8_lag 7 = .ok (.aload_n 0, 1) := by decide +kernel
theorem dX8_lag_8 : decode cX8_lag 8 = .ok (.iconst 2, 1) := by decide +kernel
theorem dX8_lag_9 : decode cX8_lag 9 = .ok (.invokevirtual 45, 3) := by decide +kernel
theorem dX8_lag_12 : decode cX8_lag 12 = .ok (.ireturn, 1) := by decide +kernel
theorem dX8_lag_13 : decode cX8_lag 13 = .ok (.aload_n 0, 1) := by decide +kernel
theorem dX8_lag_14 : decode cX8_lag 14 = .ok (.getfield 19, 3) := by decide +kernel
theorem dX8_lag_17 : decode cX8_lag 17 = .ok (.getfield 123, 3) := by decide +kernel
theorem dX8_lag_20 : decode cX8_lag 20 = .ok (.iload_n 1, 1) := by decide +kernel
theorem dX8_lag_21 : decode cX8_lag 21 = .ok (.invokevirtual 127, 3) := by decide +kernel
theorem dX8_lag_24 : decode cX8_lag 24 = .ok (.ifCond .ne 9, 3) := by decide +kernel
theorem dX8_lag_27 : decode cX8_lag 27 = .ok (.aload_n 0, 1) := by decide +kernel
theorem dX8_lag_28 : decode cX8_lag 28 = .ok (.iconst 5, 1) := by decide +kernel
theorem dX8_lag_29 : decode cX8_lag 29 = .ok (.invokevirtual 45, 3) := by decide +kernel
theorem dX8_lag_32 : decode cX8_lag 32 = .ok (.ireturn, 1) := by decide +kernel
theorem dX8_lag_33 : decode cX8_lag 33 = .ok (.aload_n 0, 1) := by decide +kernel
theorem dX8_lag_34 : decode cX8_lag 34 = .ok (.aload_n 0, 1) := by decide +kernel
theorem dX8_lag_35 : decode cX8_lag 35 = .ok (.getfield 19, 3) := by decide +kernel
theorem dX8_lag_38 : decode cX8_lag 38 = .ok (.iload_n 1, 1) := by decide +kernel
theorem dX8_lag_39 : decode cX8_lag 39 = .ok (.invokevirtual 132, 3) := by decide +kernel
theorem dX8_lag_42 : decode cX8_lag 42 = .ok (.invokevirtual 60, 3) := by decide +kernel
theorem dX8_lag_45 : decode cX8_lag 45 = .ok (.ireturn, 1) := by decide +kernel
theorem dX8_bound_0 : decode cX8_bound 0 = .ok (.iload_n 1, 1) := by decide +kernel
theorem dX8_bound_1 : decode cX8_bound 1 = .ok (.invokestatic 117, 3) := by decide +kernel
theorem dX8_bound_4 : decode cX8_bound 4 = .ok (.ifCond .ne 9, 3) := by decide +kernel
theorem dX8_bound_7 : decode cX8_bound 7 = .ok (.aload_n 0, 1) := by decide +kernel
theorem dX8_bound_8 : decode cX8_bound 8 = .ok (.iconst 2, 1) := by decide +kernel
theorem dX8_bound_9 : decode cX8_bound 9 = .ok (.invokevirtual 45, 3) := by decide +kernel
theorem dX8_bound_12 : decode cX8_bound 12 = .ok (.ireturn, 1) := by decide +kernel
theorem dX8_bound_13 : decode cX8_bound 13 = .ok (.aload_n 0, 1) := by decide +kernel
theorem dX8_bound_14 : decode cX8_bound 14 = .ok (.aload_n 0, 1) := by decide +kernel
theorem dX8_bound_15 : decode cX8_bound 15 = .ok (.getfield 19, 3) := by decide +kernel
theorem dX8_bound_18 : decode cX8_bound 18 = .ok (.iload_n 1, 1) := by decide +kernel
theorem dX8_bound_19 : decode cX8_bound 19 = .ok (.invokevirtual 135, 3) := by decide +kernel
theorem dX8_bound_22 : decode cX8_bound 22 = .ok (.invokevirtual 60, 3) := by decide +kernel
theorem dX8_bound_25 : decode cX8_bound 25 = .ok (.ireturn, 1) := by decide +kernel
theorem dX8_best_0 : decode cX8_best 0 = .ok (.iload_n 1, 1) := by decide +kernel
theorem dX8_best_1 : decode cX8_best 1 = .ok (.iconst 0, 1) := by decide +kernel
theorem dX8_best_2 : decode cX8_best 2 = .ok (.iconst 1, 1) := by decide +kernel
theorem dX8_best_3 : decode cX8_best 3 = .ok (.invokestatic 69, 3) := by decide +kernel
theorem dX8_best_6 : decode cX8_best 6 = .ok (.ifCond .ne 9, 3) := by decide +kernel
theorem dX8_best_9 : decode cX8_best 9 = .ok (.aload_n 0, 1) := by decide +kernel
theorem dX8_best_10 : decode cX8_best 10 = .ok (.iconst 1, 1) := by decide +kernel
theorem dX8_best_11 : decode cX8_best 11 = .ok (.invokevirtual 45, 3) := by decide +kernel
theorem dX8_best_14 : decode cX8_best 14 = .ok (.ireturn, 1) := by decide +kernel
theorem dX8_best_15 : decode cX8_best 15 = .ok (.iload_n 1, 1) := by decide +kernel
theorem dX8_best_16 : decode cX8_best 16 = .ok (.ifCond .ne 13, 3) := by decide +kernel
theorem dX8_best_19 : decode cX8_best 19 = .ok (.aload_n 0, 1) := by decide +kernel
theorem dX8_best_20 : decode cX8_best 20 = .ok (.getfield 19, 3) := by decide +kernel
theorem dX8_best_23 : decode cX8_best 23 = .ok (.invokevirtual 138, 3) := by decide +kernel
theorem dX8_best_26 : decode cX8_best 26 = .ok (.goto 13, 3) := by decide +kernel
theorem dX8_best_29 : decode cX8_best 29 = .ok (.aload_n 0, 1) := by decide +kernel
theorem dX8_best_30 : decode cX8_best 30 = .ok (.getfield 19, 3) := by decide +kernel
theorem dX8_best_33 : decode cX8_best 33 = .ok (.getfield 123, 3) := by decide +kernel
theorem dX8_best_36 : decode cX8_best 36 = .ok (.invokevirtual 142, 3) := by decide +kernel
theorem dX8_best_39 : decode cX8_best 39 = .ok (.istore_n 2, 1) := by decide +kernel
theorem dX8_best_40 : decode cX8_best 40 = .ok (.iload_n 2, 1) := by decide +kernel
theorem dX8_best_41 : decode cX8_best 41 = .ok (.iconst (-1), 1) := by decide +kernel
theorem dX8_best_42 : decode cX8_best 42 = .ok (.if_icmp .ne 11, 3) := by decide +kernel
theorem dX8_best_45 : decode cX8_best 45 = .ok (.aload_n 0, 1) := by decide +kernel
theorem dX8_best_46 : decode cX8_best 46 = .ok (.iconst 5, 1) := by decide +kernel
theorem dX8_best_47 : decode cX8_best 47 = .ok (.invokevirtual 45, 3) := by decide +kernel
theorem dX8_best_50 : decode cX8_best 50 = .ok (.goto 8, 3) := by decide +kernel
theorem dX8_best_53 : decode cX8_best 53 = .ok (.aload_n 0, 1) := by decide +kernel
theorem dX8_best_54 : decode cX8_best 54 = .ok (.iload_n 2, 1) := by decide +kernel
theorem dX8_best_55 : decode cX8_best 55 = .ok (.invokevirtual 60, 3) := by decide +kernel
theorem dX8_best_58 : decode cX8_best 58 = .ok (.ireturn, 1) := by decide +kernel
theorem dX8_weights_0 : decode cX8_weights 0 = .ok (.iload_n 1, 1) := by decide +kernel
theorem dX8_weights_1 : decode cX8_weights 1 = .ok (.iconst 0, 1) := by decide +kernel
theorem dX8_weights_2 : decode cX8_weights 2 = .ok (.iconst 3, 1) := by decide +kernel
theorem dX8_weights_3 : decode cX8_weights 3 = .ok (.invokestatic 69, 3) := by decide +kernel
theorem dX8_weights_6 : decode cX8_weights 6 = .ok (.ifCond .ne 9, 3) := by decide +kernel
theorem dX8_weights_9 : decode cX8_weights 9 = .ok (.aload_n 0, 1) := by decide +kernel
theorem dX8_weights_10 : decode cX8_weights 10 = .ok (.iconst 1, 1) := by decide +kernel
theorem dX8_weights_11 : decode cX8_weights 11 = .ok (.invokevirtual 45, 3) := by decide +kernel
theorem dX8_weights_14 : decode cX8_weights 14 = .ok (.ireturn, 1) := by decide +kernel
theorem dX8_weights_15 : decode cX8_weights 15 = .ok (.aload_n 0, 1) := by decide +kernel
theorem dX8_weights_16 : decode cX8_weights 16 = .ok (.aload_n 0, 1) := by decide +kernel
theorem dX8_weights_17 : decode cX8_weights 17 = .ok (.getfield 19, 3) := by decide +kernel
theorem dX8_weights_20 : decode cX8_weights 20 = .ok (.iload_n 1, 1) := by decide +kernel
theorem dX8_weights_21 : decode cX8_weights 21 = .ok (.invokevirtual 145, 3) := by decide +kernel
theorem dX8_weights_24 : decode cX8_weights 24 = .ok (.invokevirtual 60, 3) := by decide +kernel
theorem dX8_weights_27 : decode cX8_weights 27 = .ok (.ireturn, 1) := by decide +kernel
theorem dX8_last_0 : decode cX8_last 0 = .ok (.iload_n 1, 1) := by decide +kernel
theorem dX8_last_1 : decode cX8_last 1 = .ok (.iconst 0, 1) := by decide +kernel
theorem dX8_last_2 : decode cX8_last 2 = .ok (.iconst 3, 1) := by decide +kernel
theorem dX8_last_3 : decode cX8_last 3 = .ok (.invokestatic 69, 3) := by decide +kernel
theorem dX8_last_6 : decode cX8_last 6 = .ok (.ifCond .ne 9, 3) := by decide +kernel
theorem dX8_last_9 : decode cX8_last 9 = .ok (.aload_n 0, 1) := by decide +kernel
theorem dX8_last_10 : decode cX8_last 10 = .ok (.iconst 1, 1) := by decide +kernel
theorem dX8_last_11 : decode cX8_last 11 = .ok (.invokevirtual 45, 3) := by decide +kernel
theorem dX8_last_14 : decode cX8_last 14 = .ok (.ireturn, 1) := by decide +kernel
theorem dX8_last_15 : decode cX8_last 15 = .ok (.aload_n 0, 1) := by decide +kernel
theorem dX8_last_16 : decode cX8_last 16 = .ok (.getfield 19, 3) := by decide +kernel
theorem dX8_last_19 : decode cX8_last 19 = .ok (.invokevirtual 148, 3) := by decide +kernel
theorem dX8_last_22 : decode cX8_last 22 = .ok (.ifCond .ne 9, 3) := by decide +kernel
theorem dX8_last_25 : decode cX8_last 25 = .ok (.aload_n 0, 1) := by decide +kernel
theorem dX8_last_26 : decode cX8_last 26 = .ok (.iconst 5, 1) := by decide +kernel
theorem dX8_last_27 : decode cX8_last 27 = .ok (.invokevirtual 45, 3) := by decide +kernel
theorem dX8_last_30 : decode cX8_last 30 = .ok (.ireturn, 1) := by decide +kernel
theorem dX8_last_31 : decode cX8_last 31 = .ok (.aload_n 0, 1) := by decide +kernel
theorem dX8_last_32 : decode cX8_last 32 = .ok (.aload_n 0, 1) := by decide +kernel
theorem dX8_last_33 : decode cX8_last 33 = .ok (.getfield 19, 3) := by decide +kernel
theorem dX8_last_36 : decode cX8_last 36 = .ok (.iload_n 1, 1) := by decide +kernel
theorem dX8_last_37 : decode cX8_last 37 = .ok (.invokevirtual 152, 3) := by decide +kernel
theorem dX8_last_40 : decode cX8_last 40 = .ok (.invokevirtual 60, 3) := by decide +kernel
theorem dX8_last_43 : decode cX8_last 43 = .ok (.ireturn, 1) := by decide +kernel
theorem dX8_ledger_0 : decode cX8_ledger 0 = .ok (.iload_n 3, 1) := by decide +kernel
theorem dX8_ledger_1 : decode cX8_ledger 1 = .ok (.iconst 0, 1) := by decide +kernel
theorem dX8_ledger_2 : decode cX8_ledger 2 = .ok (.iconst 3, 1) := by decide +kernel
theorem dX8_ledger_3 : decode cX8_ledger 3 = .ok (.invokestatic 69, 3) := by decide +kernel
theorem dX8_ledger_6 : decode cX8_ledger 6 = .ok (.ifCond .ne 9, 3) := by decide +kernel
theorem dX8_ledger_9 : decode cX8_ledger 9 = .ok (.aload_n 0, 1) := by decide +kernel
theorem dX8_ledger_10 : decode cX8_ledger 10 = .ok (.iconst 1, 1) := by decide +kernel
theorem dX8_ledger_11 : decode cX8_ledger 11 = .ok (.invokevirtual 45, 3) := by decide +kernel
theorem dX8_ledger_14 : decode cX8_ledger 14 = .ok (.ireturn, 1) := by decide +kernel
theorem dX8_ledger_15 : decode cX8_ledger 15 = .ok (.aload_n 0, 1) := by decide +kernel
theorem dX8_ledger_16 : decode cX8_ledger 16 = .ok (.iload_n 1, 1) := by decide +kernel
theorem dX8_ledger_17 : decode cX8_ledger 17 = .ok (.iload_n 2, 1) := by decide +kernel
theorem dX8_ledger_18 : decode cX8_ledger 18 = .ok (.invokevirtual 86, 3) := by decide +kernel
theorem dX8_ledger_21 : decode cX8_ledger 21 = .ok (.istore 4, 2) := by decide +kernel
theorem dX8_ledger_23 : decode cX8_ledger 23 = .ok (.iload 4, 2) := by decide +kernel
theorem dX8_ledger_25 : decode cX8_ledger 25 = .ok (.ifCond .eq 10, 3) := by decide +kernel
theorem dX8_ledger_28 : decode cX8_ledger 28 = .ok (.aload_n 0, 1) := by decide +kernel
theorem dX8_ledger_29 : decode cX8_ledger 29 = .ok (.iload 4, 2) := by decide +kernel
theorem dX8_ledger_31 : decode cX8_ledger 31 = .ok (.invokevirtual 45, 3) := by decide +kernel
theorem dX8_ledger_34 : decode cX8_ledger 34 = .ok (.ireturn, 1) := by decide +kernel
theorem dX8_ledger_35 : decode cX8_ledger 35 = .ok (.aload_n 0, 1) := by decide +kernel
theorem dX8_ledger_36 : decode cX8_ledger 36 = .ok (.aload_n 0, 1) := by decide +kernel
theorem dX8_ledger_37 : decode cX8_ledger 37 = .ok (.getfield 19, 3) := by decide +kernel
theorem dX8_ledger_40 : decode cX8_ledger 40 = .ok (.getfield 155, 3) := by decide +kernel
theorem dX8_ledger_43 : decode cX8_ledger 43 = .ok (.iload_n 1, 1) := by decide +kernel
theorem dX8_ledger_44 : decode cX8_ledger 44 = .ok (.iload_n 2, 1) := by decide +kernel
theorem dX8_ledger_45 : decode cX8_ledger 45 = .ok (.invokestatic 93, 3) := by decide +kernel
theorem dX8_ledger_48 : decode cX8_ledger 48 = .ok (.iload_n 3, 1) := by decide +kernel
theorem dX8_ledger_49 : decode cX8_ledger 49 = .ok (.invokevirtual 159, 3) := by decide +kernel
theorem dX8_ledger_52 : decode cX8_ledger 52 = .ok (.invokevirtual 60, 3) := by decide +kernel
theorem dX8_ledger_55 : decode cX8_ledger 55 = .ok (.ireturn, 1) := by decide +kernel
theorem dX8_cutting_0 : decode cX8_cutting 0 = .ok (.iload_n 1, 1) := by decide +kernel
theorem dX8_cutting_1 : decode cX8_cutting 1 = .ok (.iconst 0, 1) := by decide +kernel
theorem dX8_cutting_2 : decode cX8_cutting 2 = .ok (.bipush 8, 2) := by decide +kernel
theorem dX8_cutting_4 : decode cX8_cutting 4 = .ok (.invokestatic 69, 3) := by decide +kernel
theorem dX8_cutting_7 : decode cX8_cutting 7 = .ok (.ifCond .ne 9, 3) := by decide +kernel
theorem dX8_cutting_10 : decode cX8_cutting 10 = .ok (.aload_n 0, 1) := by decide +kernel
theorem dX8_cutting_11 : decode cX8_cutting 11 = .ok (.iconst 1, 1) := by decide +kernel
theorem dX8_cutting_12 : decode cX8_cutting 12 = .ok (.invokevirtual 45, 3) := by decide +kernel
theorem dX8_cutting_15 : decode cX8_cutting 15 = .ok (.ireturn, 1) := by decide +kernel
theorem dX8_cutting_16 : decode cX8_cutting 16 = .ok (.aload_n 0, 1) := by decide +kernel
theorem dX8_cutting_17 : decode cX8_cutting 17 = .ok (.getfield 19, 3) := by decide +kernel
theorem dX8_cutting_20 : decode cX8_cutting 20 = .ok (.getfield 162, 3) := by decide +kernel
theorem dX8_cutting_23 : decode cX8_cutting 23 = .ok (.ifCond .ne 9, 3) := by decide +kernel
theorem dX8_cutting_26 : decode cX8_cutting 26 = .ok (.aload_n 0, 1) := by decide +kernel
theorem dX8_cutting_27 : decode cX8_cutting 27 = .ok (.iconst 5, 1) := by decide +kernel
theorem dX8_cutting_28 : decode cX8_cutting 28 = .ok (.invokevirtual 45, 3) := by decide +kernel
theorem dX8_cutting_31 : decode cX8_cutting 31 = .ok (.ireturn, 1) := by decide +kernel
theorem dX8_cutting_32 : decode cX8_cutting 32 = .ok (.aload_n 0, 1) := by decide +kernel
theorem dX8_cutting_33 : decode cX8_cutting 33 = .ok (.aload_n 0, 1) := by decide +kernel
theorem dX8_cutting_34 : decode cX8_cutting 34 = .ok (.getfield 19, 3) := by decide +kernel
theorem dX8_cutting_37 : decode cX8_cutting 37 = .ok (.iload_n 1, 1) := by decide +kernel
theorem dX8_cutting_38 : decode cX8_cutting 38 = .ok (.invokevirtual 165, 3) := by decide +kernel
theorem dX8_cutting_41 : decode cX8_cutting 41 = .ok (.invokevirtual 60, 3) := by decide +kernel
theorem dX8_cutting_44 : decode cX8_cutting 44 = .ok (.ireturn, 1) := by decide +kernel
theorem dX8_recorded_0 : decode cX8_recorded 0 = .ok (.iload_n 2, 1) := by decide +kernel
theorem dX8_recorded_1 : decode cX8_recorded 1 = .ok (.iconst 0, 1) := by decide +kernel
theorem dX8_recorded_2 : decode cX8_recorded 2 = .ok (.iconst 2, 1) := by decide +kernel
theorem dX8_recorded_3 : decode cX8_recorded 3 = .ok (.invokestatic 69, 3) := by decide +kernel
theorem dX8_recorded_6 : decode cX8_recorded 6 = .ok (.ifCond .ne 9, 3) := by decide +kernel
theorem dX8_recorded_9 : decode cX8_recorded 9 = .ok (.aload_n 0, 1) := by decide +kernel
theorem dX8_recorded_10 : decode cX8_recorded 10 = .ok (.iconst 1, 1) := by decide +kernel
theorem dX8_recorded_11 : decode cX8_recorded 11 = .ok (.invokevirtual 45, 3) := by decide +kernel
theorem dX8_recorded_14 : decode cX8_recorded 14 = .ok (.ireturn, 1) := by decide +kernel
theorem dX8_recorded_15 : decode cX8_recorded 15 = .ok (.aload_n 0, 1) := by decide +kernel
theorem dX8_recorded_16 : decode cX8_recorded 16 = .ok (.getfield 19, 3) := by decide +kernel
theorem dX8_recorded_19 : decode cX8_recorded 19 = .ok (.iload_n 1, 1) := by decide +kernel
theorem dX8_recorded_20 : decode cX8_recorded 20 = .ok (.invokevirtual 79, 3) := by decide +kernel
theorem dX8_recorded_23 : decode cX8_recorded 23 = .ok (.ifCond .ne 9, 3) := by decide +kernel
theorem dX8_recorded_26 : decode cX8_recorded 26 = .ok (.aload_n 0, 1) := by decide +kernel
theorem dX8_recorded_27 : decode cX8_recorded 27 = .ok (.iconst 2, 1) := by decide +kernel
theorem dX8_recorded_28 : decode cX8_recorded 28 = .ok (.invokevirtual 45, 3) := by decide +kernel
theorem dX8_recorded_31 : decode cX8_recorded 31 = .ok (.ireturn, 1) := by decide +kernel
theorem dX8_recorded_32 : decode cX8_recorded 32 = .ok (.aload_n 0, 1) := by decide +kernel
theorem dX8_recorded_33 : decode cX8_recorded 33 = .ok (.getfield 19, 3) := by decide +kernel
theorem dX8_recorded_36 : decode cX8_recorded 36 = .ok (.getfield 168, 3) := by decide +kernel
theorem dX8_recorded_39 : decode cX8_recorded 39 = .ok (.iload_n 1, 1) := by decide +kernel
theorem dX8_recorded_40 : decode cX8_recorded 40 = .ok (.aaload, 1) := by decide +kernel
theorem dX8_recorded_41 : decode cX8_recorded 41 = .ok (.getfield 172, 3) := by decide +kernel
theorem dX8_recorded_44 : decode cX8_recorded 44 = .ok (.ifCond .ne 9, 3) := by decide +kernel
theorem dX8_recorded_47 : decode cX8_recorded 47 = .ok (.aload_n 0, 1) := by decide +kernel
theorem dX8_recorded_48 : decode cX8_recorded 48 = .ok (.iconst 5, 1) := by decide +kernel
theorem dX8_recorded_49 : decode cX8_recorded 49 = .ok (.invokevirtual 45, 3) := by decide +kernel
theorem dX8_recorded_52 : decode cX8_recorded 52 = .ok (.ireturn, 1) := by decide +kernel
theorem dX8_recorded_53 : decode cX8_recorded 53 = .ok (.aload_n 0, 1) := by decide +kernel
theorem dX8_recorded_54 : decode cX8_recorded 54 = .ok (.aload_n 0, 1) := by decide +kernel
theorem dX8_recorded_55 : decode cX8_recorded 55 = .ok (.getfield 19, 3) := by decide +kernel
theorem dX8_recorded_58 : decode cX8_recorded 58 = .ok (.getfield 168, 3) := by decide +kernel
theorem dX8_recorded_61 : decode cX8_recorded 61 = .ok (.iload_n 1, 1) := by decide +kernel
theorem dX8_recorded_62 : decode cX8_recorded 62 = .ok (.aaload, 1) := by decide +kernel
theorem dX8_recorded_63 : decode cX8_recorded 63 = .ok (.iload_n 2, 1) := by decide +kernel
theorem dX8_recorded_64 : decode cX8_recorded 64 = .ok (.invokevirtual 178, 3) := by decide +kernel
theorem dX8_recorded_67 : decode cX8_recorded 67 = .ok (.invokevirtual 60, 3) := by decide +kernel
theorem dX8_recorded_70 : decode cX8_recorded 70 = .ok (.ireturn, 1) := by decide +kernel
theorem dX8_event_0 : decode cX8_event 0 = .ok (.iload_n 1, 1) := by decide +kernel
theorem dX8_event_1 : decode cX8_event 1 = .ok (.iconst 0, 1) := by decide +kernel
theorem dX8_event_2 : decode cX8_event 2 = .ok (.bipush 23, 2) := by decide +kernel
theorem dX8_event_4 : decode cX8_event 4 = .ok (.invokestatic 69, 3) := by decide +kernel
theorem dX8_event_7 : decode cX8_event 7 = .ok (.ifCond .eq 12, 3) := by decide +kernel
theorem dX8_event_10 : decode cX8_event 10 = .ok (.iload_n 2, 1) := by decide +kernel
theorem dX8_event_11 : decode cX8_event 11 = .ok (.iconst 0, 1) := by decide +kernel
theorem dX8_event_12 : decode cX8_event 12 = .ok (.iconst 2, 1) := by decide +kernel
theorem dX8_event_13 : decode cX8_event 13 = .ok (.invokestatic 69, 3) := by decide +kernel
theorem dX8_event_16 : decode cX8_event 16 = .ok (.ifCond .ne 9, 3) := by decide +kernel
theorem dX8_event_19 : decode cX8_event 19 = .ok (.aload_n 0, 1) := by decide +kernel
theorem dX8_event_20 : decode cX8_event 20 = .ok (.iconst 1, 1) := by decide +kernel
theorem dX8_event_21 : decode cX8_event 21 = .ok (.invokevirtual 45, 3) := by decide +kernel
theorem dX8_event_24 : decode cX8_event 24 = .ok (.ireturn, 1) := by decide +kernel
theorem dX8_event_25 : decode cX8_event 25 = .ok (.iload_n 1, 1) := by decide +kernel
theorem dX8_event_26 : decode cX8_event 26 = .ok (.aload_n 0, 1) := by decide +kernel
theorem dX8_event_27 : decode cX8_event 27 = .ok (.getfield 19, 3) := by decide +kernel
theorem dX8_event_30 : decode cX8_event 30 = .ok (.getfield 183, 3) := by decide +kernel
theorem dX8_event_33 : decode cX8_event 33 = .ok (.getfield 187, 3) := by decide +kernel
theorem dX8_event_36 : decode cX8_event 36 = .ok (.if_icmp .lt 9, 3) := by decide +kernel
theorem dX8_event_39 : decode cX8_event 39 = .ok (.aload_n 0, 1) := by decide +kernel
theorem dX8_event_40 : decode cX8_event 40 = .ok (.iconst 5, 1) := by decide +kernel
theorem dX8_event_41 : decode cX8_event 41 = .ok (.invokevirtual 45, 3) := by decide +kernel
theorem dX8_event_44 : decode cX8_event 44 = .ok (.ireturn, 1) := by decide +kernel
theorem dX8_event_45 : decode cX8_event 45 = .ok (.aload_n 0, 1) := by decide +kernel
theorem dX8_event_46 : decode cX8_event 46 = .ok (.aload_n 0, 1) := by decide +kernel
theorem dX8_event_47 : decode cX8_event 47 = .ok (.getfield 19, 3) := by decide +kernel
theorem dX8_event_50 : decode cX8_event 50 = .ok (.getfield 183, 3) := by decide +kernel
theorem dX8_event_53 : decode cX8_event 53 = .ok (.iload_n 1, 1) := by decide +kernel
theorem dX8_event_54 : decode cX8_event 54 = .ok (.iload_n 2, 1) := by decide +kernel
theorem dX8_event_55 : decode cX8_event 55 = .ok (.invokevirtual 188, 3) := by decide +kernel
theorem dX8_event_58 : decode cX8_event 58 = .ok (.invokevirtual 60, 3) := by decide +kernel
theorem dX8_event_61 : decode cX8_event 61 = .ok (.ireturn, 1) := by decide +kernel
theorem dX8_begin_0 : decode cX8_begin 0 = .ok (.aload_n 0, 1) := by decide +kernel
theorem dX8_begin_1 : decode cX8_begin 1 = .ok (.iload_n 1, 1) := by decide +kernel
theorem dX8_begin_2 : decode cX8_begin 2 = .ok (.iconst 0, 1) := by decide +kernel
theorem dX8_begin_3 : decode cX8_begin 3 = .ok (.invokevirtual 189, 3) := by decide +kernel
theorem dX8_begin_6 : decode cX8_begin 6 = .ok (.istore_n 2, 1) := by decide +kernel
theorem dX8_begin_7 : decode cX8_begin 7 = .ok (.iload_n 2, 1) := by decide +kernel
theorem dX8_begin_8 : decode cX8_begin 8 = .ok (.ifCond .eq 9, 3) := by decide +kernel
theorem dX8_begin_11 : decode cX8_begin 11 = .ok (.aload_n 0, 1) := by decide +kernel
theorem dX8_begin_12 : decode cX8_begin 12 = .ok (.iload_n 2, 1) := by decide +kernel
theorem dX8_begin_13 : decode cX8_begin 13 = .ok (.invokevirtual 45, 3) := by decide +kernel
theorem dX8_begin_16 : decode cX8_begin 16 = .ok (.ireturn, 1) := by decide +kernel
theorem dX8_begin_17 : decode cX8_begin 17 = .ok (.aload_n 0, 1) := by decide +kernel
theorem dX8_begin_18 : decode cX8_begin 18 = .ok (.getfield 19, 3) := by decide +kernel
theorem dX8_begin_21 : decode cX8_begin 21 = .ok (.iload_n 1, 1) := by decide +kernel
theorem dX8_begin_22 : decode cX8_begin 22 = .ok (.invokevirtual 192, 3) := by decide +kernel
theorem dX8_begin_25 : decode cX8_begin 25 = .ok (.aload_n 0, 1) := by decide +kernel
theorem dX8_begin_26 : decode cX8_begin 26 = .ok (.aload_n 0, 1) := by decide +kernel
theorem dX8_begin_27 : decode cX8_begin 27 = .ok (.getfield 19, 3) := by decide +kernel
theorem dX8_begin_30 : decode cX8_begin 30 = .ok (.getfield 114, 3) := by decide +kernel
theorem dX8_begin_33 : decode cX8_begin 33 = .ok (.invokevirtual 60, 3) := by decide +kernel
theorem dX8_begin_36 : decode cX8_begin 36 = .ok (.ireturn, 1) := by decide +kernel
theorem dX8_plan_0 : decode cX8_plan 0 = .ok (.iload_n 2, 1) := by decide +kernel
theorem dX8_plan_1 : decode cX8_plan 1 = .ok (.iconst 1, 1) := by decide +kernel
theorem dX8_plan_2 : decode cX8_plan 2 = .ok (.sipush 200, 3) := by decide +kernel
theorem dX8_plan_5 : decode cX8_plan 5 = .ok (.invokestatic 69, 3) := by decide +kernel
theorem dX8_plan_8 : decode cX8_plan 8 = .ok (.ifCond .eq 14, 3) := by decide +kernel
theorem dX8_plan_11 : decode cX8_plan 11 = .ok (.iload 4, 2) := by decide +kernel
theorem dX8_plan_13 : decode cX8_plan 13 = .ok (.iconst 1, 1) := by decide +kernel
theorem dX8_plan_14 : decode cX8_plan 14 = .ok (.bipush 20, 2) := by decide +kernel
theorem dX8_plan_16 : decode cX8_plan 16 = .ok (.invokestatic 69, 3) := by decide +kernel
theorem dX8_plan_19 : decode cX8_plan 19 = .ok (.ifCond .ne 9, 3) := by decide +kernel
theorem dX8_plan_22 : decode cX8_plan 22 = .ok (.aload_n 0, 1) := by decide +kernel
theorem dX8_plan_23 : decode cX8_plan 23 = .ok (.iconst 1, 1) := by decide +kernel
theorem dX8_plan_24 : decode cX8_plan 24 = .ok (.invokevirtual 45, 3) := by decide +kernel
theorem dX8_plan_27 : decode cX8_plan 27 = .ok (.ireturn, 1) := by decide +kernel
theorem dX8_plan_28 : decode cX8_plan 28 = .ok (.aload_n 0, 1) := by decide +kernel
theorem dX8_plan_29 : decode cX8_plan 29 = .ok (.getfield 19, 3) := by decide +kernel
theorem dX8_plan_32 : decode cX8_plan 32 = .ok (.iload_n 1, 1) := by decide +kernel
theorem dX8_plan_33 : decode cX8_plan 33 = .ok (.invokevirtual 79, 3) := by decide +kernel
theorem dX8_plan_36 : decode cX8_plan 36 = .ok (.ifCond .eq 14, 3) := by decide +kernel
theorem dX8_plan_39 : decode cX8_plan 39 = .ok (.aload_n 0, 1) := by decide +kernel
theorem dX8_plan_40 : decode cX8_plan 40 = .ok (.getfield 19, 3) := by decide +kernel
theorem dX8_plan_43 : decode cX8_plan 43 = .ok (.iload_n 3, 1) := by decide +kernel
theorem dX8_plan_44 : decode cX8_plan 44 = .ok (.invokevirtual 79, 3) := by decide +kernel
theorem dX8_plan_47 : decode cX8_plan 47 = .ok (.ifCond .ne 9, 3) := by decide +kernel
theorem dX8_plan_50 : decode cX8_plan 50 = .ok (.aload_n 0, 1) := by decide +kernel
theorem dX8_plan_51 : decode cX8_plan 51 = .ok (.iconst 2, 1) := by decide +kernel
theorem dX8_plan_52 : decode cX8_plan 52 = .ok (.invokevirtual 45, 3) := by decide +kernel
theorem dX8_plan_55 : decode cX8_plan 55 = .ok (.ireturn, 1) := by decide +kernel
theorem dX8_plan_56 : decode cX8_plan 56 = .ok (.aload_n 0, 1) := by decide +kernel
theorem dX8_plan_57 : decode cX8_plan 57 = .ok (.getfield 19, 3) := by decide +kernel
theorem dX8_plan_60 : decode cX8_plan 60 = .ok (.getfield 96, 3) := by decide +kernel
theorem dX8_plan_63 : decode cX8_plan 63 = .ok (.getfield 100, 3) := by decide +kernel
theorem dX8_plan_66 : decode cX8_plan 66 = .ok (.bipush 40, 2) := by decide +kernel
theorem dX8_plan_68 : decode cX8_plan 68 = .ok (.if_icmp .lt 9, 3) := by decide +kernel
theorem dX8_plan_71 : decode cX8_plan 71 = .ok (.aload_n 0, 1) := by decide +kernel
theorem dX8_plan_72 : decode cX8_plan 72 = .ok (.iconst 3, 1) := by decide +kernel
theorem dX8_plan_73 : decode cX8_plan 73 = .ok (.invokevirtual 45, 3) := by decide +kernel
theorem dX8_plan_76 : decode cX8_plan 76 = .ok (.ireturn, 1) := by decide +kernel
theorem dX8_plan_77 : decode cX8_plan 77 = .ok (.iload_n 1, 1) := by decide +kernel
theorem dX8_plan_78 : decode cX8_plan 78 = .ok (.iload_n 3, 1) := by decide +kernel
theorem dX8_plan_79 : decode cX8_plan 79 = .ok (.if_icmp .ne 9, 3) := by decide +kernel
theorem dX8_plan_82 : decode cX8_plan 82 = .ok (.aload_n 0, 1) := by decide +kernel
theorem dX8_plan_83 : decode cX8_plan 83 = .ok (.iconst 4, 1) := by decide +kernel
theorem dX8_plan_84 : decode cX8_plan 84 = .ok (.invokevirtual 45, 3) := by decide +kernel
theorem dX8_plan_87 : decode cX8_plan 87 = .ok (.ireturn, 1) := by decide +kernel
theorem dX8_plan_88 : decode cX8_plan 88 = .ok (.aload_n 0, 1) := by decide +kernel
theorem dX8_plan_89 : decode cX8_plan 89 = .ok (.getfield 19, 3) := by decide +kernel
theorem dX8_plan_92 : decode cX8_plan 92 = .ok (.getfield 96, 3) := by decide +kernel
theorem dX8_plan_95 : decode cX8_plan 95 = .ok (.iload_n 1, 1) := by decide +kernel
theorem dX8_plan_96 : decode cX8_plan 96 = .ok (.iload_n 2, 1) := by decide +kernel
theorem dX8_plan_97 : decode cX8_plan 97 = .ok (.iload_n 3, 1) := by decide +kernel
theorem dX8_plan_98 : decode cX8_plan 98 = .ok (.iload 4, 2) := by decide +kernel
theorem dX8_plan_100 : decode cX8_plan 100 = .ok (.invokevirtual 195, 3) := by decide +kernel
theorem dX8_plan_103 : decode cX8_plan 103 = .ok (.aload_n 0, 1) := by decide +kernel
theorem dX8_plan_104 : decode cX8_plan 104 = .ok (.aload_n 0, 1) := by decide +kernel
theorem dX8_plan_105 : decode cX8_plan 105 = .ok (.getfield 19, 3) := by decide +kernel
theorem dX8_plan_108 : decode cX8_plan 108 = .ok (.getfield 96, 3) := by decide +kernel
theorem dX8_plan_111 : decode cX8_plan 111 = .ok (.getfield 100, 3) := by decide +kernel
theorem dX8_plan_114 : decode cX8_plan 114 = .ok (.iconst 1, 1) := by decide +kernel
theorem dX8_plan_115 : decode cX8_plan 115 = .ok (.isub, 1) := by decide +kernel
theorem dX8_plan_116 : decode cX8_plan 116 = .ok (.invokevirtual 60, 3) := by decide +kernel
theorem dX8_plan_119 : decode cX8_plan 119 = .ok (.ireturn, 1) := by decide +kernel
theorem dX8_drop_0 : decode cX8_drop 0 = .ok (.iload_n 1, 1) := by decide +kernel
theorem dX8_drop_1 : decode cX8_drop 1 = .ok (.ifCond .ge 9, 3) := by decide +kernel
theorem dX8_drop_4 : decode cX8_drop 4 = .ok (.aload_n 0, 1) := by decide +kernel
theorem dX8_drop_5 : decode cX8_drop 5 = .ok (.iconst 1, 1) := by decide +kernel
theorem dX8_drop_6 : decode cX8_drop 6 = .ok (.invokevirtual 45, 3) := by decide +kernel
theorem dX8_drop_9 : decode cX8_drop 9 = .ok (.ireturn, 1) := by decide +kernel
theorem dX8_drop_10 : decode cX8_drop 10 = .ok (.iload_n 1, 1) := by decide +kernel
theorem dX8_drop_11 : decode cX8_drop 11 = .ok (.aload_n 0, 1) := by decide +kernel
theorem dX8_drop_12 : decode cX8_drop 12 = .ok (.getfield 19, 3) := by decide +kernel
theorem dX8_drop_15 : decode cX8_drop 15 = .ok (.getfield 96, 3) := by decide +kernel
theorem dX8_drop_18 : decode cX8_drop 18 = .ok (.getfield 100, 3) := by decide +kernel
theorem dX8_drop_21 : decode cX8_drop 21 = .ok (.if_icmp .lt 9, 3) := by decide +kernel
theorem dX8_drop_24 : decode cX8_drop 24 = .ok (.aload_n 0, 1) := by decide +kernel
theorem dX8_drop_25 : decode cX8_drop 25 = .ok (.iconst 5, 1) := by decide +kernel
theorem dX8_drop_26 : decode cX8_drop 26 = .ok (.invokevirtual 45, 3) := by decide +kernel
theorem dX8_drop_29 : decode cX8_drop 29 = .ok (.ireturn, 1) := by decide +kernel
theorem dX8_drop_30 : decode cX8_drop 30 = .ok (.aload_n 0, 1) := by decide +kernel
theorem dX8_drop_31 : decode cX8_drop 31 = .ok (.getfield 19, 3) := by decide +kernel
theorem dX8_drop_34 : decode cX8_drop 34 = .ok (.getfield 96, 3) := by decide +kernel
theorem dX8_drop_37 : decode cX8_drop 37 = .ok (.iload_n 1, 1) := by decide +kernel
theorem dX8_drop_38 : decode cX8_drop 38 = .ok (.invokevirtual 199, 3) := by decide +kernel
theorem dX8_drop_41 : decode cX8_drop 41 = .ok (.aload_n 0, 1) := by decide +kernel
theorem dX8_drop_42 : decode cX8_drop 42 = .ok (.aload_n 0, 1) := by decide +kernel
theorem dX8_drop_43 : decode cX8_drop 43 = .ok (.getfield 19, 3) := by decide +kernel
theorem dX8_drop_46 : decode cX8_drop 46 = .ok (.getfield 96, 3) := by decide +kernel
theorem dX8_drop_49 : decode cX8_drop 49 = .ok (.getfield 100, 3) := by decide +kernel
theorem dX8_drop_52 : decode cX8_drop 52 = .ok (.invokevirtual 60, 3) := by decide +kernel
theorem dX8_drop_55 : decode cX8_drop 55 = .ok (.ireturn, 1) := by decide +kernel
theorem dX8_wires_0 : decode cX8_wires 0 = .ok (.iload_n 3, 1) := by decide +kernel
theorem dX8_wires_1 : decode cX8_wires 1 = .ok (.iconst 1, 1) := by decide +kernel
theorem dX8_wires_2 : decode cX8_wires 2 = .ok (.bipush 9, 2) := by decide +kernel
theorem dX8_wires_4 : decode cX8_wires 4 = .ok (.invokestatic 69, 3) := by decide +kernel
theorem dX8_wires_7 : decode cX8_wires 7 = .ok (.ifCond .ne 9, 3) := by decide +kernel
theorem dX8_wires_10 : decode cX8_wires 10 = .ok (.aload_n 0, 1) := by decide +kernel
theorem dX8_wires_11 : decode cX8_wires 11 = .ok (.iconst 1, 1) := by decide +kernel
theorem dX8_wires_12 : decode cX8_wires 12 = .ok (.invokevirtual 45, 3) := by decide +kernel
theorem dX8_wires_15 : decode cX8_wires 15 = .ok (.ireturn, 1) := by decide +kernel
theorem dX8_wires_16 : decode cX8_wires 16 = .ok (.aload_n 0, 1) := by decide +kernel
theorem dX8_wires_17 : decode cX8_wires 17 = .ok (.iload_n 1, 1) := by decide +kernel
theorem dX8_wires_18 : decode cX8_wires 18 = .ok (.iload_n 2, 1) := by decide +kernel
theorem dX8_wires_19 : decode cX8_wires 19 = .ok (.invokevirtual 86, 3) := by decide +kernel
theorem dX8_wires_22 : decode cX8_wires 22 = .ok (.istore 4, 2) := by decide +kernel
theorem dX8_wires_24 : decode cX8_wires 24 = .ok (.iload 4, 2) := by decide +kernel
theorem dX8_wires_26 : decode cX8_wires 26 = .ok (.ifCond .eq 10, 3) := by decide +kernel
theorem dX8_wires_29 : decode cX8_wires 29 = .ok (.aload_n 0, 1) := by decide +kernel
theorem dX8_wires_30 : decode cX8_wires 30 = .ok (.iload 4, 2) := by decide +kernel
theorem dX8_wires_32 : decode cX8_wires 32 = .ok (.invokevirtual 45, 3) := by decide +kernel
theorem dX8_wires_35 : decode cX8_wires 35 = .ok (.ireturn, 1) := by decide +kernel
theorem dX8_wires_36 : decode cX8_wires 36 = .ok (.iload_n 1, 1) := by decide +kernel
theorem dX8_wires_37 : decode cX8_wires 37 = .ok (.iload_n 2, 1) := by decide +kernel
theorem dX8_wires_38 : decode cX8_wires 38 = .ok (.invokestatic 93, 3) := by decide +kernel
theorem dX8_wires_41 : decode cX8_wires 41 = .ok (.istore 5, 2) := by decide +kernel
theorem dX8_wires_43 : decode cX8_wires 43 = .ok (.aload_n 0, 1) := by decide +kernel
theorem dX8_wires_44 : decode cX8_wires 44 = .ok (.getfield 19, 3) := by decide +kernel
theorem dX8_wires_47 : decode cX8_wires 47 = .ok (.getfield 89, 3) := by decide +kernel
theorem dX8_wires_50 : decode cX8_wires 50 = .ok (.iload 5, 2) := by decide +kernel
theorem dX8_wires_52 : decode cX8_wires 52 = .ok (.iaload, 1) := by decide +kernel
theorem dX8_wires_53 : decode cX8_wires 53 = .ok (.istore 6, 2) := by decide +kernel
theorem dX8_wires_55 : decode cX8_wires 55 = .ok (.aload_n 0, 1) := by decide +kernel
theorem dX8_wires_56 : decode cX8_wires 56 = .ok (.getfield 19, 3) := by decide +kernel
theorem dX8_wires_59 : decode cX8_wires 59 = .ok (.getfield 89, 3) := by decide +kernel
theorem dX8_wires_62 : decode cX8_wires 62 = .ok (.iload 5, 2) := by decide +kernel
theorem dX8_wires_64 : decode cX8_wires 64 = .ok (.iload_n 3, 1) := by decide +kernel
theorem dX8_wires_65 : decode cX8_wires 65 = .ok (.iastore, 1) := by decide +kernel
theorem dX8_wires_66 : decode cX8_wires 66 = .ok (.aload_n 0, 1) := by decide +kernel
theorem dX8_wires_67 : decode cX8_wires 67 = .ok (.iload 6, 2) := by decide +kernel
theorem dX8_wires_69 : decode cX8_wires 69 = .ok (.invokevirtual 60, 3) := by decide +kernel
theorem dX8_wires_72 : decode cX8_wires 72 = .ok (.ireturn, 1) := by decide +kernel
theorem dX8_add_0 : decode cX8_add 0 = .ok (.aload_n 0, 1) := by decide +kernel
theorem dX8_add_1 : decode cX8_add 1 = .ok (.getfield 19, 3) := by decide +kernel
theorem dX8_add_4 : decode cX8_add 4 = .ok (.getfield 57, 3) := by decide +kernel
theorem dX8_add_7 : decode cX8_add 7 = .ok (.bipush 8, 2) := by decide +kernel
theorem dX8_add_9 : decode cX8_add 9 = .ok (.if_icmp .lt 9, 3) := by decide +kernel
theorem dX8_add_12 : decode cX8_add 12 = .ok (.aload_n 0, 1) := by decide +kernel
theorem dX8_add_13 : decode cX8_add 13 = .ok (.iconst 3, 1) := by decide +kernel
theorem dX8_add_14 : decode cX8_add 14 = .ok (.invokevirtual 45, 3) := by decide +kernel
theorem dX8_add_17 : decode cX8_add 17 = .ok (.ireturn, 1) := by decide +kernel
theorem dX8_add_18 : decode cX8_add 18 = .ok (.aload_n 0, 1) := by decide +kernel
theorem dX8_add_19 : decode cX8_add 19 = .ok (.getfield 19, 3) := by decide +kernel
theorem dX8_add_22 : decode cX8_add 22 = .ok (.getfield 106, 3) := by decide +kernel
theorem dX8_add_25 : decode cX8_add 25 = .ok (.invokevirtual 202, 3) := by decide +kernel
theorem dX8_add_28 : decode cX8_add 28 = .ok (.ifCond .le 9, 3) := by decide +kernel
theorem dX8_add_31 : decode cX8_add 31 = .ok (.aload_n 0, 1) := by decide +kernel
theorem dX8_add_32 : decode cX8_add 32 = .ok (.iconst 5, 1) := by decide +kernel
theorem dX8_add_33 : decode cX8_add 33 = .ok (.invokevirtual 45, 3) := by decide +kernel
theorem dX8_add_36 : decode cX8_add 36 = .ok (.ireturn, 1) := by decide +kernel
theorem dX8_add_37 : decode cX8_add 37 = .ok (.aload_n 0, 1) := by decide +kernel
theorem dX8_add_38 : decode cX8_add 38 = .ok (.getfield 19, 3) := by decide +kernel
theorem dX8_add_41 : decode cX8_add 41 = .ok (.invokevirtual 205, 3) := by decide +kernel
theorem dX8_add_44 : decode cX8_add 44 = .ok (.ifCond .eq 10, 3) := by decide +kernel
theorem dX8_add_47 : decode cX8_add 47 = .ok (.aload_n 0, 1) := by decide +kernel
theorem dX8_add_48 : decode cX8_add 48 = .ok (.bipush 6, 2) := by decide +kernel
theorem dX8_add_50 : decode cX8_add 50 = .ok (.invokevirtual 45, 3) := by decide +kernel
theorem dX8_add_53 : decode cX8_add 53 = .ok (.ireturn, 1) := by decide +kernel
theorem dX8_add_54 : decode cX8_add 54 = .ok (.aload_n 0, 1) := by decide +kernel
theorem dX8_add_55 : decode cX8_add 55 = .ok (.getfield 19, 3) := by decide +kernel
theorem dX8_add_58 : decode cX8_add 58 = .ok (.invokevirtual 208, 3) := by decide +kernel
theorem dX8_add_61 : decode cX8_add 61 = .ok (.aload_n 0, 1) := by decide +kernel
theorem dX8_add_62 : decode cX8_add 62 = .ok (.aload_n 0, 1) := by decide +kernel
theorem dX8_add_63 : decode cX8_add 63 = .ok (.getfield 19, 3) := by decide +kernel
theorem dX8_add_66 : decode cX8_add 66 = .ok (.getfield 57, 3) := by decide +kernel
theorem dX8_add_69 : decode cX8_add 69 = .ok (.iconst 1, 1) := by decide +kernel
theorem dX8_add_70 : decode cX8_add 70 = .ok (.isub, 1) := by decide +kernel
theorem dX8_add_71 : decode cX8_add 71 = .ok (.invokevirtual 60, 3) := by decide +kernel
theorem dX8_add_74 : decode cX8_add 74 = .ok (.ireturn, 1) := by decide +kernel
theorem dX8_sleep_0 : decode cX8_sleep 0 = .ok (.iload_n 2, 1) := by decide +kernel
theorem dX8_sleep_1 : decode cX8_sleep 1 = .ok (.iconst 0, 1) := by decide +kernel
theorem dX8_sleep_2 : decode cX8_sleep 2 = .ok (.bipush 50, 2) := by decide +kernel
theorem dX8_sleep_4 : decode cX8_sleep 4 = .ok (.invokestatic 69, 3) := by decide +kernel
theorem dX8_sleep_7 : decode cX8_sleep 7 = .ok (.ifCond .ne 9, 3) := by decide +kernel
theorem dX8_sleep_10 : decode cX8_sleep 10 = .ok (.aload_n 0, 1) := by decide +kernel
theorem dX8_sleep_11 : decode cX8_sleep 11 = .ok (.iconst 1, 1) := by decide +kernel
theorem dX8_sleep_12 : decode cX8_sleep 12 = .ok (.invokevirtual 45, 3) := by decide +kernel
theorem dX8_sleep_15 : decode cX8_sleep 15 = .ok (.ireturn, 1) := by decide +kernel
theorem dX8_sleep_16 : decode cX8_sleep 16 = .ok (.aload_n 0, 1) := by decide +kernel
theorem dX8_sleep_17 : decode cX8_sleep 17 = .ok (.getfield 19, 3) := by decide +kernel
theorem dX8_sleep_20 : decode cX8_sleep 20 = .ok (.iload_n 1, 1) := by decide +kernel
theorem dX8_sleep_21 : decode cX8_sleep 21 = .ok (.invokevirtual 79, 3) := by decide +kernel
theorem dX8_sleep_24 : decode cX8_sleep 24 = .ok (.ifCond .ne 9, 3) := by decide +kernel
theorem dX8_sleep_27 : decode cX8_sleep 27 = .ok (.aload_n 0, 1) := by decide +kernel
theorem dX8_sleep_28 : decode cX8_sleep 28 = .ok (.iconst 2, 1) := by decide +kernel
theorem dX8_sleep_29 : decode cX8_sleep 29 = .ok (.invokevirtual 45, 3) := by decide +kernel
theorem dX8_sleep_32 : decode cX8_sleep 32 = .ok (.ireturn, 1) := by decide +kernel
theorem dX8_sleep_33 : decode cX8_sleep 33 = .ok (.aload_n 0, 1) := by decide +kernel
theorem dX8_sleep_34 : decode cX8_sleep 34 = .ok (.getfield 19, 3) := by decide +kernel
theorem dX8_sleep_37 : decode cX8_sleep 37 = .ok (.getfield 168, 3) := by decide +kernel
theorem dX8_sleep_40 : decode cX8_sleep 40 = .ok (.iload_n 1, 1) := by decide +kernel
theorem dX8_sleep_41 : decode cX8_sleep 41 = .ok (.aaload, 1) := by decide +kernel
theorem dX8_sleep_42 : decode cX8_sleep 42 = .ok (.getfield 211, 3) := by decide +kernel
theorem dX8_sleep_45 : decode cX8_sleep 45 = .ok (.istore_n 3, 1) := by decide +kernel
theorem dX8_sleep_46 : decode cX8_sleep 46 = .ok (.aload_n 0, 1) := by decide +kernel
theorem dX8_sleep_47 : decode cX8_sleep 47 = .ok (.getfield 19, 3) := by decide +kernel
theorem dX8_sleep_50 : decode cX8_sleep 50 = .ok (.getfield 168, 3) := by decide +kernel
theorem dX8_sleep_53 : decode cX8_sleep 53 = .ok (.iload_n 1, 1) := by decide +kernel
theorem dX8_sleep_54 : decode cX8_sleep 54 = .ok (.aaload, 1) := by decide +kernel
theorem dX8_sleep_55 : decode cX8_sleep 55 = .ok (.iload_n 2, 1) := by decide +kernel
theorem dX8_sleep_56 : decode cX8_sleep 56 = .ok (.putfield 211, 3) := by decide +kernel
theorem dX8_sleep_59 : decode cX8_sleep 59 = .ok (.aload_n 0, 1) := by decide +kernel
theorem dX8_sleep_60 : decode cX8_sleep 60 = .ok (.iload_n 3, 1) := by decide +kernel
theorem dX8_sleep_61 : decode cX8_sleep 61 = .ok (.invokevirtual 60, 3) := by decide +kernel
theorem dX8_sleep_64 : decode cX8_sleep 64 = .ok (.ireturn, 1) := by decide +kernel
theorem dX8_cut_0 : decode cX8_cut 0 = .ok (.aload_n 0, 1) := by decide +kernel
theorem dX8_cut_1 : decode cX8_cut 1 = .ok (.iload_n 1, 1) := by decide +kernel
theorem dX8_cut_2 : decode cX8_cut 2 = .ok (.invokevirtual 214, 3) := by decide +kernel
theorem dX8_cut_5 : decode cX8_cut 5 = .ok (.istore_n 2, 1) := by decide +kernel
theorem dX8_cut_6 : decode cX8_cut 6 = .ok (.iload_n 2, 1) := by decide +kernel
theorem dX8_cut_7 : decode cX8_cut 7 = .ok (.ifCond .eq 9, 3) := by decide +kernel
theorem dX8_cut_10 : decode cX8_cut 10 = .ok (.aload_n 0, 1) := by decide +kernel
theorem dX8_cut_11 : decode cX8_cut 11 = .ok (.iload_n 2, 1) := by decide +kernel
theorem dX8_cut_12 : decode cX8_cut 12 = .ok (.invokevirtual 45, 3) := by decide +kernel
theorem dX8_cut_15 : decode cX8_cut 15 = .ok (.ireturn, 1) := by decide +kernel
theorem dX8_cut_16 : decode cX8_cut 16 = .ok (.aload_n 0, 1) := by decide +kernel
theorem dX8_cut_17 : decode cX8_cut 17 = .ok (.getfield 19, 3) := by decide +kernel
theorem dX8_cut_20 : decode cX8_cut 20 = .ok (.iload_n 1, 1) := by decide +kernel
theorem dX8_cut_21 : decode cX8_cut 21 = .ok (.invokevirtual 217, 3) := by decide +kernel
theorem dX8_cut_24 : decode cX8_cut 24 = .ok (.aload_n 0, 1) := by decide +kernel
theorem dX8_cut_25 : decode cX8_cut 25 = .ok (.aload_n 0, 1) := by decide +kernel
theorem dX8_cut_26 : decode cX8_cut 26 = .ok (.getfield 19, 3) := by decide +kernel
theorem dX8_cut_29 : decode cX8_cut 29 = .ok (.getfield 162, 3) := by decide +kernel
theorem dX8_cut_32 : decode cX8_cut 32 = .ok (.invokevirtual 60, 3) := by decide +kernel
theorem dX8_cut_35 : decode cX8_cut 35 = .ok (.ireturn, 1) := by decide +kernel
theorem dX8_tick_0 : decode cX8_tick 0 = .ok (.iload_n 1, 1) := by decide +kernel
theorem dX8_tick_1 : decode cX8_tick 1 = .ok (.iconst 1, 1) := by decide +kernel
theorem dX8_tick_2 : decode cX8_tick 2 = .ok (.sipush 300, 3) := by decide +kernel
theorem dX8_tick_5 : decode cX8_tick 5 = .ok (.invokestatic 69, 3) := by decide +kernel
theorem dX8_tick_8 : decode cX8_tick 8 = .ok (.ifCond .ne 9, 3) := by decide +kernel
theorem dX8_tick_11 : decode cX8_tick 11 = .ok (.aload_n 0, 1) := by decide +kernel
theorem dX8_tick_12 : decode cX8_tick 12 = .ok (.iconst 1, 1) := by decide +kernel
theorem dX8_tick_13 : decode cX8_tick 13 = .ok (.invokevirtual 45, 3) := by decide +kernel
theorem dX8_tick_16 : decode cX8_tick 16 = .ok (.ireturn, 1) := by decide +kernel
theorem dX8_tick_17 : decode cX8_tick 17 = .ok (.iconst 0, 1) := by decide +kernel
theorem dX8_tick_18 : decode cX8_tick 18 = .ok (.istore_n 2, 1) := by decide +kernel
theorem dX8_tick_19 : decode cX8_tick 19 = .ok (.iload_n 2, 1) := by decide +kernel
theorem dX8_tick_20 : decode cX8_tick 20 = .ok (.iload_n 1, 1) := by decide +kernel
theorem dX8_tick_21 : decode cX8_tick 21 = .ok (.if_icmp .ge 16, 3) := by decide +kernel
theorem dX8_tick_24 : decode cX8_tick 24 = .ok (.aload_n 0, 1) := by decide +kernel
theorem dX8_tick_25 : decode cX8_tick 25 = .ok (.getfield 19, 3) := by decide +kernel
theorem dX8_tick_28 : decode cX8_tick 28 = .ok (.invokevirtual 220, 3) := by decide +kernel
theorem dX8_tick_31 : decode cX8_tick 31 = .ok (.iinc 2 1, 3) := by decide +kernel
theorem dX8_tick_34 : decode cX8_tick 34 = .ok (.goto (-15), 3) := by decide +kernel
theorem dX8_tick_37 : decode cX8_tick 37 = .ok (.aload_n 0, 1) := by decide +kernel
theorem dX8_tick_38 : decode cX8_tick 38 = .ok (.aload_n 0, 1) := by decide +kernel
theorem dX8_tick_39 : decode cX8_tick 39 = .ok (.getfield 19, 3) := by decide +kernel
theorem dX8_tick_42 : decode cX8_tick 42 = .ok (.getfield 114, 3) := by decide +kernel
theorem dX8_tick_45 : decode cX8_tick 45 = .ok (.invokevirtual 60, 3) := by decide +kernel
theorem dX8_tick_48 : decode cX8_tick 48 = .ok (.ireturn, 1) := by decide +kernel
theorem dX8_mark_0 : decode cX8_mark 0 = .ok (.aload_n 0, 1) := by decide +kernel
theorem dX8_mark_1 : decode cX8_mark 1 = .ok (.getfield 73, 3) := by decide +kernel
theorem dX8_mark_4 : decode cX8_mark 4 = .ok (.iconst 3, 1) := by decide +kernel
theorem dX8_mark_5 : decode cX8_mark 5 = .ok (.if_icmp .lt 9, 3) := by decide +kernel
theorem dX8_mark_8 : decode cX8_mark 8 = .ok (.aload_n 0, 1) := by decide +kernel
theorem dX8_mark_9 : decode cX8_mark 9 = .ok (.iconst 3, 1) := by decide +kernel
theorem dX8_mark_10 : decode cX8_mark 10 = .ok (.invokevirtual 45, 3) := by decide +kernel
theorem dX8_mark_13 : decode cX8_mark 13 = .ok (.ireturn, 1) := by decide +kernel
theorem dX8_mark_14 : decode cX8_mark 14 = .ok (.aload_n 0, 1) := by decide +kernel
theorem dX8_mark_15 : decode cX8_mark 15 = .ok (.getfield 26, 3) := by decide +kernel
theorem dX8_mark_18 : decode cX8_mark 18 = .ok (.aload_n 0, 1) := by decide +kernel
theorem dX8_mark_19 : decode cX8_mark 19 = .ok (.getfield 73, 3) := by decide +kernel
theorem dX8_mark_22 : decode cX8_mark 22 = .ok (.aaload, 1) := by decide +kernel
theorem dX8_mark_23 : decode cX8_mark 23 = .ok (.aload_n 0, 1) := by decide +kernel
theorem dX8_mark_24 : decode cX8_mark 24 = .ok (.getfield 19, 3) := by decide +kernel
theorem dX8_mark_27 : decode cX8_mark 27 = .ok (.invokevirtual 53, 3) := by decide +kernel
theorem dX8_mark_30 : decode cX8_mark 30 = .ok (.aload_n 0, 1) := by decide +kernel
theorem dX8_mark_31 : decode cX8_mark 31 = .ok (.dup, 1) := by decide +kernel
theorem dX8_mark_32 : decode cX8_mark 32 = .ok (.getfield 73, 3) := by decide +kernel
theorem dX8_mark_35 : decode cX8_mark 35 = .ok (.iconst 1, 1) := by decide +kernel
theorem dX8_mark_36 : decode cX8_mark 36 = .ok (.iadd, 1) := by decide +kernel
theorem dX8_mark_37 : decode cX8_mark 37 = .ok (.putfield 73, 3) := by decide +kernel
theorem dX8_mark_40 : decode cX8_mark 40 = .ok (.aload_n 0, 1) := by decide +kernel
theorem dX8_mark_41 : decode cX8_mark 41 = .ok (.aload_n 0, 1) := by decide +kernel
theorem dX8_mark_42 : decode cX8_mark 42 = .ok (.getfield 73, 3) := by decide +kernel
theorem dX8_mark_45 : decode cX8_mark 45 = .ok (.invokevirtual 60, 3) := by decide +kernel
theorem dX8_mark_48 : decode cX8_mark 48 = .ok (.ireturn, 1) := by decide +kernel
theorem dX8_back_0 : decode cX8_back 0 = .ok (.aload_n 0, 1) := by decide +kernel
theorem dX8_back_1 : decode cX8_back 1 = .ok (.getfield 73, 3) := by decide +kernel
theorem dX8_back_4 : decode cX8_back 4 = .ok (.ifCond .gt 9, 3) := by decide +kernel
theorem dX8_back_7 : decode cX8_back 7 = .ok (.aload_n 0, 1) := by decide +kernel
theorem dX8_back_8 : decode cX8_back 8 = .ok (.iconst 5, 1) := by decide +kernel
theorem dX8_back_9 : decode cX8_back 9 = .ok (.invokevirtual 45, 3) := by decide +kernel
theorem dX8_back_12 : decode cX8_back 12 = .ok (.ireturn, 1) := by decide +kernel
theorem dX8_back_13 : decode cX8_back 13 = .ok (.aload_n 0, 1) := by decide +kernel
theorem dX8_back_14 : decode cX8_back 14 = .ok (.dup, 1) := by decide +kernel
theorem dX8_back_15 : decode cX8_back 15 = .ok (.getfield 73, 3) := by decide +kernel
theorem dX8_back_18 : decode cX8_back 18 = .ok (.iconst 1, 1) := by decide +kernel
theorem dX8_back_19 : decode cX8_back 19 = .ok (.isub, 1) := by decide +kernel
theorem dX8_back_20 : decode cX8_back 20 = .ok (.putfield 73, 3) := by decide +kernel
theorem dX8_back_23 : decode cX8_back 23 = .ok (.aload_n 0, 1) := by decide +kernel
theorem dX8_back_24 : decode cX8_back 24 = .ok (.getfield 19, 3) := by decide +kernel
theorem dX8_back_27 : decode cX8_back 27 = .ok (.aload_n 0, 1) := by decide +kernel
theorem dX8_back_28 : decode cX8_back 28 = .ok (.getfield 26, 3) := by decide +kernel
theorem dX8_back_31 : decode cX8_back 31 = .ok (.aload_n 0, 1) := by decide +kernel
theorem dX8_back_32 : decode cX8_back 32 = .ok (.getfield 73, 3) := by decide +kernel
theorem dX8_back_35 : decode cX8_back 35 = .ok (.aaload, 1) := by decide +kernel
theorem dX8_back_36 : decode cX8_back 36 = .ok (.invokevirtual 53, 3) := by decide +kernel
theorem dX8_back_39 : decode cX8_back 39 = .ok (.aload_n 0, 1) := by decide +kernel
theorem dX8_back_40 : decode cX8_back 40 = .ok (.aload_n 0, 1) := by decide +kernel
theorem dX8_back_41 : decode cX8_back 41 = .ok (.getfield 73, 3) := by decide +kernel
theorem dX8_back_44 : decode cX8_back 44 = .ok (.invokevirtual 60, 3) := by decide +kernel
theorem dX8_back_47 : decode cX8_back 47 = .ok (.ireturn, 1) := by decide +kernel
theorem dX8_ends_0 : decode cX8_ends 0 = .ok (.aload_n 0, 1) := by decide +kernel
theorem dX8_ends_1 : decode cX8_ends 1 = .ok (.getfield 19, 3) := by decide +kernel
theorem dX8_ends_4 : decode cX8_ends 4 = .ok (.getfield 223, 3) := by decide +kernel
theorem dX8_ends_7 : decode cX8_ends 7 = .ok (.iconst (-1), 1) := by decide +kernel
theorem dX8_ends_8 : decode cX8_ends 8 = .ok (.if_icmp .ne 10, 3) := by decide +kernel
theorem dX8_ends_11 : decode cX8_ends 11 = .ok (.aload_n 0, 1) := by decide +kernel
theorem dX8_ends_12 : decode cX8_ends 12 = .ok (.bipush 7, 2) := by decide +kernel
theorem dX8_ends_14 : decode cX8_ends 14 = .ok (.invokevirtual 45, 3) := by decide +kernel
theorem dX8_ends_17 : decode cX8_ends 17 = .ok (.ireturn, 1) := by decide +kernel
theorem dX8_ends_18 : decode cX8_ends 18 = .ok (.aload_n 0, 1) := by decide +kernel
theorem dX8_ends_19 : decode cX8_ends 19 = .ok (.getfield 23, 3) := by decide +kernel
theorem dX8_ends_22 : decode cX8_ends 22 = .ok (.aload_n 0, 1) := by decide +kernel
theorem dX8_ends_23 : decode cX8_ends 23 = .ok (.getfield 19, 3) := by decide +kernel
theorem dX8_ends_26 : decode cX8_ends 26 = .ok (.invokevirtual 53, 3) := by decide +kernel
theorem dX8_ends_29 : decode cX8_ends 29 = .ok (.aload_n 0, 1) := by decide +kernel
theorem dX8_ends_30 : decode cX8_ends 30 = .ok (.getfield 23, 3) := by decide +kernel
theorem dX8_ends_33 : decode cX8_ends 33 = .ok (.invokevirtual 226, 3) := by decide +kernel
theorem dX8_ends_36 : decode cX8_ends 36 = .ok (.aload_n 0, 1) := by decide +kernel
theorem dX8_ends_37 : decode cX8_ends 37 = .ok (.aload_n 0, 1) := by decide +kernel
theorem dX8_ends_38 : decode cX8_ends 38 = .ok (.getfield 23, 3) := by decide +kernel
theorem dX8_ends_41 : decode cX8_ends 41 = .ok (.getfield 114, 3) := by decide +kernel
theorem dX8_ends_44 : decode cX8_ends 44 = .ok (.aload_n 0, 1) := by decide +kernel
theorem dX8_ends_45 : decode cX8_ends 45 = .ok (.getfield 19, 3) := by decide +kernel
theorem dX8_ends_48 : decode cX8_ends 48 = .ok (.getfield 114, 3) := by decide +kernel
theorem dX8_ends_51 : decode cX8_ends 51 = .ok (.isub, 1) := by decide +kernel
theorem dX8_ends_52 : decode cX8_ends 52 = .ok (.invokevirtual 60, 3) := by decide +kernel
theorem dX8_ends_55 : decode cX8_ends 55 = .ok (.ireturn, 1) := by decide +kernel
theorem dX8_tells_0 : decode cX8_tells 0 = .ok (.iload_n 1, 1) := by decide +kernel
theorem dX8_tells_1 : decode cX8_tells 1 = .ok (.invokestatic 117, 3) := by decide +kernel
theorem dX8_tells_4 : decode cX8_tells 4 = .ok (.ifCond .ne 9, 3) := by decide +kernel
theorem dX8_tells_7 : decode cX8_tells 7 = .ok (.aload_n 0, 1) := by decide +kernel
theorem dX8_tells_8 : decode cX8_tells 8 = .ok (.iconst 2, 1) := by decide +kernel
theorem dX8_tells_9 : decode cX8_tells 9 = .ok (.invokevirtual 45, 3) := by decide +kernel
theorem dX8_tells_12 : decode cX8_tells 12 = .ok (.ireturn, 1) := by decide +kernel
theorem dX8_tells_13 : decode cX8_tells 13 = .ok (.aload_n 0, 1) := by decide +kernel
theorem dX8_tells_14 : decode cX8_tells 14 = .ok (.getfield 19, 3) := by decide +kernel
theorem dX8_tells_17 : decode cX8_tells 17 = .ok (.getfield 223, 3) := by decide +kernel
theorem dX8_tells_20 : decode cX8_tells 20 = .ok (.iconst (-1), 1) := by decide +kernel
theorem dX8_tells_21 : decode cX8_tells 21 = .ok (.if_icmp .ne 10, 3) := by decide +kernel
theorem dX8_tells_24 : decode cX8_tells 24 = .ok (.aload_n 0, 1) := by decide +kernel
theorem dX8_tells_25 : decode cX8_tells 25 = .ok (.bipush 7, 2) := by decide +kernel
theorem dX8_tells_27 : decode cX8_tells 27 = .ok (.invokevirtual 45, 3) := by decide +kernel
theorem dX8_tells_30 : decode cX8_tells 30 = .ok (.ireturn, 1) := by decide +kernel
theorem dX8_tells_31 : decode cX8_tells 31 = .ok (.aload_n 0, 1) := by decide +kernel
theorem dX8_tells_32 : decode cX8_tells 32 = .ok (.getfield 23, 3) := by decide +kernel
theorem dX8_tells_35 : decode cX8_tells 35 = .ok (.aload_n 0, 1) := by decide +kernel
theorem dX8_tells_36 : decode cX8_tells 36 = .ok (.getfield 19, 3) := by decide +kernel
theorem dX8_tells_39 : decode cX8_tells 39 = .ok (.invokevirtual 53, 3) := by decide +kernel
theorem dX8_tells_42 : decode cX8_tells 42 = .ok (.aload_n 0, 1) := by decide +kernel
theorem dX8_tells_43 : decode cX8_tells 43 = .ok (.getfield 23, 3) := by decide +kernel
theorem dX8_tells_46 : decode cX8_tells 46 = .ok (.iload_n 1, 1) := by decide +kernel
theorem dX8_tells_47 : decode cX8_tells 47 = .ok (.invokevirtual 229, 3) := by decide +kernel
theorem dX8_tells_50 : decode cX8_tells 50 = .ok (.aload_n 0, 1) := by decide +kernel
theorem dX8_tells_51 : decode cX8_tells 51 = .ok (.aload_n 0, 1) := by decide +kernel
theorem dX8_tells_52 : decode cX8_tells 52 = .ok (.getfield 23, 3) := by decide +kernel
theorem dX8_tells_55 : decode cX8_tells 55 = .ok (.getfield 114, 3) := by decide +kernel
theorem dX8_tells_58 : decode cX8_tells 58 = .ok (.aload_n 0, 1) := by decide +kernel
theorem dX8_tells_59 : decode cX8_tells 59 = .ok (.getfield 19, 3) := by decide +kernel
theorem dX8_tells_62 : decode cX8_tells 62 = .ok (.getfield 114, 3) := by decide +kernel
theorem dX8_tells_65 : decode cX8_tells 65 = .ok (.isub, 1) := by decide +kernel
theorem dX8_tells_66 : decode cX8_tells 66 = .ok (.invokevirtual 60, 3) := by decide +kernel
theorem dX8_tells_69 : decode cX8_tells 69 = .ok (.ireturn, 1) := by decide +kernel
theorem dX8_whole_0 : decode cX8_whole 0 = .ok (.aload_n 0, 1) := by decide +kernel
theorem dX8_whole_1 : decode cX8_whole 1 = .ok (.iload_n 1, 1) := by decide +kernel
theorem dX8_whole_2 : decode cX8_whole 2 = .ok (.invokevirtual 214, 3) := by decide +kernel
theorem dX8_whole_5 : decode cX8_whole 5 = .ok (.istore_n 2, 1) := by decide +kernel
theorem dX8_whole_6 : decode cX8_whole 6 = .ok (.iload_n 2, 1) := by decide +kernel
theorem dX8_whole_7 : decode cX8_whole 7 = .ok (.ifCond .eq 9, 3) := by decide +kernel
theorem dX8_whole_10 : decode cX8_whole 10 = .ok (.aload_n 0, 1) := by decide +kernel
theorem dX8_whole_11 : decode cX8_whole 11 = .ok (.iload_n 2, 1) := by decide +kernel
theorem dX8_whole_12 : decode cX8_whole 12 = .ok (.invokevirtual 45, 3) := by decide +kernel
theorem dX8_whole_15 : decode cX8_whole 15 = .ok (.ireturn, 1) := by decide +kernel
theorem dX8_whole_16 : decode cX8_whole 16 = .ok (.aload_n 0, 1) := by decide +kernel
theorem dX8_whole_17 : decode cX8_whole 17 = .ok (.getfield 23, 3) := by decide +kernel
theorem dX8_whole_20 : decode cX8_whole 20 = .ok (.aload_n 0, 1) := by decide +kernel
theorem dX8_whole_21 : decode cX8_whole 21 = .ok (.getfield 19, 3) := by decide +kernel
theorem dX8_whole_24 : decode cX8_whole 24 = .ok (.invokevirtual 53, 3) := by decide +kernel
theorem dX8_whole_27 : decode cX8_whole 27 = .ok (.aload_n 0, 1) := by decide +kernel
theorem dX8_whole_28 : decode cX8_whole 28 = .ok (.getfield 23, 3) := by decide +kernel
theorem dX8_whole_31 : decode cX8_whole 31 = .ok (.iload_n 1, 1) := by decide +kernel
theorem dX8_whole_32 : decode cX8_whole 32 = .ok (.invokevirtual 217, 3) := by decide +kernel
theorem dX8_whole_35 : decode cX8_whole 35 = .ok (.aload_n 0, 1) := by decide +kernel
theorem dX8_whole_36 : decode cX8_whole 36 = .ok (.getfield 23, 3) := by decide +kernel
theorem dX8_whole_39 : decode cX8_whole 39 = .ok (.invokevirtual 232, 3) := by decide +kernel
theorem dX8_whole_42 : decode cX8_whole 42 = .ok (.aload_n 0, 1) := by decide +kernel
theorem dX8_whole_43 : decode cX8_whole 43 = .ok (.getfield 23, 3) := by decide +kernel
theorem dX8_whole_46 : decode cX8_whole 46 = .ok (.invokevirtual 235, 3) := by decide +kernel
theorem dX8_whole_49 : decode cX8_whole 49 = .ok (.ifCond .eq 25, 3) := by decide +kernel
theorem dX8_whole_52 : decode cX8_whole 52 = .ok (.aload_n 0, 1) := by decide +kernel
theorem dX8_whole_53 : decode cX8_whole 53 = .ok (.aload_n 0, 1) := by decide +kernel
theorem dX8_whole_54 : decode cX8_whole 54 = .ok (.getfield 23, 3) := by decide +kernel
theorem dX8_whole_57 : decode cX8_whole 57 = .ok (.getfield 114, 3) := by decide +kernel
theorem dX8_whole_60 : decode cX8_whole 60 = .ok (.aload_n 0, 1) := by decide +kernel
theorem dX8_whole_61 : decode cX8_whole 61 = .ok (.getfield 19, 3) := by decide +kernel
theorem dX8_whole_64 : decode cX8_whole 64 = .ok (.getfield 114, 3) := by decide +kernel
theorem dX8_whole_67 : decode cX8_whole 67 = .ok (.isub, 1) := by decide +kernel
theorem dX8_whole_68 : decode cX8_whole 68 = .ok (.invokevirtual 60, 3) := by decide +kernel
theorem dX8_whole_71 : decode cX8_whole 71 = .ok (.goto 9, 3) := by decide +kernel
theorem dX8_whole_74 : decode cX8_whole 74 = .ok (.aload_n 0, 1) := by decide +kernel
theorem dX8_whole_75 : decode cX8_whole 75 = .ok (.bipush 8, 2) := by decide +kernel
theorem dX8_whole_77 : decode cX8_whole 77 = .ok (.invokevirtual 45, 3) := by decide +kernel
theorem dX8_whole_80 : decode cX8_whole 80 = .ok (.ireturn, 1) := by decide +kernel
theorem dX8_would_0 : decode cX8_would 0 = .ok (.iload_n 3, 1) := by decide +kernel
theorem dX8_would_1 : decode cX8_would 1 = .ok (.iconst 0, 1) := by decide +kernel
theorem dX8_would_2 : decode cX8_would 2 = .ok (.iconst 3, 1) := by decide +kernel
theorem dX8_would_3 : decode cX8_would 3 = .ok (.invokestatic 69, 3) := by decide +kernel
theorem dX8_would_6 : decode cX8_would 6 = .ok (.ifCond .ne 9, 3) := by decide +kernel
theorem dX8_would_9 : decode cX8_would 9 = .ok (.aload_n 0, 1) := by decide +kernel
theorem dX8_would_10 : decode cX8_would 10 = .ok (.iconst 1, 1) := by decide +kernel
theorem dX8_would_11 : decode cX8_would 11 = .ok (.invokevirtual 45, 3) := by decide +kernel
theorem dX8_would_14 : decode cX8_would 14 = .ok (.ireturn, 1) := by decide +kernel
theorem dX8_would_15 : decode cX8_would 15 = .ok (.aload_n 0, 1) := by decide +kernel
theorem dX8_would_16 : decode cX8_would 16 = .ok (.iload_n 1, 1) := by decide +kernel
theorem dX8_would_17 : decode cX8_would 17 = .ok (.iload_n 2, 1) := by decide +kernel
theorem dX8_would_18 : decode cX8_would 18 = .ok (.invokevirtual 189, 3) := by decide +kernel
theorem dX8_would_21 : decode cX8_would 21 = .ok (.istore 4, 2) := by decide +kernel
theorem dX8_would_23 : decode cX8_would 23 = .ok (.iload 4, 2) := by decide +kernel
theorem dX8_would_25 : decode cX8_would 25 = .ok (.ifCond .eq 10, 3) := by decide +kernel
theorem dX8_would_28 : decode cX8_would 28 = .ok (.aload_n 0, 1) := by decide +kernel
theorem dX8_would_29 : decode cX8_would 29 = .ok (.iload 4, 2) := by decide +kernel
theorem dX8_would_31 : decode cX8_would 31 = .ok (.invokevirtual 45, 3) := by decide +kernel
theorem dX8_would_34 : decode cX8_would 34 = .ok (.ireturn, 1) := by decide +kernel
theorem dX8_would_35 : decode cX8_would 35 = .ok (.aload_n 0, 1) := by decide +kernel
theorem dX8_would_36 : decode cX8_would 36 = .ok (.iload_n 1, 1) := by decide +kernel
theorem dX8_would_37 : decode cX8_would 37 = .ok (.invokevirtual 238, 3) := by decide +kernel
theorem dX8_would_40 : decode cX8_would 40 = .ok (.aload_n 0, 1) := by decide +kernel
theorem dX8_would_41 : decode cX8_would 41 = .ok (.getfield 23, 3) := by decide +kernel
theorem dX8_would_44 : decode cX8_would 44 = .ok (.iload_n 2, 1) := by decide +kernel
theorem dX8_would_45 : decode cX8_would 45 = .ok (.invokevirtual 229, 3) := by decide +kernel
theorem dX8_would_48 : decode cX8_would 48 = .ok (.iload_n 3, 1) := by decide +kernel
theorem dX8_would_49 : decode cX8_would 49 = .ok (.tableswitch 85 0 2 #[27, 47, 72], 27) := by decide +kernel
theorem dX8_would_76 : decode cX8_would 76 = .ok (.aload_n 0, 1) := by decide +kernel
theorem dX8_would_77 : decode cX8_would 77 = .ok (.aload_n 0, 1) := by decide +kernel
theorem dX8_would_78 : decode cX8_would 78 = .ok (.getfield 23, 3) := by decide +kernel
theorem dX8_would_81 : decode cX8_would 81 = .ok (.getfield 241, 3) := by decide +kernel
theorem dX8_would_84 : decode cX8_would 84 = .ok (.aload_n 0, 1) := by decide +kernel
theorem dX8_would_85 : decode cX8_would 85 = .ok (.getfield 19, 3) := by decide +kernel
theorem dX8_would_88 : decode cX8_would 88 = .ok (.getfield 114, 3) := by decide +kernel
theorem dX8_would_91 : decode cX8_would 91 = .ok (.isub, 1) := by decide +kernel
theorem dX8_would_92 : decode cX8_would 92 = .ok (.invokevirtual 60, 3) := by decide +kernel
theorem dX8_would_95 : decode cX8_would 95 = .ok (.ireturn, 1) := by decide +kernel
theorem dX8_would_96 : decode cX8_would 96 = .ok (.aload_n 0, 1) := by decide +kernel
theorem dX8_would_97 : decode cX8_would 97 = .ok (.aload_n 0, 1) := by decide +kernel
theorem dX8_would_98 : decode cX8_would 98 = .ok (.getfield 23, 3) := by decide +kernel
theorem dX8_would_101 : decode cX8_would 101 = .ok (.getfield 123, 3) := by decide +kernel
theorem dX8_would_104 : decode cX8_would 104 = .ok (.getfield 244, 3) := by decide +kernel
theorem dX8_would_107 : decode cX8_would 107 = .ok (.iload_n 2, 1) := by decide +kernel
theorem dX8_would_108 : decode cX8_would 108 = .ok (.iaload, 1) := by decide +kernel
theorem dX8_would_109 : decode cX8_would 109 = .ok (.aload_n 0, 1) := by decide +kernel
theorem dX8_would_110 : decode cX8_would 110 = .ok (.getfield 19, 3) := by decide +kernel
theorem dX8_would_113 : decode cX8_would 113 = .ok (.getfield 114, 3) := by decide +kernel
theorem dX8_would_116 : decode cX8_would 116 = .ok (.isub, 1) := by decide +kernel
theorem dX8_would_117 : decode cX8_would 117 = .ok (.invokevirtual 60, 3) := by decide +kernel
theorem dX8_would_120 : decode cX8_would 120 = .ok (.ireturn, 1) := by decide +kernel
theorem dX8_would_121 : decode cX8_would 121 = .ok (.aload_n 0, 1) := by decide +kernel
theorem dX8_would_122 : decode cX8_would 122 = .ok (.aload_n 0, 1) := by decide +kernel
theorem dX8_would_123 : decode cX8_would 123 = .ok (.getfield 23, 3) := by decide +kernel
theorem dX8_would_126 : decode cX8_would 126 = .ok (.iload_n 2, 1) := by decide +kernel
theorem dX8_would_127 : decode cX8_would 127 = .ok (.invokevirtual 132, 3) := by decide +kernel
theorem dX8_would_130 : decode cX8_would 130 = .ok (.invokevirtual 60, 3) := by decide +kernel
theorem dX8_would_133 : decode cX8_would 133 = .ok (.ireturn, 1) := by decide +kernel
theorem dX8_would_134 : decode cX8_would 134 = .ok (.aload_n 0, 1) := by decide +kernel
theorem dX8_would_135 : decode cX8_would 135 = .ok (.aload_n 0, 1) := by decide +kernel
theorem dX8_would_136 : decode cX8_would 136 = .ok (.getfield 23, 3) := by decide +kernel
theorem dX8_would_139 : decode cX8_would 139 = .ok (.getfield 123, 3) := by decide +kernel
theorem dX8_would_142 : decode cX8_would 142 = .ok (.getfield 247, 3) := by decide +kernel
theorem dX8_would_145 : decode cX8_would 145 = .ok (.iload_n 2, 1) := by decide +kernel
theorem dX8_would_146 : decode cX8_would 146 = .ok (.iaload, 1) := by decide +kernel
theorem dX8_would_147 : decode cX8_would 147 = .ok (.invokevirtual 60, 3) := by decide +kernel
theorem dX8_would_150 : decode cX8_would 150 = .ok (.ireturn, 1) := by decide +kernel
theorem dX8_with_0 : decode cX8_with 0 = .ok (.iload_n 1, 1) := by decide +kernel
theorem dX8_with_1 : decode cX8_with 1 = .ok (.iconst 1, 1) := by decide +kernel
theorem dX8_with_2 : decode cX8_with 2 = .ok (.sipush 200, 3) := by decide +kernel
theorem dX8_with_5 : decode cX8_with 5 = .ok (.invokestatic 69, 3) := by decide +kernel
theorem dX8_with_8 : decode cX8_with 8 = .ok (.ifCond .eq 14, 3) := by decide +kernel
theorem dX8_with_11 : decode cX8_with 11 = .ok (.iload 5, 2) := by decide +kernel
theorem dX8_with_13 : decode cX8_with 13 = .ok (.iconst 1, 1) := by decide +kernel
theorem dX8_with_14 : decode cX8_with 14 = .ok (.bipush 9, 2) := by decide +kernel
theorem dX8_with_16 : decode cX8_with 16 = .ok (.invokestatic 69, 3) := by decide +kernel
theorem dX8_with_19 : decode cX8_with 19 = .ok (.ifCond .ne 9, 3) := by decide +kernel
theorem dX8_with_22 : decode cX8_with 22 = .ok (.aload_n 0, 1) := by decide +kernel
theorem dX8_with_23 : decode cX8_with 23 = .ok (.iconst 1, 1) := by decide +kernel
theorem dX8_with_24 : decode cX8_with 24 = .ok (.invokevirtual 45, 3) := by decide +kernel
theorem dX8_with_27 : decode cX8_with 27 = .ok (.ireturn, 1) := by decide +kernel
theorem dX8_with_28 : decode cX8_with 28 = .ok (.iload_n 2, 1) := by decide +kernel
theorem dX8_with_29 : decode cX8_with 29 = .ok (.invokestatic 117, 3) := by decide +kernel
theorem dX8_with_32 : decode cX8_with 32 = .ok (.ifCond .ne 9, 3) := by decide +kernel
theorem dX8_with_35 : decode cX8_with 35 = .ok (.aload_n 0, 1) := by decide +kernel
theorem dX8_with_36 : decode cX8_with 36 = .ok (.iconst 2, 1) := by decide +kernel
theorem dX8_with_37 : decode cX8_with 37 = .ok (.invokevirtual 45, 3) := by decide +kernel
theorem dX8_with_40 : decode cX8_with 40 = .ok (.ireturn, 1) := by decide +kernel
theorem dX8_with_41 : decode cX8_with 41 = .ok (.aload_n 0, 1) := by decide +kernel
theorem dX8_with_42 : decode cX8_with 42 = .ok (.iload_n 3, 1) := by decide +kernel
theorem dX8_with_43 : decode cX8_with 43 = .ok (.iload 4, 2) := by decide +kernel
theorem dX8_with_45 : decode cX8_with 45 = .ok (.invokevirtual 86, 3) := by decide +kernel
theorem dX8_with_48 : decode cX8_with 48 = .ok (.istore 6, 2) := by decide +kernel
theorem dX8_with_50 : decode cX8_with 50 = .ok (.iload 6, 2) := by decide +kernel
theorem dX8_with_52 : decode cX8_with 52 = .ok (.ifCond .eq 10, 3) := by decide +kernel
theorem dX8_with_55 : decode cX8_with 55 = .ok (.aload_n 0, 1) := by decide +kernel
theorem dX8_with_56 : decode cX8_with 56 = .ok (.iload 6, 2) := by decide +kernel
theorem dX8_with_58 : decode cX8_with 58 = .ok (.invokevirtual 45, 3) := by decide +kernel
theorem dX8_with_61 : decode cX8_with 61 = .ok (.ireturn, 1) := by decide +kernel
theorem dX8_with_62 : decode cX8_with 62 = .ok (.aload_n 0, 1) := by decide +kernel
theorem dX8_with_63 : decode cX8_with 63 = .ok (.getfield 19, 3) := by decide +kernel
theorem dX8_with_66 : decode cX8_with 66 = .ok (.invokevirtual 205, 3) := by decide +kernel
theorem dX8_with_69 : decode cX8_with 69 = .ok (.ifCond .eq 10, 3) := by decide +kernel
theorem dX8_with_72 : decode cX8_with 72 = .ok (.aload_n 0, 1) := by decide +kernel
theorem dX8_with_73 : decode cX8_with 73 = .ok (.bipush 6, 2) := by decide +kernel
theorem dX8_with_75 : decode cX8_with 75 = .ok (.invokevirtual 45, 3) := by decide +kernel
theorem dX8_with_78 : decode cX8_with 78 = .ok (.ireturn, 1) := by decide +kernel
theorem dX8_with_79 : decode cX8_with 79 = .ok (.aload_n 0, 1) := by decide +kernel
theorem dX8_with_80 : decode cX8_with 80 = .ok (.iload_n 1, 1) := by decide +kernel
theorem dX8_with_81 : decode cX8_with 81 = .ok (.invokevirtual 238, 3) := by decide +kernel
theorem dX8_with_84 : decode cX8_with 84 = .ok (.aload_n 0, 1) := by decide +kernel
theorem dX8_with_85 : decode cX8_with 85 = .ok (.getfield 23, 3) := by decide +kernel
theorem dX8_with_88 : decode cX8_with 88 = .ok (.getfield 89, 3) := by decide +kernel
theorem dX8_with_91 : decode cX8_with 91 = .ok (.iload_n 3, 1) := by decide +kernel
theorem dX8_with_92 : decode cX8_with 92 = .ok (.iload 4, 2) := by decide +kernel
theorem dX8_with_94 : decode cX8_with 94 = .ok (.invokestatic 93, 3) := by decide +kernel
theorem dX8_with_97 : decode cX8_with 97 = .ok (.iload 5, 2) := by decide +kernel
theorem dX8_with_99 : decode cX8_with 99 = .ok (.iastore, 1) := by decide +kernel
theorem dX8_with_100 : decode cX8_with 100 = .ok (.aload_n 0, 1) := by decide +kernel
theorem dX8_with_101 : decode cX8_with 101 = .ok (.getfield 23, 3) := by decide +kernel
theorem dX8_with_104 : decode cX8_with 104 = .ok (.iload_n 2, 1) := by decide +kernel
theorem dX8_with_105 : decode cX8_with 105 = .ok (.invokevirtual 229, 3) := by decide +kernel
theorem dX8_with_108 : decode cX8_with 108 = .ok (.aload_n 0, 1) := by decide +kernel
theorem dX8_with_109 : decode cX8_with 109 = .ok (.aload_n 0, 1) := by decide +kernel
theorem dX8_with_110 : decode cX8_with 110 = .ok (.getfield 23, 3) := by decide +kernel
theorem dX8_with_113 : decode cX8_with 113 = .ok (.iload_n 2, 1) := by decide +kernel
theorem dX8_with_114 : decode cX8_with 114 = .ok (.invokevirtual 132, 3) := by decide +kernel
theorem dX8_with_117 : decode cX8_with 117 = .ok (.invokevirtual 60, 3) := by decide +kernel
theorem dX8_with_120 : decode cX8_with 120 = .ok (.ireturn, 1) := by decide +kernel
theorem dX8_margin_0 : decode cX8_margin 0 = .ok (.aload_n 0, 1) := by decide +kernel
theorem dX8_margin_1 : decode cX8_margin 1 = .ok (.iload_n 1, 1) := by decide +kernel
theorem dX8_margin_2 : decode cX8_margin 2 = .ok (.iload_n 2, 1) := by decide +kernel
theorem dX8_margin_3 : decode cX8_margin 3 = .ok (.invokevirtual 189, 3) := by decide +kernel
theorem dX8_margin_6 : decode cX8_margin 6 = .ok (.istore_n 3, 1) := by decide +kernel
theorem dX8_margin_7 : decode cX8_margin 7 = .ok (.iload_n 3, 1) := by decide +kernel
theorem dX8_margin_8 : decode cX8_margin 8 = .ok (.ifCond .eq 9, 3) := by decide +kernel
theorem dX8_margin_11 : decode cX8_margin 11 = .ok (.aload_n 0, 1) := by decide +kernel
theorem dX8_margin_12 : decode cX8_margin 12 = .ok (.iload_n 3, 1) := by decide +kernel
theorem dX8_margin_13 : decode cX8_margin 13 = .ok (.invokevirtual 45, 3) := by decide +kernel
theorem dX8_margin_16 : decode cX8_margin 16 = .ok (.ireturn, 1) := by decide +kernel
theorem dX8_margin_17 : decode cX8_margin 17 = .ok (.aload_n 0, 1) := by decide +kernel
theorem dX8_margin_18 : decode cX8_margin 18 = .ok (.iload_n 1, 1) := by decide +kernel
theorem dX8_margin_19 : decode cX8_margin 19 = .ok (.invokevirtual 238, 3) := by decide +kernel
theorem dX8_margin_22 : decode cX8_margin 22 = .ok (.aload_n 0, 1) := by decide +kernel
theorem dX8_margin_23 : decode cX8_margin 23 = .ok (.getfield 23, 3) := by decide +kernel
theorem dX8_margin_26 : decode cX8_margin 26 = .ok (.iload_n 2, 1) := by decide +kernel
theorem dX8_margin_27 : decode cX8_margin 27 = .ok (.invokevirtual 229, 3) := by decide +kernel
theorem dX8_margin_30 : decode cX8_margin 30 = .ok (.aload_n 0, 1) := by decide +kernel
theorem dX8_margin_31 : decode cX8_margin 31 = .ok (.aload_n 0, 1) := by decide +kernel
theorem dX8_margin_32 : decode cX8_margin 32 = .ok (.getfield 23, 3) := by decide +kernel
theorem dX8_margin_35 : decode cX8_margin 35 = .ok (.iload_n 2, 1) := by decide +kernel
theorem dX8_margin_36 : decode cX8_margin 36 = .ok (.invokevirtual 135, 3) := by decide +kernel
theorem dX8_margin_39 : decode cX8_margin 39 = .ok (.aload_n 0, 1) := by decide +kernel
theorem dX8_margin_40 : decode cX8_margin 40 = .ok (.getfield 23, 3) := by decide +kernel
theorem dX8_margin_43 : decode cX8_margin 43 = .ok (.iload_n 2, 1) := by decide +kernel
theorem dX8_margin_44 : decode cX8_margin 44 = .ok (.invokevirtual 132, 3) := by decide +kernel
theorem dX8_margin_47 : decode cX8_margin 47 = .ok (.isub, 1) := by decide +kernel
theorem dX8_margin_48 : decode cX8_margin 48 = .ok (.invokevirtual 60, 3) := by decide +kernel
theorem dX8_margin_51 : decode cX8_margin 51 = .ok (.ireturn, 1) := by decide +kernel
theorem dX8_quickest_0 : decode cX8_quickest 0 = .ok (.aload_n 0, 1) := by decide +kernel
theorem dX8_quickest_1 : decode cX8_quickest 1 = .ok (.iload_n 1, 1) := by decide +kernel
theorem dX8_quickest_2 : decode cX8_quickest 2 = .ok (.iconst 0, 1) := by decide +kernel
theorem dX8_quickest_3 : decode cX8_quickest 3 = .ok (.invokevirtual 189, 3) := by decide +kernel
theorem dX8_quickest_6 : decode cX8_quickest 6 = .ok (.istore_n 2, 1) := by decide +kernel
theorem dX8_quickest_7 : decode cX8_quickest 7 = .ok (.iload_n 2, 1) := by decide +kernel
theorem dX8_quickest_8 : decode cX8_quickest 8 = .ok (.ifCond .eq 9, 3) := by decide +kernel
theorem dX8_quickest_11 : decode cX8_quickest 11 = .ok (.aload_n 0, 1) := by decide +kernel
theorem dX8_quickest_12 : decode cX8_quickest 12 = .ok (.iload_n 2, 1) := by decide +kernel
theorem dX8_quickest_13 : decode cX8_quickest 13 = .ok (.invokevirtual 45, 3) := by decide +kernel
theorem dX8_quickest_16 : decode cX8_quickest 16 = .ok (.ireturn, 1) := by decide +kernel
theorem dX8_quickest_17 : decode cX8_quickest 17 = .ok (.aload_n 0, 1) := by decide +kernel
theorem dX8_quickest_18 : decode cX8_quickest 18 = .ok (.iload_n 1, 1) := by decide +kernel
theorem dX8_quickest_19 : decode cX8_quickest 19 = .ok (.invokevirtual 238, 3) := by decide +kernel
theorem dX8_quickest_22 : decode cX8_quickest 22 = .ok (.iconst 0, 1) := by decide +kernel
theorem dX8_quickest_23 : decode cX8_quickest 23 = .ok (.istore_n 3, 1) := by decide +kernel
theorem dX8_quickest_24 : decode cX8_quickest 24 = .ok (.iload_n 3, 1) := by decide +kernel
theorem dX8_quickest_25 : decode cX8_quickest 25 = .ok (.iconst 4, 1) := by decide +kernel
theorem dX8_quickest_26 : decode cX8_quickest 26 = .ok (.if_icmp .ge 17, 3) := by decide +kernel
theorem dX8_quickest_29 : decode cX8_quickest 29 = .ok (.aload_n 0, 1) := by decide +kernel
theorem dX8_quickest_30 : decode cX8_quickest 30 = .ok (.getfield 23, 3) := by decide +kernel
theorem dX8_quickest_33 : decode cX8_quickest 33 = .ok (.iload_n 3, 1) := by decide +kernel
theorem dX8_quickest_34 : decode cX8_quickest 34 = .ok (.invokevirtual 229, 3) := by decide +kernel
theorem dX8_quickest_37 : decode cX8_quickest 37 = .ok (.iinc 3 1, 3) := by decide +kernel
theorem dX8_quickest_40 : decode cX8_quickest 40 = .ok (.goto (-16), 3) := by decide +kernel
theorem dX8_quickest_43 : decode cX8_quickest 43 = .ok (.aload_n 0, 1) := by decide +kernel
theorem dX8_quickest_44 : decode cX8_quickest 44 = .ok (.aload_n 0, 1) := by decide +kernel
theorem dX8_quickest_45 : decode cX8_quickest 45 = .ok (.getfield 23, 3) := by decide +kernel
theorem dX8_quickest_48 : decode cX8_quickest 48 = .ok (.invokevirtual 138, 3) := by decide +kernel
theorem dX8_quickest_51 : decode cX8_quickest 51 = .ok (.invokevirtual 60, 3) := by decide +kernel
theorem dX8_quickest_54 : decode cX8_quickest 54 = .ok (.ireturn, 1) := by decide +kernel
theorem dX8_enough_0 : decode cX8_enough 0 = .ok (.aload_n 0, 1) := by decide +kernel
theorem dX8_enough_1 : decode cX8_enough 1 = .ok (.getfield 19, 3) := by decide +kernel
theorem dX8_enough_4 : decode cX8_enough 4 = .ok (.invokevirtual 205, 3) := by decide +kernel
theorem dX8_enough_7 : decode cX8_enough 7 = .ok (.ifCond .eq 10, 3) := by decide +kernel
theorem dX8_enough_10 : decode cX8_enough 10 = .ok (.aload_n 0, 1) := by decide +kernel
theorem dX8_enough_11 : decode cX8_enough 11 = .ok (.bipush 6, 2) := by decide +kernel
theorem dX8_enough_13 : decode cX8_enough 13 = .ok (.invokevirtual 45, 3) := by decide +kernel
theorem dX8_enough_16 : decode cX8_enough 16 = .ok (.ireturn, 1) := by decide +kernel
theorem dX8_enough_17 : decode cX8_enough 17 = .ok (.aload_n 0, 1) := by decide +kernel
theorem dX8_enough_18 : decode cX8_enough 18 = .ok (.aload_n 0, 1) := by decide +kernel
theorem dX8_enough_19 : decode cX8_enough 19 = .ok (.getfield 19, 3) := by decide +kernel
theorem dX8_enough_22 : decode cX8_enough 22 = .ok (.getfield 96, 3) := by decide +kernel
theorem dX8_enough_25 : decode cX8_enough 25 = .ok (.invokevirtual 249, 3) := by decide +kernel
theorem dX8_enough_28 : decode cX8_enough 28 = .ok (.invokevirtual 60, 3) := by decide +kernel
theorem dX8_enough_31 : decode cX8_enough 31 = .ok (.ireturn, 1) := by decide +kernel
theorem dX8_answer_0 : decode cX8_answer 0 = .ok (.aload_n 0, 1) := by decide +kernel
theorem dX8_answer_1 : decode cX8_answer 1 = .ok (.iconst 0, 1) := by decide +kernel
theorem dX8_answer_2 : decode cX8_answer 2 = .ok (.putfield 30, 3) := by decide +kernel
theorem dX8_answer_5 : decode cX8_answer 5 = .ok (.iload_n 1, 1) := by decide +kernel
theorem dX8_answer_6 : decode cX8_answer 6 = .ok (.ireturn, 1) := by decide +kernel
theorem dX8_refuse_0 : decode cX8_refuse 0 = .ok (.aload_n 0, 1) := by decide +kernel
theorem dX8_refuse_1 : decode cX8_refuse 1 = .ok (.iload_n 1, 1) := by decide +kernel
theorem dX8_refuse_2 : decode cX8_refuse 2 = .ok (.putfield 30, 3) := by decide +kernel
theorem dX8_refuse_5 : decode cX8_refuse 5 = .ok (.iconst (-1), 1) := by decide +kernel
theorem dX8_refuse_6 : decode cX8_refuse 6 = .ok (.ireturn, 1) := by decide +kernel
theorem dX8_pairStatus_0 : decode cX8_pairStatus 0 = .ok (.aload_n 0, 1) := by decide +kernel
theorem dX8_pairStatus_1 : decode cX8_pairStatus 1 = .ok (.getfield 19, 3) := by decide +kernel
theorem dX8_pairStatus_4 : decode cX8_pairStatus 4 = .ok (.iload_n 1, 1) := by decide +kernel
theorem dX8_pairStatus_5 : decode cX8_pairStatus 5 = .ok (.invokevirtual 79, 3) := by decide +kernel
theorem dX8_pairStatus_8 : decode cX8_pairStatus 8 = .ok (.ifCond .eq 14, 3) := by decide +kernel
theorem dX8_pairStatus_11 : decode cX8_pairStatus 11 = .ok (.aload_n 0, 1) := by decide +kernel
theorem dX8_pairStatus_12 : decode cX8_pairStatus 12 = .ok (.getfield 19, 3) := by decide +kernel
theorem dX8_pairStatus_15 : decode cX8_pairStatus 15 = .ok (.iload_n 2, 1) := by decide +kernel
theorem dX8_pairStatus_16 : decode cX8_pairStatus 16 = .ok (.invokevirtual 79, 3) := by decide +kernel
theorem dX8_pairStatus_19 : decode cX8_pairStatus 19 = .ok (.ifCond .ne 5, 3) := by decide +kernel
theorem dX8_pairStatus_22 : decode cX8_pairStatus 22 = .ok (.iconst 2, 1) := by decide +kernel
theorem dX8_pairStatus_23 : decode cX8_pairStatus 23 = .ok (.ireturn, 1) := by decide +kernel
theorem dX8_pairStatus_24 : decode cX8_pairStatus 24 = .ok (.iload_n 1, 1) := by decide +kernel
theorem dX8_pairStatus_25 : decode cX8_pairStatus 25 = .ok (.iload_n 2, 1) := by decide +kernel
theorem dX8_pairStatus_26 : decode cX8_pairStatus 26 = .ok (.if_icmp .ne 7, 3) := by decide +kernel
theorem dX8_pairStatus_29 : decode cX8_pairStatus 29 = .ok (.iconst 4, 1) := by decide +kernel
theorem dX8_pairStatus_30 : decode cX8_pairStatus 30 = .ok (.goto 4, 3) := by decide +kernel
theorem dX8_pairStatus_33 : decode cX8_pairStatus 33 = .ok (.iconst 0, 1) := by decide +kernel
theorem dX8_pairStatus_34 : decode cX8_pairStatus 34 = .ok (.ireturn, 1) := by decide +kernel
theorem dX8_startStatus_0 : decode cX8_startStatus 0 = .ok (.iload_n 1, 1) := by decide +kernel
theorem dX8_startStatus_1 : decode cX8_startStatus 1 = .ok (.iconst 1, 1) := by decide +kernel
theorem dX8_startStatus_2 : decode cX8_startStatus 2 = .ok (.sipush 200, 3) := by decide +kernel
theorem dX8_startStatus_5 : decode cX8_startStatus 5 = .ok (.invokestatic 69, 3) := by decide +kernel
theorem dX8_startStatus_8 : decode cX8_startStatus 8 = .ok (.ifCond .ne 5, 3) := by decide +kernel
theorem dX8_startStatus_11 : decode cX8_startStatus 11 = .ok (.iconst 1, 1) := by decide +kernel
theorem dX8_startStatus_12 : decode cX8_startStatus 12 = .ok (.ireturn, 1) := by decide +kernel
theorem dX8_startStatus_13 : decode cX8_startStatus 13 = .ok (.iload_n 2, 1) := by decide +kernel
theorem dX8_startStatus_14 : decode cX8_startStatus 14 = .ok (.invokestatic 117, 3) := by decide +kernel
theorem dX8_startStatus_17 : decode cX8_startStatus 17 = .ok (.ifCond .ne 5, 3) := by decide +kernel
theorem dX8_startStatus_20 : decode cX8_startStatus 20 = .ok (.iconst 2, 1) := by decide +kernel
theorem dX8_startStatus_21 : decode cX8_startStatus 21 = .ok (.ireturn, 1) := by decide +kernel
theorem dX8_startStatus_22 : decode cX8_startStatus 22 = .ok (.aload_n 0, 1) := by decide +kernel
theorem dX8_startStatus_23 : decode cX8_startStatus 23 = .ok (.getfield 19, 3) := by decide +kernel
theorem dX8_startStatus_26 : decode cX8_startStatus 26 = .ok (.invokevirtual 205, 3) := by decide +kernel
theorem dX8_startStatus_29 : decode cX8_startStatus 29 = .ok (.ifCond .eq 8, 3) := by decide +kernel
theorem dX8_startStatus_32 : decode cX8_startStatus 32 = .ok (.bipush 6, 2) := by decide +kernel
theorem dX8_startStatus_34 : decode cX8_startStatus 34 = .ok (.goto 4, 3) := by decide +kernel
theorem dX8_startStatus_37 : decode cX8_startStatus 37 = .ok (.iconst 0, 1) := by decide +kernel
theorem dX8_startStatus_38 : decode cX8_startStatus 38 = .ok (.ireturn, 1) := by decide +kernel
theorem dX8_cutStatus_0 : decode cX8_cutStatus 0 = .ok (.aload_n 0, 1) := by decide +kernel
theorem dX8_cutStatus_1 : decode cX8_cutStatus 1 = .ok (.getfield 19, 3) := by decide +kernel
theorem dX8_cutStatus_4 : decode cX8_cutStatus 4 = .ok (.iload_n 1, 1) := by decide +kernel
theorem dX8_cutStatus_5 : decode cX8_cutStatus 5 = .ok (.invokevirtual 79, 3) := by decide +kernel
theorem dX8_cutStatus_8 : decode cX8_cutStatus 8 = .ok (.ifCond .ne 5, 3) := by decide +kernel
theorem dX8_cutStatus_11 : decode cX8_cutStatus 11 = .ok (.iconst 2, 1) := by decide +kernel
theorem dX8_cutStatus_12 : decode cX8_cutStatus 12 = .ok (.ireturn, 1) := by decide +kernel
theorem dX8_cutStatus_13 : decode cX8_cutStatus 13 = .ok (.aload_n 0, 1) := by decide +kernel
theorem dX8_cutStatus_14 : decode cX8_cutStatus 14 = .ok (.getfield 19, 3) := by decide +kernel
theorem dX8_cutStatus_17 : decode cX8_cutStatus 17 = .ok (.getfield 223, 3) := by decide +kernel
theorem dX8_cutStatus_20 : decode cX8_cutStatus 20 = .ok (.iconst (-1), 1) := by decide +kernel
theorem dX8_cutStatus_21 : decode cX8_cutStatus 21 = .ok (.if_icmp .ne 8, 3) := by decide +kernel
theorem dX8_cutStatus_24 : decode cX8_cutStatus 24 = .ok (.bipush 7, 2) := by decide +kernel
theorem dX8_cutStatus_26 : decode cX8_cutStatus 26 = .ok (.goto 4, 3) := by decide +kernel
theorem dX8_cutStatus_29 : decode cX8_cutStatus 29 = .ok (.iconst 0, 1) := by decide +kernel
theorem dX8_cutStatus_30 : decode cX8_cutStatus 30 = .ok (.ireturn, 1) := by decide +kernel
theorem dX8_startOnPaper_0 : decode cX8_startOnPaper 0 = .ok (.aload_n 0, 1) := by decide +kernel
theorem dX8_startOnPaper_1 : decode cX8_startOnPaper 1 = .ok (.getfield 23, 3) := by decide +kernel
theorem dX8_startOnPaper_4 : decode cX8_startOnPaper 4 = .ok (.aload_n 0, 1) := by decide +kernel
theorem dX8_startOnPaper_5 : decode cX8_startOnPaper 5 = .ok (.getfield 19, 3) := by decide +kernel
theorem dX8_startOnPaper_8 : decode cX8_startOnPaper 8 = .ok (.invokevirtual 53, 3) := by decide +kernel
theorem dX8_startOnPaper_11 : decode cX8_startOnPaper 11 = .ok (.aload_n 0, 1) := by decide +kernel
theorem dX8_startOnPaper_12 : decode cX8_startOnPaper 12 = .ok (.getfield 23, 3) := by decide +kernel
theorem dX8_startOnPaper_15 : decode cX8_startOnPaper 15 = .ok (.iload_n 1, 1) := by decide +kernel
theorem dX8_startOnPaper_16 : decode cX8_startOnPaper 16 = .ok (.invokevirtual 192, 3) := by decide +kernel
theorem dX8_startOnPaper_19 : decode cX8_startOnPaper 19 = .ok (.return_, 1) := by decide +kernel
theorem dX8_isWithin_0 : decode cX8_isWithin 0 = .ok (.iload_n 0, 1) := by decide +kernel
theorem dX8_isWithin_1 : decode cX8_isWithin 1 = .ok (.iload_n 1, 1) := by decide +kernel
theorem dX8_isWithin_2 : decode cX8_isWithin 2 = .ok (.if_icmp .lt 12, 3) := by decide +kernel
theorem dX8_isWithin_5 : decode cX8_isWithin 5 = .ok (.iload_n 0, 1) := by decide +kernel
theorem dX8_isWithin_6 : decode cX8_isWithin 6 = .ok (.iload_n 2, 1) := by decide +kernel
theorem dX8_isWithin_7 : decode cX8_isWithin 7 = .ok (.if_icmp .gt 7, 3) := by decide +kernel
theorem dX8_isWithin_10 : decode cX8_isWithin 10 = .ok (.iconst 1, 1) := by decide +kernel
theorem dX8_isWithin_11 : decode cX8_isWithin 11 = .ok (.goto 4, 3) := by decide +kernel
theorem dX8_isWithin_14 : decode cX8_isWithin 14 = .ok (.iconst 0, 1) := by decide +kernel
theorem dX8_isWithin_15 : decode cX8_isWithin 15 = .ok (.ireturn, 1) := by decide +kernel
theorem dX8_isWatch_0 : decode cX8_isWatch 0 = .ok (.iload_n 0, 1) := by decide +kernel
theorem dX8_isWatch_1 : decode cX8_isWatch 1 = .ok (.iconst 0, 1) := by decide +kernel
theorem dX8_isWatch_2 : decode cX8_isWatch 2 = .ok (.iconst 3, 1) := by decide +kernel
theorem dX8_isWatch_3 : decode cX8_isWatch 3 = .ok (.invokestatic 69, 3) := by decide +kernel
theorem dX8_isWatch_6 : decode cX8_isWatch 6 = .ok (.ireturn, 1) := by decide +kernel
theorem dX8_wireOf_0 : decode cX8_wireOf 0 = .ok (.iload_n 0, 1) := by decide +kernel
theorem dX8_wireOf_1 : decode cX8_wireOf 1 = .ok (.bipush 8, 2) := by decide +kernel
theorem dX8_wireOf_3 : decode cX8_wireOf 3 = .ok (.imul, 1) := by decide +kernel
theorem dX8_wireOf_4 : decode cX8_wireOf 4 = .ok (.iload_n 1, 1) := by decide +kernel
theorem dX8_wireOf_5 : decode cX8_wireOf 5 = .ok (.iadd, 1) := by decide +kernel
theorem dX8_wireOf_6 : decode cX8_wireOf 6 = .ok (.ireturn, 1) := by decide +kernel
theorem dX8_flag_0 : decode cX8_flag 0 = .ok (.iload_n 0, 1) := by decide +kernel
theorem dX8_flag_1 : decode cX8_flag 1 = .ok (.ifCond .eq 7, 3) := by decide +kernel
theorem dX8_flag_4 : decode cX8_flag 4 = .ok (.iconst 1, 1) := by decide +kernel
theorem dX8_flag_5 : decode cX8_flag 5 = .ok (.goto 4, 3) := by decide +kernel
theorem dX8_flag_8 : decode cX8_flag 8 = .ok (.iconst 0, 1) := by decide +kernel
theorem dX8_flag_9 : decode cX8_flag 9 = .ok (.ireturn, 1) := by decide +kernel
theorem dJ13_bitCount_95d88_0 : decode cJ13_bitCount_95d88 0 = .ok (.lload_n 0, 1) := by decide +kernel
theorem dJ13_bitCount_95d88_1 : decode cJ13_bitCount_95d88 1 = .ok (.lload_n 0, 1) := by decide +kernel
theorem dJ13_bitCount_95d88_2 : decode cJ13_bitCount_95d88 2 = .ok (.iconst 1, 1) := by decide +kernel
theorem dJ13_bitCount_95d88_3 : decode cJ13_bitCount_95d88 3 = .ok (.lushr, 1) := by decide +kernel
theorem dJ13_bitCount_95d88_4 : decode cJ13_bitCount_95d88 4 = .ok (.ldc2_w 314, 3) := by decide +kernel
theorem dJ13_bitCount_95d88_7 : decode cJ13_bitCount_95d88 7 = .ok (.land, 1) := by decide +kernel
theorem dJ13_bitCount_95d88_8 : decode cJ13_bitCount_95d88 8 = .ok (.lsub, 1) := by decide +kernel
theorem dJ13_bitCount_95d88_9 : decode cJ13_bitCount_95d88 9 = .ok (.lstore_n 0, 1) := by decide +kernel
theorem dJ13_bitCount_95d88_10 : decode cJ13_bitCount_95d88 10 = .ok (.lload_n 0, 1) := by decide +kernel
theorem dJ13_bitCount_95d88_11 : decode cJ13_bitCount_95d88 11 = .ok (.ldc2_w 316, 3) := by decide +kernel
theorem dJ13_bitCount_95d88_14 : decode cJ13_bitCount_95d88 14 = .ok (.land, 1) := by decide +kernel
theorem dJ13_bitCount_95d88_15 : decode cJ13_bitCount_95d88 15 = .ok (.lload_n 0, 1) := by decide +kernel
theorem dJ13_bitCount_95d88_16 : decode cJ13_bitCount_95d88 16 = .ok (.iconst 2, 1) := by decide +kernel
theorem dJ13_bitCount_95d88_17 : decode cJ13_bitCount_95d88 17 = .ok (.lushr, 1) := by decide +kernel
theorem dJ13_bitCount_95d88_18 : decode cJ13_bitCount_95d88 18 = .ok (.ldc2_w 316, 3) := by decide +kernel
theorem dJ13_bitCount_95d88_21 : decode cJ13_bitCount_95d88 21 = .ok (.land, 1) := by decide +kernel
theorem dJ13_bitCount_95d88_22 : decode cJ13_bitCount_95d88 22 = .ok (.ladd, 1) := by decide +kernel
theorem dJ13_bitCount_95d88_23 : decode cJ13_bitCount_95d88 23 = .ok (.lstore_n 0, 1) := by decide +kernel
theorem dJ13_bitCount_95d88_24 : decode cJ13_bitCount_95d88 24 = .ok (.lload_n 0, 1) := by decide +kernel
theorem dJ13_bitCount_95d88_25 : decode cJ13_bitCount_95d88 25 = .ok (.lload_n 0, 1) := by decide +kernel
theorem dJ13_bitCount_95d88_26 : decode cJ13_bitCount_95d88 26 = .ok (.iconst 4, 1) := by decide +kernel
theorem dJ13_bitCount_95d88_27 : decode cJ13_bitCount_95d88 27 = .ok (.lushr, 1) := by decide +kernel
theorem dJ13_bitCount_95d88_28 : decode cJ13_bitCount_95d88 28 = .ok (.ladd, 1) := by decide +kernel
theorem dJ13_bitCount_95d88_29 : decode cJ13_bitCount_95d88 29 = .ok (.ldc2_w 318, 3) := by decide +kernel
theorem dJ13_bitCount_95d88_32 : decode cJ13_bitCount_95d88 32 = .ok (.land, 1) := by decide +kernel
theorem dJ13_bitCount_95d88_33 : decode cJ13_bitCount_95d88 33 = .ok (.lstore_n 0, 1) := by decide +kernel
theorem dJ13_bitCount_95d88_34 : decode cJ13_bitCount_95d88 34 = .ok (.lload_n 0, 1) := by decide +kernel
theorem dJ13_bitCount_95d88_35 : decode cJ13_bitCount_95d88 35 = .ok (.lload_n 0, 1) := by decide +kernel
theorem dJ13_bitCount_95d88_36 : decode cJ13_bitCount_95d88 36 = .ok (.bipush 8, 2) := by decide +kernel
theorem dJ13_bitCount_95d88_38 : decode cJ13_bitCount_95d88 38 = .ok (.lushr, 1) := by decide +kernel
theorem dJ13_bitCount_95d88_39 : decode cJ13_bitCount_95d88 39 = .ok (.ladd, 1) := by decide +kernel
theorem dJ13_bitCount_95d88_40 : decode cJ13_bitCount_95d88 40 = .ok (.lstore_n 0, 1) := by decide +kernel
theorem dJ13_bitCount_95d88_41 : decode cJ13_bitCount_95d88 41 = .ok (.lload_n 0, 1) := by decide +kernel
theorem dJ13_bitCount_95d88_42 : decode cJ13_bitCount_95d88 42 = .ok (.lload_n 0, 1) := by decide +kernel
theorem dJ13_bitCount_95d88_43 : decode cJ13_bitCount_95d88 43 = .ok (.bipush 16, 2) := by decide +kernel
theorem dJ13_bitCount_95d88_45 : decode cJ13_bitCount_95d88 45 = .ok (.lushr, 1) := by decide +kernel
theorem dJ13_bitCount_95d88_46 : decode cJ13_bitCount_95d88 46 = .ok (.ladd, 1) := by decide +kernel
theorem dJ13_bitCount_95d88_47 : decode cJ13_bitCount_95d88 47 = .ok (.lstore_n 0, 1) := by decide +kernel
theorem dJ13_bitCount_95d88_48 : decode cJ13_bitCount_95d88 48 = .ok (.lload_n 0, 1) := by decide +kernel
theorem dJ13_bitCount_95d88_49 : decode cJ13_bitCount_95d88 49 = .ok (.lload_n 0, 1) := by decide +kernel
theorem dJ13_bitCount_95d88_50 : decode cJ13_bitCount_95d88 50 = .ok (.bipush 32, 2) := by decide +kernel
theorem dJ13_bitCount_95d88_52 : decode cJ13_bitCount_95d88 52 = .ok (.lushr, 1) := by decide +kernel
theorem dJ13_bitCount_95d88_53 : decode cJ13_bitCount_95d88 53 = .ok (.ladd, 1) := by decide +kernel
theorem dJ13_bitCount_95d88_54 : decode cJ13_bitCount_95d88 54 = .ok (.lstore_n 0, 1) := by decide +kernel
theorem dJ13_bitCount_95d88_55 : decode cJ13_bitCount_95d88 55 = .ok (.lload_n 0, 1) := by decide +kernel
theorem dJ13_bitCount_95d88_56 : decode cJ13_bitCount_95d88 56 = .ok (.l2i, 1) := by decide +kernel
theorem dJ13_bitCount_95d88_57 : decode cJ13_bitCount_95d88 57 = .ok (.bipush 127, 2) := by decide +kernel
theorem dJ13_bitCount_95d88_59 : decode cJ13_bitCount_95d88 59 = .ok (.iand, 1) := by decide +kernel
theorem dJ13_bitCount_95d88_60 : decode cJ13_bitCount_95d88 60 = .ok (.ireturn, 1) := by decide +kernel
theorem dJ9_max_7cf53_0 : decode cJ9_max_7cf53 0 = .ok (.iload_n 0, 1) := by decide +kernel
theorem dJ9_max_7cf53_1 : decode cJ9_max_7cf53 1 = .ok (.iload_n 1, 1) := by decide +kernel
theorem dJ9_max_7cf53_2 : decode cJ9_max_7cf53 2 = .ok (.if_icmp .lt 7, 3) := by decide +kernel
theorem dJ9_max_7cf53_5 : decode cJ9_max_7cf53 5 = .ok (.iload_n 0, 1) := by decide +kernel
theorem dJ9_max_7cf53_6 : decode cJ9_max_7cf53 6 = .ok (.goto 4, 3) := by decide +kernel
theorem dJ9_max_7cf53_9 : decode cJ9_max_7cf53 9 = .ok (.iload_n 1, 1) := by decide +kernel
theorem dJ9_max_7cf53_10 : decode cJ9_max_7cf53 10 = .ok (.ireturn, 1) := by decide +kernel
theorem dJ9_min_7cf53_0 : decode cJ9_min_7cf53 0 = .ok (.iload_n 0, 1) := by decide +kernel
theorem dJ9_min_7cf53_1 : decode cJ9_min_7cf53 1 = .ok (.iload_n 1, 1) := by decide +kernel
theorem dJ9_min_7cf53_2 : decode cJ9_min_7cf53 2 = .ok (.if_icmp .gt 7, 3) := by decide +kernel
theorem dJ9_min_7cf53_5 : decode cJ9_min_7cf53 5 = .ok (.iload_n 0, 1) := by decide +kernel
theorem dJ9_min_7cf53_6 : decode cJ9_min_7cf53 6 = .ok (.goto 4, 3) := by decide +kernel
theorem dJ9_min_7cf53_9 : decode cJ9_min_7cf53 9 = .ok (.iload_n 1, 1) := by decide +kernel
theorem dJ9_min_7cf53_10 : decode cJ9_min_7cf53 10 = .ok (.ireturn, 1) := by decide +kernel
theorem dJ0_length_8abf5_0 : decode cJ0_length_8abf5 0 = .ok (.aload_n 0, 1) := by decide +kernel
theorem dJ0_length_8abf5_1 : decode cJ0_length_8abf5 1 = .ok (.getfield 9, 3) := by decide +kernel
theorem dJ0_length_8abf5_4 : decode cJ0_length_8abf5 4 = .ok (.arraylength, 1) := by decide +kernel
theorem dJ0_length_8abf5_5 : decode cJ0_length_8abf5 5 = .ok (.aload_n 0, 1) := by decide +kernel
theorem dJ0_length_8abf5_6 : decode cJ0_length_8abf5 6 = .ok (.invokevirtual 335, 3) := by decide +kernel
theorem dJ0_length_8abf5_9 : decode cJ0_length_8abf5 9 = .ok (.ishr, 1) := by decide +kernel
theorem dJ0_length_8abf5_10 : decode cJ0_length_8abf5 10 = .ok (.ireturn, 1) := by decide +kernel
theorem dJ0_charAt_5068e_0 : decode cJ0_charAt_5068e 0 = .ok (.aload_n 0, 1) := by decide +kernel
theorem dJ0_charAt_5068e_1 : decode cJ0_charAt_5068e 1 = .ok (.invokevirtual 492, 3) := by decide +kernel
theorem dJ0_charAt_5068e_4 : decode cJ0_charAt_5068e 4 = .ok (.ifCond .eq 12, 3) := by decide +kernel
theorem dJ0_charAt_5068e_7 : decode cJ0_charAt_5068e 7 = .ok (.aload_n 0, 1) := by decide +kernel
theorem dJ0_charAt_5068e_8 : decode cJ0_charAt_5068e 8 = .ok (.getfield 9, 3) := by decide +kernel
theorem dJ0_charAt_5068e_11 : decode cJ0_charAt_5068e 11 = .ok (.iload_n 1, 1) := by decide +kernel
theorem dJ0_charAt_5068e_12 : decode cJ0_charAt_5068e 12 = .ok (.invokestatic 495, 3) := by decide +kernel
theorem dJ0_charAt_5068e_15 : decode cJ0_charAt_5068e 15 = .ok (.ireturn, 1) := by decide +kernel
theorem dJ0_charAt_5068e_16 : decode cJ0_charAt_5068e 16 = .ok (.aload_n 0, 1) := by decide +kernel
theorem dJ0_charAt_5068e_17 : decode cJ0_charAt_5068e 17 = .ok (.getfield 9, 3) := by decide +kernel
theorem dJ0_charAt_5068e_20 : decode cJ0_charAt_5068e 20 = .ok (.iload_n 1, 1) := by decide +kernel
theorem dJ0_charAt_5068e_21 : decode cJ0_charAt_5068e 21 = .ok (.invokestatic 498, 3) := by decide +kernel
theorem dJ0_charAt_5068e_24 : decode cJ0_charAt_5068e 24 = .ok (.ireturn, 1) := by decide +kernel
theorem dJ0_coder_7d493_0 : decode cJ0_coder_7d493 0 = .ok (.getstatic 38, 3) := by decide +kernel
theorem dJ0_coder_7d493_3 : decode cJ0_coder_7d493 3 = .ok (.ifCond .eq 10, 3) := by decide +kernel
theorem dJ0_coder_7d493_6 : decode cJ0_coder_7d493 6 = .ok (.aload_n 0, 1) := by decide +kernel
theorem dJ0_coder_7d493_7 : decode cJ0_coder_7d493 7 = .ok (.getfield 15, 3) := by decide +kernel
theorem dJ0_coder_7d493_10 : decode cJ0_coder_7d493 10 = .ok (.goto 4, 3) := by decide +kernel
theorem dJ0_coder_7d493_13 : decode cJ0_coder_7d493 13 = .ok (.iconst 1, 1) := by decide +kernel
theorem dJ0_coder_7d493_14 : decode cJ0_coder_7d493 14 = .ok (.ireturn, 1) := by decide +kernel
theorem dJ0_isLatin1_aae02_0 : decode cJ0_isLatin1_aae02 0 = .ok (.getstatic 38, 3) := by decide +kernel
theorem dJ0_isLatin1_aae02_3 : decode cJ0_isLatin1_aae02 3 = .ok (.ifCond .eq 14, 3) := by decide +kernel
theorem dJ0_isLatin1_aae02_6 : decode cJ0_isLatin1_aae02 6 = .ok (.aload_n 0, 1) := by decide +kernel
theorem dJ0_isLatin1_aae02_7 : decode cJ0_isLatin1_aae02 7 = .ok (.getfield 15, 3) := by decide +kernel
theorem dJ0_isLatin1_aae02_10 : decode cJ0_isLatin1_aae02 10 = .ok (.ifCond .ne 7, 3) := by decide +kernel
theorem dJ0_isLatin1_aae02_13 : decode cJ0_isLatin1_aae02 13 = .ok (.iconst 1, 1) := by decide +kernel
theorem dJ0_isLatin1_aae02_14 : decode cJ0_isLatin1_aae02 14 = .ok (.goto 4, 3) := by decide +kernel
theorem dJ0_isLatin1_aae02_17 : decode cJ0_isLatin1_aae02 17 = .ok (.iconst 0, 1) := by decide +kernel
theorem dJ0_isLatin1_aae02_18 : decode cJ0_isLatin1_aae02 18 = .ok (.ireturn, 1) := by decide +kernel
theorem dJ0_checkIndex_df160_0 : decode cJ0_checkIndex_df160 0 = .ok (.iload_n 0, 1) := by decide +kernel
theorem dJ0_checkIndex_df160_1 : decode cJ0_checkIndex_df160 1 = .ok (.iload_n 1, 1) := by decide +kernel
theorem dJ0_checkIndex_df160_2 : decode cJ0_checkIndex_df160 2 = .ok (.getstatic 1053, 3) := by decide +kernel
theorem dJ0_checkIndex_df160_5 : decode cJ0_checkIndex_df160 5 = .ok (.invokestatic 1059, 3) := by decide +kernel
theorem dJ0_checkIndex_df160_8 : decode cJ0_checkIndex_df160 8 = .ok (.pop, 1) := by decide +kernel
theorem dJ0_checkIndex_df160_9 : decode cJ0_checkIndex_df160 9 = .ok (.return_, 1) := by decide +kernel
theorem dJ1_charAt_3b067_0 : decode cJ1_charAt_3b067 0 = .ok (.iload_n 1, 1) := by decide +kernel
theorem dJ1_charAt_3b067_1 : decode cJ1_charAt_3b067 1 = .ok (.aload_n 0, 1) := by decide +kernel
theorem dJ1_charAt_3b067_2 : decode cJ1_charAt_3b067 2 = .ok (.arraylength, 1) := by decide +kernel
theorem dJ1_charAt_3b067_3 : decode cJ1_charAt_3b067 3 = .ok (.invokestatic 9, 3) := by decide +kernel
theorem dJ1_charAt_3b067_6 : decode cJ1_charAt_3b067 6 = .ok (.aload_n 0, 1) := by decide +kernel
theorem dJ1_charAt_3b067_7 : decode cJ1_charAt_3b067 7 = .ok (.iload_n 1, 1) := by decide +kernel
theorem dJ1_charAt_3b067_8 : decode cJ1_charAt_3b067 8 = .ok (.baload, 1) := by decide +kernel
theorem dJ1_charAt_3b067_9 : decode cJ1_charAt_3b067 9 = .ok (.sipush 255, 3) := by decide +kernel
theorem dJ1_charAt_3b067_12 : decode cJ1_charAt_3b067 12 = .ok (.iand, 1) := by decide +kernel
theorem dJ1_charAt_3b067_13 : decode cJ1_charAt_3b067 13 = .ok (.i2c, 1) := by decide +kernel
theorem dJ1_charAt_3b067_14 : decode cJ1_charAt_3b067 14 = .ok (.ireturn, 1) := by decide +kernel
theorem dJ2_getChar_3b067_0 : decode cJ2_getChar_3b067 0 = .ok (.getstatic 44, 3) := by decide +kernel
theorem dJ2_getChar_3b067_3 : decode cJ2_getChar_3b067 3 = .ok (.ifCond .ne 25, 3) := by decide +kernel
theorem dJ2_getChar_3b067_6 : decode cJ2_getChar_3b067 6 = .ok (.iload_n 1, 1) := by decide +kernel
theorem dJ2_getChar_3b067_7 : decode cJ2_getChar_3b067 7 = .ok (.ifCond .lt 11, 3) := by decide +kernel
theorem dJ2_getChar_3b067_10 : decode cJ2_getChar_3b067 10 = .ok (.iload_n 1, 1) := by decide +kernel
theorem dJ2_getChar_3b067_11 : decode cJ2_getChar_3b067 11 = .ok (.aload_n 0, 1) := by decide +kernel
theorem dJ2_getChar_3b067_12 : decode cJ2_getChar_3b067 12 = .ok (.invokestatic 48, 3) := by decide +kernel
theorem dJ2_getChar_3b067_15 : decode cJ2_getChar_3b067 15 = .ok (.if_icmp .lt 13, 3) := by decide +kernel
theorem dJ2_getChar_3b067_18 : decode cJ2_getChar_3b067 18 = .ok (.new 52, 3) := by decide +kernel
theorem dJ2_getChar_3b067_21 : decode cJ2_getChar_3b067 21 = .ok (.dup, 1) := by decide +kernel
theorem dJ2_getChar_3b067_22 : decode cJ2_getChar_3b067 22 = .ok (.ldc 54, 2) := by decide +kernel
theorem dJ2_getChar_3b067_24 : decode cJ2_getChar_3b067 24 = .ok (.invokespecial 56, 3) := by decide +kernel
theorem dJ2_getChar_3b067_27 : decode cJ2_getChar_3b067 27 = .ok (.athrow, 1) := by decide +kernel
theorem dJ2_getChar_3b067_28 : decode cJ2_getChar_3b067 28 = .ok (.iload_n 1, 1) := by decide +kernel
theorem dJ2_getChar_3b067_29 : decode cJ2_getChar_3b067 29 = .ok (.iconst 1, 1) := by decide +kernel
theorem dJ2_getChar_3b067_30 : decode cJ2_getChar_3b067 30 = .ok (.ishl, 1) := by decide +kernel
theorem dJ2_getChar_3b067_31 : decode cJ2_getChar_3b067 31 = .ok (.istore_n 1, 1) := by decide +kernel
theorem dJ2_getChar_3b067_32 : decode cJ2_getChar_3b067 32 = .ok (.aload_n 0, 1) := by decide +kernel
theorem dJ2_getChar_3b067_33 : decode cJ2_getChar_3b067 33 = .ok (.iload_n 1, 1) := by decide +kernel
theorem dJ2_getChar_3b067_34 : decode cJ2_getChar_3b067 34 = .ok (.iinc 1 1, 3) := by decide +kernel
theorem dJ2_getChar_3b067_37 : decode cJ2_getChar_3b067 37 = .ok (.baload, 1) := by decide +kernel
theorem dJ2_getChar_3b067_38 : decode cJ2_getChar_3b067 38 = .ok (.sipush 255, 3) := by decide +kernel
theorem dJ2_getChar_3b067_41 : decode cJ2_getChar_3b067 41 = .ok (.iand, 1) := by decide +kernel
theorem dJ2_getChar_3b067_42 : decode cJ2_getChar_3b067 42 = .ok (.getstatic 59, 3) := by decide +kernel
theorem dJ2_getChar_3b067_45 : decode cJ2_getChar_3b067 45 = .ok (.ishl, 1) := by decide +kernel
theorem dJ2_getChar_3b067_46 : decode cJ2_getChar_3b067 46 = .ok (.aload_n 0, 1) := by decide +kernel
theorem dJ2_getChar_3b067_47 : decode cJ2_getChar_3b067 47 = .ok (.iload_n 1, 1) := by decide +kernel
theorem dJ2_getChar_3b067_48 : decode cJ2_getChar_3b067 48 = .ok (.baload, 1) := by decide +kernel
theorem dJ2_getChar_3b067_49 : decode cJ2_getChar_3b067 49 = .ok (.sipush 255, 3) := by decide +kernel
theorem dJ2_getChar_3b067_52 : decode cJ2_getChar_3b067 52 = .ok (.iand, 1) := by decide +kernel
theorem dJ2_getChar_3b067_53 : decode cJ2_getChar_3b067 53 = .ok (.getstatic 63, 3) := by decide +kernel
theorem dJ2_getChar_3b067_56 : decode cJ2_getChar_3b067 56 = .ok (.ishl, 1) := by decide +kernel
theorem dJ2_getChar_3b067_57 : decode cJ2_getChar_3b067 57 = .ok (.ior, 1) := by decide +kernel
theorem dJ2_getChar_3b067_58 : decode cJ2_getChar_3b067 58 = .ok (.i2c, 1) := by decide +kernel
theorem dJ2_getChar_3b067_59 : decode cJ2_getChar_3b067 59 = .ok (.ireturn, 1) := by decide +kernel
theorem dJ2_length_9d52b_0 : decode cJ2_length_9d52b 0 = .ok (.aload_n 0, 1) := by decide +kernel
theorem dJ2_length_9d52b_1 : decode cJ2_length_9d52b 1 = .ok (.arraylength, 1) := by decide +kernel
theorem dJ2_length_9d52b_2 : decode cJ2_length_9d52b 2 = .ok (.iconst 1, 1) := by decide +kernel
theorem dJ2_length_9d52b_3 : decode cJ2_length_9d52b 3 = .ok (.ishr, 1) := by decide +kernel
theorem dJ2_length_9d52b_4 : decode cJ2_length_9d52b 4 = .ok (.ireturn, 1) := by decide +kernel
theorem dJ2_charAt_3b067_0 : decode cJ2_charAt_3b067 0 = .ok (.iload_n 1, 1) := by decide +kernel
theorem dJ2_charAt_3b067_1 : decode cJ2_charAt_3b067 1 = .ok (.aload_n 0, 1) := by decide +kernel
theorem dJ2_charAt_3b067_2 : decode cJ2_charAt_3b067 2 = .ok (.invokestatic 67, 3) := by decide +kernel
theorem dJ2_charAt_3b067_5 : decode cJ2_charAt_3b067 5 = .ok (.aload_n 0, 1) := by decide +kernel
theorem dJ2_charAt_3b067_6 : decode cJ2_charAt_3b067 6 = .ok (.iload_n 1, 1) := by decide +kernel
theorem dJ2_charAt_3b067_7 : decode cJ2_charAt_3b067 7 = .ok (.invokestatic 71, 3) := by decide +kernel
theorem dJ2_charAt_3b067_10 : decode cJ2_charAt_3b067 10 = .ok (.ireturn, 1) := by decide +kernel
theorem dJ2_checkIndex_2214a_0 : decode cJ2_checkIndex_2214a 0 = .ok (.iload_n 0, 1) := by decide +kernel
theorem dJ2_checkIndex_2214a_1 : decode cJ2_checkIndex_2214a 1 = .ok (.aload_n 1, 1) := by decide +kernel
theorem dJ2_checkIndex_2214a_2 : decode cJ2_checkIndex_2214a 2 = .ok (.invokestatic 48, 3) := by decide +kernel
theorem dJ2_checkIndex_2214a_5 : decode cJ2_checkIndex_2214a 5 = .ok (.invokestatic 414, 3) := by decide +kernel
theorem dJ2_checkIndex_2214a_8 : decode cJ2_checkIndex_2214a 8 = .ok (.return_, 1) := by decide +kernel
theorem dJ7_fill_53178_0 : decode cJ7_fill_53178 0 = .ok (.iconst 0, 1) := by decide +kernel
theorem dJ7_fill_53178_1 : decode cJ7_fill_53178 1 = .ok (.istore_n 2, 1) := by decide +kernel
theorem dJ7_fill_53178_2 : decode cJ7_fill_53178 2 = .ok (.aload_n 0, 1) := by decide +kernel
theorem dJ7_fill_53178_3 : decode cJ7_fill_53178 3 = .ok (.arraylength, 1) := by decide +kernel
theorem dJ7_fill_53178_4 : decode cJ7_fill_53178 4 = .ok (.istore_n 3, 1) := by decide +kernel
theorem dJ7_fill_53178_5 : decode cJ7_fill_53178 5 = .ok (.iload_n 2, 1) := by decide +kernel
theorem dJ7_fill_53178_6 : decode cJ7_fill_53178 6 = .ok (.iload_n 3, 1) := by decide +kernel
theorem dJ7_fill_53178_7 : decode cJ7_fill_53178 7 = .ok (.if_icmp .ge 13, 3) := by decide +kernel
theorem dJ7_fill_53178_10 : decode cJ7_fill_53178 10 = .ok (.aload_n 0, 1) := by decide +kernel
theorem dJ7_fill_53178_11 : decode cJ7_fill_53178 11 = .ok (.iload_n 2, 1) := by decide +kernel
theorem dJ7_fill_53178_12 : decode cJ7_fill_53178 12 = .ok (.iload_n 1, 1) := by decide +kernel
theorem dJ7_fill_53178_13 : decode cJ7_fill_53178 13 = .ok (.iastore, 1) := by decide +kernel
theorem dJ7_fill_53178_14 : decode cJ7_fill_53178 14 = .ok (.iinc 2 1, 3) := by decide +kernel
theorem dJ7_fill_53178_17 : decode cJ7_fill_53178 17 = .ok (.goto (-12), 3) := by decide +kernel
theorem dJ7_fill_53178_20 : decode cJ7_fill_53178 20 = .ok (.return_, 1) := by decide +kernel
theorem dJ7_copyOf_59c91_0 : decode cJ7_copyOf_59c91 0 = .ok (.iload_n 1, 1) := by decide +kernel
theorem dJ7_copyOf_59c91_1 : decode cJ7_copyOf_59c91 1 = .ok (.aload_n 0, 1) := by decide +kernel
theorem dJ7_copyOf_59c91_2 : decode cJ7_copyOf_59c91 2 = .ok (.arraylength, 1) := by decide +kernel
theorem dJ7_copyOf_59c91_3 : decode cJ7_copyOf_59c91 3 = .ok (.if_icmp .ne 11, 3) := by decide +kernel
theorem dJ7_copyOf_59c91_6 : decode cJ7_copyOf_59c91 6 = .ok (.aload_n 0, 1) := by decide +kernel
theorem dJ7_copyOf_59c91_7 : decode cJ7_copyOf_59c91 7 = .ok (.invokevirtual 316, 3) := by decide +kernel
theorem dJ7_copyOf_59c91_10 : decode cJ7_copyOf_59c91 10 = .ok (.checkcast 317, 3) := by decide +kernel
theorem dJ7_copyOf_59c91_13 : decode cJ7_copyOf_59c91 13 = .ok (.areturn, 1) := by decide +kernel
theorem dJ7_copyOf_59c91_14 : decode cJ7_copyOf_59c91 14 = .ok (.iload_n 1, 1) := by decide +kernel
theorem dJ7_copyOf_59c91_15 : decode cJ7_copyOf_59c91 15 = .ok (.newarray .int, 2) := by decide +kernel
theorem dJ7_copyOf_59c91_17 : decode cJ7_copyOf_59c91 17 = .ok (.astore_n 2, 1) := by decide +kernel
theorem dJ7_copyOf_59c91_18 : decode cJ7_copyOf_59c91 18 = .ok (.aload_n 0, 1) := by decide +kernel
theorem dJ7_copyOf_59c91_19 : decode cJ7_copyOf_59c91 19 = .ok (.iconst 0, 1) := by decide +kernel
theorem dJ7_copyOf_59c91_20 : decode cJ7_copyOf_59c91 20 = .ok (.aload_n 2, 1) := by decide +kernel
theorem dJ7_copyOf_59c91_21 : decode cJ7_copyOf_59c91 21 = .ok (.iconst 0, 1) := by decide +kernel
theorem dJ7_copyOf_59c91_22 : decode cJ7_copyOf_59c91 22 = .ok (.aload_n 0, 1) := by decide +kernel
theorem dJ7_copyOf_59c91_23 : decode cJ7_copyOf_59c91 23 = .ok (.arraylength, 1) := by decide +kernel
theorem dJ7_copyOf_59c91_24 : decode cJ7_copyOf_59c91 24 = .ok (.iload_n 1, 1) := by decide +kernel
theorem dJ7_copyOf_59c91_25 : decode cJ7_copyOf_59c91 25 = .ok (.invokestatic 304, 3) := by decide +kernel
theorem dJ7_copyOf_59c91_28 : decode cJ7_copyOf_59c91 28 = .ok (.invokestatic 150, 3) := by decide +kernel
theorem dJ7_copyOf_59c91_31 : decode cJ7_copyOf_59c91 31 = .ok (.aload_n 2, 1) := by decide +kernel
theorem dJ7_copyOf_59c91_32 : decode cJ7_copyOf_59c91 32 = .ok (.areturn, 1) := by decide +kernel
theorem dJ3_checkIndex_8e157_0 : decode cJ3_checkIndex_8e157 0 = .ok (.iload_n 0, 1) := by decide +kernel
theorem dJ3_checkIndex_8e157_1 : decode cJ3_checkIndex_8e157 1 = .ok (.ifCond .lt 8, 3) := by decide +kernel
theorem dJ3_checkIndex_8e157_4 : decode cJ3_checkIndex_8e157 4 = .ok (.iload_n 0, 1) := by decide +kernel
theorem dJ3_checkIndex_8e157_5 : decode cJ3_checkIndex_8e157 5 = .ok (.iload_n 1, 1) := by decide +kernel
theorem dJ3_checkIndex_8e157_6 : decode cJ3_checkIndex_8e157 6 = .ok (.if_icmp .lt 10, 3) := by decide +kernel
theorem dJ3_checkIndex_8e157_9 : decode cJ3_checkIndex_8e157 9 = .ok (.aload_n 2, 1) := by decide +kernel
theorem dJ3_checkIndex_8e157_10 : decode cJ3_checkIndex_8e157 10 = .ok (.iload_n 0, 1) := by decide +kernel
theorem dJ3_checkIndex_8e157_11 : decode cJ3_checkIndex_8e157 11 = .ok (.iload_n 1, 1) := by decide +kernel
theorem dJ3_checkIndex_8e157_12 : decode cJ3_checkIndex_8e157 12 = .ok (.invokestatic 95, 3) := by decide +kernel
theorem dJ3_checkIndex_8e157_15 : decode cJ3_checkIndex_8e157 15 = .ok (.athrow, 1) := by decide +kernel
theorem dJ3_checkIndex_8e157_16 : decode cJ3_checkIndex_8e157 16 = .ok (.iload_n 0, 1) := by decide +kernel
theorem dJ3_checkIndex_8e157_17 : decode cJ3_checkIndex_8e157 17 = .ok (.ireturn, 1) := by decide +kernel
theorem dL_law_0 : decode cL_law 0 = .ok (.new 7, 3) := by decide +kernel
theorem dL_law_3 : decode cL_law 3 = .ok (.dup, 1) := by decide +kernel
theorem dL_law_4 : decode cL_law 4 = .ok (.invokespecial 9, 3) := by decide +kernel
theorem dL_law_7 : decode cL_law 7 = .ok (.astore_n 1, 1) := by decide +kernel
theorem dL_law_8 : decode cL_law 8 = .ok (.new 10, 3) := by decide +kernel
theorem dL_law_11 : decode cL_law 11 = .ok (.dup, 1) := by decide +kernel
theorem dL_law_12 : decode cL_law 12 = .ok (.invokespecial 12, 3) := by decide +kernel
theorem dL_law_15 : decode cL_law 15 = .ok (.astore_n 2, 1) := by decide +kernel
theorem dL_law_16 : decode cL_law 16 = .ok (.iconst 0, 1) := by decide +kernel
theorem dL_law_17 : decode cL_law 17 = .ok (.istore_n 3, 1) := by decide +kernel
theorem dL_law_18 : decode cL_law 18 = .ok (.iload_n 3, 1) := by decide +kernel
theorem dL_law_19 : decode cL_law 19 = .ok (.aload_n 0, 1) := by decide +kernel
theorem dL_law_20 : decode cL_law 20 = .ok (.arraylength, 1) := by decide +kernel
theorem dL_law_21 : decode cL_law 21 = .ok (.bipush 6, 2) := by decide +kernel
theorem dL_law_23 : decode cL_law 23 = .ok (.isub, 1) := by decide +kernel
theorem dL_law_24 : decode cL_law 24 = .ok (.if_icmp .gt 1229, 3) := by decide +kernel
theorem dL_law_27 : decode cL_law 27 = .ok (.aload_n 0, 1) := by decide +kernel
theorem dL_law_28 : decode cL_law 28 = .ok (.iload_n 3, 1) := by decide +kernel
theorem dL_law_29 : decode cL_law 29 = .ok (.iaload, 1) := by decide +kernel
theorem dL_law_30 : decode cL_law 30 = .ok (.bipush 63, 2) := by decide +kernel
theorem dL_law_32 : decode cL_law 32 = .ok (.iand, 1) := by decide +kernel
theorem dL_law_33 : decode cL_law 33 = .ok (.tableswitch 1214 0 36 #[163, 176, 239, 262, 285, 308, 341, 374, 407, 440, 473, 496, 519, 542, 565, 588, 631, 654, 687, 720, 743, 796, 819, 862, 875, 908, 931, 954, 967, 980, 993, 1016, 1039, 1082, 1145, 1178, 1201], 163) := by decide +kernel
theorem dL_law_196 : decode cL_law 196 = .ok (.aload_n 1, 1) := by decide +kernel
theorem dL_law_197 : decode cL_law 197 = .ok (.invokevirtual 13, 3) := by decide +kernel
theorem dL_law_200 : decode cL_law 200 = .ok (.aload_n 2, 1) := by decide +kernel
theorem dL_law_201 : decode cL_law 201 = .ok (.invokevirtual 17, 3) := by decide +kernel
theorem dL_law_204 : decode cL_law 204 = .ok (.if_icmp .eq 1043, 3) := by decide +kernel
theorem dL_law_207 : decode cL_law 207 = .ok (.iconst 0, 1) := by decide +kernel
theorem dL_law_208 : decode cL_law 208 = .ok (.ireturn, 1) := by decide +kernel
theorem dL_law_209 : decode cL_law 209 = .ok (.aload_n 1, 1) := by decide +kernel
theorem dL_law_210 : decode cL_law 210 = .ok (.aload_n 0, 1) := by decide +kernel
theorem dL_law_211 : decode cL_law 211 = .ok (.iload_n 3, 1) := by decide +kernel
theorem dL_law_212 : decode cL_law 212 = .ok (.iconst 1, 1) := by decide +kernel
theorem dL_law_213 : decode cL_law 213 = .ok (.iadd, 1) := by decide +kernel
theorem dL_law_214 : decode cL_law 214 = .ok (.iaload, 1) := by decide +kernel
theorem dL_law_215 : decode cL_law 215 = .ok (.aload_n 0, 1) := by decide +kernel
theorem dL_law_216 : decode cL_law 216 = .ok (.iload_n 3, 1) := by decide +kernel
theorem dL_law_217 : decode cL_law 217 = .ok (.iconst 2, 1) := by decide +kernel
theorem dL_law_218 : decode cL_law 218 = .ok (.iadd, 1) := by decide +kernel
theorem dL_law_219 : decode cL_law 219 = .ok (.iaload, 1) := by decide +kernel
theorem dL_law_220 : decode cL_law 220 = .ok (.aload_n 0, 1) := by decide +kernel
theorem dL_law_221 : decode cL_law 221 = .ok (.iload_n 3, 1) := by decide +kernel
theorem dL_law_222 : decode cL_law 222 = .ok (.iconst 3, 1) := by decide +kernel
theorem dL_law_223 : decode cL_law 223 = .ok (.iadd, 1) := by decide +kernel
theorem dL_law_224 : decode cL_law 224 = .ok (.iaload, 1) := by decide +kernel
theorem dL_law_225 : decode cL_law 225 = .ok (.aload_n 0, 1) := by decide +kernel
theorem dL_law_226 : decode cL_law 226 = .ok (.iload_n 3, 1) := by decide +kernel
theorem dL_law_227 : decode cL_law 227 = .ok (.iconst 4, 1) := by decide +kernel
theorem dL_law_228 : decode cL_law 228 = .ok (.iadd, 1) := by decide +kernel
theorem dL_law_229 : decode cL_law 229 = .ok (.iaload, 1) := by decide +kernel
theorem dL_law_230 : decode cL_law 230 = .ok (.aload_n 0, 1) := by decide +kernel
theorem dL_law_231 : decode cL_law 231 = .ok (.iload_n 3, 1) := by decide +kernel
theorem dL_law_232 : decode cL_law 232 = .ok (.iconst 5, 1) := by decide +kernel
theorem dL_law_233 : decode cL_law 233 = .ok (.iadd, 1) := by decide +kernel
theorem dL_law_234 : decode cL_law 234 = .ok (.iaload, 1) := by decide +kernel
theorem dL_law_235 : decode cL_law 235 = .ok (.invokevirtual 18, 3) := by decide +kernel
theorem dL_law_238 : decode cL_law 238 = .ok (.aload_n 2, 1) := by decide +kernel
theorem dL_law_239 : decode cL_law 239 = .ok (.aload_n 0, 1) := by decide +kernel
theorem dL_law_240 : decode cL_law 240 = .ok (.iload_n 3, 1) := by decide +kernel
theorem dL_law_241 : decode cL_law 241 = .ok (.iconst 1, 1) := by decide +kernel
theorem dL_law_242 : decode cL_law 242 = .ok (.iadd, 1) := by decide +kernel
theorem dL_law_243 : decode cL_law 243 = .ok (.iaload, 1) := by decide +kernel
theorem dL_law_244 : decode cL_law 244 = .ok (.aload_n 0, 1) := by decide +kernel
theorem dL_law_245 : decode cL_law 245 = .ok (.iload_n 3, 1) := by decide +kernel
theorem dL_law_246 : decode cL_law 246 = .ok (.iconst 2, 1) := by decide +kernel
theorem dL_law_247 : decode cL_law 247 = .ok (.iadd, 1) := by decide +kernel
theorem dL_law_248 : decode cL_law 248 = .ok (.iaload, 1) := by decide +kernel
theorem dL_law_249 : decode cL_law 249 = .ok (.aload_n 0, 1) := by decide +kernel
theorem dL_law_250 : decode cL_law 250 = .ok (.iload_n 3, 1) := by decide +kernel
theorem dL_law_251 : decode cL_law 251 = .ok (.iconst 3, 1) := by decide +kernel
theorem dL_law_252 : decode cL_law 252 = .ok (.iadd, 1) := by decide +kernel
theorem dL_law_253 : decode cL_law 253 = .ok (.iaload, 1) := by decide +kernel
theorem dL_law_254 : decode cL_law 254 = .ok (.aload_n 0, 1) := by decide +kernel
theorem dL_law_255 : decode cL_law 255 = .ok (.iload_n 3, 1) := by decide +kernel
theorem dL_law_256 : decode cL_law 256 = .ok (.iconst 4, 1) := by decide +kernel
theorem dL_law_257 : decode cL_law 257 = .ok (.iadd, 1) := by decide +kernel
theorem dL_law_258 : decode cL_law 258 = .ok (.iaload, 1) := by decide +kernel
theorem dL_law_259 : decode cL_law 259 = .ok (.aload_n 0, 1) := by decide +kernel
theorem dL_law_260 : decode cL_law 260 = .ok (.iload_n 3, 1) := by decide +kernel
theorem dL_law_261 : decode cL_law 261 = .ok (.iconst 5, 1) := by decide +kernel
theorem dL_law_262 : decode cL_law 262 = .ok (.iadd, 1) := by decide +kernel
theorem dL_law_263 : decode cL_law 263 = .ok (.iaload, 1) := by decide +kernel
theorem dL_law_264 : decode cL_law 264 = .ok (.invokevirtual 22, 3) := by decide +kernel
theorem dL_law_267 : decode cL_law 267 = .ok (.if_icmp .eq 980, 3) := by decide +kernel
theorem dL_law_270 : decode cL_law 270 = .ok (.iconst 0, 1) := by decide +kernel
theorem dL_law_271 : decode cL_law 271 = .ok (.ireturn, 1) := by decide +kernel
theorem dL_law_272 : decode cL_law 272 = .ok (.aload_n 1, 1) := by decide +kernel
theorem dL_law_273 : decode cL_law 273 = .ok (.aload_n 0, 1) := by decide +kernel
theorem dL_law_274 : decode cL_law 274 = .ok (.iload_n 3, 1) := by decide +kernel
theorem dL_law_275 : decode cL_law 275 = .ok (.iconst 1, 1) := by decide +kernel
theorem dL_law_276 : decode cL_law 276 = .ok (.iadd, 1) := by decide +kernel
theorem dL_law_277 : decode cL_law 277 = .ok (.iaload, 1) := by decide +kernel
theorem dL_law_278 : decode cL_law 278 = .ok (.invokevirtual 23, 3) := by decide +kernel
theorem dL_law_281 : decode cL_law 281 = .ok (.aload_n 2, 1) := by decide +kernel
theorem dL_law_282 : decode cL_law 282 = .ok (.aload_n 0, 1) := by decide +kernel
theorem dL_law_283 : decode cL_law 283 = .ok (.iload_n 3, 1) := by decide +kernel
theorem dL_law_284 : decode cL_law 284 = .ok (.iconst 1, 1) := by decide +kernel
theorem dL_law_285 : decode cL_law 285 = .ok (.iadd, 1) := by decide +kernel
theorem dL_law_286 : decode cL_law 286 = .ok (.iaload, 1) := by decide +kernel
theorem dL_law_287 : decode cL_law 287 = .ok (.invokevirtual 27, 3) := by decide +kernel
theorem dL_law_290 : decode cL_law 290 = .ok (.if_icmp .eq 957, 3) := by decide +kernel
theorem dL_law_293 : decode cL_law 293 = .ok (.iconst 0, 1) := by decide +kernel
theorem dL_law_294 : decode cL_law 294 = .ok (.ireturn, 1) := by decide +kernel
theorem dL_law_295 : decode cL_law 295 = .ok (.aload_n 1, 1) := by decide +kernel
theorem dL_law_296 : decode cL_law 296 = .ok (.aload_n 0, 1) := by decide +kernel
theorem dL_law_297 : decode cL_law 297 = .ok (.iload_n 3, 1) := by decide +kernel
theorem dL_law_298 : decode cL_law 298 = .ok (.iconst 1, 1) := by decide +kernel
theorem dL_law_299 : decode cL_law 299 = .ok (.iadd, 1) := by decide +kernel
theorem dL_law_300 : decode cL_law 300 = .ok (.iaload, 1) := by decide +kernel
theorem dL_law_301 : decode cL_law 301 = .ok (.invokevirtual 28, 3) := by decide +kernel
theorem dL_law_304 : decode cL_law 304 = .ok (.aload_n 2, 1) := by decide +kernel
theorem dL_law_305 : decode cL_law 305 = .ok (.aload_n 0, 1) := by decide +kernel
theorem dL_law_306 : decode cL_law 306 = .ok (.iload_n 3, 1) := by decide +kernel
theorem dL_law_307 : decode cL_law 307 = .ok (.iconst 1, 1) := by decide +kernel
theorem dL_law_308 : decode cL_law 308 = .ok (.iadd, 1) := by decide +kernel
theorem dL_law_309 : decode cL_law 309 = .ok (.iaload, 1) := by decide +kernel
theorem dL_law_310 : decode cL_law 310 = .ok (.invokevirtual 31, 3) := by decide +kernel
theorem dL_law_313 : decode cL_law 313 = .ok (.if_icmp .eq 934, 3) := by decide +kernel
theorem dL_law_316 : decode cL_law 316 = .ok (.iconst 0, 1) := by decide +kernel
theorem dL_law_317 : decode cL_law 317 = .ok (.ireturn, 1) := by decide +kernel
theorem dL_law_318 : decode cL_law 318 = .ok (.aload_n 1, 1) := by decide +kernel
theorem dL_law_319 : decode cL_law 319 = .ok (.aload_n 0, 1) := by decide +kernel
theorem dL_law_320 : decode cL_law 320 = .ok (.iload_n 3, 1) := by decide +kernel
theorem dL_law_321 : decode cL_law 321 = .ok (.iconst 1, 1) := by decide +kernel
theorem dL_law_322 : decode cL_law 322 = .ok (.iadd, 1) := by decide +kernel
theorem dL_law_323 : decode cL_law 323 = .ok (.iaload, 1) := by decide +kernel
theorem dL_law_324 : decode cL_law 324 = .ok (.invokevirtual 32, 3) := by decide +kernel
theorem dL_law_327 : decode cL_law 327 = .ok (.aload_n 2, 1) := by decide +kernel
theorem dL_law_328 : decode cL_law 328 = .ok (.aload_n 0, 1) := by decide +kernel
theorem dL_law_329 : decode cL_law 329 = .ok (.iload_n 3, 1) := by decide +kernel
theorem dL_law_330 : decode cL_law 330 = .ok (.iconst 1, 1) := by decide +kernel
theorem dL_law_331 : decode cL_law 331 = .ok (.iadd, 1) := by decide +kernel
theorem dL_law_332 : decode cL_law 332 = .ok (.iaload, 1) := by decide +kernel
theorem dL_law_333 : decode cL_law 333 = .ok (.invokevirtual 35, 3) := by decide +kernel
theorem dL_law_336 : decode cL_law 336 = .ok (.if_icmp .eq 911, 3) := by decide +kernel
theorem dL_law_339 : decode cL_law 339 = .ok (.iconst 0, 1) := by decide +kernel
theorem dL_law_340 : decode cL_law 340 = .ok (.ireturn, 1) := by decide +kernel
theorem dL_law_341 : decode cL_law 341 = .ok (.aload_n 1, 1) := by decide +kernel
theorem dL_law_342 : decode cL_law 342 = .ok (.aload_n 0, 1) := by decide +kernel
theorem dL_law_343 : decode cL_law 343 = .ok (.iload_n 3, 1) := by decide +kernel
theorem dL_law_344 : decode cL_law 344 = .ok (.iconst 1, 1) := by decide +kernel
theorem dL_law_345 : decode cL_law 345 = .ok (.iadd, 1) := by decide +kernel
theorem dL_law_346 : decode cL_law 346 = .ok (.iaload, 1) := by decide +kernel
theorem dL_law_347 : decode cL_law 347 = .ok (.aload_n 0, 1) := by decide +kernel
theorem dL_law_348 : decode cL_law 348 = .ok (.iload_n 3, 1) := by decide +kernel
theorem dL_law_349 : decode cL_law 349 = .ok (.iconst 2, 1) := by decide +kernel
theorem dL_law_350 : decode cL_law 350 = .ok (.iadd, 1) := by decide +kernel
theorem dL_law_351 : decode cL_law 351 = .ok (.iaload, 1) := by decide +kernel
theorem dL_law_352 : decode cL_law 352 = .ok (.invokevirtual 36, 3) := by decide +kernel
theorem dL_law_355 : decode cL_law 355 = .ok (.aload_n 2, 1) := by decide +kernel
theorem dL_law_356 : decode cL_law 356 = .ok (.aload_n 0, 1) := by decide +kernel
theorem dL_law_357 : decode cL_law 357 = .ok (.iload_n 3, 1) := by decide +kernel
theorem dL_law_358 : decode cL_law 358 = .ok (.iconst 1, 1) := by decide +kernel
theorem dL_law_359 : decode cL_law 359 = .ok (.iadd, 1) := by decide +kernel
theorem dL_law_360 : decode cL_law 360 = .ok (.iaload, 1) := by decide +kernel
theorem dL_law_361 : decode cL_law 361 = .ok (.aload_n 0, 1) := by decide +kernel
theorem dL_law_362 : decode cL_law 362 = .ok (.iload_n 3, 1) := by decide +kernel
theorem dL_law_363 : decode cL_law 363 = .ok (.iconst 2, 1) := by decide +kernel
theorem dL_law_364 : decode cL_law 364 = .ok (.iadd, 1) := by decide +kernel
theorem dL_law_365 : decode cL_law 365 = .ok (.iaload, 1) := by decide +kernel
theorem dL_law_366 : decode cL_law 366 = .ok (.invokevirtual 40, 3) := by decide +kernel
theorem dL_law_369 : decode cL_law 369 = .ok (.if_icmp .eq 878, 3) := by decide +kernel
theorem dL_law_372 : decode cL_law 372 = .ok (.iconst 0, 1) := by decide +kernel
theorem dL_law_373 : decode cL_law 373 = .ok (.ireturn, 1) := by decide +kernel
theorem dL_law_374 : decode cL_law 374 = .ok (.aload_n 1, 1) := by decide +kernel
theorem dL_law_375 : decode cL_law 375 = .ok (.aload_n 0, 1) := by decide +kernel
theorem dL_law_376 : decode cL_law 376 = .ok (.iload_n 3, 1) := by decide +kernel
theorem dL_law_377 : decode cL_law 377 = .ok (.iconst 1, 1) := by decide +kernel
theorem dL_law_378 : decode cL_law 378 = .ok (.iadd, 1) := by decide +kernel
theorem dL_law_379 : decode cL_law 379 = .ok (.iaload, 1) := by decide +kernel
theorem dL_law_380 : decode cL_law 380 = .ok (.aload_n 0, 1) := by decide +kernel
theorem dL_law_381 : decode cL_law 381 = .ok (.iload_n 3, 1) := by decide +kernel
theorem dL_law_382 : decode cL_law 382 = .ok (.iconst 2, 1) := by decide +kernel
theorem dL_law_383 : decode cL_law 383 = .ok (.iadd, 1) := by decide +kernel
theorem dL_law_384 : decode cL_law 384 = .ok (.iaload, 1) := by decide +kernel
theorem dL_law_385 : decode cL_law 385 = .ok (.invokevirtual 41, 3) := by decide +kernel
theorem dL_law_388 : decode cL_law 388 = .ok (.aload_n 2, 1) := by decide +kernel
theorem dL_law_389 : decode cL_law 389 = .ok (.aload_n 0, 1) := by decide +kernel
theorem dL_law_390 : decode cL_law 390 = .ok (.iload_n 3, 1) := by decide +kernel
theorem dL_law_391 : decode cL_law 391 = .ok (.iconst 1, 1) := by decide +kernel
theorem dL_law_392 : decode cL_law 392 = .ok (.iadd, 1) := by decide +kernel
theorem dL_law_393 : decode cL_law 393 = .ok (.iaload, 1) := by decide +kernel
theorem dL_law_394 : decode cL_law 394 = .ok (.aload_n 0, 1) := by decide +kernel
theorem dL_law_395 : decode cL_law 395 = .ok (.iload_n 3, 1) := by decide +kernel
theorem dL_law_396 : decode cL_law 396 = .ok (.iconst 2, 1) := by decide +kernel
theorem dL_law_397 : decode cL_law 397 = .ok (.iadd, 1) := by decide +kernel
theorem dL_law_398 : decode cL_law 398 = .ok (.iaload, 1) := by decide +kernel
theorem dL_law_399 : decode cL_law 399 = .ok (.invokevirtual 44, 3) := by decide +kernel
theorem dL_law_402 : decode cL_law 402 = .ok (.if_icmp .eq 845, 3) := by decide +kernel
theorem dL_law_405 : decode cL_law 405 = .ok (.iconst 0, 1) := by decide +kernel
theorem dL_law_406 : decode cL_law 406 = .ok (.ireturn, 1) := by decide +kernel
theorem dL_law_407 : decode cL_law 407 = .ok (.aload_n 1, 1) := by decide +kernel
theorem dL_law_408 : decode cL_law 408 = .ok (.aload_n 0, 1) := by decide +kernel
theorem dL_law_409 : decode cL_law 409 = .ok (.iload_n 3, 1) := by decide +kernel
theorem dL_law_410 : decode cL_law 410 = .ok (.iconst 1, 1) := by decide +kernel
theorem dL_law_411 : decode cL_law 411 = .ok (.iadd, 1) := by decide +kernel
theorem dL_law_412 : decode cL_law 412 = .ok (.iaload, 1) := by decide +kernel
theorem dL_law_413 : decode cL_law 413 = .ok (.aload_n 0, 1) := by decide +kernel
theorem dL_law_414 : decode cL_law 414 = .ok (.iload_n 3, 1) := by decide +kernel
theorem dL_law_415 : decode cL_law 415 = .ok (.iconst 2, 1) := by decide +kernel
theorem dL_law_416 : decode cL_law 416 = .ok (.iadd, 1) := by decide +kernel
theorem dL_law_417 : decode cL_law 417 = .ok (.iaload, 1) := by decide +kernel
theorem dL_law_418 : decode cL_law 418 = .ok (.invokevirtual 45, 3) := by decide +kernel
theorem dL_law_421 : decode cL_law 421 = .ok (.aload_n 2, 1) := by decide +kernel
theorem dL_law_422 : decode cL_law 422 = .ok (.aload_n 0, 1) := by decide +kernel
theorem dL_law_423 : decode cL_law 423 = .ok (.iload_n 3, 1) := by decide +kernel
theorem dL_law_424 : decode cL_law 424 = .ok (.iconst 1, 1) := by decide +kernel
theorem dL_law_425 : decode cL_law 425 = .ok (.iadd, 1) := by decide +kernel
theorem dL_law_426 : decode cL_law 426 = .ok (.iaload, 1) := by decide +kernel
theorem dL_law_427 : decode cL_law 427 = .ok (.aload_n 0, 1) := by decide +kernel
theorem dL_law_428 : decode cL_law 428 = .ok (.iload_n 3, 1) := by decide +kernel
theorem dL_law_429 : decode cL_law 429 = .ok (.iconst 2, 1) := by decide +kernel
theorem dL_law_430 : decode cL_law 430 = .ok (.iadd, 1) := by decide +kernel
theorem dL_law_431 : decode cL_law 431 = .ok (.iaload, 1) := by decide +kernel
theorem dL_law_432 : decode cL_law 432 = .ok (.invokevirtual 48, 3) := by decide +kernel
theorem dL_law_435 : decode cL_law 435 = .ok (.if_icmp .eq 812, 3) := by decide +kernel
theorem dL_law_438 : decode cL_law 438 = .ok (.iconst 0, 1) := by decide +kernel
theorem dL_law_439 : decode cL_law 439 = .ok (.ireturn, 1) := by decide +kernel
theorem dL_law_440 : decode cL_law 440 = .ok (.aload_n 1, 1) := by decide +kernel
theorem dL_law_441 : decode cL_law 441 = .ok (.aload_n 0, 1) := by decide +kernel
theorem dL_law_442 : decode cL_law 442 = .ok (.iload_n 3, 1) := by decide +kernel
theorem dL_law_443 : decode cL_law 443 = .ok (.iconst 1, 1) := by decide +kernel
theorem dL_law_444 : decode cL_law 444 = .ok (.iadd, 1) := by decide +kernel
theorem dL_law_445 : decode cL_law 445 = .ok (.iaload, 1) := by decide +kernel
theorem dL_law_446 : decode cL_law 446 = .ok (.aload_n 0, 1) := by decide +kernel
theorem dL_law_447 : decode cL_law 447 = .ok (.iload_n 3, 1) := by decide +kernel
theorem dL_law_448 : decode cL_law 448 = .ok (.iconst 2, 1) := by decide +kernel
theorem dL_law_449 : decode cL_law 449 = .ok (.iadd, 1) := by decide +kernel
theorem dL_law_450 : decode cL_law 450 = .ok (.iaload, 1) := by decide +kernel
theorem dL_law_451 : decode cL_law 451 = .ok (.invokevirtual 49, 3) := by decide +kernel
theorem dL_law_454 : decode cL_law 454 = .ok (.aload_n 2, 1) := by decide +kernel
theorem dL_law_455 : decode cL_law 455 = .ok (.aload_n 0, 1) := by decide +kernel
theorem dL_law_456 : decode cL_law 456 = .ok (.iload_n 3, 1) := by decide +kernel
theorem dL_law_457 : decode cL_law 457 = .ok (.iconst 1, 1) := by decide +kernel
theorem dL_law_458 : decode cL_law 458 = .ok (.iadd, 1) := by decide +kernel
theorem dL_law_459 : decode cL_law 459 = .ok (.iaload, 1) := by decide +kernel
theorem dL_law_460 : decode cL_law 460 = .ok (.aload_n 0, 1) := by decide +kernel
theorem dL_law_461 : decode cL_law 461 = .ok (.iload_n 3, 1) := by decide +kernel
theorem dL_law_462 : decode cL_law 462 = .ok (.iconst 2, 1) := by decide +kernel
theorem dL_law_463 : decode cL_law 463 = .ok (.iadd, 1) := by decide +kernel
theorem dL_law_464 : decode cL_law 464 = .ok (.iaload, 1) := by decide +kernel
theorem dL_law_465 : decode cL_law 465 = .ok (.invokevirtual 52, 3) := by decide +kernel
theorem dL_law_468 : decode cL_law 468 = .ok (.if_icmp .eq 779, 3) := by decide +kernel
theorem dL_law_471 : decode cL_law 471 = .ok (.iconst 0, 1) := by decide +kernel
theorem dL_law_472 : decode cL_law 472 = .ok (.ireturn, 1) := by decide +kernel
theorem dL_law_473 : decode cL_law 473 = .ok (.aload_n 1, 1) := by decide +kernel
theorem dL_law_474 : decode cL_law 474 = .ok (.aload_n 0, 1) := by decide +kernel
theorem dL_law_475 : decode cL_law 475 = .ok (.iload_n 3, 1) := by decide +kernel
theorem dL_law_476 : decode cL_law 476 = .ok (.iconst 1, 1) := by decide +kernel
theorem dL_law_477 : decode cL_law 477 = .ok (.iadd, 1) := by decide +kernel
theorem dL_law_478 : decode cL_law 478 = .ok (.iaload, 1) := by decide +kernel
theorem dL_law_479 : decode cL_law 479 = .ok (.aload_n 0, 1) := by decide +kernel
theorem dL_law_480 : decode cL_law 480 = .ok (.iload_n 3, 1) := by decide +kernel
theorem dL_law_481 : decode cL_law 481 = .ok (.iconst 2, 1) := by decide +kernel
theorem dL_law_482 : decode cL_law 482 = .ok (.iadd, 1) := by decide +kernel
theorem dL_law_483 : decode cL_law 483 = .ok (.iaload, 1) := by decide +kernel
theorem dL_law_484 : decode cL_law 484 = .ok (.invokevirtual 53, 3) := by decide +kernel
theorem dL_law_487 : decode cL_law 487 = .ok (.aload_n 2, 1) := by decide +kernel
theorem dL_law_488 : decode cL_law 488 = .ok (.aload_n 0, 1) := by decide +kernel
theorem dL_law_489 : decode cL_law 489 = .ok (.iload_n 3, 1) := by decide +kernel
theorem dL_law_490 : decode cL_law 490 = .ok (.iconst 1, 1) := by decide +kernel
theorem dL_law_491 : decode cL_law 491 = .ok (.iadd, 1) := by decide +kernel
theorem dL_law_492 : decode cL_law 492 = .ok (.iaload, 1) := by decide +kernel
theorem dL_law_493 : decode cL_law 493 = .ok (.aload_n 0, 1) := by decide +kernel
theorem dL_law_494 : decode cL_law 494 = .ok (.iload_n 3, 1) := by decide +kernel
theorem dL_law_495 : decode cL_law 495 = .ok (.iconst 2, 1) := by decide +kernel
theorem dL_law_496 : decode cL_law 496 = .ok (.iadd, 1) := by decide +kernel
theorem dL_law_497 : decode cL_law 497 = .ok (.iaload, 1) := by decide +kernel
theorem dL_law_498 : decode cL_law 498 = .ok (.invokevirtual 56, 3) := by decide +kernel
theorem dL_law_501 : decode cL_law 501 = .ok (.if_icmp .eq 746, 3) := by decide +kernel
theorem dL_law_504 : decode cL_law 504 = .ok (.iconst 0, 1) := by decide +kernel
theorem dL_law_505 : decode cL_law 505 = .ok (.ireturn, 1) := by decide +kernel
theorem dL_law_506 : decode cL_law 506 = .ok (.aload_n 1, 1) := by decide +kernel
theorem dL_law_507 : decode cL_law 507 = .ok (.aload_n 0, 1) := by decide +kernel
theorem dL_law_508 : decode cL_law 508 = .ok (.iload_n 3, 1) := by decide +kernel
theorem dL_law_509 : decode cL_law 509 = .ok (.iconst 1, 1) := by decide +kernel
theorem dL_law_510 : decode cL_law 510 = .ok (.iadd, 1) := by decide +kernel
theorem dL_law_511 : decode cL_law 511 = .ok (.iaload, 1) := by decide +kernel
theorem dL_law_512 : decode cL_law 512 = .ok (.invokevirtual 57, 3) := by decide +kernel
theorem dL_law_515 : decode cL_law 515 = .ok (.aload_n 2, 1) := by decide +kernel
theorem dL_law_516 : decode cL_law 516 = .ok (.aload_n 0, 1) := by decide +kernel
theorem dL_law_517 : decode cL_law 517 = .ok (.iload_n 3, 1) := by decide +kernel
theorem dL_law_518 : decode cL_law 518 = .ok (.iconst 1, 1) := by decide +kernel
theorem dL_law_519 : decode cL_law 519 = .ok (.iadd, 1) := by decide +kernel
theorem dL_law_520 : decode cL_law 520 = .ok (.iaload, 1) := by decide +kernel
theorem dL_law_521 : decode cL_law 521 = .ok (.invokevirtual 60, 3) := by decide +kernel
theorem dL_law_524 : decode cL_law 524 = .ok (.if_icmp .eq 723, 3) := by decide +kernel
theorem dL_law_527 : decode cL_law 527 = .ok (.iconst 0, 1) := by decide +kernel
theorem dL_law_528 : decode cL_law 528 = .ok (.ireturn, 1) := by decide +kernel
theorem dL_law_529 : decode cL_law 529 = .ok (.aload_n 1, 1) := by decide +kernel
theorem dL_law_530 : decode cL_law 530 = .ok (.aload_n 0, 1) := by decide +kernel
theorem dL_law_531 : decode cL_law 531 = .ok (.iload_n 3, 1) := by decide +kernel
theorem dL_law_532 : decode cL_law 532 = .ok (.iconst 1, 1) := by decide +kernel
theorem dL_law_533 : decode cL_law 533 = .ok (.iadd, 1) := by decide +kernel
theorem dL_law_534 : decode cL_law 534 = .ok (.iaload, 1) := by decide +kernel
theorem dL_law_535 : decode cL_law 535 = .ok (.invokevirtual 61, 3) := by decide +kernel
theorem dL_law_538 : decode cL_law 538 = .ok (.aload_n 2, 1) := by decide +kernel
theorem dL_law_539 : decode cL_law 539 = .ok (.aload_n 0, 1) := by decide +kernel
theorem dL_law_540 : decode cL_law 540 = .ok (.iload_n 3, 1) := by decide +kernel
theorem dL_law_541 : decode cL_law 541 = .ok (.iconst 1, 1) := by decide +kernel
theorem dL_law_542 : decode cL_law 542 = .ok (.iadd, 1) := by decide +kernel
theorem dL_law_543 : decode cL_law 543 = .ok (.iaload, 1) := by decide +kernel
theorem dL_law_544 : decode cL_law 544 = .ok (.invokevirtual 64, 3) := by decide +kernel
theorem dL_law_547 : decode cL_law 547 = .ok (.if_icmp .eq 700, 3) := by decide +kernel
theorem dL_law_550 : decode cL_law 550 = .ok (.iconst 0, 1) := by decide +kernel
theorem dL_law_551 : decode cL_law 551 = .ok (.ireturn, 1) := by decide +kernel
theorem dL_law_552 : decode cL_law 552 = .ok (.aload_n 1, 1) := by decide +kernel
theorem dL_law_553 : decode cL_law 553 = .ok (.aload_n 0, 1) := by decide +kernel
theorem dL_law_554 : decode cL_law 554 = .ok (.iload_n 3, 1) := by decide +kernel
theorem dL_law_555 : decode cL_law 555 = .ok (.iconst 1, 1) := by decide +kernel
theorem dL_law_556 : decode cL_law 556 = .ok (.iadd, 1) := by decide +kernel
theorem dL_law_557 : decode cL_law 557 = .ok (.iaload, 1) := by decide +kernel
theorem dL_law_558 : decode cL_law 558 = .ok (.invokevirtual 65, 3) := by decide +kernel
theorem dL_law_561 : decode cL_law 561 = .ok (.aload_n 2, 1) := by decide +kernel
theorem dL_law_562 : decode cL_law 562 = .ok (.aload_n 0, 1) := by decide +kernel
theorem dL_law_563 : decode cL_law 563 = .ok (.iload_n 3, 1) := by decide +kernel
theorem dL_law_564 : decode cL_law 564 = .ok (.iconst 1, 1) := by decide +kernel
theorem dL_law_565 : decode cL_law 565 = .ok (.iadd, 1) := by decide +kernel
theorem dL_law_566 : decode cL_law 566 = .ok (.iaload, 1) := by decide +kernel
theorem dL_law_567 : decode cL_law 567 = .ok (.invokevirtual 68, 3) := by decide +kernel
theorem dL_law_570 : decode cL_law 570 = .ok (.if_icmp .eq 677, 3) := by decide +kernel
theorem dL_law_573 : decode cL_law 573 = .ok (.iconst 0, 1) := by decide +kernel
theorem dL_law_574 : decode cL_law 574 = .ok (.ireturn, 1) := by decide +kernel
theorem dL_law_575 : decode cL_law 575 = .ok (.aload_n 1, 1) := by decide +kernel
theorem dL_law_576 : decode cL_law 576 = .ok (.aload_n 0, 1) := by decide +kernel
theorem dL_law_577 : decode cL_law 577 = .ok (.iload_n 3, 1) := by decide +kernel
theorem dL_law_578 : decode cL_law 578 = .ok (.iconst 1, 1) := by decide +kernel
theorem dL_law_579 : decode cL_law 579 = .ok (.iadd, 1) := by decide +kernel
theorem dL_law_580 : decode cL_law 580 = .ok (.iaload, 1) := by decide +kernel
theorem dL_law_581 : decode cL_law 581 = .ok (.invokevirtual 69, 3) := by decide +kernel
theorem dL_law_584 : decode cL_law 584 = .ok (.aload_n 2, 1) := by decide +kernel
theorem dL_law_585 : decode cL_law 585 = .ok (.aload_n 0, 1) := by decide +kernel
theorem dL_law_586 : decode cL_law 586 = .ok (.iload_n 3, 1) := by decide +kernel
theorem dL_law_587 : decode cL_law 587 = .ok (.iconst 1, 1) := by decide +kernel
theorem dL_law_588 : decode cL_law 588 = .ok (.iadd, 1) := by decide +kernel
theorem dL_law_589 : decode cL_law 589 = .ok (.iaload, 1) := by decide +kernel
theorem dL_law_590 : decode cL_law 590 = .ok (.invokevirtual 72, 3) := by decide +kernel
theorem dL_law_593 : decode cL_law 593 = .ok (.if_icmp .eq 654, 3) := by decide +kernel
theorem dL_law_596 : decode cL_law 596 = .ok (.iconst 0, 1) := by decide +kernel
theorem dL_law_597 : decode cL_law 597 = .ok (.ireturn, 1) := by decide +kernel
theorem dL_law_598 : decode cL_law 598 = .ok (.aload_n 1, 1) := by decide +kernel
theorem dL_law_599 : decode cL_law 599 = .ok (.aload_n 0, 1) := by decide +kernel
theorem dL_law_600 : decode cL_law 600 = .ok (.iload_n 3, 1) := by decide +kernel
theorem dL_law_601 : decode cL_law 601 = .ok (.iconst 1, 1) := by decide +kernel
theorem dL_law_602 : decode cL_law 602 = .ok (.iadd, 1) := by decide +kernel
theorem dL_law_603 : decode cL_law 603 = .ok (.iaload, 1) := by decide +kernel
theorem dL_law_604 : decode cL_law 604 = .ok (.invokevirtual 73, 3) := by decide +kernel
theorem dL_law_607 : decode cL_law 607 = .ok (.aload_n 2, 1) := by decide +kernel
theorem dL_law_608 : decode cL_law 608 = .ok (.aload_n 0, 1) := by decide +kernel
theorem dL_law_609 : decode cL_law 609 = .ok (.iload_n 3, 1) := by decide +kernel
theorem dL_law_610 : decode cL_law 610 = .ok (.iconst 1, 1) := by decide +kernel
theorem dL_law_611 : decode cL_law 611 = .ok (.iadd, 1) := by decide +kernel
theorem dL_law_612 : decode cL_law 612 = .ok (.iaload, 1) := by decide +kernel
theorem dL_law_613 : decode cL_law 613 = .ok (.invokevirtual 76, 3) := by decide +kernel
theorem dL_law_616 : decode cL_law 616 = .ok (.if_icmp .eq 631, 3) := by decide +kernel
theorem dL_law_619 : decode cL_law 619 = .ok (.iconst 0, 1) := by decide +kernel
theorem dL_law_620 : decode cL_law 620 = .ok (.ireturn, 1) := by decide +kernel
theorem dL_law_621 : decode cL_law 621 = .ok (.aload_n 1, 1) := by decide +kernel
theorem dL_law_622 : decode cL_law 622 = .ok (.aload_n 0, 1) := by decide +kernel
theorem dL_law_623 : decode cL_law 623 = .ok (.iload_n 3, 1) := by decide +kernel
theorem dL_law_624 : decode cL_law 624 = .ok (.iconst 1, 1) := by decide +kernel
theorem dL_law_625 : decode cL_law 625 = .ok (.iadd, 1) := by decide +kernel
theorem dL_law_626 : decode cL_law 626 = .ok (.iaload, 1) := by decide +kernel
theorem dL_law_627 : decode cL_law 627 = .ok (.aload_n 0, 1) := by decide +kernel
theorem dL_law_628 : decode cL_law 628 = .ok (.iload_n 3, 1) := by decide +kernel
theorem dL_law_629 : decode cL_law 629 = .ok (.iconst 2, 1) := by decide +kernel
theorem dL_law_630 : decode cL_law 630 = .ok (.iadd, 1) := by decide +kernel
theorem dL_law_631 : decode cL_law 631 = .ok (.iaload, 1) := by decide +kernel
theorem dL_law_632 : decode cL_law 632 = .ok (.aload_n 0, 1) := by decide +kernel
theorem dL_law_633 : decode cL_law 633 = .ok (.iload_n 3, 1) := by decide +kernel
theorem dL_law_634 : decode cL_law 634 = .ok (.iconst 3, 1) := by decide +kernel
theorem dL_law_635 : decode cL_law 635 = .ok (.iadd, 1) := by decide +kernel
theorem dL_law_636 : decode cL_law 636 = .ok (.iaload, 1) := by decide +kernel
theorem dL_law_637 : decode cL_law 637 = .ok (.invokevirtual 77, 3) := by decide +kernel
theorem dL_law_640 : decode cL_law 640 = .ok (.aload_n 2, 1) := by decide +kernel
theorem dL_law_641 : decode cL_law 641 = .ok (.aload_n 0, 1) := by decide +kernel
theorem dL_law_642 : decode cL_law 642 = .ok (.iload_n 3, 1) := by decide +kernel
theorem dL_law_643 : decode cL_law 643 = .ok (.iconst 1, 1) := by decide +kernel
theorem dL_law_644 : decode cL_law 644 = .ok (.iadd, 1) := by decide +kernel
theorem dL_law_645 : decode cL_law 645 = .ok (.iaload, 1) := by decide +kernel
theorem dL_law_646 : decode cL_law 646 = .ok (.aload_n 0, 1) := by decide +kernel
theorem dL_law_647 : decode cL_law 647 = .ok (.iload_n 3, 1) := by decide +kernel
theorem dL_law_648 : decode cL_law 648 = .ok (.iconst 2, 1) := by decide +kernel
theorem dL_law_649 : decode cL_law 649 = .ok (.iadd, 1) := by decide +kernel
theorem dL_law_650 : decode cL_law 650 = .ok (.iaload, 1) := by decide +kernel
theorem dL_law_651 : decode cL_law 651 = .ok (.aload_n 0, 1) := by decide +kernel
theorem dL_law_652 : decode cL_law 652 = .ok (.iload_n 3, 1) := by decide +kernel
theorem dL_law_653 : decode cL_law 653 = .ok (.iconst 3, 1) := by decide +kernel
theorem dL_law_654 : decode cL_law 654 = .ok (.iadd, 1) := by decide +kernel
theorem dL_law_655 : decode cL_law 655 = .ok (.iaload, 1) := by decide +kernel
theorem dL_law_656 : decode cL_law 656 = .ok (.invokevirtual 81, 3) := by decide +kernel
theorem dL_law_659 : decode cL_law 659 = .ok (.if_icmp .eq 588, 3) := by decide +kernel
theorem dL_law_662 : decode cL_law 662 = .ok (.iconst 0, 1) := by decide +kernel
theorem dL_law_663 : decode cL_law 663 = .ok (.ireturn, 1) := by decide +kernel
theorem dL_law_664 : decode cL_law 664 = .ok (.aload_n 1, 1) := by decide +kernel
theorem dL_law_665 : decode cL_law 665 = .ok (.aload_n 0, 1) := by decide +kernel
theorem dL_law_666 : decode cL_law 666 = .ok (.iload_n 3, 1) := by decide +kernel
theorem dL_law_667 : decode cL_law 667 = .ok (.iconst 1, 1) := by decide +kernel
theorem dL_law_668 : decode cL_law 668 = .ok (.iadd, 1) := by decide +kernel
theorem dL_law_669 : decode cL_law 669 = .ok (.iaload, 1) := by decide +kernel
theorem dL_law_670 : decode cL_law 670 = .ok (.invokevirtual 82, 3) := by decide +kernel
theorem dL_law_673 : decode cL_law 673 = .ok (.aload_n 2, 1) := by decide +kernel
theorem dL_law_674 : decode cL_law 674 = .ok (.aload_n 0, 1) := by decide +kernel
theorem dL_law_675 : decode cL_law 675 = .ok (.iload_n 3, 1) := by decide +kernel
theorem dL_law_676 : decode cL_law 676 = .ok (.iconst 1, 1) := by decide +kernel
theorem dL_law_677 : decode cL_law 677 = .ok (.iadd, 1) := by decide +kernel
theorem dL_law_678 : decode cL_law 678 = .ok (.iaload, 1) := by decide +kernel
theorem dL_law_679 : decode cL_law 679 = .ok (.invokevirtual 85, 3) := by decide +kernel
theorem dL_law_682 : decode cL_law 682 = .ok (.if_icmp .eq 565, 3) := by decide +kernel
theorem dL_law_685 : decode cL_law 685 = .ok (.iconst 0, 1) := by decide +kernel
theorem dL_law_686 : decode cL_law 686 = .ok (.ireturn, 1) := by decide +kernel
theorem dL_law_687 : decode cL_law 687 = .ok (.aload_n 1, 1) := by decide +kernel
theorem dL_law_688 : decode cL_law 688 = .ok (.aload_n 0, 1) := by decide +kernel
theorem dL_law_689 : decode cL_law 689 = .ok (.iload_n 3, 1) := by decide +kernel
theorem dL_law_690 : decode cL_law 690 = .ok (.iconst 1, 1) := by decide +kernel
theorem dL_law_691 : decode cL_law 691 = .ok (.iadd, 1) := by decide +kernel
theorem dL_law_692 : decode cL_law 692 = .ok (.iaload, 1) := by decide +kernel
theorem dL_law_693 : decode cL_law 693 = .ok (.aload_n 0, 1) := by decide +kernel
theorem dL_law_694 : decode cL_law 694 = .ok (.iload_n 3, 1) := by decide +kernel
theorem dL_law_695 : decode cL_law 695 = .ok (.iconst 2, 1) := by decide +kernel
theorem dL_law_696 : decode cL_law 696 = .ok (.iadd, 1) := by decide +kernel
theorem dL_law_697 : decode cL_law 697 = .ok (.iaload, 1) := by decide +kernel
theorem dL_law_698 : decode cL_law 698 = .ok (.invokevirtual 86, 3) := by decide +kernel
theorem dL_law_701 : decode cL_law 701 = .ok (.aload_n 2, 1) := by decide +kernel
theorem dL_law_702 : decode cL_law 702 = .ok (.aload_n 0, 1) := by decide +kernel
theorem dL_law_703 : decode cL_law 703 = .ok (.iload_n 3, 1) := by decide +kernel
theorem dL_law_704 : decode cL_law 704 = .ok (.iconst 1, 1) := by decide +kernel
theorem dL_law_705 : decode cL_law 705 = .ok (.iadd, 1) := by decide +kernel
theorem dL_law_706 : decode cL_law 706 = .ok (.iaload, 1) := by decide +kernel
theorem dL_law_707 : decode cL_law 707 = .ok (.aload_n 0, 1) := by decide +kernel
theorem dL_law_708 : decode cL_law 708 = .ok (.iload_n 3, 1) := by decide +kernel
theorem dL_law_709 : decode cL_law 709 = .ok (.iconst 2, 1) := by decide +kernel
theorem dL_law_710 : decode cL_law 710 = .ok (.iadd, 1) := by decide +kernel
theorem dL_law_711 : decode cL_law 711 = .ok (.iaload, 1) := by decide +kernel
theorem dL_law_712 : decode cL_law 712 = .ok (.invokevirtual 89, 3) := by decide +kernel
theorem dL_law_715 : decode cL_law 715 = .ok (.if_icmp .eq 532, 3) := by decide +kernel
theorem dL_law_718 : decode cL_law 718 = .ok (.iconst 0, 1) := by decide +kernel
theorem dL_law_719 : decode cL_law 719 = .ok (.ireturn, 1) := by decide +kernel
theorem dL_law_720 : decode cL_law 720 = .ok (.aload_n 1, 1) := by decide +kernel
theorem dL_law_721 : decode cL_law 721 = .ok (.aload_n 0, 1) := by decide +kernel
theorem dL_law_722 : decode cL_law 722 = .ok (.iload_n 3, 1) := by decide +kernel
theorem dL_law_723 : decode cL_law 723 = .ok (.iconst 1, 1) := by decide +kernel
theorem dL_law_724 : decode cL_law 724 = .ok (.iadd, 1) := by decide +kernel
theorem dL_law_725 : decode cL_law 725 = .ok (.iaload, 1) := by decide +kernel
theorem dL_law_726 : decode cL_law 726 = .ok (.aload_n 0, 1) := by decide +kernel
theorem dL_law_727 : decode cL_law 727 = .ok (.iload_n 3, 1) := by decide +kernel
theorem dL_law_728 : decode cL_law 728 = .ok (.iconst 2, 1) := by decide +kernel
theorem dL_law_729 : decode cL_law 729 = .ok (.iadd, 1) := by decide +kernel
theorem dL_law_730 : decode cL_law 730 = .ok (.iaload, 1) := by decide +kernel
theorem dL_law_731 : decode cL_law 731 = .ok (.invokevirtual 90, 3) := by decide +kernel
theorem dL_law_734 : decode cL_law 734 = .ok (.aload_n 2, 1) := by decide +kernel
theorem dL_law_735 : decode cL_law 735 = .ok (.aload_n 0, 1) := by decide +kernel
theorem dL_law_736 : decode cL_law 736 = .ok (.iload_n 3, 1) := by decide +kernel
theorem dL_law_737 : decode cL_law 737 = .ok (.iconst 1, 1) := by decide +kernel
theorem dL_law_738 : decode cL_law 738 = .ok (.iadd, 1) := by decide +kernel
theorem dL_law_739 : decode cL_law 739 = .ok (.iaload, 1) := by decide +kernel
theorem dL_law_740 : decode cL_law 740 = .ok (.aload_n 0, 1) := by decide +kernel
theorem dL_law_741 : decode cL_law 741 = .ok (.iload_n 3, 1) := by decide +kernel
theorem dL_law_742 : decode cL_law 742 = .ok (.iconst 2, 1) := by decide +kernel
theorem dL_law_743 : decode cL_law 743 = .ok (.iadd, 1) := by decide +kernel
theorem dL_law_744 : decode cL_law 744 = .ok (.iaload, 1) := by decide +kernel
theorem dL_law_745 : decode cL_law 745 = .ok (.invokevirtual 93, 3) := by decide +kernel
theorem dL_law_748 : decode cL_law 748 = .ok (.if_icmp .eq 499, 3) := by decide +kernel
theorem dL_law_751 : decode cL_law 751 = .ok (.iconst 0, 1) := by decide +kernel
theorem dL_law_752 : decode cL_law 752 = .ok (.ireturn, 1) := by decide +kernel
theorem dL_law_753 : decode cL_law 753 = .ok (.aload_n 1, 1) := by decide +kernel
theorem dL_law_754 : decode cL_law 754 = .ok (.aload_n 0, 1) := by decide +kernel
theorem dL_law_755 : decode cL_law 755 = .ok (.iload_n 3, 1) := by decide +kernel
theorem dL_law_756 : decode cL_law 756 = .ok (.iconst 1, 1) := by decide +kernel
theorem dL_law_757 : decode cL_law 757 = .ok (.iadd, 1) := by decide +kernel
theorem dL_law_758 : decode cL_law 758 = .ok (.iaload, 1) := by decide +kernel
theorem dL_law_759 : decode cL_law 759 = .ok (.invokevirtual 94, 3) := by decide +kernel
theorem dL_law_762 : decode cL_law 762 = .ok (.aload_n 2, 1) := by decide +kernel
theorem dL_law_763 : decode cL_law 763 = .ok (.aload_n 0, 1) := by decide +kernel
theorem dL_law_764 : decode cL_law 764 = .ok (.iload_n 3, 1) := by decide +kernel
theorem dL_law_765 : decode cL_law 765 = .ok (.iconst 1, 1) := by decide +kernel
theorem dL_law_766 : decode cL_law 766 = .ok (.iadd, 1) := by decide +kernel
theorem dL_law_767 : decode cL_law 767 = .ok (.iaload, 1) := by decide +kernel
theorem dL_law_768 : decode cL_law 768 = .ok (.invokevirtual 97, 3) := by decide +kernel
theorem dL_law_771 : decode cL_law 771 = .ok (.if_icmp .eq 476, 3) := by decide +kernel
theorem dL_law_774 : decode cL_law 774 = .ok (.iconst 0, 1) := by decide +kernel
theorem dL_law_775 : decode cL_law 775 = .ok (.ireturn, 1) := by decide +kernel
theorem dL_law_776 : decode cL_law 776 = .ok (.aload_n 1, 1) := by decide +kernel
theorem dL_law_777 : decode cL_law 777 = .ok (.aload_n 0, 1) := by decide +kernel
theorem dL_law_778 : decode cL_law 778 = .ok (.iload_n 3, 1) := by decide +kernel
theorem dL_law_779 : decode cL_law 779 = .ok (.iconst 1, 1) := by decide +kernel
theorem dL_law_780 : decode cL_law 780 = .ok (.iadd, 1) := by decide +kernel
theorem dL_law_781 : decode cL_law 781 = .ok (.iaload, 1) := by decide +kernel
theorem dL_law_782 : decode cL_law 782 = .ok (.aload_n 0, 1) := by decide +kernel
theorem dL_law_783 : decode cL_law 783 = .ok (.iload_n 3, 1) := by decide +kernel
theorem dL_law_784 : decode cL_law 784 = .ok (.iconst 2, 1) := by decide +kernel
theorem dL_law_785 : decode cL_law 785 = .ok (.iadd, 1) := by decide +kernel
theorem dL_law_786 : decode cL_law 786 = .ok (.iaload, 1) := by decide +kernel
theorem dL_law_787 : decode cL_law 787 = .ok (.aload_n 0, 1) := by decide +kernel
theorem dL_law_788 : decode cL_law 788 = .ok (.iload_n 3, 1) := by decide +kernel
theorem dL_law_789 : decode cL_law 789 = .ok (.iconst 3, 1) := by decide +kernel
theorem dL_law_790 : decode cL_law 790 = .ok (.iadd, 1) := by decide +kernel
theorem dL_law_791 : decode cL_law 791 = .ok (.iaload, 1) := by decide +kernel
theorem dL_law_792 : decode cL_law 792 = .ok (.aload_n 0, 1) := by decide +kernel
theorem dL_law_793 : decode cL_law 793 = .ok (.iload_n 3, 1) := by decide +kernel
theorem dL_law_794 : decode cL_law 794 = .ok (.iconst 4, 1) := by decide +kernel
theorem dL_law_795 : decode cL_law 795 = .ok (.iadd, 1) := by decide +kernel
theorem dL_law_796 : decode cL_law 796 = .ok (.iaload, 1) := by decide +kernel
theorem dL_law_797 : decode cL_law 797 = .ok (.invokevirtual 98, 3) := by decide +kernel
theorem dL_law_800 : decode cL_law 800 = .ok (.aload_n 2, 1) := by decide +kernel
theorem dL_law_801 : decode cL_law 801 = .ok (.aload_n 0, 1) := by decide +kernel
theorem dL_law_802 : decode cL_law 802 = .ok (.iload_n 3, 1) := by decide +kernel
theorem dL_law_803 : decode cL_law 803 = .ok (.iconst 1, 1) := by decide +kernel
theorem dL_law_804 : decode cL_law 804 = .ok (.iadd, 1) := by decide +kernel
theorem dL_law_805 : decode cL_law 805 = .ok (.iaload, 1) := by decide +kernel
theorem dL_law_806 : decode cL_law 806 = .ok (.aload_n 0, 1) := by decide +kernel
theorem dL_law_807 : decode cL_law 807 = .ok (.iload_n 3, 1) := by decide +kernel
theorem dL_law_808 : decode cL_law 808 = .ok (.iconst 2, 1) := by decide +kernel
theorem dL_law_809 : decode cL_law 809 = .ok (.iadd, 1) := by decide +kernel
theorem dL_law_810 : decode cL_law 810 = .ok (.iaload, 1) := by decide +kernel
theorem dL_law_811 : decode cL_law 811 = .ok (.aload_n 0, 1) := by decide +kernel
theorem dL_law_812 : decode cL_law 812 = .ok (.iload_n 3, 1) := by decide +kernel
theorem dL_law_813 : decode cL_law 813 = .ok (.iconst 3, 1) := by decide +kernel
theorem dL_law_814 : decode cL_law 814 = .ok (.iadd, 1) := by decide +kernel
theorem dL_law_815 : decode cL_law 815 = .ok (.iaload, 1) := by decide +kernel
theorem dL_law_816 : decode cL_law 816 = .ok (.aload_n 0, 1) := by decide +kernel
theorem dL_law_817 : decode cL_law 817 = .ok (.iload_n 3, 1) := by decide +kernel
theorem dL_law_818 : decode cL_law 818 = .ok (.iconst 4, 1) := by decide +kernel
theorem dL_law_819 : decode cL_law 819 = .ok (.iadd, 1) := by decide +kernel
theorem dL_law_820 : decode cL_law 820 = .ok (.iaload, 1) := by decide +kernel
theorem dL_law_821 : decode cL_law 821 = .ok (.invokevirtual 102, 3) := by decide +kernel
theorem dL_law_824 : decode cL_law 824 = .ok (.if_icmp .eq 423, 3) := by decide +kernel
theorem dL_law_827 : decode cL_law 827 = .ok (.iconst 0, 1) := by decide +kernel
theorem dL_law_828 : decode cL_law 828 = .ok (.ireturn, 1) := by decide +kernel
theorem dL_law_829 : decode cL_law 829 = .ok (.aload_n 1, 1) := by decide +kernel
theorem dL_law_830 : decode cL_law 830 = .ok (.aload_n 0, 1) := by decide +kernel
theorem dL_law_831 : decode cL_law 831 = .ok (.iload_n 3, 1) := by decide +kernel
theorem dL_law_832 : decode cL_law 832 = .ok (.iconst 1, 1) := by decide +kernel
theorem dL_law_833 : decode cL_law 833 = .ok (.iadd, 1) := by decide +kernel
theorem dL_law_834 : decode cL_law 834 = .ok (.iaload, 1) := by decide +kernel
theorem dL_law_835 : decode cL_law 835 = .ok (.invokevirtual 103, 3) := by decide +kernel
theorem dL_law_838 : decode cL_law 838 = .ok (.aload_n 2, 1) := by decide +kernel
theorem dL_law_839 : decode cL_law 839 = .ok (.aload_n 0, 1) := by decide +kernel
theorem dL_law_840 : decode cL_law 840 = .ok (.iload_n 3, 1) := by decide +kernel
theorem dL_law_841 : decode cL_law 841 = .ok (.iconst 1, 1) := by decide +kernel
theorem dL_law_842 : decode cL_law 842 = .ok (.iadd, 1) := by decide +kernel
theorem dL_law_843 : decode cL_law 843 = .ok (.iaload, 1) := by decide +kernel
theorem dL_law_844 : decode cL_law 844 = .ok (.invokevirtual 106, 3) := by decide +kernel
theorem dL_law_847 : decode cL_law 847 = .ok (.if_icmp .eq 400, 3) := by decide +kernel
theorem dL_law_850 : decode cL_law 850 = .ok (.iconst 0, 1) := by decide +kernel
theorem dL_law_851 : decode cL_law 851 = .ok (.ireturn, 1) := by decide +kernel
theorem dL_law_852 : decode cL_law 852 = .ok (.aload_n 1, 1) := by decide +kernel
theorem dL_law_853 : decode cL_law 853 = .ok (.aload_n 0, 1) := by decide +kernel
theorem dL_law_854 : decode cL_law 854 = .ok (.iload_n 3, 1) := by decide +kernel
theorem dL_law_855 : decode cL_law 855 = .ok (.iconst 1, 1) := by decide +kernel
theorem dL_law_856 : decode cL_law 856 = .ok (.iadd, 1) := by decide +kernel
theorem dL_law_857 : decode cL_law 857 = .ok (.iaload, 1) := by decide +kernel
theorem dL_law_858 : decode cL_law 858 = .ok (.aload_n 0, 1) := by decide +kernel
theorem dL_law_859 : decode cL_law 859 = .ok (.iload_n 3, 1) := by decide +kernel
theorem dL_law_860 : decode cL_law 860 = .ok (.iconst 2, 1) := by decide +kernel
theorem dL_law_861 : decode cL_law 861 = .ok (.iadd, 1) := by decide +kernel
theorem dL_law_862 : decode cL_law 862 = .ok (.iaload, 1) := by decide +kernel
theorem dL_law_863 : decode cL_law 863 = .ok (.aload_n 0, 1) := by decide +kernel
theorem dL_law_864 : decode cL_law 864 = .ok (.iload_n 3, 1) := by decide +kernel
theorem dL_law_865 : decode cL_law 865 = .ok (.iconst 3, 1) := by decide +kernel
theorem dL_law_866 : decode cL_law 866 = .ok (.iadd, 1) := by decide +kernel
theorem dL_law_867 : decode cL_law 867 = .ok (.iaload, 1) := by decide +kernel
theorem dL_law_868 : decode cL_law 868 = .ok (.invokevirtual 107, 3) := by decide +kernel
theorem dL_law_871 : decode cL_law 871 = .ok (.aload_n 2, 1) := by decide +kernel
theorem dL_law_872 : decode cL_law 872 = .ok (.aload_n 0, 1) := by decide +kernel
theorem dL_law_873 : decode cL_law 873 = .ok (.iload_n 3, 1) := by decide +kernel
theorem dL_law_874 : decode cL_law 874 = .ok (.iconst 1, 1) := by decide +kernel
theorem dL_law_875 : decode cL_law 875 = .ok (.iadd, 1) := by decide +kernel
theorem dL_law_876 : decode cL_law 876 = .ok (.iaload, 1) := by decide +kernel
theorem dL_law_877 : decode cL_law 877 = .ok (.aload_n 0, 1) := by decide +kernel
theorem dL_law_878 : decode cL_law 878 = .ok (.iload_n 3, 1) := by decide +kernel
theorem dL_law_879 : decode cL_law 879 = .ok (.iconst 2, 1) := by decide +kernel
theorem dL_law_880 : decode cL_law 880 = .ok (.iadd, 1) := by decide +kernel
theorem dL_law_881 : decode cL_law 881 = .ok (.iaload, 1) := by decide +kernel
theorem dL_law_882 : decode cL_law 882 = .ok (.aload_n 0, 1) := by decide +kernel
theorem dL_law_883 : decode cL_law 883 = .ok (.iload_n 3, 1) := by decide +kernel
theorem dL_law_884 : decode cL_law 884 = .ok (.iconst 3, 1) := by decide +kernel
theorem dL_law_885 : decode cL_law 885 = .ok (.iadd, 1) := by decide +kernel
theorem dL_law_886 : decode cL_law 886 = .ok (.iaload, 1) := by decide +kernel
theorem dL_law_887 : decode cL_law 887 = .ok (.invokevirtual 110, 3) := by decide +kernel
theorem dL_law_890 : decode cL_law 890 = .ok (.if_icmp .eq 357, 3) := by decide +kernel
theorem dL_law_893 : decode cL_law 893 = .ok (.iconst 0, 1) := by decide +kernel
theorem dL_law_894 : decode cL_law 894 = .ok (.ireturn, 1) := by decide +kernel
theorem dL_law_895 : decode cL_law 895 = .ok (.aload_n 1, 1) := by decide +kernel
theorem dL_law_896 : decode cL_law 896 = .ok (.invokevirtual 111, 3) := by decide +kernel
theorem dL_law_899 : decode cL_law 899 = .ok (.aload_n 2, 1) := by decide +kernel
theorem dL_law_900 : decode cL_law 900 = .ok (.invokevirtual 114, 3) := by decide +kernel
theorem dL_law_903 : decode cL_law 903 = .ok (.if_icmp .eq 344, 3) := by decide +kernel
theorem dL_law_906 : decode cL_law 906 = .ok (.iconst 0, 1) := by decide +kernel
theorem dL_law_907 : decode cL_law 907 = .ok (.ireturn, 1) := by decide +kernel
theorem dL_law_908 : decode cL_law 908 = .ok (.aload_n 1, 1) := by decide +kernel
theorem dL_law_909 : decode cL_law 909 = .ok (.aload_n 0, 1) := by decide +kernel
theorem dL_law_910 : decode cL_law 910 = .ok (.iload_n 3, 1) := by decide +kernel
theorem dL_law_911 : decode cL_law 911 = .ok (.iconst 1, 1) := by decide +kernel
theorem dL_law_912 : decode cL_law 912 = .ok (.iadd, 1) := by decide +kernel
theorem dL_law_913 : decode cL_law 913 = .ok (.iaload, 1) := by decide +kernel
theorem dL_law_914 : decode cL_law 914 = .ok (.aload_n 0, 1) := by decide +kernel
theorem dL_law_915 : decode cL_law 915 = .ok (.iload_n 3, 1) := by decide +kernel
theorem dL_law_916 : decode cL_law 916 = .ok (.iconst 2, 1) := by decide +kernel
theorem dL_law_917 : decode cL_law 917 = .ok (.iadd, 1) := by decide +kernel
theorem dL_law_918 : decode cL_law 918 = .ok (.iaload, 1) := by decide +kernel
theorem dL_law_919 : decode cL_law 919 = .ok (.invokevirtual 115, 3) := by decide +kernel
theorem dL_law_922 : decode cL_law 922 = .ok (.aload_n 2, 1) := by decide +kernel
theorem dL_law_923 : decode cL_law 923 = .ok (.aload_n 0, 1) := by decide +kernel
theorem dL_law_924 : decode cL_law 924 = .ok (.iload_n 3, 1) := by decide +kernel
theorem dL_law_925 : decode cL_law 925 = .ok (.iconst 1, 1) := by decide +kernel
theorem dL_law_926 : decode cL_law 926 = .ok (.iadd, 1) := by decide +kernel
theorem dL_law_927 : decode cL_law 927 = .ok (.iaload, 1) := by decide +kernel
theorem dL_law_928 : decode cL_law 928 = .ok (.aload_n 0, 1) := by decide +kernel
theorem dL_law_929 : decode cL_law 929 = .ok (.iload_n 3, 1) := by decide +kernel
theorem dL_law_930 : decode cL_law 930 = .ok (.iconst 2, 1) := by decide +kernel
theorem dL_law_931 : decode cL_law 931 = .ok (.iadd, 1) := by decide +kernel
theorem dL_law_932 : decode cL_law 932 = .ok (.iaload, 1) := by decide +kernel
theorem dL_law_933 : decode cL_law 933 = .ok (.invokevirtual 118, 3) := by decide +kernel
theorem dL_law_936 : decode cL_law 936 = .ok (.if_icmp .eq 311, 3) := by decide +kernel
theorem dL_law_939 : decode cL_law 939 = .ok (.iconst 0, 1) := by decide +kernel
theorem dL_law_940 : decode cL_law 940 = .ok (.ireturn, 1) := by decide +kernel
theorem dL_law_941 : decode cL_law 941 = .ok (.aload_n 1, 1) := by decide +kernel
theorem dL_law_942 : decode cL_law 942 = .ok (.aload_n 0, 1) := by decide +kernel
theorem dL_law_943 : decode cL_law 943 = .ok (.iload_n 3, 1) := by decide +kernel
theorem dL_law_944 : decode cL_law 944 = .ok (.iconst 1, 1) := by decide +kernel
theorem dL_law_945 : decode cL_law 945 = .ok (.iadd, 1) := by decide +kernel
theorem dL_law_946 : decode cL_law 946 = .ok (.iaload, 1) := by decide +kernel
theorem dL_law_947 : decode cL_law 947 = .ok (.invokevirtual 119, 3) := by decide +kernel
theorem dL_law_950 : decode cL_law 950 = .ok (.aload_n 2, 1) := by decide +kernel
theorem dL_law_951 : decode cL_law 951 = .ok (.aload_n 0, 1) := by decide +kernel
theorem dL_law_952 : decode cL_law 952 = .ok (.iload_n 3, 1) := by decide +kernel
theorem dL_law_953 : decode cL_law 953 = .ok (.iconst 1, 1) := by decide +kernel
theorem dL_law_954 : decode cL_law 954 = .ok (.iadd, 1) := by decide +kernel
theorem dL_law_955 : decode cL_law 955 = .ok (.iaload, 1) := by decide +kernel
theorem dL_law_956 : decode cL_law 956 = .ok (.invokevirtual 122, 3) := by decide +kernel
theorem dL_law_959 : decode cL_law 959 = .ok (.if_icmp .eq 288, 3) := by decide +kernel
theorem dL_law_962 : decode cL_law 962 = .ok (.iconst 0, 1) := by decide +kernel
theorem dL_law_963 : decode cL_law 963 = .ok (.ireturn, 1) := by decide +kernel
theorem dL_law_964 : decode cL_law 964 = .ok (.aload_n 1, 1) := by decide +kernel
theorem dL_law_965 : decode cL_law 965 = .ok (.aload_n 0, 1) := by decide +kernel
theorem dL_law_966 : decode cL_law 966 = .ok (.iload_n 3, 1) := by decide +kernel
theorem dL_law_967 : decode cL_law 967 = .ok (.iconst 1, 1) := by decide +kernel
theorem dL_law_968 : decode cL_law 968 = .ok (.iadd, 1) := by decide +kernel
theorem dL_law_969 : decode cL_law 969 = .ok (.iaload, 1) := by decide +kernel
theorem dL_law_970 : decode cL_law 970 = .ok (.invokevirtual 123, 3) := by decide +kernel
theorem dL_law_973 : decode cL_law 973 = .ok (.aload_n 2, 1) := by decide +kernel
theorem dL_law_974 : decode cL_law 974 = .ok (.aload_n 0, 1) := by decide +kernel
theorem dL_law_975 : decode cL_law 975 = .ok (.iload_n 3, 1) := by decide +kernel
theorem dL_law_976 : decode cL_law 976 = .ok (.iconst 1, 1) := by decide +kernel
theorem dL_law_977 : decode cL_law 977 = .ok (.iadd, 1) := by decide +kernel
theorem dL_law_978 : decode cL_law 978 = .ok (.iaload, 1) := by decide +kernel
theorem dL_law_979 : decode cL_law 979 = .ok (.invokevirtual 126, 3) := by decide +kernel
theorem dL_law_982 : decode cL_law 982 = .ok (.if_icmp .eq 265, 3) := by decide +kernel
theorem dL_law_985 : decode cL_law 985 = .ok (.iconst 0, 1) := by decide +kernel
theorem dL_law_986 : decode cL_law 986 = .ok (.ireturn, 1) := by decide +kernel
theorem dL_law_987 : decode cL_law 987 = .ok (.aload_n 1, 1) := by decide +kernel
theorem dL_law_988 : decode cL_law 988 = .ok (.invokevirtual 127, 3) := by decide +kernel
theorem dL_law_991 : decode cL_law 991 = .ok (.aload_n 2, 1) := by decide +kernel
theorem dL_law_992 : decode cL_law 992 = .ok (.invokevirtual 130, 3) := by decide +kernel
theorem dL_law_995 : decode cL_law 995 = .ok (.if_icmp .eq 252, 3) := by decide +kernel
theorem dL_law_998 : decode cL_law 998 = .ok (.iconst 0, 1) := by decide +kernel
theorem dL_law_999 : decode cL_law 999 = .ok (.ireturn, 1) := by decide +kernel
theorem dL_law_1000 : decode cL_law 1000 = .ok (.aload_n 1, 1) := by decide +kernel
theorem dL_law_1001 : decode cL_law 1001 = .ok (.invokevirtual 131, 3) := by decide +kernel
theorem dL_law_1004 : decode cL_law 1004 = .ok (.aload_n 2, 1) := by decide +kernel
theorem dL_law_1005 : decode cL_law 1005 = .ok (.invokevirtual 134, 3) := by decide +kernel
theorem dL_law_1008 : decode cL_law 1008 = .ok (.if_icmp .eq 239, 3) := by decide +kernel
theorem dL_law_1011 : decode cL_law 1011 = .ok (.iconst 0, 1) := by decide +kernel
theorem dL_law_1012 : decode cL_law 1012 = .ok (.ireturn, 1) := by decide +kernel
theorem dL_law_1013 : decode cL_law 1013 = .ok (.aload_n 1, 1) := by decide +kernel
theorem dL_law_1014 : decode cL_law 1014 = .ok (.invokevirtual 135, 3) := by decide +kernel
theorem dL_law_1017 : decode cL_law 1017 = .ok (.aload_n 2, 1) := by decide +kernel
theorem dL_law_1018 : decode cL_law 1018 = .ok (.invokevirtual 138, 3) := by decide +kernel
theorem dL_law_1021 : decode cL_law 1021 = .ok (.if_icmp .eq 226, 3) := by decide +kernel
theorem dL_law_1024 : decode cL_law 1024 = .ok (.iconst 0, 1) := by decide +kernel
theorem dL_law_1025 : decode cL_law 1025 = .ok (.ireturn, 1) := by decide +kernel
theorem dL_law_1026 : decode cL_law 1026 = .ok (.aload_n 1, 1) := by decide +kernel
theorem dL_law_1027 : decode cL_law 1027 = .ok (.aload_n 0, 1) := by decide +kernel
theorem dL_law_1028 : decode cL_law 1028 = .ok (.iload_n 3, 1) := by decide +kernel
theorem dL_law_1029 : decode cL_law 1029 = .ok (.iconst 1, 1) := by decide +kernel
theorem dL_law_1030 : decode cL_law 1030 = .ok (.iadd, 1) := by decide +kernel
theorem dL_law_1031 : decode cL_law 1031 = .ok (.iaload, 1) := by decide +kernel
theorem dL_law_1032 : decode cL_law 1032 = .ok (.invokevirtual 139, 3) := by decide +kernel
theorem dL_law_1035 : decode cL_law 1035 = .ok (.aload_n 2, 1) := by decide +kernel
theorem dL_law_1036 : decode cL_law 1036 = .ok (.aload_n 0, 1) := by decide +kernel
theorem dL_law_1037 : decode cL_law 1037 = .ok (.iload_n 3, 1) := by decide +kernel
theorem dL_law_1038 : decode cL_law 1038 = .ok (.iconst 1, 1) := by decide +kernel
theorem dL_law_1039 : decode cL_law 1039 = .ok (.iadd, 1) := by decide +kernel
theorem dL_law_1040 : decode cL_law 1040 = .ok (.iaload, 1) := by decide +kernel
theorem dL_law_1041 : decode cL_law 1041 = .ok (.invokevirtual 142, 3) := by decide +kernel
theorem dL_law_1044 : decode cL_law 1044 = .ok (.if_icmp .eq 203, 3) := by decide +kernel
theorem dL_law_1047 : decode cL_law 1047 = .ok (.iconst 0, 1) := by decide +kernel
theorem dL_law_1048 : decode cL_law 1048 = .ok (.ireturn, 1) := by decide +kernel
theorem dL_law_1049 : decode cL_law 1049 = .ok (.aload_n 1, 1) := by decide +kernel
theorem dL_law_1050 : decode cL_law 1050 = .ok (.aload_n 0, 1) := by decide +kernel
theorem dL_law_1051 : decode cL_law 1051 = .ok (.iload_n 3, 1) := by decide +kernel
theorem dL_law_1052 : decode cL_law 1052 = .ok (.iconst 1, 1) := by decide +kernel
theorem dL_law_1053 : decode cL_law 1053 = .ok (.iadd, 1) := by decide +kernel
theorem dL_law_1054 : decode cL_law 1054 = .ok (.iaload, 1) := by decide +kernel
theorem dL_law_1055 : decode cL_law 1055 = .ok (.invokevirtual 143, 3) := by decide +kernel
theorem dL_law_1058 : decode cL_law 1058 = .ok (.aload_n 2, 1) := by decide +kernel
theorem dL_law_1059 : decode cL_law 1059 = .ok (.aload_n 0, 1) := by decide +kernel
theorem dL_law_1060 : decode cL_law 1060 = .ok (.iload_n 3, 1) := by decide +kernel
theorem dL_law_1061 : decode cL_law 1061 = .ok (.iconst 1, 1) := by decide +kernel
theorem dL_law_1062 : decode cL_law 1062 = .ok (.iadd, 1) := by decide +kernel
theorem dL_law_1063 : decode cL_law 1063 = .ok (.iaload, 1) := by decide +kernel
theorem dL_law_1064 : decode cL_law 1064 = .ok (.invokevirtual 146, 3) := by decide +kernel
theorem dL_law_1067 : decode cL_law 1067 = .ok (.if_icmp .eq 180, 3) := by decide +kernel
theorem dL_law_1070 : decode cL_law 1070 = .ok (.iconst 0, 1) := by decide +kernel
theorem dL_law_1071 : decode cL_law 1071 = .ok (.ireturn, 1) := by decide +kernel
theorem dL_law_1072 : decode cL_law 1072 = .ok (.aload_n 1, 1) := by decide +kernel
theorem dL_law_1073 : decode cL_law 1073 = .ok (.aload_n 0, 1) := by decide +kernel
theorem dL_law_1074 : decode cL_law 1074 = .ok (.iload_n 3, 1) := by decide +kernel
theorem dL_law_1075 : decode cL_law 1075 = .ok (.iconst 1, 1) := by decide +kernel
theorem dL_law_1076 : decode cL_law 1076 = .ok (.iadd, 1) := by decide +kernel
theorem dL_law_1077 : decode cL_law 1077 = .ok (.iaload, 1) := by decide +kernel
theorem dL_law_1078 : decode cL_law 1078 = .ok (.aload_n 0, 1) := by decide +kernel
theorem dL_law_1079 : decode cL_law 1079 = .ok (.iload_n 3, 1) := by decide +kernel
theorem dL_law_1080 : decode cL_law 1080 = .ok (.iconst 2, 1) := by decide +kernel
theorem dL_law_1081 : decode cL_law 1081 = .ok (.iadd, 1) := by decide +kernel
theorem dL_law_1082 : decode cL_law 1082 = .ok (.iaload, 1) := by decide +kernel
theorem dL_law_1083 : decode cL_law 1083 = .ok (.aload_n 0, 1) := by decide +kernel
theorem dL_law_1084 : decode cL_law 1084 = .ok (.iload_n 3, 1) := by decide +kernel
theorem dL_law_1085 : decode cL_law 1085 = .ok (.iconst 3, 1) := by decide +kernel
theorem dL_law_1086 : decode cL_law 1086 = .ok (.iadd, 1) := by decide +kernel
theorem dL_law_1087 : decode cL_law 1087 = .ok (.iaload, 1) := by decide +kernel
theorem dL_law_1088 : decode cL_law 1088 = .ok (.invokevirtual 147, 3) := by decide +kernel
theorem dL_law_1091 : decode cL_law 1091 = .ok (.aload_n 2, 1) := by decide +kernel
theorem dL_law_1092 : decode cL_law 1092 = .ok (.aload_n 0, 1) := by decide +kernel
theorem dL_law_1093 : decode cL_law 1093 = .ok (.iload_n 3, 1) := by decide +kernel
theorem dL_law_1094 : decode cL_law 1094 = .ok (.iconst 1, 1) := by decide +kernel
theorem dL_law_1095 : decode cL_law 1095 = .ok (.iadd, 1) := by decide +kernel
theorem dL_law_1096 : decode cL_law 1096 = .ok (.iaload, 1) := by decide +kernel
theorem dL_law_1097 : decode cL_law 1097 = .ok (.aload_n 0, 1) := by decide +kernel
theorem dL_law_1098 : decode cL_law 1098 = .ok (.iload_n 3, 1) := by decide +kernel
theorem dL_law_1099 : decode cL_law 1099 = .ok (.iconst 2, 1) := by decide +kernel
theorem dL_law_1100 : decode cL_law 1100 = .ok (.iadd, 1) := by decide +kernel
theorem dL_law_1101 : decode cL_law 1101 = .ok (.iaload, 1) := by decide +kernel
theorem dL_law_1102 : decode cL_law 1102 = .ok (.aload_n 0, 1) := by decide +kernel
theorem dL_law_1103 : decode cL_law 1103 = .ok (.iload_n 3, 1) := by decide +kernel
theorem dL_law_1104 : decode cL_law 1104 = .ok (.iconst 3, 1) := by decide +kernel
theorem dL_law_1105 : decode cL_law 1105 = .ok (.iadd, 1) := by decide +kernel
theorem dL_law_1106 : decode cL_law 1106 = .ok (.iaload, 1) := by decide +kernel
theorem dL_law_1107 : decode cL_law 1107 = .ok (.invokevirtual 150, 3) := by decide +kernel
theorem dL_law_1110 : decode cL_law 1110 = .ok (.if_icmp .eq 137, 3) := by decide +kernel
theorem dL_law_1113 : decode cL_law 1113 = .ok (.iconst 0, 1) := by decide +kernel
theorem dL_law_1114 : decode cL_law 1114 = .ok (.ireturn, 1) := by decide +kernel
theorem dL_law_1115 : decode cL_law 1115 = .ok (.aload_n 1, 1) := by decide +kernel
theorem dL_law_1116 : decode cL_law 1116 = .ok (.aload_n 0, 1) := by decide +kernel
theorem dL_law_1117 : decode cL_law 1117 = .ok (.iload_n 3, 1) := by decide +kernel
theorem dL_law_1118 : decode cL_law 1118 = .ok (.iconst 1, 1) := by decide +kernel
theorem dL_law_1119 : decode cL_law 1119 = .ok (.iadd, 1) := by decide +kernel
theorem dL_law_1120 : decode cL_law 1120 = .ok (.iaload, 1) := by decide +kernel
theorem dL_law_1121 : decode cL_law 1121 = .ok (.aload_n 0, 1) := by decide +kernel
theorem dL_law_1122 : decode cL_law 1122 = .ok (.iload_n 3, 1) := by decide +kernel
theorem dL_law_1123 : decode cL_law 1123 = .ok (.iconst 2, 1) := by decide +kernel
theorem dL_law_1124 : decode cL_law 1124 = .ok (.iadd, 1) := by decide +kernel
theorem dL_law_1125 : decode cL_law 1125 = .ok (.iaload, 1) := by decide +kernel
theorem dL_law_1126 : decode cL_law 1126 = .ok (.aload_n 0, 1) := by decide +kernel
theorem dL_law_1127 : decode cL_law 1127 = .ok (.iload_n 3, 1) := by decide +kernel
theorem dL_law_1128 : decode cL_law 1128 = .ok (.iconst 3, 1) := by decide +kernel
theorem dL_law_1129 : decode cL_law 1129 = .ok (.iadd, 1) := by decide +kernel
theorem dL_law_1130 : decode cL_law 1130 = .ok (.iaload, 1) := by decide +kernel
theorem dL_law_1131 : decode cL_law 1131 = .ok (.aload_n 0, 1) := by decide +kernel
theorem dL_law_1132 : decode cL_law 1132 = .ok (.iload_n 3, 1) := by decide +kernel
theorem dL_law_1133 : decode cL_law 1133 = .ok (.iconst 4, 1) := by decide +kernel
theorem dL_law_1134 : decode cL_law 1134 = .ok (.iadd, 1) := by decide +kernel
theorem dL_law_1135 : decode cL_law 1135 = .ok (.iaload, 1) := by decide +kernel
theorem dL_law_1136 : decode cL_law 1136 = .ok (.aload_n 0, 1) := by decide +kernel
theorem dL_law_1137 : decode cL_law 1137 = .ok (.iload_n 3, 1) := by decide +kernel
theorem dL_law_1138 : decode cL_law 1138 = .ok (.iconst 5, 1) := by decide +kernel
theorem dL_law_1139 : decode cL_law 1139 = .ok (.iadd, 1) := by decide +kernel
theorem dL_law_1140 : decode cL_law 1140 = .ok (.iaload, 1) := by decide +kernel
theorem dL_law_1141 : decode cL_law 1141 = .ok (.invokevirtual 151, 3) := by decide +kernel
theorem dL_law_1144 : decode cL_law 1144 = .ok (.aload_n 2, 1) := by decide +kernel
theorem dL_law_1145 : decode cL_law 1145 = .ok (.aload_n 0, 1) := by decide +kernel
theorem dL_law_1146 : decode cL_law 1146 = .ok (.iload_n 3, 1) := by decide +kernel
theorem dL_law_1147 : decode cL_law 1147 = .ok (.iconst 1, 1) := by decide +kernel
theorem dL_law_1148 : decode cL_law 1148 = .ok (.iadd, 1) := by decide +kernel
theorem dL_law_1149 : decode cL_law 1149 = .ok (.iaload, 1) := by decide +kernel
theorem dL_law_1150 : decode cL_law 1150 = .ok (.aload_n 0, 1) := by decide +kernel
theorem dL_law_1151 : decode cL_law 1151 = .ok (.iload_n 3, 1) := by decide +kernel
theorem dL_law_1152 : decode cL_law 1152 = .ok (.iconst 2, 1) := by decide +kernel
theorem dL_law_1153 : decode cL_law 1153 = .ok (.iadd, 1) := by decide +kernel
theorem dL_law_1154 : decode cL_law 1154 = .ok (.iaload, 1) := by decide +kernel
theorem dL_law_1155 : decode cL_law 1155 = .ok (.aload_n 0, 1) := by decide +kernel
theorem dL_law_1156 : decode cL_law 1156 = .ok (.iload_n 3, 1) := by decide +kernel
theorem dL_law_1157 : decode cL_law 1157 = .ok (.iconst 3, 1) := by decide +kernel
theorem dL_law_1158 : decode cL_law 1158 = .ok (.iadd, 1) := by decide +kernel
theorem dL_law_1159 : decode cL_law 1159 = .ok (.iaload, 1) := by decide +kernel
theorem dL_law_1160 : decode cL_law 1160 = .ok (.aload_n 0, 1) := by decide +kernel
theorem dL_law_1161 : decode cL_law 1161 = .ok (.iload_n 3, 1) := by decide +kernel
theorem dL_law_1162 : decode cL_law 1162 = .ok (.iconst 4, 1) := by decide +kernel
theorem dL_law_1163 : decode cL_law 1163 = .ok (.iadd, 1) := by decide +kernel
theorem dL_law_1164 : decode cL_law 1164 = .ok (.iaload, 1) := by decide +kernel
theorem dL_law_1165 : decode cL_law 1165 = .ok (.aload_n 0, 1) := by decide +kernel
theorem dL_law_1166 : decode cL_law 1166 = .ok (.iload_n 3, 1) := by decide +kernel
theorem dL_law_1167 : decode cL_law 1167 = .ok (.iconst 5, 1) := by decide +kernel
theorem dL_law_1168 : decode cL_law 1168 = .ok (.iadd, 1) := by decide +kernel
theorem dL_law_1169 : decode cL_law 1169 = .ok (.iaload, 1) := by decide +kernel
theorem dL_law_1170 : decode cL_law 1170 = .ok (.invokevirtual 154, 3) := by decide +kernel
theorem dL_law_1173 : decode cL_law 1173 = .ok (.if_icmp .eq 74, 3) := by decide +kernel
theorem dL_law_1176 : decode cL_law 1176 = .ok (.iconst 0, 1) := by decide +kernel
theorem dL_law_1177 : decode cL_law 1177 = .ok (.ireturn, 1) := by decide +kernel
theorem dL_law_1178 : decode cL_law 1178 = .ok (.aload_n 1, 1) := by decide +kernel
theorem dL_law_1179 : decode cL_law 1179 = .ok (.aload_n 0, 1) := by decide +kernel
theorem dL_law_1180 : decode cL_law 1180 = .ok (.iload_n 3, 1) := by decide +kernel
theorem dL_law_1181 : decode cL_law 1181 = .ok (.iconst 1, 1) := by decide +kernel
theorem dL_law_1182 : decode cL_law 1182 = .ok (.iadd, 1) := by decide +kernel
theorem dL_law_1183 : decode cL_law 1183 = .ok (.iaload, 1) := by decide +kernel
theorem dL_law_1184 : decode cL_law 1184 = .ok (.aload_n 0, 1) := by decide +kernel
theorem dL_law_1185 : decode cL_law 1185 = .ok (.iload_n 3, 1) := by decide +kernel
theorem dL_law_1186 : decode cL_law 1186 = .ok (.iconst 2, 1) := by decide +kernel
theorem dL_law_1187 : decode cL_law 1187 = .ok (.iadd, 1) := by decide +kernel
theorem dL_law_1188 : decode cL_law 1188 = .ok (.iaload, 1) := by decide +kernel
theorem dL_law_1189 : decode cL_law 1189 = .ok (.invokevirtual 155, 3) := by decide +kernel
theorem dL_law_1192 : decode cL_law 1192 = .ok (.aload_n 2, 1) := by decide +kernel
theorem dL_law_1193 : decode cL_law 1193 = .ok (.aload_n 0, 1) := by decide +kernel
theorem dL_law_1194 : decode cL_law 1194 = .ok (.iload_n 3, 1) := by decide +kernel
theorem dL_law_1195 : decode cL_law 1195 = .ok (.iconst 1, 1) := by decide +kernel
theorem dL_law_1196 : decode cL_law 1196 = .ok (.iadd, 1) := by decide +kernel
theorem dL_law_1197 : decode cL_law 1197 = .ok (.iaload, 1) := by decide +kernel
theorem dL_law_1198 : decode cL_law 1198 = .ok (.aload_n 0, 1) := by decide +kernel
theorem dL_law_1199 : decode cL_law 1199 = .ok (.iload_n 3, 1) := by decide +kernel
theorem dL_law_1200 : decode cL_law 1200 = .ok (.iconst 2, 1) := by decide +kernel
theorem dL_law_1201 : decode cL_law 1201 = .ok (.iadd, 1) := by decide +kernel
theorem dL_law_1202 : decode cL_law 1202 = .ok (.iaload, 1) := by decide +kernel
theorem dL_law_1203 : decode cL_law 1203 = .ok (.invokevirtual 158, 3) := by decide +kernel
theorem dL_law_1206 : decode cL_law 1206 = .ok (.if_icmp .eq 41, 3) := by decide +kernel
theorem dL_law_1209 : decode cL_law 1209 = .ok (.iconst 0, 1) := by decide +kernel
theorem dL_law_1210 : decode cL_law 1210 = .ok (.ireturn, 1) := by decide +kernel
theorem dL_law_1211 : decode cL_law 1211 = .ok (.aload_n 1, 1) := by decide +kernel
theorem dL_law_1212 : decode cL_law 1212 = .ok (.aload_n 0, 1) := by decide +kernel
theorem dL_law_1213 : decode cL_law 1213 = .ok (.iload_n 3, 1) := by decide +kernel
theorem dL_law_1214 : decode cL_law 1214 = .ok (.iconst 1, 1) := by decide +kernel
theorem dL_law_1215 : decode cL_law 1215 = .ok (.iadd, 1) := by decide +kernel
theorem dL_law_1216 : decode cL_law 1216 = .ok (.iaload, 1) := by decide +kernel
theorem dL_law_1217 : decode cL_law 1217 = .ok (.invokevirtual 159, 3) := by decide +kernel
theorem dL_law_1220 : decode cL_law 1220 = .ok (.aload_n 2, 1) := by decide +kernel
theorem dL_law_1221 : decode cL_law 1221 = .ok (.aload_n 0, 1) := by decide +kernel
theorem dL_law_1222 : decode cL_law 1222 = .ok (.iload_n 3, 1) := by decide +kernel
theorem dL_law_1223 : decode cL_law 1223 = .ok (.iconst 1, 1) := by decide +kernel
theorem dL_law_1224 : decode cL_law 1224 = .ok (.iadd, 1) := by decide +kernel
theorem dL_law_1225 : decode cL_law 1225 = .ok (.iaload, 1) := by decide +kernel
theorem dL_law_1226 : decode cL_law 1226 = .ok (.invokevirtual 162, 3) := by decide +kernel
theorem dL_law_1229 : decode cL_law 1229 = .ok (.if_icmp .eq 18, 3) := by decide +kernel
theorem dL_law_1232 : decode cL_law 1232 = .ok (.iconst 0, 1) := by decide +kernel
theorem dL_law_1233 : decode cL_law 1233 = .ok (.ireturn, 1) := by decide +kernel
theorem dL_law_1234 : decode cL_law 1234 = .ok (.aload_n 1, 1) := by decide +kernel
theorem dL_law_1235 : decode cL_law 1235 = .ok (.invokevirtual 163, 3) := by decide +kernel
theorem dL_law_1238 : decode cL_law 1238 = .ok (.aload_n 2, 1) := by decide +kernel
theorem dL_law_1239 : decode cL_law 1239 = .ok (.invokevirtual 166, 3) := by decide +kernel
theorem dL_law_1242 : decode cL_law 1242 = .ok (.if_icmp .eq 5, 3) := by decide +kernel
theorem dL_law_1245 : decode cL_law 1245 = .ok (.iconst 0, 1) := by decide +kernel
theorem dL_law_1246 : decode cL_law 1246 = .ok (.ireturn, 1) := by decide +kernel
theorem dL_law_1247 : decode cL_law 1247 = .ok (.iinc 3 6, 3) := by decide +kernel
theorem dL_law_1250 : decode cL_law 1250 = .ok (.goto (-1232), 3) := by decide +kernel
theorem dL_law_1253 : decode cL_law 1253 = .ok (.iconst 1, 1) := by decide +kernel
theorem dL_law_1254 : decode cL_law 1254 = .ok (.ireturn, 1) := by decide +kernel
