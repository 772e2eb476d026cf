/-! ===== printed decode rows ===== -/
theorem dX0_init_0 : decode cX0_init 0 = .ok (.aload_n 0, 1) := by decide +kernel
theorem dX0_init_1 : decode cX0_init 1 = .ok (.invokespecial 3, 3) := by decide +kernel
theorem dX0_init_4 : decode cX0_init 4 = .ok (.aload_n 0, 1) := by decide +kernel
theorem dX0_init_5 : decode cX0_init 5 = .ok (.iconst 4, 1) := by decide +kernel
theorem dX0_init_6 : decode cX0_init 6 = .ok (.newarray .int, 2) := by decide +kernel
theorem dX0_init_8 : decode cX0_init 8 = .ok (.putfield 9, 3) := by decide +kernel
theorem dX0_init_11 : decode cX0_init 11 = .ok (.aload_n 0, 1) := by decide +kernel
theorem dX0_init_12 : decode cX0_init 12 = .ok (.iconst 0, 1) := by decide +kernel
theorem dX0_init_13 : decode cX0_init 13 = .ok (.putfield 15, 3) := by decide +kernel
theorem dX0_init_16 : decode cX0_init 16 = .ok (.aload_n 0, 1) := by decide +kernel
theorem dX0_init_17 : decode cX0_init 17 = .ok (.iconst (-1), 1) := by decide +kernel
theorem dX0_init_18 : decode cX0_init 18 = .ok (.putfield 19, 3) := by decide +kernel
theorem dX0_init_21 : decode cX0_init 21 = .ok (.aload_n 0, 1) := by decide +kernel
theorem dX0_init_22 : decode cX0_init 22 = .ok (.iconst (-1), 1) := by decide +kernel
theorem dX0_init_23 : decode cX0_init 23 = .ok (.putfield 22, 3) := by decide +kernel
theorem dX0_init_26 : decode cX0_init 26 = .ok (.aload_n 0, 1) := by decide +kernel
theorem dX0_init_27 : decode cX0_init 27 = .ok (.iconst (-1), 1) := by decide +kernel
theorem dX0_init_28 : decode cX0_init 28 = .ok (.putfield 25, 3) := by decide +kernel
theorem dX0_init_31 : decode cX0_init 31 = .ok (.aload_n 0, 1) := by decide +kernel
theorem dX0_init_32 : decode cX0_init 32 = .ok (.iconst 0, 1) := by decide +kernel
theorem dX0_init_33 : decode cX0_init 33 = .ok (.putfield 28, 3) := by decide +kernel
theorem dX0_init_36 : decode cX0_init 36 = .ok (.aload_n 0, 1) := by decide +kernel
theorem dX0_init_37 : decode cX0_init 37 = .ok (.iconst 0, 1) := by decide +kernel
theorem dX0_init_38 : decode cX0_init 38 = .ok (.putfield 32, 3) := by decide +kernel
theorem dX0_init_41 : decode cX0_init 41 = .ok (.aload_n 0, 1) := by decide +kernel
theorem dX0_init_42 : decode cX0_init 42 = .ok (.iload_n 1, 1) := by decide +kernel
theorem dX0_init_43 : decode cX0_init 43 = .ok (.putfield 35, 3) := by decide +kernel
theorem dX0_init_46 : decode cX0_init 46 = .ok (.aload_n 0, 1) := by decide +kernel
theorem dX0_init_47 : decode cX0_init 47 = .ok (.aload_n 2, 1) := by decide +kernel
theorem dX0_init_48 : decode cX0_init 48 = .ok (.putfield 38, 3) := by decide +kernel
theorem dX0_init_51 : decode cX0_init 51 = .ok (.aload_n 0, 1) := by decide +kernel
theorem dX0_init_52 : decode cX0_init 52 = .ok (.iload_n 3, 1) := by decide +kernel
theorem dX0_init_53 : decode cX0_init 53 = .ok (.putfield 42, 3) := by decide +kernel
theorem dX0_init_56 : decode cX0_init 56 = .ok (.return_, 1) := by decide +kernel
theorem dX0_settleAt_0 : decode cX0_settleAt 0 = .ok (.aload_n 0, 1) := by decide +kernel
theorem dX0_settleAt_1 : decode cX0_settleAt 1 = .ok (.iload_n 1, 1) := by decide +kernel
theorem dX0_settleAt_2 : decode cX0_settleAt 2 = .ok (.putfield 19, 3) := by decide +kernel
theorem dX0_settleAt_5 : decode cX0_settleAt 5 = .ok (.aload_n 0, 1) := by decide +kernel
theorem dX0_settleAt_6 : decode cX0_settleAt 6 = .ok (.iload_n 2, 1) := by decide +kernel
theorem dX0_settleAt_7 : decode cX0_settleAt 7 = .ok (.putfield 22, 3) := by decide +kernel
theorem dX0_settleAt_10 : decode cX0_settleAt 10 = .ok (.aload_n 0, 1) := by decide +kernel
theorem dX0_settleAt_11 : decode cX0_settleAt 11 = .ok (.iload_n 3, 1) := by decide +kernel
theorem dX0_settleAt_12 : decode cX0_settleAt 12 = .ok (.putfield 25, 3) := by decide +kernel
theorem dX0_settleAt_15 : decode cX0_settleAt 15 = .ok (.aload_n 0, 1) := by decide +kernel
theorem dX0_settleAt_16 : decode cX0_settleAt 16 = .ok (.iconst 0, 1) := by decide +kernel
theorem dX0_settleAt_17 : decode cX0_settleAt 17 = .ok (.putfield 28, 3) := by decide +kernel
theorem dX0_settleAt_20 : decode cX0_settleAt 20 = .ok (.aload_n 0, 1) := by decide +kernel
theorem dX0_settleAt_21 : decode cX0_settleAt 21 = .ok (.iconst 0, 1) := by decide +kernel
theorem dX0_settleAt_22 : decode cX0_settleAt 22 = .ok (.putfield 32, 3) := by decide +kernel
theorem dX0_settleAt_25 : decode cX0_settleAt 25 = .ok (.return_, 1) := by decide +kernel
theorem dX0_takesPartOf_0 : decode cX0_takesPartOf 0 = .ok (.aload_n 0, 1) := by decide +kernel
theorem dX0_takesPartOf_1 : decode cX0_takesPartOf 1 = .ok (.getfield 15, 3) := by decide +kernel
theorem dX0_takesPartOf_4 : decode cX0_takesPartOf 4 = .ok (.ifCond .ne 30, 3) := by decide +kernel
theorem dX0_takesPartOf_7 : decode cX0_takesPartOf 7 = .ok (.aload_n 0, 1) := by decide +kernel
theorem dX0_takesPartOf_8 : decode cX0_takesPartOf 8 = .ok (.getfield 25, 3) := by decide +kernel
theorem dX0_takesPartOf_11 : decode cX0_takesPartOf 11 = .ok (.iload_n 1, 1) := by decide +kernel
theorem dX0_takesPartOf_12 : decode cX0_takesPartOf 12 = .ok (.iload_n 2, 1) := by decide +kernel
theorem dX0_takesPartOf_13 : decode cX0_takesPartOf 13 = .ok (.iadd, 1) := by decide +kernel
theorem dX0_takesPartOf_14 : decode cX0_takesPartOf 14 = .ok (.if_icmp .ge 20, 3) := by decide +kernel
theorem dX0_takesPartOf_17 : decode cX0_takesPartOf 17 = .ok (.iload_n 1, 1) := by decide +kernel
theorem dX0_takesPartOf_18 : decode cX0_takesPartOf 18 = .ok (.aload_n 0, 1) := by decide +kernel
theorem dX0_takesPartOf_19 : decode cX0_takesPartOf 19 = .ok (.getfield 25, 3) := by decide +kernel
theorem dX0_takesPartOf_22 : decode cX0_takesPartOf 22 = .ok (.aload_n 0, 1) := by decide +kernel
theorem dX0_takesPartOf_23 : decode cX0_takesPartOf 23 = .ok (.getfield 42, 3) := by decide +kernel
theorem dX0_takesPartOf_26 : decode cX0_takesPartOf 26 = .ok (.iadd, 1) := by decide +kernel
theorem dX0_takesPartOf_27 : decode cX0_takesPartOf 27 = .ok (.if_icmp .ge 7, 3) := by decide +kernel
theorem dX0_takesPartOf_30 : decode cX0_takesPartOf 30 = .ok (.iconst 1, 1) := by decide +kernel
theorem dX0_takesPartOf_31 : decode cX0_takesPartOf 31 = .ok (.goto 4, 3) := by decide +kernel
theorem dX0_takesPartOf_34 : decode cX0_takesPartOf 34 = .ok (.iconst 0, 1) := by decide +kernel
theorem dX0_takesPartOf_35 : decode cX0_takesPartOf 35 = .ok (.ireturn, 1) := by decide +kernel
theorem dX0_needs_0 : decode cX0_needs 0 = .ok (.iload_n 1, 1) := by decide +kernel
theorem dX0_needs_1 : decode cX0_needs 1 = .ok (.tableswitch 67 0 2 #[27, 41, 58], 27) := by decide +kernel
theorem dX0_needs_28 : decode cX0_needs 28 = .ok (.aload_n 0, 1) := by decide +kernel
theorem dX0_needs_29 : decode cX0_needs 29 = .ok (.getfield 19, 3) := by decide +kernel
theorem dX0_needs_32 : decode cX0_needs 32 = .ok (.iload_n 2, 1) := by decide +kernel
theorem dX0_needs_33 : decode cX0_needs 33 = .ok (.if_icmp .ne 7, 3) := by decide +kernel
theorem dX0_needs_36 : decode cX0_needs 36 = .ok (.iconst 1, 1) := by decide +kernel
theorem dX0_needs_37 : decode cX0_needs 37 = .ok (.goto 4, 3) := by decide +kernel
theorem dX0_needs_40 : decode cX0_needs 40 = .ok (.iconst 0, 1) := by decide +kernel
theorem dX0_needs_41 : decode cX0_needs 41 = .ok (.ireturn, 1) := by decide +kernel
theorem dX0_needs_42 : decode cX0_needs 42 = .ok (.aload_n 0, 1) := by decide +kernel
theorem dX0_needs_43 : decode cX0_needs 43 = .ok (.getfield 38, 3) := by decide +kernel
theorem dX0_needs_46 : decode cX0_needs 46 = .ok (.getfield 45, 3) := by decide +kernel
theorem dX0_needs_49 : decode cX0_needs 49 = .ok (.iload_n 2, 1) := by decide +kernel
theorem dX0_needs_50 : decode cX0_needs 50 = .ok (.if_icmp .ne 7, 3) := by decide +kernel
theorem dX0_needs_53 : decode cX0_needs 53 = .ok (.iconst 1, 1) := by decide +kernel
theorem dX0_needs_54 : decode cX0_needs 54 = .ok (.goto 4, 3) := by decide +kernel
theorem dX0_needs_57 : decode cX0_needs 57 = .ok (.iconst 0, 1) := by decide +kernel
theorem dX0_needs_58 : decode cX0_needs 58 = .ok (.ireturn, 1) := by decide +kernel
theorem dX0_needs_59 : decode cX0_needs 59 = .ok (.aload_n 0, 1) := by decide +kernel
theorem dX0_needs_60 : decode cX0_needs 60 = .ok (.getfield 38, 3) := by decide +kernel
theorem dX0_needs_63 : decode cX0_needs 63 = .ok (.iload_n 2, 1) := by decide +kernel
theorem dX0_needs_64 : decode cX0_needs 64 = .ok (.invokevirtual 50, 3) := by decide +kernel
theorem dX0_needs_67 : decode cX0_needs 67 = .ok (.ireturn, 1) := by decide +kernel
theorem dX0_needs_68 : decode cX0_needs 68 = .ok (.aload_n 0, 1) := by decide +kernel
theorem dX0_needs_69 : decode cX0_needs 69 = .ok (.getfield 22, 3) := by decide +kernel
theorem dX0_needs_72 : decode cX0_needs 72 = .ok (.iload_n 2, 1) := by decide +kernel
theorem dX0_needs_73 : decode cX0_needs 73 = .ok (.if_icmp .ne 7, 3) := by decide +kernel
theorem dX0_needs_76 : decode cX0_needs 76 = .ok (.iconst 1, 1) := by decide +kernel
theorem dX0_needs_77 : decode cX0_needs 77 = .ok (.goto 4, 3) := by decide +kernel
theorem dX0_needs_80 : decode cX0_needs 80 = .ok (.iconst 0, 1) := by decide +kernel
theorem dX0_needs_81 : decode cX0_needs 81 = .ok (.ireturn, 1) := by decide +kernel
theorem dX0_reasonAgainst_0 : decode cX0_reasonAgainst 0 = .ok (.aload_n 0, 1) := by decide +kernel
theorem dX0_reasonAgainst_1 : decode cX0_reasonAgainst 1 = .ok (.iconst 0, 1) := by decide +kernel
theorem dX0_reasonAgainst_2 : decode cX0_reasonAgainst 2 = .ok (.iload_n 2, 1) := by decide +kernel
theorem dX0_reasonAgainst_3 : decode cX0_reasonAgainst 3 = .ok (.invokevirtual 54, 3) := by decide +kernel
theorem dX0_reasonAgainst_6 : decode cX0_reasonAgainst 6 = .ok (.ifCond .eq 5, 3) := by decide +kernel
theorem dX0_reasonAgainst_9 : decode cX0_reasonAgainst 9 = .ok (.iconst 1, 1) := by decide +kernel
theorem dX0_reasonAgainst_10 : decode cX0_reasonAgainst 10 = .ok (.ireturn, 1) := by decide +kernel
theorem dX0_reasonAgainst_11 : decode cX0_reasonAgainst 11 = .ok (.aload_n 0, 1) := by decide +kernel
theorem dX0_reasonAgainst_12 : decode cX0_reasonAgainst 12 = .ok (.iconst 1, 1) := by decide +kernel
theorem dX0_reasonAgainst_13 : decode cX0_reasonAgainst 13 = .ok (.aload_n 1, 1) := by decide +kernel
theorem dX0_reasonAgainst_14 : decode cX0_reasonAgainst 14 = .ok (.getfield 45, 3) := by decide +kernel
theorem dX0_reasonAgainst_17 : decode cX0_reasonAgainst 17 = .ok (.invokevirtual 54, 3) := by decide +kernel
theorem dX0_reasonAgainst_20 : decode cX0_reasonAgainst 20 = .ok (.ifCond .eq 5, 3) := by decide +kernel
theorem dX0_reasonAgainst_23 : decode cX0_reasonAgainst 23 = .ok (.iconst 2, 1) := by decide +kernel
theorem dX0_reasonAgainst_24 : decode cX0_reasonAgainst 24 = .ok (.ireturn, 1) := by decide +kernel
theorem dX0_reasonAgainst_25 : decode cX0_reasonAgainst 25 = .ok (.aload_n 0, 1) := by decide +kernel
theorem dX0_reasonAgainst_26 : decode cX0_reasonAgainst 26 = .ok (.iconst 2, 1) := by decide +kernel
theorem dX0_reasonAgainst_27 : decode cX0_reasonAgainst 27 = .ok (.aload_n 1, 1) := by decide +kernel
theorem dX0_reasonAgainst_28 : decode cX0_reasonAgainst 28 = .ok (.getfield 58, 3) := by decide +kernel
theorem dX0_reasonAgainst_31 : decode cX0_reasonAgainst 31 = .ok (.invokevirtual 54, 3) := by decide +kernel
theorem dX0_reasonAgainst_34 : decode cX0_reasonAgainst 34 = .ok (.ifCond .ne 15, 3) := by decide +kernel
theorem dX0_reasonAgainst_37 : decode cX0_reasonAgainst 37 = .ok (.aload_n 0, 1) := by decide +kernel
theorem dX0_reasonAgainst_38 : decode cX0_reasonAgainst 38 = .ok (.iconst 2, 1) := by decide +kernel
theorem dX0_reasonAgainst_39 : decode cX0_reasonAgainst 39 = .ok (.aload_n 1, 1) := by decide +kernel
theorem dX0_reasonAgainst_40 : decode cX0_reasonAgainst 40 = .ok (.getfield 61, 3) := by decide +kernel
theorem dX0_reasonAgainst_43 : decode cX0_reasonAgainst 43 = .ok (.invokevirtual 54, 3) := by decide +kernel
theorem dX0_reasonAgainst_46 : decode cX0_reasonAgainst 46 = .ok (.ifCond .eq 5, 3) := by decide +kernel
theorem dX0_reasonAgainst_49 : decode cX0_reasonAgainst 49 = .ok (.iconst 3, 1) := by decide +kernel
theorem dX0_reasonAgainst_50 : decode cX0_reasonAgainst 50 = .ok (.ireturn, 1) := by decide +kernel
theorem dX0_reasonAgainst_51 : decode cX0_reasonAgainst 51 = .ok (.iload_n 3, 1) := by decide +kernel
theorem dX0_reasonAgainst_52 : decode cX0_reasonAgainst 52 = .ok (.iconst (-1), 1) := by decide +kernel
theorem dX0_reasonAgainst_53 : decode cX0_reasonAgainst 53 = .ok (.if_icmp .eq 16, 3) := by decide +kernel
theorem dX0_reasonAgainst_56 : decode cX0_reasonAgainst 56 = .ok (.aload_n 0, 1) := by decide +kernel
theorem dX0_reasonAgainst_57 : decode cX0_reasonAgainst 57 = .ok (.iconst 3, 1) := by decide +kernel
theorem dX0_reasonAgainst_58 : decode cX0_reasonAgainst 58 = .ok (.iload_n 3, 1) := by decide +kernel
theorem dX0_reasonAgainst_59 : decode cX0_reasonAgainst 59 = .ok (.invokevirtual 54, 3) := by decide +kernel
theorem dX0_reasonAgainst_62 : decode cX0_reasonAgainst 62 = .ok (.ifCond .eq 7, 3) := by decide +kernel
theorem dX0_reasonAgainst_65 : decode cX0_reasonAgainst 65 = .ok (.iconst 4, 1) := by decide +kernel
theorem dX0_reasonAgainst_66 : decode cX0_reasonAgainst 66 = .ok (.goto 4, 3) := by decide +kernel
theorem dX0_reasonAgainst_69 : decode cX0_reasonAgainst 69 = .ok (.iconst 0, 1) := by decide +kernel
theorem dX0_reasonAgainst_70 : decode cX0_reasonAgainst 70 = .ok (.ireturn, 1) := by decide +kernel
theorem dX0_tell_0 : decode cX0_tell 0 = .ok (.iload_n 1, 1) := by decide +kernel
theorem dX0_tell_1 : decode cX0_tell 1 = .ok (.aload_n 0, 1) := by decide +kernel
theorem dX0_tell_2 : decode cX0_tell 2 = .ok (.getfield 38, 3) := by decide +kernel
theorem dX0_tell_5 : decode cX0_tell 5 = .ok (.getfield 58, 3) := by decide +kernel
theorem dX0_tell_8 : decode cX0_tell 8 = .ok (.if_icmp .ne 8, 3) := by decide +kernel
theorem dX0_tell_11 : decode cX0_tell 11 = .ok (.aload_n 0, 1) := by decide +kernel
theorem dX0_tell_12 : decode cX0_tell 12 = .ok (.iconst 1, 1) := by decide +kernel
theorem dX0_tell_13 : decode cX0_tell 13 = .ok (.putfield 28, 3) := by decide +kernel
theorem dX0_tell_16 : decode cX0_tell 16 = .ok (.iload_n 1, 1) := by decide +kernel
theorem dX0_tell_17 : decode cX0_tell 17 = .ok (.aload_n 0, 1) := by decide +kernel
theorem dX0_tell_18 : decode cX0_tell 18 = .ok (.getfield 38, 3) := by decide +kernel
theorem dX0_tell_21 : decode cX0_tell 21 = .ok (.getfield 61, 3) := by decide +kernel
theorem dX0_tell_24 : decode cX0_tell 24 = .ok (.if_icmp .ne 8, 3) := by decide +kernel
theorem dX0_tell_27 : decode cX0_tell 27 = .ok (.aload_n 0, 1) := by decide +kernel
theorem dX0_tell_28 : decode cX0_tell 28 = .ok (.iconst 1, 1) := by decide +kernel
theorem dX0_tell_29 : decode cX0_tell 29 = .ok (.putfield 32, 3) := by decide +kernel
theorem dX0_tell_32 : decode cX0_tell 32 = .ok (.return_, 1) := by decide +kernel
theorem dX0_notices_0 : decode cX0_notices 0 = .ok (.aload_n 0, 1) := by decide +kernel
theorem dX0_notices_1 : decode cX0_notices 1 = .ok (.getfield 28, 3) := by decide +kernel
theorem dX0_notices_4 : decode cX0_notices 4 = .ok (.ifCond .eq 7, 3) := by decide +kernel
theorem dX0_notices_7 : decode cX0_notices 7 = .ok (.iconst 1, 1) := by decide +kernel
theorem dX0_notices_8 : decode cX0_notices 8 = .ok (.goto 4, 3) := by decide +kernel
theorem dX0_notices_11 : decode cX0_notices 11 = .ok (.iconst 0, 1) := by decide +kernel
theorem dX0_notices_12 : decode cX0_notices 12 = .ok (.aload_n 0, 1) := by decide +kernel
theorem dX0_notices_13 : decode cX0_notices 13 = .ok (.getfield 32, 3) := by decide +kernel
theorem dX0_notices_16 : decode cX0_notices 16 = .ok (.ifCond .eq 7, 3) := by decide +kernel
theorem dX0_notices_19 : decode cX0_notices 19 = .ok (.iconst 1, 1) := by decide +kernel
theorem dX0_notices_20 : decode cX0_notices 20 = .ok (.goto 4, 3) := by decide +kernel
theorem dX0_notices_23 : decode cX0_notices 23 = .ok (.iconst 0, 1) := by decide +kernel
theorem dX0_notices_24 : decode cX0_notices 24 = .ok (.iadd, 1) := by decide +kernel
theorem dX0_notices_25 : decode cX0_notices 25 = .ok (.ireturn, 1) := by decide +kernel
theorem dX0_charged_0 : decode cX0_charged 0 = .ok (.iconst 0, 1) := by decide +kernel
theorem dX0_charged_1 : decode cX0_charged 1 = .ok (.istore_n 1, 1) := by decide +kernel
theorem dX0_charged_2 : decode cX0_charged 2 = .ok (.iconst 0, 1) := by decide +kernel
theorem dX0_charged_3 : decode cX0_charged 3 = .ok (.istore_n 2, 1) := by decide +kernel
theorem dX0_charged_4 : decode cX0_charged 4 = .ok (.iload_n 2, 1) := by decide +kernel
theorem dX0_charged_5 : decode cX0_charged 5 = .ok (.aload_n 0, 1) := by decide +kernel
theorem dX0_charged_6 : decode cX0_charged 6 = .ok (.getfield 9, 3) := by decide +kernel
theorem dX0_charged_9 : decode cX0_charged 9 = .ok (.arraylength, 1) := by decide +kernel
theorem dX0_charged_10 : decode cX0_charged 10 = .ok (.if_icmp .ge 18, 3) := by decide +kernel
theorem dX0_charged_13 : decode cX0_charged 13 = .ok (.iload_n 1, 1) := by decide +kernel
theorem dX0_charged_14 : decode cX0_charged 14 = .ok (.aload_n 0, 1) := by decide +kernel
theorem dX0_charged_15 : decode cX0_charged 15 = .ok (.getfield 9, 3) := by decide +kernel
theorem dX0_charged_18 : decode cX0_charged 18 = .ok (.iload_n 2, 1) := by decide +kernel
theorem dX0_charged_19 : decode cX0_charged 19 = .ok (.iaload, 1) := by decide +kernel
theorem dX0_charged_20 : decode cX0_charged 20 = .ok (.iadd, 1) := by decide +kernel
theorem dX0_charged_21 : decode cX0_charged 21 = .ok (.istore_n 1, 1) := by decide +kernel
theorem dX0_charged_22 : decode cX0_charged 22 = .ok (.iinc 2 1, 3) := by decide +kernel
theorem dX0_charged_25 : decode cX0_charged 25 = .ok (.goto (-21), 3) := by decide +kernel
theorem dX0_charged_28 : decode cX0_charged 28 = .ok (.iload_n 1, 1) := by decide +kernel
theorem dX0_charged_29 : decode cX0_charged 29 = .ok (.ireturn, 1) := by decide +kernel
theorem dX0_end_0 : decode cX0_end 0 = .ok (.aload_n 0, 1) := by decide +kernel
theorem dX0_end_1 : decode cX0_end 1 = .ok (.getfield 38, 3) := by decide +kernel
theorem dX0_end_4 : decode cX0_end 4 = .ok (.invokevirtual 64, 3) := by decide +kernel
theorem dX0_end_7 : decode cX0_end 7 = .ok (.ifCond .eq 33, 3) := by decide +kernel
theorem dX0_end_10 : decode cX0_end 10 = .ok (.aload_n 0, 1) := by decide +kernel
theorem dX0_end_11 : decode cX0_end 11 = .ok (.getfield 28, 3) := by decide +kernel
theorem dX0_end_14 : decode cX0_end 14 = .ok (.ifCond .eq 26, 3) := by decide +kernel
theorem dX0_end_17 : decode cX0_end 17 = .ok (.aload_n 0, 1) := by decide +kernel
theorem dX0_end_18 : decode cX0_end 18 = .ok (.getfield 32, 3) := by decide +kernel
theorem dX0_end_21 : decode cX0_end 21 = .ok (.ifCond .eq 19, 3) := by decide +kernel
theorem dX0_end_24 : decode cX0_end 24 = .ok (.aload_n 0, 1) := by decide +kernel
theorem dX0_end_25 : decode cX0_end 25 = .ok (.iconst 1, 1) := by decide +kernel
theorem dX0_end_26 : decode cX0_end 26 = .ok (.putfield 15, 3) := by decide +kernel
theorem dX0_end_29 : decode cX0_end 29 = .ok (.aload_n 0, 1) := by decide +kernel
theorem dX0_end_30 : decode cX0_end 30 = .ok (.getfield 38, 3) := by decide +kernel
theorem dX0_end_33 : decode cX0_end 33 = .ok (.iconst 1, 1) := by decide +kernel
theorem dX0_end_34 : decode cX0_end 34 = .ok (.putfield 68, 3) := by decide +kernel
theorem dX0_end_37 : decode cX0_end 37 = .ok (.goto 8, 3) := by decide +kernel
theorem dX0_end_40 : decode cX0_end 40 = .ok (.aload_n 0, 1) := by decide +kernel
theorem dX0_end_41 : decode cX0_end 41 = .ok (.iconst 2, 1) := by decide +kernel
theorem dX0_end_42 : decode cX0_end 42 = .ok (.putfield 15, 3) := by decide +kernel
theorem dX0_end_45 : decode cX0_end 45 = .ok (.return_, 1) := by decide +kernel
theorem dX1_init_0 : decode cX1_init 0 = .ok (.aload_n 0, 1) := by decide +kernel
theorem dX1_init_1 : decode cX1_init 1 = .ok (.invokespecial 3, 3) := by decide +kernel
theorem dX1_init_4 : decode cX1_init 4 = .ok (.aload_n 0, 1) := by decide +kernel
theorem dX1_init_5 : decode cX1_init 5 = .ok (.iconst 0, 1) := by decide +kernel
theorem dX1_init_6 : decode cX1_init 6 = .ok (.putfield 9, 3) := by decide +kernel
theorem dX1_init_9 : decode cX1_init 9 = .ok (.aload_n 0, 1) := by decide +kernel
theorem dX1_init_10 : decode cX1_init 10 = .ok (.bipush 10, 2) := by decide +kernel
theorem dX1_init_12 : decode cX1_init 12 = .ok (.putfield 15, 3) := by decide +kernel
theorem dX1_init_15 : decode cX1_init 15 = .ok (.aload_n 0, 1) := by decide +kernel
theorem dX1_init_16 : decode cX1_init 16 = .ok (.bipush 16, 2) := by decide +kernel
theorem dX1_init_18 : decode cX1_init 18 = .ok (.newarray .int, 2) := by decide +kernel
theorem dX1_init_20 : decode cX1_init 20 = .ok (.putfield 18, 3) := by decide +kernel
theorem dX1_init_23 : decode cX1_init 23 = .ok (.aload_n 0, 1) := by decide +kernel
theorem dX1_init_24 : decode cX1_init 24 = .ok (.bipush 16, 2) := by decide +kernel
theorem dX1_init_26 : decode cX1_init 26 = .ok (.anewarray 22, 3) := by decide +kernel
theorem dX1_init_29 : decode cX1_init 29 = .ok (.putfield 24, 3) := by decide +kernel
theorem dX1_init_32 : decode cX1_init 32 = .ok (.aload_n 0, 1) := by decide +kernel
theorem dX1_init_33 : decode cX1_init 33 = .ok (.bipush 16, 2) := by decide +kernel
theorem dX1_init_35 : decode cX1_init 35 = .ok (.newarray .int, 2) := by decide +kernel
theorem dX1_init_37 : decode cX1_init 37 = .ok (.putfield 28, 3) := by decide +kernel
theorem dX1_init_40 : decode cX1_init 40 = .ok (.return_, 1) := by decide +kernel
theorem dX1_placeOf_0 : decode cX1_placeOf 0 = .ok (.iload_n 0, 1) := by decide +kernel
theorem dX1_placeOf_1 : decode cX1_placeOf 1 = .ok (.bipush 15, 2) := by decide +kernel
theorem dX1_placeOf_3 : decode cX1_placeOf 3 = .ok (.iand, 1) := by decide +kernel
theorem dX1_placeOf_4 : decode cX1_placeOf 4 = .ok (.ireturn, 1) := by decide +kernel
theorem dX1_knows_0 : decode cX1_knows 0 = .ok (.aload_n 0, 1) := by decide +kernel
theorem dX1_knows_1 : decode cX1_knows 1 = .ok (.getfield 9, 3) := by decide +kernel
theorem dX1_knows_4 : decode cX1_knows 4 = .ok (.iload_n 1, 1) := by decide +kernel
theorem dX1_knows_5 : decode cX1_knows 5 = .ok (.ishr, 1) := by decide +kernel
theorem dX1_knows_6 : decode cX1_knows 6 = .ok (.iconst 1, 1) := by decide +kernel
theorem dX1_knows_7 : decode cX1_knows 7 = .ok (.iand, 1) := by decide +kernel
theorem dX1_knows_8 : decode cX1_knows 8 = .ok (.iconst 1, 1) := by decide +kernel
theorem dX1_knows_9 : decode cX1_knows 9 = .ok (.if_icmp .ne 7, 3) := by decide +kernel
theorem dX1_knows_12 : decode cX1_knows 12 = .ok (.iconst 1, 1) := by decide +kernel
theorem dX1_knows_13 : decode cX1_knows 13 = .ok (.goto 4, 3) := by decide +kernel
theorem dX1_knows_16 : decode cX1_knows 16 = .ok (.iconst 0, 1) := by decide +kernel
theorem dX1_knows_17 : decode cX1_knows 17 = .ok (.ireturn, 1) := by decide +kernel
theorem dX1_payer_0 : decode cX1_payer 0 = .ok (.iload_n 1, 1) := by decide +kernel
theorem dX1_payer_1 : decode cX1_payer 1 = .ok (.invokestatic 31, 3) := by decide +kernel
theorem dX1_payer_4 : decode cX1_payer 4 = .ok (.istore_n 3, 1) := by decide +kernel
theorem dX1_payer_5 : decode cX1_payer 5 = .ok (.iload_n 1, 1) := by decide +kernel
theorem dX1_payer_6 : decode cX1_payer 6 = .ok (.iload_n 2, 1) := by decide +kernel
theorem dX1_payer_7 : decode cX1_payer 7 = .ok (.if_icmp .le 22, 3) := by decide +kernel
theorem dX1_payer_10 : decode cX1_payer 10 = .ok (.aload_n 0, 1) := by decide +kernel
theorem dX1_payer_11 : decode cX1_payer 11 = .ok (.getfield 18, 3) := by decide +kernel
theorem dX1_payer_14 : decode cX1_payer 14 = .ok (.iload_n 3, 1) := by decide +kernel
theorem dX1_payer_15 : decode cX1_payer 15 = .ok (.iaload, 1) := by decide +kernel
theorem dX1_payer_16 : decode cX1_payer 16 = .ok (.iload_n 1, 1) := by decide +kernel
theorem dX1_payer_17 : decode cX1_payer 17 = .ok (.if_icmp .ne 12, 3) := by decide +kernel
theorem dX1_payer_20 : decode cX1_payer 20 = .ok (.aload_n 0, 1) := by decide +kernel
theorem dX1_payer_21 : decode cX1_payer 21 = .ok (.getfield 24, 3) := by decide +kernel
theorem dX1_payer_24 : decode cX1_payer 24 = .ok (.iload_n 3, 1) := by decide +kernel
theorem dX1_payer_25 : decode cX1_payer 25 = .ok (.aaload, 1) := by decide +kernel
theorem dX1_payer_26 : decode cX1_payer 26 = .ok (.goto 4, 3) := by decide +kernel
theorem dX1_payer_29 : decode cX1_payer 29 = .ok (.aconst_null, 1) := by decide +kernel
theorem dX1_payer_30 : decode cX1_payer 30 = .ok (.areturn, 1) := by decide +kernel
theorem dX1_keep_0 : decode cX1_keep 0 = .ok (.iload_n 1, 1) := by decide +kernel
theorem dX1_keep_1 : decode cX1_keep 1 = .ok (.invokestatic 31, 3) := by decide +kernel
theorem dX1_keep_4 : decode cX1_keep 4 = .ok (.istore 4, 2) := by decide +kernel
theorem dX1_keep_6 : decode cX1_keep 6 = .ok (.aload_n 0, 1) := by decide +kernel
theorem dX1_keep_7 : decode cX1_keep 7 = .ok (.getfield 18, 3) := by decide +kernel
theorem dX1_keep_10 : decode cX1_keep 10 = .ok (.iload 4, 2) := by decide +kernel
theorem dX1_keep_12 : decode cX1_keep 12 = .ok (.iload_n 1, 1) := by decide +kernel
theorem dX1_keep_13 : decode cX1_keep 13 = .ok (.iastore, 1) := by decide +kernel
theorem dX1_keep_14 : decode cX1_keep 14 = .ok (.aload_n 0, 1) := by decide +kernel
theorem dX1_keep_15 : decode cX1_keep 15 = .ok (.getfield 24, 3) := by decide +kernel
theorem dX1_keep_18 : decode cX1_keep 18 = .ok (.iload 4, 2) := by decide +kernel
theorem dX1_keep_20 : decode cX1_keep 20 = .ok (.aload_n 2, 1) := by decide +kernel
theorem dX1_keep_21 : decode cX1_keep 21 = .ok (.aastore, 1) := by decide +kernel
theorem dX1_keep_22 : decode cX1_keep 22 = .ok (.aload_n 0, 1) := by decide +kernel
theorem dX1_keep_23 : decode cX1_keep 23 = .ok (.getfield 28, 3) := by decide +kernel
theorem dX1_keep_26 : decode cX1_keep 26 = .ok (.iload 4, 2) := by decide +kernel
theorem dX1_keep_28 : decode cX1_keep 28 = .ok (.iload_n 3, 1) := by decide +kernel
theorem dX1_keep_29 : decode cX1_keep 29 = .ok (.iastore, 1) := by decide +kernel
theorem dX1_keep_30 : decode cX1_keep 30 = .ok (.return_, 1) := by decide +kernel
theorem dX1_take_0 : decode cX1_take 0 = .ok (.aload_n 0, 1) := by decide +kernel
theorem dX1_take_1 : decode cX1_take 1 = .ok (.iload_n 1, 1) := by decide +kernel
theorem dX1_take_2 : decode cX1_take 2 = .ok (.iload_n 2, 1) := by decide +kernel
theorem dX1_take_3 : decode cX1_take 3 = .ok (.invokevirtual 35, 3) := by decide +kernel
theorem dX1_take_6 : decode cX1_take 6 = .ok (.astore 4, 2) := by decide +kernel
theorem dX1_take_8 : decode cX1_take 8 = .ok (.aload 4, 2) := by decide +kernel
theorem dX1_take_10 : decode cX1_take 10 = .ok (.ifnonnull 8, 3) := by decide +kernel
theorem dX1_take_13 : decode cX1_take 13 = .ok (.aload_n 0, 1) := by decide +kernel
theorem dX1_take_14 : decode cX1_take 14 = .ok (.getfield 15, 3) := by decide +kernel
theorem dX1_take_17 : decode cX1_take 17 = .ok (.ireturn, 1) := by decide +kernel
theorem dX1_take_18 : decode cX1_take 18 = .ok (.iload_n 1, 1) := by decide +kernel
theorem dX1_take_19 : decode cX1_take 19 = .ok (.invokestatic 31, 3) := by decide +kernel
theorem dX1_take_22 : decode cX1_take 22 = .ok (.istore 5, 2) := by decide +kernel
theorem dX1_take_24 : decode cX1_take 24 = .ok (.aload_n 0, 1) := by decide +kernel
theorem dX1_take_25 : decode cX1_take 25 = .ok (.getfield 24, 3) := by decide +kernel
theorem dX1_take_28 : decode cX1_take 28 = .ok (.iload 5, 2) := by decide +kernel
theorem dX1_take_30 : decode cX1_take 30 = .ok (.aconst_null, 1) := by decide +kernel
theorem dX1_take_31 : decode cX1_take 31 = .ok (.aastore, 1) := by decide +kernel
theorem dX1_take_32 : decode cX1_take 32 = .ok (.aload 4, 2) := by decide +kernel
theorem dX1_take_34 : decode cX1_take 34 = .ok (.aload_n 3, 1) := by decide +kernel
theorem dX1_take_35 : decode cX1_take 35 = .ok (.if_acmp .ne 5, 3) := by decide +kernel
theorem dX1_take_38 : decode cX1_take 38 = .ok (.iconst 0, 1) := by decide +kernel
theorem dX1_take_39 : decode cX1_take 39 = .ok (.ireturn, 1) := by decide +kernel
theorem dX1_take_40 : decode cX1_take 40 = .ok (.aload_n 0, 1) := by decide +kernel
theorem dX1_take_41 : decode cX1_take 41 = .ok (.getfield 28, 3) := by decide +kernel
theorem dX1_take_44 : decode cX1_take 44 = .ok (.iload 5, 2) := by decide +kernel
theorem dX1_take_46 : decode cX1_take 46 = .ok (.iaload, 1) := by decide +kernel
theorem dX1_take_47 : decode cX1_take 47 = .ok (.iconst 2, 1) := by decide +kernel
theorem dX1_take_48 : decode cX1_take 48 = .ok (.idiv, 1) := by decide +kernel
theorem dX1_take_49 : decode cX1_take 49 = .ok (.istore 6, 2) := by decide +kernel
theorem dX1_take_51 : decode cX1_take 51 = .ok (.aload 4, 2) := by decide +kernel
theorem dX1_take_53 : decode cX1_take 53 = .ok (.dup, 1) := by decide +kernel
theorem dX1_take_54 : decode cX1_take 54 = .ok (.getfield 39, 3) := by decide +kernel
theorem dX1_take_57 : decode cX1_take 57 = .ok (.iload 6, 2) := by decide +kernel
theorem dX1_take_59 : decode cX1_take 59 = .ok (.iadd, 1) := by decide +kernel
theorem dX1_take_60 : decode cX1_take 60 = .ok (.putfield 39, 3) := by decide +kernel
theorem dX1_take_63 : decode cX1_take 63 = .ok (.iload 6, 2) := by decide +kernel
theorem dX1_take_65 : decode cX1_take 65 = .ok (.ireturn, 1) := by decide +kernel
theorem dX1_hoursPaidBy_0 : decode cX1_hoursPaidBy 0 = .ok (.iconst 0, 1) := by decide +kernel
theorem dX1_hoursPaidBy_1 : decode cX1_hoursPaidBy 1 = .ok (.istore_n 3, 1) := by decide +kernel
theorem dX1_hoursPaidBy_2 : decode cX1_hoursPaidBy 2 = .ok (.iconst 0, 1) := by decide +kernel
theorem dX1_hoursPaidBy_3 : decode cX1_hoursPaidBy 3 = .ok (.istore 4, 2) := by decide +kernel
theorem dX1_hoursPaidBy_5 : decode cX1_hoursPaidBy 5 = .ok (.iload 4, 2) := by decide +kernel
theorem dX1_hoursPaidBy_7 : decode cX1_hoursPaidBy 7 = .ok (.bipush 16, 2) := by decide +kernel
theorem dX1_hoursPaidBy_9 : decode cX1_hoursPaidBy 9 = .ok (.if_icmp .ge 34, 3) := by decide +kernel
theorem dX1_hoursPaidBy_12 : decode cX1_hoursPaidBy 12 = .ok (.aload_n 0, 1) := by decide +kernel
theorem dX1_hoursPaidBy_13 : decode cX1_hoursPaidBy 13 = .ok (.getfield 24, 3) := by decide +kernel
theorem dX1_hoursPaidBy_16 : decode cX1_hoursPaidBy 16 = .ok (.iload 4, 2) := by decide +kernel
theorem dX1_hoursPaidBy_18 : decode cX1_hoursPaidBy 18 = .ok (.aaload, 1) := by decide +kernel
theorem dX1_hoursPaidBy_19 : decode cX1_hoursPaidBy 19 = .ok (.aload_n 1, 1) := by decide +kernel
theorem dX1_hoursPaidBy_20 : decode cX1_hoursPaidBy 20 = .ok (.if_acmp .ne 17, 3) := by decide +kernel
theorem dX1_hoursPaidBy_23 : decode cX1_hoursPaidBy 23 = .ok (.aload_n 0, 1) := by decide +kernel
theorem dX1_hoursPaidBy_24 : decode cX1_hoursPaidBy 24 = .ok (.getfield 18, 3) := by decide +kernel
theorem dX1_hoursPaidBy_27 : decode cX1_hoursPaidBy 27 = .ok (.iload 4, 2) := by decide +kernel
theorem dX1_hoursPaidBy_29 : decode cX1_hoursPaidBy 29 = .ok (.iaload, 1) := by decide +kernel
theorem dX1_hoursPaidBy_30 : decode cX1_hoursPaidBy 30 = .ok (.iload_n 2, 1) := by decide +kernel
theorem dX1_hoursPaidBy_31 : decode cX1_hoursPaidBy 31 = .ok (.if_icmp .le 6, 3) := by decide +kernel
theorem dX1_hoursPaidBy_34 : decode cX1_hoursPaidBy 34 = .ok (.iinc 3 1, 3) := by decide +kernel
theorem dX1_hoursPaidBy_37 : decode cX1_hoursPaidBy 37 = .ok (.iinc 4 1, 3) := by decide +kernel
theorem dX1_hoursPaidBy_40 : decode cX1_hoursPaidBy 40 = .ok (.goto (-35), 3) := by decide +kernel
theorem dX1_hoursPaidBy_43 : decode cX1_hoursPaidBy 43 = .ok (.iload_n 3, 1) := by decide +kernel
theorem dX1_hoursPaidBy_44 : decode cX1_hoursPaidBy 44 = .ok (.ireturn, 1) := by decide +kernel
theorem dX2_init_0 : decode cX2_init 0 = .ok (.aload_n 0, 1) := by decide +kernel
theorem dX2_init_1 : decode cX2_init 1 = .ok (.invokespecial 3, 3) := by decide +kernel
theorem dX2_init_4 : decode cX2_init 4 = .ok (.aload_n 0, 1) := by decide +kernel
theorem dX2_init_5 : decode cX2_init 5 = .ok (.iconst 0, 1) := by decide +kernel
theorem dX2_init_6 : decode cX2_init 6 = .ok (.putfield 9, 3) := by decide +kernel
theorem dX2_init_9 : decode cX2_init 9 = .ok (.aload_n 0, 1) := by decide +kernel
theorem dX2_init_10 : decode cX2_init 10 = .ok (.iconst 0, 1) := by decide +kernel
theorem dX2_init_11 : decode cX2_init 11 = .ok (.putfield 15, 3) := by decide +kernel
theorem dX2_init_14 : decode cX2_init 14 = .ok (.aload_n 0, 1) := by decide +kernel
theorem dX2_init_15 : decode cX2_init 15 = .ok (.iload_n 1, 1) := by decide +kernel
theorem dX2_init_16 : decode cX2_init 16 = .ok (.putfield 18, 3) := by decide +kernel
theorem dX2_init_19 : decode cX2_init 19 = .ok (.aload_n 0, 1) := by decide +kernel
theorem dX2_init_20 : decode cX2_init 20 = .ok (.iload_n 2, 1) := by decide +kernel
theorem dX2_init_21 : decode cX2_init 21 = .ok (.putfield 21, 3) := by decide +kernel
theorem dX2_init_24 : decode cX2_init 24 = .ok (.aload_n 0, 1) := by decide +kernel
theorem dX2_init_25 : decode cX2_init 25 = .ok (.iload_n 3, 1) := by decide +kernel
theorem dX2_init_26 : decode cX2_init 26 = .ok (.putfield 24, 3) := by decide +kernel
theorem dX2_init_29 : decode cX2_init 29 = .ok (.aload_n 0, 1) := by decide +kernel
theorem dX2_init_30 : decode cX2_init 30 = .ok (.iload 4, 2) := by decide +kernel
theorem dX2_init_32 : decode cX2_init 32 = .ok (.putfield 27, 3) := by decide +kernel
theorem dX2_init_35 : decode cX2_init 35 = .ok (.aload_n 0, 1) := by decide +kernel
theorem dX2_init_36 : decode cX2_init 36 = .ok (.iload 5, 2) := by decide +kernel
theorem dX2_init_38 : decode cX2_init 38 = .ok (.putfield 30, 3) := by decide +kernel
theorem dX2_init_41 : decode cX2_init 41 = .ok (.aload_n 0, 1) := by decide +kernel
theorem dX2_init_42 : decode cX2_init 42 = .ok (.iload 6, 2) := by decide +kernel
theorem dX2_init_44 : decode cX2_init 44 = .ok (.putfield 33, 3) := by decide +kernel
theorem dX2_init_47 : decode cX2_init 47 = .ok (.return_, 1) := by decide +kernel
theorem dX2_isOpen_0 : decode cX2_isOpen 0 = .ok (.aload_n 0, 1) := by decide +kernel
theorem dX2_isOpen_1 : decode cX2_isOpen 1 = .ok (.getfield 9, 3) := by decide +kernel
theorem dX2_isOpen_4 : decode cX2_isOpen 4 = .ok (.ifCond .eq 11, 3) := by decide +kernel
theorem dX2_isOpen_7 : decode cX2_isOpen 7 = .ok (.aload_n 0, 1) := by decide +kernel
theorem dX2_isOpen_8 : decode cX2_isOpen 8 = .ok (.getfield 9, 3) := by decide +kernel
theorem dX2_isOpen_11 : decode cX2_isOpen 11 = .ok (.iconst 1, 1) := by decide +kernel
theorem dX2_isOpen_12 : decode cX2_isOpen 12 = .ok (.if_icmp .ne 7, 3) := by decide +kernel
theorem dX2_isOpen_15 : decode cX2_isOpen 15 = .ok (.iconst 1, 1) := by decide +kernel
theorem dX2_isOpen_16 : decode cX2_isOpen 16 = .ok (.goto 4, 3) := by decide +kernel
theorem dX2_isOpen_19 : decode cX2_isOpen 19 = .ok (.iconst 0, 1) := by decide +kernel
theorem dX2_isOpen_20 : decode cX2_isOpen 20 = .ok (.ireturn, 1) := by decide +kernel
theorem dX2_isOf_0 : decode cX2_isOf 0 = .ok (.iload_n 1, 1) := by decide +kernel
theorem dX2_isOf_1 : decode cX2_isOf 1 = .ok (.aload_n 0, 1) := by decide +kernel
theorem dX2_isOf_2 : decode cX2_isOf 2 = .ok (.getfield 24, 3) := by decide +kernel
theorem dX2_isOf_5 : decode cX2_isOf 5 = .ok (.if_icmp .eq 11, 3) := by decide +kernel
theorem dX2_isOf_8 : decode cX2_isOf 8 = .ok (.iload_n 1, 1) := by decide +kernel
theorem dX2_isOf_9 : decode cX2_isOf 9 = .ok (.aload_n 0, 1) := by decide +kernel
theorem dX2_isOf_10 : decode cX2_isOf 10 = .ok (.getfield 27, 3) := by decide +kernel
theorem dX2_isOf_13 : decode cX2_isOf 13 = .ok (.if_icmp .ne 7, 3) := by decide +kernel
theorem dX2_isOf_16 : decode cX2_isOf 16 = .ok (.iconst 1, 1) := by decide +kernel
theorem dX2_isOf_17 : decode cX2_isOf 17 = .ok (.goto 4, 3) := by decide +kernel
theorem dX2_isOf_20 : decode cX2_isOf 20 = .ok (.iconst 0, 1) := by decide +kernel
theorem dX2_isOf_21 : decode cX2_isOf 21 = .ok (.ireturn, 1) := by decide +kernel
theorem dX2_runTerm_0 : decode cX2_runTerm 0 = .ok (.aload_n 0, 1) := by decide +kernel
theorem dX2_runTerm_1 : decode cX2_runTerm 1 = .ok (.getfield 9, 3) := by decide +kernel
theorem dX2_runTerm_4 : decode cX2_runTerm 4 = .ok (.iconst 3, 1) := by decide +kernel
theorem dX2_runTerm_5 : decode cX2_runTerm 5 = .ok (.if_icmp .ne 16, 3) := by decide +kernel
theorem dX2_runTerm_8 : decode cX2_runTerm 8 = .ok (.aload_n 0, 1) := by decide +kernel
theorem dX2_runTerm_9 : decode cX2_runTerm 9 = .ok (.dup, 1) := by decide +kernel
theorem dX2_runTerm_10 : decode cX2_runTerm 10 = .ok (.getfield 33, 3) := by decide +kernel
theorem dX2_runTerm_13 : decode cX2_runTerm 13 = .ok (.iconst 1, 1) := by decide +kernel
theorem dX2_runTerm_14 : decode cX2_runTerm 14 = .ok (.iadd, 1) := by decide +kernel
theorem dX2_runTerm_15 : decode cX2_runTerm 15 = .ok (.putfield 33, 3) := by decide +kernel
theorem dX2_runTerm_18 : decode cX2_runTerm 18 = .ok (.goto 23, 3) := by decide +kernel
theorem dX2_runTerm_21 : decode cX2_runTerm 21 = .ok (.aload_n 0, 1) := by decide +kernel
theorem dX2_runTerm_22 : decode cX2_runTerm 22 = .ok (.invokevirtual 36, 3) := by decide +kernel
theorem dX2_runTerm_25 : decode cX2_runTerm 25 = .ok (.ifCond .eq 16, 3) := by decide +kernel
theorem dX2_runTerm_28 : decode cX2_runTerm 28 = .ok (.aload_n 0, 1) := by decide +kernel
theorem dX2_runTerm_29 : decode cX2_runTerm 29 = .ok (.getfield 33, 3) := by decide +kernel
theorem dX2_runTerm_32 : decode cX2_runTerm 32 = .ok (.iload_n 1, 1) := by decide +kernel
theorem dX2_runTerm_33 : decode cX2_runTerm 33 = .ok (.if_icmp .gt 8, 3) := by decide +kernel
theorem dX2_runTerm_36 : decode cX2_runTerm 36 = .ok (.aload_n 0, 1) := by decide +kernel
theorem dX2_runTerm_37 : decode cX2_runTerm 37 = .ok (.iconst 5, 1) := by decide +kernel
theorem dX2_runTerm_38 : decode cX2_runTerm 38 = .ok (.putfield 9, 3) := by decide +kernel
theorem dX2_runTerm_41 : decode cX2_runTerm 41 = .ok (.return_, 1) := by decide +kernel
theorem dX3_init_0 : decode cX3_init 0 = .ok (.aload_n 0, 1) := by decide +kernel
theorem dX3_init_1 : decode cX3_init 1 = .ok (.invokespecial 1, 3) := by decide +kernel
theorem dX3_init_4 : decode cX3_init 4 = .ok (.aload_n 0, 1) := by decide +kernel
theorem dX3_init_5 : decode cX3_init 5 = .ok (.iconst 4, 1) := by decide +kernel
theorem dX3_init_6 : decode cX3_init 6 = .ok (.anewarray 9, 3) := by decide +kernel
theorem dX3_init_9 : decode cX3_init 9 = .ok (.putfield 11, 3) := by decide +kernel
theorem dX3_init_12 : decode cX3_init 12 = .ok (.aload_n 0, 1) := by decide +kernel
theorem dX3_init_13 : decode cX3_init 13 = .ok (.bipush 6, 2) := by decide +kernel
theorem dX3_init_15 : decode cX3_init 15 = .ok (.newarray .boolean, 2) := by decide +kernel
theorem dX3_init_17 : decode cX3_init 17 = .ok (.putfield 15, 3) := by decide +kernel
theorem dX3_init_20 : decode cX3_init 20 = .ok (.aload_n 0, 1) := by decide +kernel
theorem dX3_init_21 : decode cX3_init 21 = .ok (.bipush 12, 2) := by decide +kernel
theorem dX3_init_23 : decode cX3_init 23 = .ok (.anewarray 19, 3) := by decide +kernel
theorem dX3_init_26 : decode cX3_init 26 = .ok (.putfield 21, 3) := by decide +kernel
theorem dX3_init_29 : decode cX3_init 29 = .ok (.aload_n 0, 1) := by decide +kernel
theorem dX3_init_30 : decode cX3_init 30 = .ok (.bipush 24, 2) := by decide +kernel
theorem dX3_init_32 : decode cX3_init 32 = .ok (.anewarray 25, 3) := by decide +kernel
theorem dX3_init_35 : decode cX3_init 35 = .ok (.putfield 27, 3) := by decide +kernel
theorem dX3_init_38 : decode cX3_init 38 = .ok (.aload_n 0, 1) := by decide +kernel
theorem dX3_init_39 : decode cX3_init 39 = .ok (.iconst 0, 1) := by decide +kernel
theorem dX3_init_40 : decode cX3_init 40 = .ok (.putfield 31, 3) := by decide +kernel
theorem dX3_init_43 : decode cX3_init 43 = .ok (.aload_n 0, 1) := by decide +kernel
theorem dX3_init_44 : decode cX3_init 44 = .ok (.iconst 0, 1) := by decide +kernel
theorem dX3_init_45 : decode cX3_init 45 = .ok (.putfield 35, 3) := by decide +kernel
theorem dX3_init_48 : decode cX3_init 48 = .ok (.aload_n 0, 1) := by decide +kernel
theorem dX3_init_49 : decode cX3_init 49 = .ok (.iconst 0, 1) := by decide +kernel
theorem dX3_init_50 : decode cX3_init 50 = .ok (.putfield 38, 3) := by decide +kernel
theorem dX3_init_53 : decode cX3_init 53 = .ok (.iconst 0, 1) := by decide +kernel
theorem dX3_init_54 : decode cX3_init 54 = .ok (.istore_n 1, 1) := by decide +kernel
theorem dX3_init_55 : decode cX3_init 55 = .ok (.iload_n 1, 1) := by decide +kernel
theorem dX3_init_56 : decode cX3_init 56 = .ok (.aload_n 0, 1) := by decide +kernel
theorem dX3_init_57 : decode cX3_init 57 = .ok (.getfield 11, 3) := by decide +kernel
theorem dX3_init_60 : decode cX3_init 60 = .ok (.arraylength, 1) := by decide +kernel
theorem dX3_init_61 : decode cX3_init 61 = .ok (.if_icmp .ge 22, 3) := by decide +kernel
theorem dX3_init_64 : decode cX3_init 64 = .ok (.aload_n 0, 1) := by decide +kernel
theorem dX3_init_65 : decode cX3_init 65 = .ok (.getfield 11, 3) := by decide +kernel
theorem dX3_init_68 : decode cX3_init 68 = .ok (.iload_n 1, 1) := by decide +kernel
theorem dX3_init_69 : decode cX3_init 69 = .ok (.new 9, 3) := by decide +kernel
theorem dX3_init_72 : decode cX3_init 72 = .ok (.dup, 1) := by decide +kernel
theorem dX3_init_73 : decode cX3_init 73 = .ok (.invokespecial 41, 3) := by decide +kernel
theorem dX3_init_76 : decode cX3_init 76 = .ok (.aastore, 1) := by decide +kernel
theorem dX3_init_77 : decode cX3_init 77 = .ok (.iinc 1 1, 3) := by decide +kernel
theorem dX3_init_80 : decode cX3_init 80 = .ok (.goto (-25), 3) := by decide +kernel
theorem dX3_init_83 : decode cX3_init 83 = .ok (.return_, 1) := by decide +kernel
theorem dX3_interpreter_0 : decode cX3_interpreter 0 = .ok (.aload_n 0, 1) := by decide +kernel
theorem dX3_interpreter_1 : decode cX3_interpreter 1 = .ok (.iload_n 1, 1) := by decide +kernel
theorem dX3_interpreter_2 : decode cX3_interpreter 2 = .ok (.invokevirtual 42, 3) := by decide +kernel
theorem dX3_interpreter_5 : decode cX3_interpreter 5 = .ok (.astore 4, 2) := by decide +kernel
theorem dX3_interpreter_7 : decode cX3_interpreter 7 = .ok (.aload 4, 2) := by decide +kernel
theorem dX3_interpreter_9 : decode cX3_interpreter 9 = .ok (.ifnonnull 13, 3) := by decide +kernel
theorem dX3_interpreter_12 : decode cX3_interpreter 12 = .ok (.new 46, 3) := by decide +kernel
theorem dX3_interpreter_15 : decode cX3_interpreter 15 = .ok (.dup, 1) := by decide +kernel
theorem dX3_interpreter_16 : decode cX3_interpreter 16 = .ok (.ldc 48, 2) := by decide +kernel
theorem dX3_interpreter_18 : decode cX3_interpreter 18 = .ok (.invokespecial 50, 3) := by decide +kernel
theorem dX3_interpreter_21 : decode cX3_interpreter 21 = .ok (.athrow, 1) := by decide +kernel
theorem dX3_interpreter_22 : decode cX3_interpreter 22 = .ok (.iload_n 2, 1) := by decide +kernel
theorem dX3_interpreter_23 : decode cX3_interpreter 23 = .ok (.ifCond .lt 20, 3) := by decide +kernel
theorem dX3_interpreter_26 : decode cX3_interpreter 26 = .ok (.iload_n 2, 1) := by decide +kernel
theorem dX3_interpreter_27 : decode cX3_interpreter 27 = .ok (.bipush 15, 2) := by decide +kernel
theorem dX3_interpreter_29 : decode cX3_interpreter 29 = .ok (.if_icmp .gt 14, 3) := by decide +kernel
theorem dX3_interpreter_32 : decode cX3_interpreter 32 = .ok (.iload_n 3, 1) := by decide +kernel
theorem dX3_interpreter_33 : decode cX3_interpreter 33 = .ok (.iconst 1, 1) := by decide +kernel
theorem dX3_interpreter_34 : decode cX3_interpreter 34 = .ok (.if_icmp .lt 9, 3) := by decide +kernel
theorem dX3_interpreter_37 : decode cX3_interpreter 37 = .ok (.iload_n 3, 1) := by decide +kernel
theorem dX3_interpreter_38 : decode cX3_interpreter 38 = .ok (.bipush 99, 2) := by decide +kernel
theorem dX3_interpreter_40 : decode cX3_interpreter 40 = .ok (.if_icmp .le 13, 3) := by decide +kernel
theorem dX3_interpreter_43 : decode cX3_interpreter 43 = .ok (.new 53, 3) := by decide +kernel
theorem dX3_interpreter_46 : decode cX3_interpreter 46 = .ok (.dup, 1) := by decide +kernel
theorem dX3_interpreter_47 : decode cX3_interpreter 47 = .ok (.ldc 55, 2) := by decide +kernel
theorem dX3_interpreter_49 : decode cX3_interpreter 49 = .ok (.invokespecial 57, 3) := by decide +kernel
theorem dX3_interpreter_52 : decode cX3_interpreter 52 = .ok (.athrow, 1) := by decide +kernel
theorem dX3_interpreter_53 : decode cX3_interpreter 53 = .ok (.aload 4, 2) := by decide +kernel
theorem dX3_interpreter_55 : decode cX3_interpreter 55 = .ok (.getfield 58, 3) := by decide +kernel
theorem dX3_interpreter_58 : decode cX3_interpreter 58 = .ok (.istore 5, 2) := by decide +kernel
theorem dX3_interpreter_60 : decode cX3_interpreter 60 = .ok (.aload 4, 2) := by decide +kernel
theorem dX3_interpreter_62 : decode cX3_interpreter 62 = .ok (.iload_n 2, 1) := by decide +kernel
theorem dX3_interpreter_63 : decode cX3_interpreter 63 = .ok (.putfield 61, 3) := by decide +kernel
theorem dX3_interpreter_66 : decode cX3_interpreter 66 = .ok (.aload 4, 2) := by decide +kernel
theorem dX3_interpreter_68 : decode cX3_interpreter 68 = .ok (.iload_n 3, 1) := by decide +kernel
theorem dX3_interpreter_69 : decode cX3_interpreter 69 = .ok (.putfield 58, 3) := by decide +kernel
theorem dX3_interpreter_72 : decode cX3_interpreter 72 = .ok (.iload 5, 2) := by decide +kernel
theorem dX3_interpreter_74 : decode cX3_interpreter 74 = .ok (.ireturn, 1) := by decide +kernel
theorem dX3_waive_0 : decode cX3_waive 0 = .ok (.iload_n 1, 1) := by decide +kernel
theorem dX3_waive_1 : decode cX3_waive 1 = .ok (.ifCond .lt 12, 3) := by decide +kernel
theorem dX3_waive_4 : decode cX3_waive 4 = .ok (.iload_n 1, 1) := by decide +kernel
theorem dX3_waive_5 : decode cX3_waive 5 = .ok (.aload_n 0, 1) := by decide +kernel
theorem dX3_waive_6 : decode cX3_waive 6 = .ok (.getfield 15, 3) := by decide +kernel
theorem dX3_waive_9 : decode cX3_waive 9 = .ok (.arraylength, 1) := by decide +kernel
theorem dX3_waive_10 : decode cX3_waive 10 = .ok (.if_icmp .lt 13, 3) := by decide +kernel
theorem dX3_waive_13 : decode cX3_waive 13 = .ok (.new 46, 3) := by decide +kernel
theorem dX3_waive_16 : decode cX3_waive 16 = .ok (.dup, 1) := by decide +kernel
theorem dX3_waive_17 : decode cX3_waive 17 = .ok (.ldc 64, 2) := by decide +kernel
theorem dX3_waive_19 : decode cX3_waive 19 = .ok (.invokespecial 50, 3) := by decide +kernel
theorem dX3_waive_22 : decode cX3_waive 22 = .ok (.athrow, 1) := by decide +kernel
theorem dX3_waive_23 : decode cX3_waive 23 = .ok (.aload_n 0, 1) := by decide +kernel
theorem dX3_waive_24 : decode cX3_waive 24 = .ok (.getfield 15, 3) := by decide +kernel
theorem dX3_waive_27 : decode cX3_waive 27 = .ok (.iload_n 1, 1) := by decide +kernel
theorem dX3_waive_28 : decode cX3_waive 28 = .ok (.baload, 1) := by decide +kernel
theorem dX3_waive_29 : decode cX3_waive 29 = .ok (.istore_n 3, 1) := by decide +kernel
theorem dX3_waive_30 : decode cX3_waive 30 = .ok (.aload_n 0, 1) := by decide +kernel
theorem dX3_waive_31 : decode cX3_waive 31 = .ok (.getfield 15, 3) := by decide +kernel
theorem dX3_waive_34 : decode cX3_waive 34 = .ok (.iload_n 1, 1) := by decide +kernel
theorem dX3_waive_35 : decode cX3_waive 35 = .ok (.iload_n 2, 1) := by decide +kernel
theorem dX3_waive_36 : decode cX3_waive 36 = .ok (.bastore, 1) := by decide +kernel
theorem dX3_waive_37 : decode cX3_waive 37 = .ok (.iload_n 3, 1) := by decide +kernel
theorem dX3_waive_38 : decode cX3_waive 38 = .ok (.ireturn, 1) := by decide +kernel
theorem dX3_file_0 : decode cX3_file 0 = .ok (.iload_n 1, 1) := by decide +kernel
theorem dX3_file_1 : decode cX3_file 1 = .ok (.iconst 4, 1) := by decide +kernel
theorem dX3_file_2 : decode cX3_file 2 = .ok (.invokestatic 66, 3) := by decide +kernel
theorem dX3_file_5 : decode cX3_file 5 = .ok (.ifCond .eq 30, 3) := by decide +kernel
theorem dX3_file_8 : decode cX3_file 8 = .ok (.iload_n 2, 1) := by decide +kernel
theorem dX3_file_9 : decode cX3_file 9 = .ok (.bipush 6, 2) := by decide +kernel
theorem dX3_file_11 : decode cX3_file 11 = .ok (.invokestatic 66, 3) := by decide +kernel
theorem dX3_file_14 : decode cX3_file 14 = .ok (.ifCond .eq 21, 3) := by decide +kernel
theorem dX3_file_17 : decode cX3_file 17 = .ok (.iload_n 3, 1) := by decide +kernel
theorem dX3_file_18 : decode cX3_file 18 = .ok (.bipush 6, 2) := by decide +kernel
theorem dX3_file_20 : decode cX3_file 20 = .ok (.invokestatic 66, 3) := by decide +kernel
theorem dX3_file_23 : decode cX3_file 23 = .ok (.ifCond .eq 12, 3) := by decide +kernel
theorem dX3_file_26 : decode cX3_file 26 = .ok (.iload 4, 2) := by decide +kernel
theorem dX3_file_28 : decode cX3_file 28 = .ok (.iconst 4, 1) := by decide +kernel
theorem dX3_file_29 : decode cX3_file 29 = .ok (.invokestatic 70, 3) := by decide +kernel
theorem dX3_file_32 : decode cX3_file 32 = .ok (.ifCond .ne 13, 3) := by decide +kernel
theorem dX3_file_35 : decode cX3_file 35 = .ok (.new 46, 3) := by decide +kernel
theorem dX3_file_38 : decode cX3_file 38 = .ok (.dup, 1) := by decide +kernel
theorem dX3_file_39 : decode cX3_file 39 = .ok (.ldc 73, 2) := by decide +kernel
theorem dX3_file_41 : decode cX3_file 41 = .ok (.invokespecial 50, 3) := by decide +kernel
theorem dX3_file_44 : decode cX3_file 44 = .ok (.athrow, 1) := by decide +kernel
theorem dX3_file_45 : decode cX3_file 45 = .ok (.iload_n 2, 1) := by decide +kernel
theorem dX3_file_46 : decode cX3_file 46 = .ok (.iload_n 3, 1) := by decide +kernel
theorem dX3_file_47 : decode cX3_file 47 = .ok (.if_icmp .ne 13, 3) := by decide +kernel
theorem dX3_file_50 : decode cX3_file 50 = .ok (.new 53, 3) := by decide +kernel
theorem dX3_file_53 : decode cX3_file 53 = .ok (.dup, 1) := by decide +kernel
theorem dX3_file_54 : decode cX3_file 54 = .ok (.ldc 75, 2) := by decide +kernel
theorem dX3_file_56 : decode cX3_file 56 = .ok (.invokespecial 57, 3) := by decide +kernel
theorem dX3_file_59 : decode cX3_file 59 = .ok (.athrow, 1) := by decide +kernel
theorem dX3_file_60 : decode cX3_file 60 = .ok (.aload_n 0, 1) := by decide +kernel
theorem dX3_file_61 : decode cX3_file 61 = .ok (.getfield 31, 3) := by decide +kernel
theorem dX3_file_64 : decode cX3_file 64 = .ok (.aload_n 0, 1) := by decide +kernel
theorem dX3_file_65 : decode cX3_file 65 = .ok (.getfield 21, 3) := by decide +kernel
theorem dX3_file_68 : decode cX3_file 68 = .ok (.arraylength, 1) := by decide +kernel
theorem dX3_file_69 : decode cX3_file 69 = .ok (.invokestatic 66, 3) := by decide +kernel
theorem dX3_file_72 : decode cX3_file 72 = .ok (.ifCond .ne 13, 3) := by decide +kernel
theorem dX3_file_75 : decode cX3_file 75 = .ok (.new 77, 3) := by decide +kernel
theorem dX3_file_78 : decode cX3_file 78 = .ok (.dup, 1) := by decide +kernel
theorem dX3_file_79 : decode cX3_file 79 = .ok (.ldc 79, 2) := by decide +kernel
theorem dX3_file_81 : decode cX3_file 81 = .ok (.invokespecial 81, 3) := by decide +kernel
theorem dX3_file_84 : decode cX3_file 84 = .ok (.athrow, 1) := by decide +kernel
theorem dX3_file_85 : decode cX3_file 85 = .ok (.new 19, 3) := by decide +kernel
theorem dX3_file_88 : decode cX3_file 88 = .ok (.dup, 1) := by decide +kernel
theorem dX3_file_89 : decode cX3_file 89 = .ok (.aload_n 0, 1) := by decide +kernel
theorem dX3_file_90 : decode cX3_file 90 = .ok (.getfield 31, 3) := by decide +kernel
theorem dX3_file_93 : decode cX3_file 93 = .ok (.iload_n 1, 1) := by decide +kernel
theorem dX3_file_94 : decode cX3_file 94 = .ok (.iload_n 2, 1) := by decide +kernel
theorem dX3_file_95 : decode cX3_file 95 = .ok (.iload_n 3, 1) := by decide +kernel
theorem dX3_file_96 : decode cX3_file 96 = .ok (.iload 4, 2) := by decide +kernel
theorem dX3_file_98 : decode cX3_file 98 = .ok (.aload_n 0, 1) := by decide +kernel
theorem dX3_file_99 : decode cX3_file 99 = .ok (.getfield 38, 3) := by decide +kernel
theorem dX3_file_102 : decode cX3_file 102 = .ok (.bipush 100, 2) := by decide +kernel
theorem dX3_file_104 : decode cX3_file 104 = .ok (.iadd, 1) := by decide +kernel
theorem dX3_file_105 : decode cX3_file 105 = .ok (.invokespecial 82, 3) := by decide +kernel
theorem dX3_file_108 : decode cX3_file 108 = .ok (.astore 5, 2) := by decide +kernel
theorem dX3_file_110 : decode cX3_file 110 = .ok (.aload 5, 2) := by decide +kernel
theorem dX3_file_112 : decode cX3_file 112 = .ok (.dup, 1) := by decide +kernel
theorem dX3_file_113 : decode cX3_file 113 = .ok (.getfield 85, 3) := by decide +kernel
theorem dX3_file_116 : decode cX3_file 116 = .ok (.aload_n 0, 1) := by decide +kernel
theorem dX3_file_117 : decode cX3_file 117 = .ok (.aload 5, 2) := by decide +kernel
theorem dX3_file_119 : decode cX3_file 119 = .ok (.bipush 50, 2) := by decide +kernel
theorem dX3_file_121 : decode cX3_file 121 = .ok (.invokevirtual 88, 3) := by decide +kernel
theorem dX3_file_124 : decode cX3_file 124 = .ok (.isub, 1) := by decide +kernel
theorem dX3_file_125 : decode cX3_file 125 = .ok (.putfield 85, 3) := by decide +kernel
theorem dX3_file_128 : decode cX3_file 128 = .ok (.aload_n 0, 1) := by decide +kernel
theorem dX3_file_129 : decode cX3_file 129 = .ok (.getfield 21, 3) := by decide +kernel
theorem dX3_file_132 : decode cX3_file 132 = .ok (.aload_n 0, 1) := by decide +kernel
theorem dX3_file_133 : decode cX3_file 133 = .ok (.getfield 31, 3) := by decide +kernel
theorem dX3_file_136 : decode cX3_file 136 = .ok (.aload 5, 2) := by decide +kernel
theorem dX3_file_138 : decode cX3_file 138 = .ok (.aastore, 1) := by decide +kernel
theorem dX3_file_139 : decode cX3_file 139 = .ok (.aload_n 0, 1) := by decide +kernel
theorem dX3_file_140 : decode cX3_file 140 = .ok (.dup, 1) := by decide +kernel
theorem dX3_file_141 : decode cX3_file 141 = .ok (.getfield 31, 3) := by decide +kernel
theorem dX3_file_144 : decode cX3_file 144 = .ok (.iconst 1, 1) := by decide +kernel
theorem dX3_file_145 : decode cX3_file 145 = .ok (.iadd, 1) := by decide +kernel
theorem dX3_file_146 : decode cX3_file 146 = .ok (.putfield 31, 3) := by decide +kernel
theorem dX3_file_149 : decode cX3_file 149 = .ok (.aload 5, 2) := by decide +kernel
theorem dX3_file_151 : decode cX3_file 151 = .ok (.getfield 92, 3) := by decide +kernel
theorem dX3_file_154 : decode cX3_file 154 = .ok (.ireturn, 1) := by decide +kernel
theorem dX3_pay_0 : decode cX3_pay 0 = .ok (.aload_n 0, 1) := by decide +kernel
theorem dX3_pay_1 : decode cX3_pay 1 = .ok (.iload_n 1, 1) := by decide +kernel
theorem dX3_pay_2 : decode cX3_pay 2 = .ok (.invokevirtual 95, 3) := by decide +kernel
theorem dX3_pay_5 : decode cX3_pay 5 = .ok (.astore_n 3, 1) := by decide +kernel
theorem dX3_pay_6 : decode cX3_pay 6 = .ok (.aload_n 3, 1) := by decide +kernel
theorem dX3_pay_7 : decode cX3_pay 7 = .ok (.ifnonnull 13, 3) := by decide +kernel
theorem dX3_pay_10 : decode cX3_pay 10 = .ok (.new 46, 3) := by decide +kernel
theorem dX3_pay_13 : decode cX3_pay 13 = .ok (.dup, 1) := by decide +kernel
theorem dX3_pay_14 : decode cX3_pay 14 = .ok (.ldc 99, 2) := by decide +kernel
theorem dX3_pay_16 : decode cX3_pay 16 = .ok (.invokespecial 50, 3) := by decide +kernel
theorem dX3_pay_19 : decode cX3_pay 19 = .ok (.athrow, 1) := by decide +kernel
theorem dX3_pay_20 : decode cX3_pay 20 = .ok (.iload_n 2, 1) := by decide +kernel
theorem dX3_pay_21 : decode cX3_pay 21 = .ok (.iconst 1, 1) := by decide +kernel
theorem dX3_pay_22 : decode cX3_pay 22 = .ok (.if_icmp .lt 10, 3) := by decide +kernel
theorem dX3_pay_25 : decode cX3_pay 25 = .ok (.iload_n 2, 1) := by decide +kernel
theorem dX3_pay_26 : decode cX3_pay 26 = .ok (.sipush 9999, 3) := by decide +kernel
theorem dX3_pay_29 : decode cX3_pay 29 = .ok (.if_icmp .le 13, 3) := by decide +kernel
theorem dX3_pay_32 : decode cX3_pay 32 = .ok (.new 53, 3) := by decide +kernel
theorem dX3_pay_35 : decode cX3_pay 35 = .ok (.dup, 1) := by decide +kernel
theorem dX3_pay_36 : decode cX3_pay 36 = .ok (.ldc 101, 2) := by decide +kernel
theorem dX3_pay_38 : decode cX3_pay 38 = .ok (.invokespecial 57, 3) := by decide +kernel
theorem dX3_pay_41 : decode cX3_pay 41 = .ok (.athrow, 1) := by decide +kernel
theorem dX3_pay_42 : decode cX3_pay 42 = .ok (.aload_n 3, 1) := by decide +kernel
theorem dX3_pay_43 : decode cX3_pay 43 = .ok (.dup, 1) := by decide +kernel
theorem dX3_pay_44 : decode cX3_pay 44 = .ok (.getfield 85, 3) := by decide +kernel
theorem dX3_pay_47 : decode cX3_pay 47 = .ok (.iload_n 2, 1) := by decide +kernel
theorem dX3_pay_48 : decode cX3_pay 48 = .ok (.iadd, 1) := by decide +kernel
theorem dX3_pay_49 : decode cX3_pay 49 = .ok (.putfield 85, 3) := by decide +kernel
theorem dX3_pay_52 : decode cX3_pay 52 = .ok (.aload_n 3, 1) := by decide +kernel
theorem dX3_pay_53 : decode cX3_pay 53 = .ok (.getfield 85, 3) := by decide +kernel
theorem dX3_pay_56 : decode cX3_pay 56 = .ok (.ireturn, 1) := by decide +kernel
theorem dX3_decide_0 : decode cX3_decide 0 = .ok (.aload_n 0, 1) := by decide +kernel
theorem dX3_decide_1 : decode cX3_decide 1 = .ok (.iload_n 1, 1) := by decide +kernel
theorem dX3_decide_2 : decode cX3_decide 2 = .ok (.invokevirtual 95, 3) := by decide +kernel
theorem dX3_decide_5 : decode cX3_decide 5 = .ok (.astore_n 2, 1) := by decide +kernel
theorem dX3_decide_6 : decode cX3_decide 6 = .ok (.aload_n 2, 1) := by decide +kernel
theorem dX3_decide_7 : decode cX3_decide 7 = .ok (.ifnonnull 13, 3) := by decide +kernel
theorem dX3_decide_10 : decode cX3_decide 10 = .ok (.new 46, 3) := by decide +kernel
theorem dX3_decide_13 : decode cX3_decide 13 = .ok (.dup, 1) := by decide +kernel
theorem dX3_decide_14 : decode cX3_decide 14 = .ok (.ldc 99, 2) := by decide +kernel
theorem dX3_decide_16 : decode cX3_decide 16 = .ok (.invokespecial 50, 3) := by decide +kernel
theorem dX3_decide_19 : decode cX3_decide 19 = .ok (.athrow, 1) := by decide +kernel
theorem dX3_decide_20 : decode cX3_decide 20 = .ok (.aload_n 2, 1) := by decide +kernel
theorem dX3_decide_21 : decode cX3_decide 21 = .ok (.getfield 103, 3) := by decide +kernel
theorem dX3_decide_24 : decode cX3_decide 24 = .ok (.iconst 1, 1) := by decide +kernel
theorem dX3_decide_25 : decode cX3_decide 25 = .ok (.if_icmp .eq 13, 3) := by decide +kernel
theorem dX3_decide_28 : decode cX3_decide 28 = .ok (.new 77, 3) := by decide +kernel
theorem dX3_decide_31 : decode cX3_decide 31 = .ok (.dup, 1) := by decide +kernel
theorem dX3_decide_32 : decode cX3_decide 32 = .ok (.ldc 106, 2) := by decide +kernel
theorem dX3_decide_34 : decode cX3_decide 34 = .ok (.invokespecial 81, 3) := by decide +kernel
theorem dX3_decide_37 : decode cX3_decide 37 = .ok (.athrow, 1) := by decide +kernel
theorem dX3_decide_38 : decode cX3_decide 38 = .ok (.aload_n 2, 1) := by decide +kernel
theorem dX3_decide_39 : decode cX3_decide 39 = .ok (.iconst 2, 1) := by decide +kernel
theorem dX3_decide_40 : decode cX3_decide 40 = .ok (.putfield 103, 3) := by decide +kernel
theorem dX3_decide_43 : decode cX3_decide 43 = .ok (.aload_n 0, 1) := by decide +kernel
theorem dX3_decide_44 : decode cX3_decide 44 = .ok (.aload_n 2, 1) := by decide +kernel
theorem dX3_decide_45 : decode cX3_decide 45 = .ok (.invokevirtual 108, 3) := by decide +kernel
theorem dX3_decide_48 : decode cX3_decide 48 = .ok (.ireturn, 1) := by decide +kernel
theorem dX3_appeal_0 : decode cX3_appeal 0 = .ok (.aload_n 0, 1) := by decide +kernel
theorem dX3_appeal_1 : decode cX3_appeal 1 = .ok (.iload_n 1, 1) := by decide +kernel
theorem dX3_appeal_2 : decode cX3_appeal 2 = .ok (.invokevirtual 95, 3) := by decide +kernel
theorem dX3_appeal_5 : decode cX3_appeal 5 = .ok (.astore_n 2, 1) := by decide +kernel
theorem dX3_appeal_6 : decode cX3_appeal 6 = .ok (.aload_n 2, 1) := by decide +kernel
theorem dX3_appeal_7 : decode cX3_appeal 7 = .ok (.ifnonnull 13, 3) := by decide +kernel
theorem dX3_appeal_10 : decode cX3_appeal 10 = .ok (.new 46, 3) := by decide +kernel
theorem dX3_appeal_13 : decode cX3_appeal 13 = .ok (.dup, 1) := by decide +kernel
theorem dX3_appeal_14 : decode cX3_appeal 14 = .ok (.ldc 99, 2) := by decide +kernel
theorem dX3_appeal_16 : decode cX3_appeal 16 = .ok (.invokespecial 50, 3) := by decide +kernel
theorem dX3_appeal_19 : decode cX3_appeal 19 = .ok (.athrow, 1) := by decide +kernel
theorem dX3_appeal_20 : decode cX3_appeal 20 = .ok (.aload_n 2, 1) := by decide +kernel
theorem dX3_appeal_21 : decode cX3_appeal 21 = .ok (.getfield 103, 3) := by decide +kernel
theorem dX3_appeal_24 : decode cX3_appeal 24 = .ok (.iconst 2, 1) := by decide +kernel
theorem dX3_appeal_25 : decode cX3_appeal 25 = .ok (.if_icmp .ne 10, 3) := by decide +kernel
theorem dX3_appeal_28 : decode cX3_appeal 28 = .ok (.aload_n 2, 1) := by decide +kernel
theorem dX3_appeal_29 : decode cX3_appeal 29 = .ok (.getfield 85, 3) := by decide +kernel
theorem dX3_appeal_32 : decode cX3_appeal 32 = .ok (.ifCond .ge 13, 3) := by decide +kernel
theorem dX3_appeal_35 : decode cX3_appeal 35 = .ok (.new 77, 3) := by decide +kernel
theorem dX3_appeal_38 : decode cX3_appeal 38 = .ok (.dup, 1) := by decide +kernel
theorem dX3_appeal_39 : decode cX3_appeal 39 = .ok (.ldc 112, 2) := by decide +kernel
theorem dX3_appeal_41 : decode cX3_appeal 41 = .ok (.invokespecial 81, 3) := by decide +kernel
theorem dX3_appeal_44 : decode cX3_appeal 44 = .ok (.athrow, 1) := by decide +kernel
theorem dX3_appeal_45 : decode cX3_appeal 45 = .ok (.aload_n 2, 1) := by decide +kernel
theorem dX3_appeal_46 : decode cX3_appeal 46 = .ok (.iconst 3, 1) := by decide +kernel
theorem dX3_appeal_47 : decode cX3_appeal 47 = .ok (.putfield 103, 3) := by decide +kernel
theorem dX3_appeal_50 : decode cX3_appeal 50 = .ok (.aload_n 2, 1) := by decide +kernel
theorem dX3_appeal_51 : decode cX3_appeal 51 = .ok (.dup, 1) := by decide +kernel
theorem dX3_appeal_52 : decode cX3_appeal 52 = .ok (.getfield 85, 3) := by decide +kernel
theorem dX3_appeal_55 : decode cX3_appeal 55 = .ok (.aload_n 0, 1) := by decide +kernel
theorem dX3_appeal_56 : decode cX3_appeal 56 = .ok (.aload_n 2, 1) := by decide +kernel
theorem dX3_appeal_57 : decode cX3_appeal 57 = .ok (.bipush 80, 2) := by decide +kernel
theorem dX3_appeal_59 : decode cX3_appeal 59 = .ok (.invokevirtual 88, 3) := by decide +kernel
theorem dX3_appeal_62 : decode cX3_appeal 62 = .ok (.isub, 1) := by decide +kernel
theorem dX3_appeal_63 : decode cX3_appeal 63 = .ok (.putfield 85, 3) := by decide +kernel
theorem dX3_appeal_66 : decode cX3_appeal 66 = .ok (.aload_n 2, 1) := by decide +kernel
theorem dX3_appeal_67 : decode cX3_appeal 67 = .ok (.getfield 85, 3) := by decide +kernel
theorem dX3_appeal_70 : decode cX3_appeal 70 = .ok (.ireturn, 1) := by decide +kernel
theorem dX3_settle_0 : decode cX3_settle 0 = .ok (.aload_n 0, 1) := by decide +kernel
theorem dX3_settle_1 : decode cX3_settle 1 = .ok (.iload_n 1, 1) := by decide +kernel
theorem dX3_settle_2 : decode cX3_settle 2 = .ok (.invokevirtual 95, 3) := by decide +kernel
theorem dX3_settle_5 : decode cX3_settle 5 = .ok (.astore_n 3, 1) := by decide +kernel
theorem dX3_settle_6 : decode cX3_settle 6 = .ok (.aload_n 3, 1) := by decide +kernel
theorem dX3_settle_7 : decode cX3_settle 7 = .ok (.ifnonnull 13, 3) := by decide +kernel
theorem dX3_settle_10 : decode cX3_settle 10 = .ok (.new 46, 3) := by decide +kernel
theorem dX3_settle_13 : decode cX3_settle 13 = .ok (.dup, 1) := by decide +kernel
theorem dX3_settle_14 : decode cX3_settle 14 = .ok (.ldc 99, 2) := by decide +kernel
theorem dX3_settle_16 : decode cX3_settle 16 = .ok (.invokespecial 50, 3) := by decide +kernel
theorem dX3_settle_19 : decode cX3_settle 19 = .ok (.athrow, 1) := by decide +kernel
theorem dX3_settle_20 : decode cX3_settle 20 = .ok (.aload_n 3, 1) := by decide +kernel
theorem dX3_settle_21 : decode cX3_settle 21 = .ok (.getfield 103, 3) := by decide +kernel
theorem dX3_settle_24 : decode cX3_settle 24 = .ok (.iconst 3, 1) := by decide +kernel
theorem dX3_settle_25 : decode cX3_settle 25 = .ok (.if_icmp .eq 13, 3) := by decide +kernel
theorem dX3_settle_28 : decode cX3_settle 28 = .ok (.new 77, 3) := by decide +kernel
theorem dX3_settle_31 : decode cX3_settle 31 = .ok (.dup, 1) := by decide +kernel
theorem dX3_settle_32 : decode cX3_settle 32 = .ok (.ldc 114, 2) := by decide +kernel
theorem dX3_settle_34 : decode cX3_settle 34 = .ok (.invokespecial 81, 3) := by decide +kernel
theorem dX3_settle_37 : decode cX3_settle 37 = .ok (.athrow, 1) := by decide +kernel
theorem dX3_settle_38 : decode cX3_settle 38 = .ok (.aload_n 3, 1) := by decide +kernel
theorem dX3_settle_39 : decode cX3_settle 39 = .ok (.iload_n 2, 1) := by decide +kernel
theorem dX3_settle_40 : decode cX3_settle 40 = .ok (.ifCond .eq 7, 3) := by decide +kernel
theorem dX3_settle_43 : decode cX3_settle 43 = .ok (.iconst 0, 1) := by decide +kernel
theorem dX3_settle_44 : decode cX3_settle 44 = .ok (.goto 4, 3) := by decide +kernel
theorem dX3_settle_47 : decode cX3_settle 47 = .ok (.iconst 2, 1) := by decide +kernel
theorem dX3_settle_48 : decode cX3_settle 48 = .ok (.putfield 103, 3) := by decide +kernel
theorem dX3_settle_51 : decode cX3_settle 51 = .ok (.aload_n 3, 1) := by decide +kernel
theorem dX3_settle_52 : decode cX3_settle 52 = .ok (.getfield 116, 3) := by decide +kernel
theorem dX3_settle_55 : decode cX3_settle 55 = .ok (.ireturn, 1) := by decide +kernel
theorem dX3_close_0 : decode cX3_close 0 = .ok (.aload_n 0, 1) := by decide +kernel
theorem dX3_close_1 : decode cX3_close 1 = .ok (.iload_n 1, 1) := by decide +kernel
theorem dX3_close_2 : decode cX3_close 2 = .ok (.invokevirtual 95, 3) := by decide +kernel
theorem dX3_close_5 : decode cX3_close 5 = .ok (.astore_n 2, 1) := by decide +kernel
theorem dX3_close_6 : decode cX3_close 6 = .ok (.aload_n 2, 1) := by decide +kernel
theorem dX3_close_7 : decode cX3_close 7 = .ok (.ifnonnull 13, 3) := by decide +kernel
theorem dX3_close_10 : decode cX3_close 10 = .ok (.new 46, 3) := by decide +kernel
theorem dX3_close_13 : decode cX3_close 13 = .ok (.dup, 1) := by decide +kernel
theorem dX3_close_14 : decode cX3_close 14 = .ok (.ldc 99, 2) := by decide +kernel
theorem dX3_close_16 : decode cX3_close 16 = .ok (.invokespecial 50, 3) := by decide +kernel
theorem dX3_close_19 : decode cX3_close 19 = .ok (.athrow, 1) := by decide +kernel
theorem dX3_close_20 : decode cX3_close 20 = .ok (.aload_n 2, 1) := by decide +kernel
theorem dX3_close_21 : decode cX3_close 21 = .ok (.getfield 103, 3) := by decide +kernel
theorem dX3_close_24 : decode cX3_close 24 = .ok (.iconst 2, 1) := by decide +kernel
theorem dX3_close_25 : decode cX3_close 25 = .ok (.if_icmp .eq 13, 3) := by decide +kernel
theorem dX3_close_28 : decode cX3_close 28 = .ok (.new 77, 3) := by decide +kernel
theorem dX3_close_31 : decode cX3_close 31 = .ok (.dup, 1) := by decide +kernel
theorem dX3_close_32 : decode cX3_close 32 = .ok (.ldc 119, 2) := by decide +kernel
theorem dX3_close_34 : decode cX3_close 34 = .ok (.invokespecial 81, 3) := by decide +kernel
theorem dX3_close_37 : decode cX3_close 37 = .ok (.athrow, 1) := by decide +kernel
theorem dX3_close_38 : decode cX3_close 38 = .ok (.aload_n 2, 1) := by decide +kernel
theorem dX3_close_39 : decode cX3_close 39 = .ok (.iconst 4, 1) := by decide +kernel
theorem dX3_close_40 : decode cX3_close 40 = .ok (.putfield 103, 3) := by decide +kernel
theorem dX3_close_43 : decode cX3_close 43 = .ok (.aload_n 2, 1) := by decide +kernel
theorem dX3_close_44 : decode cX3_close 44 = .ok (.getfield 85, 3) := by decide +kernel
theorem dX3_close_47 : decode cX3_close 47 = .ok (.ireturn, 1) := by decide +kernel
theorem dX3_plan_0 : decode cX3_plan 0 = .ok (.aload_n 0, 1) := by decide +kernel
theorem dX3_plan_1 : decode cX3_plan 1 = .ok (.iload_n 1, 1) := by decide +kernel
theorem dX3_plan_2 : decode cX3_plan 2 = .ok (.invokevirtual 95, 3) := by decide +kernel
theorem dX3_plan_5 : decode cX3_plan 5 = .ok (.astore 6, 2) := by decide +kernel
theorem dX3_plan_7 : decode cX3_plan 7 = .ok (.aload 6, 2) := by decide +kernel
theorem dX3_plan_9 : decode cX3_plan 9 = .ok (.ifnull 19, 3) := by decide +kernel
theorem dX3_plan_12 : decode cX3_plan 12 = .ok (.iload_n 2, 1) := by decide +kernel
theorem dX3_plan_13 : decode cX3_plan 13 = .ok (.iconst 4, 1) := by decide +kernel
theorem dX3_plan_14 : decode cX3_plan 14 = .ok (.invokestatic 66, 3) := by decide +kernel
theorem dX3_plan_17 : decode cX3_plan 17 = .ok (.ifCond .eq 11, 3) := by decide +kernel
theorem dX3_plan_20 : decode cX3_plan 20 = .ok (.iload_n 3, 1) := by decide +kernel
theorem dX3_plan_21 : decode cX3_plan 21 = .ok (.iconst 4, 1) := by decide +kernel
theorem dX3_plan_22 : decode cX3_plan 22 = .ok (.invokestatic 70, 3) := by decide +kernel
theorem dX3_plan_25 : decode cX3_plan 25 = .ok (.ifCond .ne 13, 3) := by decide +kernel
theorem dX3_plan_28 : decode cX3_plan 28 = .ok (.new 46, 3) := by decide +kernel
theorem dX3_plan_31 : decode cX3_plan 31 = .ok (.dup, 1) := by decide +kernel
theorem dX3_plan_32 : decode cX3_plan 32 = .ok (.ldc 121, 2) := by decide +kernel
theorem dX3_plan_34 : decode cX3_plan 34 = .ok (.invokespecial 50, 3) := by decide +kernel
theorem dX3_plan_37 : decode cX3_plan 37 = .ok (.athrow, 1) := by decide +kernel
theorem dX3_plan_38 : decode cX3_plan 38 = .ok (.iload 4, 2) := by decide +kernel
theorem dX3_plan_40 : decode cX3_plan 40 = .ok (.aload_n 0, 1) := by decide +kernel
theorem dX3_plan_41 : decode cX3_plan 41 = .ok (.getfield 38, 3) := by decide +kernel
theorem dX3_plan_44 : decode cX3_plan 44 = .ok (.if_icmp .le 23, 3) := by decide +kernel
theorem dX3_plan_47 : decode cX3_plan 47 = .ok (.iload 4, 2) := by decide +kernel
theorem dX3_plan_49 : decode cX3_plan 49 = .ok (.sipush 999, 3) := by decide +kernel
theorem dX3_plan_52 : decode cX3_plan 52 = .ok (.if_icmp .gt 15, 3) := by decide +kernel
theorem dX3_plan_55 : decode cX3_plan 55 = .ok (.iload 5, 2) := by decide +kernel
theorem dX3_plan_57 : decode cX3_plan 57 = .ok (.iconst 1, 1) := by decide +kernel
theorem dX3_plan_58 : decode cX3_plan 58 = .ok (.if_icmp .lt 9, 3) := by decide +kernel
theorem dX3_plan_61 : decode cX3_plan 61 = .ok (.iload 5, 2) := by decide +kernel
theorem dX3_plan_63 : decode cX3_plan 63 = .ok (.iconst 4, 1) := by decide +kernel
theorem dX3_plan_64 : decode cX3_plan 64 = .ok (.if_icmp .le 13, 3) := by decide +kernel
theorem dX3_plan_67 : decode cX3_plan 67 = .ok (.new 53, 3) := by decide +kernel
theorem dX3_plan_70 : decode cX3_plan 70 = .ok (.dup, 1) := by decide +kernel
theorem dX3_plan_71 : decode cX3_plan 71 = .ok (.ldc 123, 2) := by decide +kernel
theorem dX3_plan_73 : decode cX3_plan 73 = .ok (.invokespecial 57, 3) := by decide +kernel
theorem dX3_plan_76 : decode cX3_plan 76 = .ok (.athrow, 1) := by decide +kernel
theorem dX3_plan_77 : decode cX3_plan 77 = .ok (.aload 6, 2) := by decide +kernel
theorem dX3_plan_79 : decode cX3_plan 79 = .ok (.invokevirtual 125, 3) := by decide +kernel
theorem dX3_plan_82 : decode cX3_plan 82 = .ok (.ifCond .eq 28, 3) := by decide +kernel
theorem dX3_plan_85 : decode cX3_plan 85 = .ok (.aload_n 0, 1) := by decide +kernel
theorem dX3_plan_86 : decode cX3_plan 86 = .ok (.aload 6, 2) := by decide +kernel
theorem dX3_plan_88 : decode cX3_plan 88 = .ok (.iload_n 3, 1) := by decide +kernel
theorem dX3_plan_89 : decode cX3_plan 89 = .ok (.invokevirtual 129, 3) := by decide +kernel
theorem dX3_plan_92 : decode cX3_plan 92 = .ok (.ifCond .eq 18, 3) := by decide +kernel
theorem dX3_plan_95 : decode cX3_plan 95 = .ok (.aload_n 0, 1) := by decide +kernel
theorem dX3_plan_96 : decode cX3_plan 96 = .ok (.getfield 35, 3) := by decide +kernel
theorem dX3_plan_99 : decode cX3_plan 99 = .ok (.aload_n 0, 1) := by decide +kernel
theorem dX3_plan_100 : decode cX3_plan 100 = .ok (.getfield 27, 3) := by decide +kernel
theorem dX3_plan_103 : decode cX3_plan 103 = .ok (.arraylength, 1) := by decide +kernel
theorem dX3_plan_104 : decode cX3_plan 104 = .ok (.invokestatic 66, 3) := by decide +kernel
theorem dX3_plan_107 : decode cX3_plan 107 = .ok (.ifCond .ne 13, 3) := by decide +kernel
theorem dX3_plan_110 : decode cX3_plan 110 = .ok (.new 77, 3) := by decide +kernel
theorem dX3_plan_113 : decode cX3_plan 113 = .ok (.dup, 1) := by decide +kernel
theorem dX3_plan_114 : decode cX3_plan 114 = .ok (.ldc 133, 2) := by decide +kernel
theorem dX3_plan_116 : decode cX3_plan 116 = .ok (.invokespecial 81, 3) := by decide +kernel
theorem dX3_plan_119 : decode cX3_plan 119 = .ok (.athrow, 1) := by decide +kernel
theorem dX3_plan_120 : decode cX3_plan 120 = .ok (.aload_n 0, 1) := by decide +kernel
theorem dX3_plan_121 : decode cX3_plan 121 = .ok (.aconst_null, 1) := by decide +kernel
theorem dX3_plan_122 : decode cX3_plan 122 = .ok (.aload 6, 2) := by decide +kernel
theorem dX3_plan_124 : decode cX3_plan 124 = .ok (.iload_n 2, 1) := by decide +kernel
theorem dX3_plan_125 : decode cX3_plan 125 = .ok (.iload_n 3, 1) := by decide +kernel
theorem dX3_plan_126 : decode cX3_plan 126 = .ok (.iload 4, 2) := by decide +kernel
theorem dX3_plan_128 : decode cX3_plan 128 = .ok (.iload 5, 2) := by decide +kernel
theorem dX3_plan_130 : decode cX3_plan 130 = .ok (.invokevirtual 135, 3) := by decide +kernel
theorem dX3_plan_133 : decode cX3_plan 133 = .ok (.ifCond .eq 13, 3) := by decide +kernel
theorem dX3_plan_136 : decode cX3_plan 136 = .ok (.new 77, 3) := by decide +kernel
theorem dX3_plan_139 : decode cX3_plan 139 = .ok (.dup, 1) := by decide +kernel
theorem dX3_plan_140 : decode cX3_plan 140 = .ok (.ldc 139, 2) := by decide +kernel
theorem dX3_plan_142 : decode cX3_plan 142 = .ok (.invokespecial 81, 3) := by decide +kernel
theorem dX3_plan_145 : decode cX3_plan 145 = .ok (.athrow, 1) := by decide +kernel
theorem dX3_plan_146 : decode cX3_plan 146 = .ok (.new 25, 3) := by decide +kernel
theorem dX3_plan_149 : decode cX3_plan 149 = .ok (.dup, 1) := by decide +kernel
theorem dX3_plan_150 : decode cX3_plan 150 = .ok (.aload_n 0, 1) := by decide +kernel
theorem dX3_plan_151 : decode cX3_plan 151 = .ok (.getfield 35, 3) := by decide +kernel
theorem dX3_plan_154 : decode cX3_plan 154 = .ok (.aload 6, 2) := by decide +kernel
theorem dX3_plan_156 : decode cX3_plan 156 = .ok (.iload 5, 2) := by decide +kernel
theorem dX3_plan_158 : decode cX3_plan 158 = .ok (.invokespecial 141, 3) := by decide +kernel
theorem dX3_plan_161 : decode cX3_plan 161 = .ok (.astore 7, 2) := by decide +kernel
theorem dX3_plan_163 : decode cX3_plan 163 = .ok (.aload_n 0, 1) := by decide +kernel
theorem dX3_plan_164 : decode cX3_plan 164 = .ok (.getfield 27, 3) := by decide +kernel
theorem dX3_plan_167 : decode cX3_plan 167 = .ok (.aload_n 0, 1) := by decide +kernel
theorem dX3_plan_168 : decode cX3_plan 168 = .ok (.getfield 35, 3) := by decide +kernel
theorem dX3_plan_171 : decode cX3_plan 171 = .ok (.aload 7, 2) := by decide +kernel
theorem dX3_plan_173 : decode cX3_plan 173 = .ok (.aastore, 1) := by decide +kernel
theorem dX3_plan_174 : decode cX3_plan 174 = .ok (.aload_n 0, 1) := by decide +kernel
theorem dX3_plan_175 : decode cX3_plan 175 = .ok (.dup, 1) := by decide +kernel
theorem dX3_plan_176 : decode cX3_plan 176 = .ok (.getfield 35, 3) := by decide +kernel
theorem dX3_plan_179 : decode cX3_plan 179 = .ok (.iconst 1, 1) := by decide +kernel
theorem dX3_plan_180 : decode cX3_plan 180 = .ok (.iadd, 1) := by decide +kernel
theorem dX3_plan_181 : decode cX3_plan 181 = .ok (.putfield 35, 3) := by decide +kernel
theorem dX3_plan_184 : decode cX3_plan 184 = .ok (.aload_n 0, 1) := by decide +kernel
theorem dX3_plan_185 : decode cX3_plan 185 = .ok (.aload 7, 2) := by decide +kernel
theorem dX3_plan_187 : decode cX3_plan 187 = .ok (.iload_n 2, 1) := by decide +kernel
theorem dX3_plan_188 : decode cX3_plan 188 = .ok (.iload_n 3, 1) := by decide +kernel
theorem dX3_plan_189 : decode cX3_plan 189 = .ok (.iload 4, 2) := by decide +kernel
theorem dX3_plan_191 : decode cX3_plan 191 = .ok (.invokevirtual 144, 3) := by decide +kernel
theorem dX3_plan_194 : decode cX3_plan 194 = .ok (.aload 7, 2) := by decide +kernel
theorem dX3_plan_196 : decode cX3_plan 196 = .ok (.getfield 148, 3) := by decide +kernel
theorem dX3_plan_199 : decode cX3_plan 199 = .ok (.ireturn, 1) := by decide +kernel
theorem dX3_move_0 : decode cX3_move 0 = .ok (.aload_n 0, 1) := by decide +kernel
theorem dX3_move_1 : decode cX3_move 1 = .ok (.iload_n 1, 1) := by decide +kernel
theorem dX3_move_2 : decode cX3_move 2 = .ok (.invokevirtual 149, 3) := by decide +kernel
theorem dX3_move_5 : decode cX3_move 5 = .ok (.astore 5, 2) := by decide +kernel
theorem dX3_move_7 : decode cX3_move 7 = .ok (.aload 5, 2) := by decide +kernel
theorem dX3_move_9 : decode cX3_move 9 = .ok (.ifnull 19, 3) := by decide +kernel
theorem dX3_move_12 : decode cX3_move 12 = .ok (.iload_n 2, 1) := by decide +kernel
theorem dX3_move_13 : decode cX3_move 13 = .ok (.iconst 4, 1) := by decide +kernel
theorem dX3_move_14 : decode cX3_move 14 = .ok (.invokestatic 66, 3) := by decide +kernel
theorem dX3_move_17 : decode cX3_move 17 = .ok (.ifCond .eq 11, 3) := by decide +kernel
theorem dX3_move_20 : decode cX3_move 20 = .ok (.iload_n 3, 1) := by decide +kernel
theorem dX3_move_21 : decode cX3_move 21 = .ok (.iconst 4, 1) := by decide +kernel
theorem dX3_move_22 : decode cX3_move 22 = .ok (.invokestatic 70, 3) := by decide +kernel
theorem dX3_move_25 : decode cX3_move 25 = .ok (.ifCond .ne 13, 3) := by decide +kernel
theorem dX3_move_28 : decode cX3_move 28 = .ok (.new 46, 3) := by decide +kernel
theorem dX3_move_31 : decode cX3_move 31 = .ok (.dup, 1) := by decide +kernel
theorem dX3_move_32 : decode cX3_move 32 = .ok (.ldc 153, 2) := by decide +kernel
theorem dX3_move_34 : decode cX3_move 34 = .ok (.invokespecial 50, 3) := by decide +kernel
theorem dX3_move_37 : decode cX3_move 37 = .ok (.athrow, 1) := by decide +kernel
theorem dX3_move_38 : decode cX3_move 38 = .ok (.iload 4, 2) := by decide +kernel
theorem dX3_move_40 : decode cX3_move 40 = .ok (.aload_n 0, 1) := by decide +kernel
theorem dX3_move_41 : decode cX3_move 41 = .ok (.getfield 38, 3) := by decide +kernel
theorem dX3_move_44 : decode cX3_move 44 = .ok (.if_icmp .le 11, 3) := by decide +kernel
theorem dX3_move_47 : decode cX3_move 47 = .ok (.iload 4, 2) := by decide +kernel
theorem dX3_move_49 : decode cX3_move 49 = .ok (.sipush 999, 3) := by decide +kernel
theorem dX3_move_52 : decode cX3_move 52 = .ok (.if_icmp .le 13, 3) := by decide +kernel
theorem dX3_move_55 : decode cX3_move 55 = .ok (.new 53, 3) := by decide +kernel
theorem dX3_move_58 : decode cX3_move 58 = .ok (.dup, 1) := by decide +kernel
theorem dX3_move_59 : decode cX3_move 59 = .ok (.ldc 155, 2) := by decide +kernel
theorem dX3_move_61 : decode cX3_move 61 = .ok (.invokespecial 57, 3) := by decide +kernel
theorem dX3_move_64 : decode cX3_move 64 = .ok (.athrow, 1) := by decide +kernel
theorem dX3_move_65 : decode cX3_move 65 = .ok (.aload_n 0, 1) := by decide +kernel
theorem dX3_move_66 : decode cX3_move 66 = .ok (.aload 5, 2) := by decide +kernel
theorem dX3_move_68 : decode cX3_move 68 = .ok (.invokevirtual 157, 3) := by decide +kernel
theorem dX3_move_71 : decode cX3_move 71 = .ok (.ifCond .eq 16, 3) := by decide +kernel
theorem dX3_move_74 : decode cX3_move 74 = .ok (.aload_n 0, 1) := by decide +kernel
theorem dX3_move_75 : decode cX3_move 75 = .ok (.aload 5, 2) := by decide +kernel
theorem dX3_move_77 : decode cX3_move 77 = .ok (.getfield 161, 3) := by decide +kernel
theorem dX3_move_80 : decode cX3_move 80 = .ok (.iload_n 3, 1) := by decide +kernel
theorem dX3_move_81 : decode cX3_move 81 = .ok (.invokevirtual 129, 3) := by decide +kernel
theorem dX3_move_84 : decode cX3_move 84 = .ok (.ifCond .ne 13, 3) := by decide +kernel
theorem dX3_move_87 : decode cX3_move 87 = .ok (.new 77, 3) := by decide +kernel
theorem dX3_move_90 : decode cX3_move 90 = .ok (.dup, 1) := by decide +kernel
theorem dX3_move_91 : decode cX3_move 91 = .ok (.ldc 165, 2) := by decide +kernel
theorem dX3_move_93 : decode cX3_move 93 = .ok (.invokespecial 81, 3) := by decide +kernel
theorem dX3_move_96 : decode cX3_move 96 = .ok (.athrow, 1) := by decide +kernel
theorem dX3_move_97 : decode cX3_move 97 = .ok (.aload_n 0, 1) := by decide +kernel
theorem dX3_move_98 : decode cX3_move 98 = .ok (.aload 5, 2) := by decide +kernel
theorem dX3_move_100 : decode cX3_move 100 = .ok (.aload 5, 2) := by decide +kernel
theorem dX3_move_102 : decode cX3_move 102 = .ok (.getfield 161, 3) := by decide +kernel
theorem dX3_move_105 : decode cX3_move 105 = .ok (.iload_n 2, 1) := by decide +kernel
theorem dX3_move_106 : decode cX3_move 106 = .ok (.iload_n 3, 1) := by decide +kernel
theorem dX3_move_107 : decode cX3_move 107 = .ok (.iload 4, 2) := by decide +kernel
theorem dX3_move_109 : decode cX3_move 109 = .ok (.aload 5, 2) := by decide +kernel
theorem dX3_move_111 : decode cX3_move 111 = .ok (.getfield 167, 3) := by decide +kernel
theorem dX3_move_114 : decode cX3_move 114 = .ok (.invokevirtual 135, 3) := by decide +kernel
theorem dX3_move_117 : decode cX3_move 117 = .ok (.ifCond .eq 13, 3) := by decide +kernel
theorem dX3_move_120 : decode cX3_move 120 = .ok (.new 77, 3) := by decide +kernel
theorem dX3_move_123 : decode cX3_move 123 = .ok (.dup, 1) := by decide +kernel
theorem dX3_move_124 : decode cX3_move 124 = .ok (.ldc 139, 2) := by decide +kernel
theorem dX3_move_126 : decode cX3_move 126 = .ok (.invokespecial 81, 3) := by decide +kernel
theorem dX3_move_129 : decode cX3_move 129 = .ok (.athrow, 1) := by decide +kernel
theorem dX3_move_130 : decode cX3_move 130 = .ok (.aload_n 0, 1) := by decide +kernel
theorem dX3_move_131 : decode cX3_move 131 = .ok (.aload 5, 2) := by decide +kernel
theorem dX3_move_133 : decode cX3_move 133 = .ok (.invokevirtual 170, 3) := by decide +kernel
theorem dX3_move_136 : decode cX3_move 136 = .ok (.aload_n 0, 1) := by decide +kernel
theorem dX3_move_137 : decode cX3_move 137 = .ok (.aload 5, 2) := by decide +kernel
theorem dX3_move_139 : decode cX3_move 139 = .ok (.iload_n 2, 1) := by decide +kernel
theorem dX3_move_140 : decode cX3_move 140 = .ok (.iload_n 3, 1) := by decide +kernel
theorem dX3_move_141 : decode cX3_move 141 = .ok (.iload 4, 2) := by decide +kernel
theorem dX3_move_143 : decode cX3_move 143 = .ok (.invokevirtual 144, 3) := by decide +kernel
theorem dX3_move_146 : decode cX3_move 146 = .ok (.aload 5, 2) := by decide +kernel
theorem dX3_move_148 : decode cX3_move 148 = .ok (.getfield 161, 3) := by decide +kernel
theorem dX3_move_151 : decode cX3_move 151 = .ok (.getfield 85, 3) := by decide +kernel
theorem dX3_move_154 : decode cX3_move 154 = .ok (.ireturn, 1) := by decide +kernel
theorem dX3_drop_0 : decode cX3_drop 0 = .ok (.aload_n 0, 1) := by decide +kernel
theorem dX3_drop_1 : decode cX3_drop 1 = .ok (.iload_n 1, 1) := by decide +kernel
theorem dX3_drop_2 : decode cX3_drop 2 = .ok (.invokevirtual 149, 3) := by decide +kernel
theorem dX3_drop_5 : decode cX3_drop 5 = .ok (.astore_n 2, 1) := by decide +kernel
theorem dX3_drop_6 : decode cX3_drop 6 = .ok (.aload_n 2, 1) := by decide +kernel
theorem dX3_drop_7 : decode cX3_drop 7 = .ok (.ifnonnull 13, 3) := by decide +kernel
theorem dX3_drop_10 : decode cX3_drop 10 = .ok (.new 46, 3) := by decide +kernel
theorem dX3_drop_13 : decode cX3_drop 13 = .ok (.dup, 1) := by decide +kernel
theorem dX3_drop_14 : decode cX3_drop 14 = .ok (.ldc 174, 2) := by decide +kernel
theorem dX3_drop_16 : decode cX3_drop 16 = .ok (.invokespecial 50, 3) := by decide +kernel
theorem dX3_drop_19 : decode cX3_drop 19 = .ok (.athrow, 1) := by decide +kernel
theorem dX3_drop_20 : decode cX3_drop 20 = .ok (.aload_n 0, 1) := by decide +kernel
theorem dX3_drop_21 : decode cX3_drop 21 = .ok (.aload_n 2, 1) := by decide +kernel
theorem dX3_drop_22 : decode cX3_drop 22 = .ok (.invokevirtual 157, 3) := by decide +kernel
theorem dX3_drop_25 : decode cX3_drop 25 = .ok (.ifCond .ne 13, 3) := by decide +kernel
theorem dX3_drop_28 : decode cX3_drop 28 = .ok (.new 77, 3) := by decide +kernel
theorem dX3_drop_31 : decode cX3_drop 31 = .ok (.dup, 1) := by decide +kernel
theorem dX3_drop_32 : decode cX3_drop 32 = .ok (.ldc 176, 2) := by decide +kernel
theorem dX3_drop_34 : decode cX3_drop 34 = .ok (.invokespecial 81, 3) := by decide +kernel
theorem dX3_drop_37 : decode cX3_drop 37 = .ok (.athrow, 1) := by decide +kernel
theorem dX3_drop_38 : decode cX3_drop 38 = .ok (.aload_n 0, 1) := by decide +kernel
theorem dX3_drop_39 : decode cX3_drop 39 = .ok (.aload_n 2, 1) := by decide +kernel
theorem dX3_drop_40 : decode cX3_drop 40 = .ok (.invokevirtual 170, 3) := by decide +kernel
theorem dX3_drop_43 : decode cX3_drop 43 = .ok (.aload_n 2, 1) := by decide +kernel
theorem dX3_drop_44 : decode cX3_drop 44 = .ok (.iconst 3, 1) := by decide +kernel
theorem dX3_drop_45 : decode cX3_drop 45 = .ok (.putfield 178, 3) := by decide +kernel
theorem dX3_drop_48 : decode cX3_drop 48 = .ok (.aload_n 2, 1) := by decide +kernel
theorem dX3_drop_49 : decode cX3_drop 49 = .ok (.getfield 161, 3) := by decide +kernel
theorem dX3_drop_52 : decode cX3_drop 52 = .ok (.getfield 85, 3) := by decide +kernel
theorem dX3_drop_55 : decode cX3_drop 55 = .ok (.ireturn, 1) := by decide +kernel
theorem dX3_notice_0 : decode cX3_notice 0 = .ok (.aload_n 0, 1) := by decide +kernel
theorem dX3_notice_1 : decode cX3_notice 1 = .ok (.iload_n 1, 1) := by decide +kernel
theorem dX3_notice_2 : decode cX3_notice 2 = .ok (.invokevirtual 149, 3) := by decide +kernel
theorem dX3_notice_5 : decode cX3_notice 5 = .ok (.astore_n 3, 1) := by decide +kernel
theorem dX3_notice_6 : decode cX3_notice 6 = .ok (.aload_n 3, 1) := by decide +kernel
theorem dX3_notice_7 : decode cX3_notice 7 = .ok (.ifnull 12, 3) := by decide +kernel
theorem dX3_notice_10 : decode cX3_notice 10 = .ok (.iload_n 2, 1) := by decide +kernel
theorem dX3_notice_11 : decode cX3_notice 11 = .ok (.bipush 6, 2) := by decide +kernel
theorem dX3_notice_13 : decode cX3_notice 13 = .ok (.invokestatic 66, 3) := by decide +kernel
theorem dX3_notice_16 : decode cX3_notice 16 = .ok (.ifCond .ne 13, 3) := by decide +kernel
theorem dX3_notice_19 : decode cX3_notice 19 = .ok (.new 46, 3) := by decide +kernel
theorem dX3_notice_22 : decode cX3_notice 22 = .ok (.dup, 1) := by decide +kernel
theorem dX3_notice_23 : decode cX3_notice 23 = .ok (.ldc 179, 2) := by decide +kernel
theorem dX3_notice_25 : decode cX3_notice 25 = .ok (.invokespecial 50, 3) := by decide +kernel
theorem dX3_notice_28 : decode cX3_notice 28 = .ok (.athrow, 1) := by decide +kernel
theorem dX3_notice_29 : decode cX3_notice 29 = .ok (.aload_n 3, 1) := by decide +kernel
theorem dX3_notice_30 : decode cX3_notice 30 = .ok (.getfield 161, 3) := by decide +kernel
theorem dX3_notice_33 : decode cX3_notice 33 = .ok (.iload_n 2, 1) := by decide +kernel
theorem dX3_notice_34 : decode cX3_notice 34 = .ok (.invokevirtual 181, 3) := by decide +kernel
theorem dX3_notice_37 : decode cX3_notice 37 = .ok (.ifCond .ne 13, 3) := by decide +kernel
theorem dX3_notice_40 : decode cX3_notice 40 = .ok (.new 53, 3) := by decide +kernel
theorem dX3_notice_43 : decode cX3_notice 43 = .ok (.dup, 1) := by decide +kernel
theorem dX3_notice_44 : decode cX3_notice 44 = .ok (.ldc 185, 2) := by decide +kernel
theorem dX3_notice_46 : decode cX3_notice 46 = .ok (.invokespecial 57, 3) := by decide +kernel
theorem dX3_notice_49 : decode cX3_notice 49 = .ok (.athrow, 1) := by decide +kernel
theorem dX3_notice_50 : decode cX3_notice 50 = .ok (.aload_n 3, 1) := by decide +kernel
theorem dX3_notice_51 : decode cX3_notice 51 = .ok (.getfield 178, 3) := by decide +kernel
theorem dX3_notice_54 : decode cX3_notice 54 = .ok (.ifCond .eq 13, 3) := by decide +kernel
theorem dX3_notice_57 : decode cX3_notice 57 = .ok (.new 77, 3) := by decide +kernel
theorem dX3_notice_60 : decode cX3_notice 60 = .ok (.dup, 1) := by decide +kernel
theorem dX3_notice_61 : decode cX3_notice 61 = .ok (.ldc 187, 2) := by decide +kernel
theorem dX3_notice_63 : decode cX3_notice 63 = .ok (.invokespecial 81, 3) := by decide +kernel
theorem dX3_notice_66 : decode cX3_notice 66 = .ok (.athrow, 1) := by decide +kernel
theorem dX3_notice_67 : decode cX3_notice 67 = .ok (.aload_n 3, 1) := by decide +kernel
theorem dX3_notice_68 : decode cX3_notice 68 = .ok (.getfield 189, 3) := by decide +kernel
theorem dX3_notice_71 : decode cX3_notice 71 = .ok (.aload_n 0, 1) := by decide +kernel
theorem dX3_notice_72 : decode cX3_notice 72 = .ok (.getfield 38, 3) := by decide +kernel
theorem dX3_notice_75 : decode cX3_notice 75 = .ok (.isub, 1) := by decide +kernel
theorem dX3_notice_76 : decode cX3_notice 76 = .ok (.iconst 4, 1) := by decide +kernel
theorem dX3_notice_77 : decode cX3_notice 77 = .ok (.if_icmp .lt 7, 3) := by decide +kernel
theorem dX3_notice_80 : decode cX3_notice 80 = .ok (.iconst 1, 1) := by decide +kernel
theorem dX3_notice_81 : decode cX3_notice 81 = .ok (.goto 4, 3) := by decide +kernel
theorem dX3_notice_84 : decode cX3_notice 84 = .ok (.iconst 0, 1) := by decide +kernel
theorem dX3_notice_85 : decode cX3_notice 85 = .ok (.istore 4, 2) := by decide +kernel
theorem dX3_notice_87 : decode cX3_notice 87 = .ok (.iload 4, 2) := by decide +kernel
theorem dX3_notice_89 : decode cX3_notice 89 = .ok (.ifCond .eq 8, 3) := by decide +kernel
theorem dX3_notice_92 : decode cX3_notice 92 = .ok (.aload_n 3, 1) := by decide +kernel
theorem dX3_notice_93 : decode cX3_notice 93 = .ok (.iload_n 2, 1) := by decide +kernel
theorem dX3_notice_94 : decode cX3_notice 94 = .ok (.invokevirtual 192, 3) := by decide +kernel
theorem dX3_notice_97 : decode cX3_notice 97 = .ok (.iload 4, 2) := by decide +kernel
theorem dX3_notice_99 : decode cX3_notice 99 = .ok (.ireturn, 1) := by decide +kernel
theorem dX3_pass_0 : decode cX3_pass 0 = .ok (.iload_n 1, 1) := by decide +kernel
theorem dX3_pass_1 : decode cX3_pass 1 = .ok (.iconst 1, 1) := by decide +kernel
theorem dX3_pass_2 : decode cX3_pass 2 = .ok (.if_icmp .lt 9, 3) := by decide +kernel
theorem dX3_pass_5 : decode cX3_pass 5 = .ok (.iload_n 1, 1) := by decide +kernel
theorem dX3_pass_6 : decode cX3_pass 6 = .ok (.bipush 50, 2) := by decide +kernel
theorem dX3_pass_8 : decode cX3_pass 8 = .ok (.if_icmp .le 13, 3) := by decide +kernel
theorem dX3_pass_11 : decode cX3_pass 11 = .ok (.new 53, 3) := by decide +kernel
theorem dX3_pass_14 : decode cX3_pass 14 = .ok (.dup, 1) := by decide +kernel
theorem dX3_pass_15 : decode cX3_pass 15 = .ok (.ldc 196, 2) := by decide +kernel
theorem dX3_pass_17 : decode cX3_pass 17 = .ok (.invokespecial 57, 3) := by decide +kernel
theorem dX3_pass_20 : decode cX3_pass 20 = .ok (.athrow, 1) := by decide +kernel
theorem dX3_pass_21 : decode cX3_pass 21 = .ok (.aload_n 0, 1) := by decide +kernel
theorem dX3_pass_22 : decode cX3_pass 22 = .ok (.getfield 38, 3) := by decide +kernel
theorem dX3_pass_25 : decode cX3_pass 25 = .ok (.iload_n 1, 1) := by decide +kernel
theorem dX3_pass_26 : decode cX3_pass 26 = .ok (.iadd, 1) := by decide +kernel
theorem dX3_pass_27 : decode cX3_pass 27 = .ok (.sipush 1000, 3) := by decide +kernel
theorem dX3_pass_30 : decode cX3_pass 30 = .ok (.if_icmp .le 13, 3) := by decide +kernel
theorem dX3_pass_33 : decode cX3_pass 33 = .ok (.new 77, 3) := by decide +kernel
theorem dX3_pass_36 : decode cX3_pass 36 = .ok (.dup, 1) := by decide +kernel
theorem dX3_pass_37 : decode cX3_pass 37 = .ok (.ldc 198, 2) := by decide +kernel
theorem dX3_pass_39 : decode cX3_pass 39 = .ok (.invokespecial 81, 3) := by decide +kernel
theorem dX3_pass_42 : decode cX3_pass 42 = .ok (.athrow, 1) := by decide +kernel
theorem dX3_pass_43 : decode cX3_pass 43 = .ok (.iconst 0, 1) := by decide +kernel
theorem dX3_pass_44 : decode cX3_pass 44 = .ok (.istore_n 2, 1) := by decide +kernel
theorem dX3_pass_45 : decode cX3_pass 45 = .ok (.iconst 0, 1) := by decide +kernel
theorem dX3_pass_46 : decode cX3_pass 46 = .ok (.istore_n 3, 1) := by decide +kernel
theorem dX3_pass_47 : decode cX3_pass 47 = .ok (.iload_n 3, 1) := by decide +kernel
theorem dX3_pass_48 : decode cX3_pass 48 = .ok (.iload_n 1, 1) := by decide +kernel
theorem dX3_pass_49 : decode cX3_pass 49 = .ok (.if_icmp .ge 30, 3) := by decide +kernel
theorem dX3_pass_52 : decode cX3_pass 52 = .ok (.aload_n 0, 1) := by decide +kernel
theorem dX3_pass_53 : decode cX3_pass 53 = .ok (.dup, 1) := by decide +kernel
theorem dX3_pass_54 : decode cX3_pass 54 = .ok (.getfield 38, 3) := by decide +kernel
theorem dX3_pass_57 : decode cX3_pass 57 = .ok (.iconst 1, 1) := by decide +kernel
theorem dX3_pass_58 : decode cX3_pass 58 = .ok (.iadd, 1) := by decide +kernel
theorem dX3_pass_59 : decode cX3_pass 59 = .ok (.putfield 38, 3) := by decide +kernel
theorem dX3_pass_62 : decode cX3_pass 62 = .ok (.iload_n 2, 1) := by decide +kernel
theorem dX3_pass_63 : decode cX3_pass 63 = .ok (.aload_n 0, 1) := by decide +kernel
theorem dX3_pass_64 : decode cX3_pass 64 = .ok (.invokevirtual 200, 3) := by decide +kernel
theorem dX3_pass_67 : decode cX3_pass 67 = .ok (.iadd, 1) := by decide +kernel
theorem dX3_pass_68 : decode cX3_pass 68 = .ok (.istore_n 2, 1) := by decide +kernel
theorem dX3_pass_69 : decode cX3_pass 69 = .ok (.aload_n 0, 1) := by decide +kernel
theorem dX3_pass_70 : decode cX3_pass 70 = .ok (.invokevirtual 204, 3) := by decide +kernel
theorem dX3_pass_73 : decode cX3_pass 73 = .ok (.iinc 3 1, 3) := by decide +kernel
theorem dX3_pass_76 : decode cX3_pass 76 = .ok (.goto (-29), 3) := by decide +kernel
theorem dX3_pass_79 : decode cX3_pass 79 = .ok (.iload_n 2, 1) := by decide +kernel
theorem dX3_pass_80 : decode cX3_pass 80 = .ok (.ireturn, 1) := by decide +kernel
theorem dX3_clash_0 : decode cX3_clash 0 = .ok (.aload_n 0, 1) := by decide +kernel
theorem dX3_clash_1 : decode cX3_clash 1 = .ok (.iload_n 1, 1) := by decide +kernel
theorem dX3_clash_2 : decode cX3_clash 2 = .ok (.invokevirtual 95, 3) := by decide +kernel
theorem dX3_clash_5 : decode cX3_clash 5 = .ok (.astore 6, 2) := by decide +kernel
theorem dX3_clash_7 : decode cX3_clash 7 = .ok (.aload 6, 2) := by decide +kernel
theorem dX3_clash_9 : decode cX3_clash 9 = .ok (.ifnull 19, 3) := by decide +kernel
theorem dX3_clash_12 : decode cX3_clash 12 = .ok (.iload_n 2, 1) := by decide +kernel
theorem dX3_clash_13 : decode cX3_clash 13 = .ok (.iconst 4, 1) := by decide +kernel
theorem dX3_clash_14 : decode cX3_clash 14 = .ok (.invokestatic 66, 3) := by decide +kernel
theorem dX3_clash_17 : decode cX3_clash 17 = .ok (.ifCond .eq 11, 3) := by decide +kernel
theorem dX3_clash_20 : decode cX3_clash 20 = .ok (.iload_n 3, 1) := by decide +kernel
theorem dX3_clash_21 : decode cX3_clash 21 = .ok (.iconst 4, 1) := by decide +kernel
theorem dX3_clash_22 : decode cX3_clash 22 = .ok (.invokestatic 70, 3) := by decide +kernel
theorem dX3_clash_25 : decode cX3_clash 25 = .ok (.ifCond .ne 13, 3) := by decide +kernel
theorem dX3_clash_28 : decode cX3_clash 28 = .ok (.new 46, 3) := by decide +kernel
theorem dX3_clash_31 : decode cX3_clash 31 = .ok (.dup, 1) := by decide +kernel
theorem dX3_clash_32 : decode cX3_clash 32 = .ok (.ldc 121, 2) := by decide +kernel
theorem dX3_clash_34 : decode cX3_clash 34 = .ok (.invokespecial 50, 3) := by decide +kernel
theorem dX3_clash_37 : decode cX3_clash 37 = .ok (.athrow, 1) := by decide +kernel
theorem dX3_clash_38 : decode cX3_clash 38 = .ok (.iload 4, 2) := by decide +kernel
theorem dX3_clash_40 : decode cX3_clash 40 = .ok (.ifCond .lt 23, 3) := by decide +kernel
theorem dX3_clash_43 : decode cX3_clash 43 = .ok (.iload 4, 2) := by decide +kernel
theorem dX3_clash_45 : decode cX3_clash 45 = .ok (.sipush 999, 3) := by decide +kernel
theorem dX3_clash_48 : decode cX3_clash 48 = .ok (.if_icmp .gt 15, 3) := by decide +kernel
theorem dX3_clash_51 : decode cX3_clash 51 = .ok (.iload 5, 2) := by decide +kernel
theorem dX3_clash_53 : decode cX3_clash 53 = .ok (.iconst 1, 1) := by decide +kernel
theorem dX3_clash_54 : decode cX3_clash 54 = .ok (.if_icmp .lt 9, 3) := by decide +kernel
theorem dX3_clash_57 : decode cX3_clash 57 = .ok (.iload 5, 2) := by decide +kernel
theorem dX3_clash_59 : decode cX3_clash 59 = .ok (.iconst 4, 1) := by decide +kernel
theorem dX3_clash_60 : decode cX3_clash 60 = .ok (.if_icmp .le 13, 3) := by decide +kernel
theorem dX3_clash_63 : decode cX3_clash 63 = .ok (.new 53, 3) := by decide +kernel
theorem dX3_clash_66 : decode cX3_clash 66 = .ok (.dup, 1) := by decide +kernel
theorem dX3_clash_67 : decode cX3_clash 67 = .ok (.ldc 123, 2) := by decide +kernel
theorem dX3_clash_69 : decode cX3_clash 69 = .ok (.invokespecial 57, 3) := by decide +kernel
theorem dX3_clash_72 : decode cX3_clash 72 = .ok (.athrow, 1) := by decide +kernel
theorem dX3_clash_73 : decode cX3_clash 73 = .ok (.aload_n 0, 1) := by decide +kernel
theorem dX3_clash_74 : decode cX3_clash 74 = .ok (.aconst_null, 1) := by decide +kernel
theorem dX3_clash_75 : decode cX3_clash 75 = .ok (.aload 6, 2) := by decide +kernel
theorem dX3_clash_77 : decode cX3_clash 77 = .ok (.iload_n 2, 1) := by decide +kernel
theorem dX3_clash_78 : decode cX3_clash 78 = .ok (.iload_n 3, 1) := by decide +kernel
theorem dX3_clash_79 : decode cX3_clash 79 = .ok (.iload 4, 2) := by decide +kernel
theorem dX3_clash_81 : decode cX3_clash 81 = .ok (.iload 5, 2) := by decide +kernel
theorem dX3_clash_83 : decode cX3_clash 83 = .ok (.invokevirtual 135, 3) := by decide +kernel
theorem dX3_clash_86 : decode cX3_clash 86 = .ok (.ireturn, 1) := by decide +kernel
theorem dX3_at_0 : decode cX3_at 0 = .ok (.iload_n 1, 1) := by decide +kernel
theorem dX3_at_1 : decode cX3_at 1 = .ok (.iconst 4, 1) := by decide +kernel
theorem dX3_at_2 : decode cX3_at 2 = .ok (.invokestatic 66, 3) := by decide +kernel
theorem dX3_at_5 : decode cX3_at 5 = .ok (.ifCond .ne 13, 3) := by decide +kernel
theorem dX3_at_8 : decode cX3_at 8 = .ok (.new 53, 3) := by decide +kernel
theorem dX3_at_11 : decode cX3_at 11 = .ok (.dup, 1) := by decide +kernel
theorem dX3_at_12 : decode cX3_at 12 = .ok (.ldc 207, 2) := by decide +kernel
theorem dX3_at_14 : decode cX3_at 14 = .ok (.invokespecial 57, 3) := by decide +kernel
theorem dX3_at_17 : decode cX3_at 17 = .ok (.athrow, 1) := by decide +kernel
theorem dX3_at_18 : decode cX3_at 18 = .ok (.iload_n 2, 1) := by decide +kernel
theorem dX3_at_19 : decode cX3_at 19 = .ok (.iload_n 1, 1) := by decide +kernel
theorem dX3_at_20 : decode cX3_at 20 = .ok (.invokestatic 209, 3) := by decide +kernel
theorem dX3_at_23 : decode cX3_at 23 = .ok (.invokestatic 66, 3) := by decide +kernel
theorem dX3_at_26 : decode cX3_at 26 = .ok (.ifCond .eq 10, 3) := by decide +kernel
theorem dX3_at_29 : decode cX3_at 29 = .ok (.iload_n 3, 1) := by decide +kernel
theorem dX3_at_30 : decode cX3_at 30 = .ok (.invokestatic 213, 3) := by decide +kernel
theorem dX3_at_33 : decode cX3_at 33 = .ok (.ifCond .ne 13, 3) := by decide +kernel
theorem dX3_at_36 : decode cX3_at 36 = .ok (.new 46, 3) := by decide +kernel
theorem dX3_at_39 : decode cX3_at 39 = .ok (.dup, 1) := by decide +kernel
theorem dX3_at_40 : decode cX3_at 40 = .ok (.ldc 216, 2) := by decide +kernel
theorem dX3_at_42 : decode cX3_at 42 = .ok (.invokespecial 50, 3) := by decide +kernel
theorem dX3_at_45 : decode cX3_at 45 = .ok (.athrow, 1) := by decide +kernel
theorem dX3_at_46 : decode cX3_at 46 = .ok (.iconst 0, 1) := by decide +kernel
theorem dX3_at_47 : decode cX3_at 47 = .ok (.istore 4, 2) := by decide +kernel
theorem dX3_at_49 : decode cX3_at 49 = .ok (.iload 4, 2) := by decide +kernel
theorem dX3_at_51 : decode cX3_at 51 = .ok (.aload_n 0, 1) := by decide +kernel
theorem dX3_at_52 : decode cX3_at 52 = .ok (.getfield 35, 3) := by decide +kernel
theorem dX3_at_55 : decode cX3_at 55 = .ok (.if_icmp .ge 48, 3) := by decide +kernel
theorem dX3_at_58 : decode cX3_at 58 = .ok (.aload_n 0, 1) := by decide +kernel
theorem dX3_at_59 : decode cX3_at 59 = .ok (.iload 4, 2) := by decide +kernel
theorem dX3_at_61 : decode cX3_at 61 = .ok (.invokevirtual 149, 3) := by decide +kernel
theorem dX3_at_64 : decode cX3_at 64 = .ok (.astore 5, 2) := by decide +kernel
theorem dX3_at_66 : decode cX3_at 66 = .ok (.aload 5, 2) := by decide +kernel
theorem dX3_at_68 : decode cX3_at 68 = .ok (.ifnull 29, 3) := by decide +kernel
theorem dX3_at_71 : decode cX3_at 71 = .ok (.aload 5, 2) := by decide +kernel
theorem dX3_at_73 : decode cX3_at 73 = .ok (.iload_n 3, 1) := by decide +kernel
theorem dX3_at_74 : decode cX3_at 74 = .ok (.iconst 1, 1) := by decide +kernel
theorem dX3_at_75 : decode cX3_at 75 = .ok (.invokevirtual 218, 3) := by decide +kernel
theorem dX3_at_78 : decode cX3_at 78 = .ok (.ifCond .eq 19, 3) := by decide +kernel
theorem dX3_at_81 : decode cX3_at 81 = .ok (.aload 5, 2) := by decide +kernel
theorem dX3_at_83 : decode cX3_at 83 = .ok (.iload_n 1, 1) := by decide +kernel
theorem dX3_at_84 : decode cX3_at 84 = .ok (.iload_n 2, 1) := by decide +kernel
theorem dX3_at_85 : decode cX3_at 85 = .ok (.invokevirtual 221, 3) := by decide +kernel
theorem dX3_at_88 : decode cX3_at 88 = .ok (.ifCond .eq 9, 3) := by decide +kernel
theorem dX3_at_91 : decode cX3_at 91 = .ok (.aload 5, 2) := by decide +kernel
theorem dX3_at_93 : decode cX3_at 93 = .ok (.getfield 148, 3) := by decide +kernel
theorem dX3_at_96 : decode cX3_at 96 = .ok (.ireturn, 1) := by decide +kernel
theorem dX3_at_97 : decode cX3_at 97 = .ok (.iinc 4 1, 3) := by decide +kernel
theorem dX3_at_100 : decode cX3_at 100 = .ok (.goto (-51), 3) := by decide +kernel
theorem dX3_at_103 : decode cX3_at 103 = .ok (.iconst (-1), 1) := by decide +kernel
theorem dX3_at_104 : decode cX3_at 104 = .ok (.ireturn, 1) := by decide +kernel
theorem dX3_about_0 : decode cX3_about 0 = .ok (.aload_n 0, 1) := by decide +kernel
theorem dX3_about_1 : decode cX3_about 1 = .ok (.iload_n 1, 1) := by decide +kernel
theorem dX3_about_2 : decode cX3_about 2 = .ok (.invokevirtual 95, 3) := by decide +kernel
theorem dX3_about_5 : decode cX3_about 5 = .ok (.astore_n 3, 1) := by decide +kernel
theorem dX3_about_6 : decode cX3_about 6 = .ok (.aload_n 3, 1) := by decide +kernel
theorem dX3_about_7 : decode cX3_about 7 = .ok (.ifnonnull 13, 3) := by decide +kernel
theorem dX3_about_10 : decode cX3_about 10 = .ok (.new 46, 3) := by decide +kernel
theorem dX3_about_13 : decode cX3_about 13 = .ok (.dup, 1) := by decide +kernel
theorem dX3_about_14 : decode cX3_about 14 = .ok (.ldc 99, 2) := by decide +kernel
theorem dX3_about_16 : decode cX3_about 16 = .ok (.invokespecial 50, 3) := by decide +kernel
theorem dX3_about_19 : decode cX3_about 19 = .ok (.athrow, 1) := by decide +kernel
theorem dX3_about_20 : decode cX3_about 20 = .ok (.iload_n 2, 1) := by decide +kernel
theorem dX3_about_21 : decode cX3_about 21 = .ok (.bipush 8, 2) := by decide +kernel
theorem dX3_about_23 : decode cX3_about 23 = .ok (.invokestatic 66, 3) := by decide +kernel
theorem dX3_about_26 : decode cX3_about 26 = .ok (.ifCond .ne 13, 3) := by decide +kernel
theorem dX3_about_29 : decode cX3_about 29 = .ok (.new 53, 3) := by decide +kernel
theorem dX3_about_32 : decode cX3_about 32 = .ok (.dup, 1) := by decide +kernel
theorem dX3_about_33 : decode cX3_about 33 = .ok (.ldc 207, 2) := by decide +kernel
theorem dX3_about_35 : decode cX3_about 35 = .ok (.invokespecial 57, 3) := by decide +kernel
theorem dX3_about_38 : decode cX3_about 38 = .ok (.athrow, 1) := by decide +kernel
theorem dX3_about_39 : decode cX3_about 39 = .ok (.iload_n 2, 1) := by decide +kernel
theorem dX3_about_40 : decode cX3_about 40 = .ok (.tableswitch 79 0 6 #[44, 49, 54, 59, 64, 69, 74], 44) := by decide +kernel
theorem dX3_about_84 : decode cX3_about 84 = .ok (.aload_n 3, 1) := by decide +kernel
theorem dX3_about_85 : decode cX3_about 85 = .ok (.getfield 103, 3) := by decide +kernel
theorem dX3_about_88 : decode cX3_about 88 = .ok (.ireturn, 1) := by decide +kernel
theorem dX3_about_89 : decode cX3_about 89 = .ok (.aload_n 3, 1) := by decide +kernel
theorem dX3_about_90 : decode cX3_about 90 = .ok (.getfield 224, 3) := by decide +kernel
theorem dX3_about_93 : decode cX3_about 93 = .ok (.ireturn, 1) := by decide +kernel
theorem dX3_about_94 : decode cX3_about 94 = .ok (.aload_n 3, 1) := by decide +kernel
theorem dX3_about_95 : decode cX3_about 95 = .ok (.getfield 227, 3) := by decide +kernel
theorem dX3_about_98 : decode cX3_about 98 = .ok (.ireturn, 1) := by decide +kernel
theorem dX3_about_99 : decode cX3_about 99 = .ok (.aload_n 3, 1) := by decide +kernel
theorem dX3_about_100 : decode cX3_about 100 = .ok (.getfield 230, 3) := by decide +kernel
theorem dX3_about_103 : decode cX3_about 103 = .ok (.ireturn, 1) := by decide +kernel
theorem dX3_about_104 : decode cX3_about 104 = .ok (.aload_n 3, 1) := by decide +kernel
theorem dX3_about_105 : decode cX3_about 105 = .ok (.getfield 233, 3) := by decide +kernel
theorem dX3_about_108 : decode cX3_about 108 = .ok (.ireturn, 1) := by decide +kernel
theorem dX3_about_109 : decode cX3_about 109 = .ok (.aload_n 3, 1) := by decide +kernel
theorem dX3_about_110 : decode cX3_about 110 = .ok (.getfield 85, 3) := by decide +kernel
theorem dX3_about_113 : decode cX3_about 113 = .ok (.ireturn, 1) := by decide +kernel
theorem dX3_about_114 : decode cX3_about 114 = .ok (.aload_n 3, 1) := by decide +kernel
theorem dX3_about_115 : decode cX3_about 115 = .ok (.getfield 116, 3) := by decide +kernel
theorem dX3_about_118 : decode cX3_about 118 = .ok (.ireturn, 1) := by decide +kernel
theorem dX3_about_119 : decode cX3_about 119 = .ok (.aload_n 0, 1) := by decide +kernel
theorem dX3_about_120 : decode cX3_about 120 = .ok (.aload_n 3, 1) := by decide +kernel
theorem dX3_about_121 : decode cX3_about 121 = .ok (.invokevirtual 236, 3) := by decide +kernel
theorem dX3_about_124 : decode cX3_about 124 = .ok (.ireturn, 1) := by decide +kernel
theorem dX3_hearing_0 : decode cX3_hearing 0 = .ok (.aload_n 0, 1) := by decide +kernel
theorem dX3_hearing_1 : decode cX3_hearing 1 = .ok (.iload_n 1, 1) := by decide +kernel
theorem dX3_hearing_2 : decode cX3_hearing 2 = .ok (.invokevirtual 149, 3) := by decide +kernel
theorem dX3_hearing_5 : decode cX3_hearing 5 = .ok (.astore_n 3, 1) := by decide +kernel
theorem dX3_hearing_6 : decode cX3_hearing 6 = .ok (.aload_n 3, 1) := by decide +kernel
theorem dX3_hearing_7 : decode cX3_hearing 7 = .ok (.ifnonnull 13, 3) := by decide +kernel
theorem dX3_hearing_10 : decode cX3_hearing 10 = .ok (.new 46, 3) := by decide +kernel
theorem dX3_hearing_13 : decode cX3_hearing 13 = .ok (.dup, 1) := by decide +kernel
theorem dX3_hearing_14 : decode cX3_hearing 14 = .ok (.ldc 174, 2) := by decide +kernel
theorem dX3_hearing_16 : decode cX3_hearing 16 = .ok (.invokespecial 50, 3) := by decide +kernel
theorem dX3_hearing_19 : decode cX3_hearing 19 = .ok (.athrow, 1) := by decide +kernel
theorem dX3_hearing_20 : decode cX3_hearing 20 = .ok (.iload_n 2, 1) := by decide +kernel
theorem dX3_hearing_21 : decode cX3_hearing 21 = .ok (.bipush 8, 2) := by decide +kernel
theorem dX3_hearing_23 : decode cX3_hearing 23 = .ok (.invokestatic 66, 3) := by decide +kernel
theorem dX3_hearing_26 : decode cX3_hearing 26 = .ok (.ifCond .ne 13, 3) := by decide +kernel
theorem dX3_hearing_29 : decode cX3_hearing 29 = .ok (.new 53, 3) := by decide +kernel
theorem dX3_hearing_32 : decode cX3_hearing 32 = .ok (.dup, 1) := by decide +kernel
theorem dX3_hearing_33 : decode cX3_hearing 33 = .ok (.ldc 207, 2) := by decide +kernel
theorem dX3_hearing_35 : decode cX3_hearing 35 = .ok (.invokespecial 57, 3) := by decide +kernel
theorem dX3_hearing_38 : decode cX3_hearing 38 = .ok (.athrow, 1) := by decide +kernel
theorem dX3_hearing_39 : decode cX3_hearing 39 = .ok (.iload_n 2, 1) := by decide +kernel
theorem dX3_hearing_40 : decode cX3_hearing 40 = .ok (.tableswitch 82 0 6 #[44, 49, 57, 62, 67, 72, 77], 44) := by decide +kernel
theorem dX3_hearing_84 : decode cX3_hearing 84 = .ok (.aload_n 3, 1) := by decide +kernel
theorem dX3_hearing_85 : decode cX3_hearing 85 = .ok (.getfield 178, 3) := by decide +kernel
theorem dX3_hearing_88 : decode cX3_hearing 88 = .ok (.ireturn, 1) := by decide +kernel
theorem dX3_hearing_89 : decode cX3_hearing 89 = .ok (.aload_n 3, 1) := by decide +kernel
theorem dX3_hearing_90 : decode cX3_hearing 90 = .ok (.getfield 161, 3) := by decide +kernel
theorem dX3_hearing_93 : decode cX3_hearing 93 = .ok (.getfield 92, 3) := by decide +kernel
theorem dX3_hearing_96 : decode cX3_hearing 96 = .ok (.ireturn, 1) := by decide +kernel
theorem dX3_hearing_97 : decode cX3_hearing 97 = .ok (.aload_n 3, 1) := by decide +kernel
theorem dX3_hearing_98 : decode cX3_hearing 98 = .ok (.getfield 239, 3) := by decide +kernel
theorem dX3_hearing_101 : decode cX3_hearing 101 = .ok (.ireturn, 1) := by decide +kernel
theorem dX3_hearing_102 : decode cX3_hearing 102 = .ok (.aload_n 3, 1) := by decide +kernel
theorem dX3_hearing_103 : decode cX3_hearing 103 = .ok (.getfield 242, 3) := by decide +kernel
theorem dX3_hearing_106 : decode cX3_hearing 106 = .ok (.ireturn, 1) := by decide +kernel
theorem dX3_hearing_107 : decode cX3_hearing 107 = .ok (.aload_n 3, 1) := by decide +kernel
theorem dX3_hearing_108 : decode cX3_hearing 108 = .ok (.getfield 189, 3) := by decide +kernel
theorem dX3_hearing_111 : decode cX3_hearing 111 = .ok (.ireturn, 1) := by decide +kernel
theorem dX3_hearing_112 : decode cX3_hearing 112 = .ok (.aload_n 3, 1) := by decide +kernel
theorem dX3_hearing_113 : decode cX3_hearing 113 = .ok (.getfield 167, 3) := by decide +kernel
theorem dX3_hearing_116 : decode cX3_hearing 116 = .ok (.ireturn, 1) := by decide +kernel
theorem dX3_hearing_117 : decode cX3_hearing 117 = .ok (.aload_n 3, 1) := by decide +kernel
theorem dX3_hearing_118 : decode cX3_hearing 118 = .ok (.invokevirtual 245, 3) := by decide +kernel
theorem dX3_hearing_121 : decode cX3_hearing 121 = .ok (.ireturn, 1) := by decide +kernel
theorem dX3_hearing_122 : decode cX3_hearing 122 = .ok (.aload_n 3, 1) := by decide +kernel
theorem dX3_hearing_123 : decode cX3_hearing 123 = .ok (.invokevirtual 248, 3) := by decide +kernel
theorem dX3_hearing_126 : decode cX3_hearing 126 = .ok (.ireturn, 1) := by decide +kernel
theorem dX3_paidBy_0 : decode cX3_paidBy 0 = .ok (.aload_n 0, 1) := by decide +kernel
theorem dX3_paidBy_1 : decode cX3_paidBy 1 = .ok (.iload_n 1, 1) := by decide +kernel
theorem dX3_paidBy_2 : decode cX3_paidBy 2 = .ok (.invokevirtual 42, 3) := by decide +kernel
theorem dX3_paidBy_5 : decode cX3_paidBy 5 = .ok (.astore_n 3, 1) := by decide +kernel
theorem dX3_paidBy_6 : decode cX3_paidBy 6 = .ok (.aload_n 3, 1) := by decide +kernel
theorem dX3_paidBy_7 : decode cX3_paidBy 7 = .ok (.ifnull 10, 3) := by decide +kernel
theorem dX3_paidBy_10 : decode cX3_paidBy 10 = .ok (.iload_n 2, 1) := by decide +kernel
theorem dX3_paidBy_11 : decode cX3_paidBy 11 = .ok (.invokestatic 213, 3) := by decide +kernel
theorem dX3_paidBy_14 : decode cX3_paidBy 14 = .ok (.ifCond .ne 13, 3) := by decide +kernel
theorem dX3_paidBy_17 : decode cX3_paidBy 17 = .ok (.new 46, 3) := by decide +kernel
theorem dX3_paidBy_20 : decode cX3_paidBy 20 = .ok (.dup, 1) := by decide +kernel
theorem dX3_paidBy_21 : decode cX3_paidBy 21 = .ok (.ldc 251, 2) := by decide +kernel
theorem dX3_paidBy_23 : decode cX3_paidBy 23 = .ok (.invokespecial 50, 3) := by decide +kernel
theorem dX3_paidBy_26 : decode cX3_paidBy 26 = .ok (.athrow, 1) := by decide +kernel
theorem dX3_paidBy_27 : decode cX3_paidBy 27 = .ok (.aload_n 3, 1) := by decide +kernel
theorem dX3_paidBy_28 : decode cX3_paidBy 28 = .ok (.iload_n 2, 1) := by decide +kernel
theorem dX3_paidBy_29 : decode cX3_paidBy 29 = .ok (.aload_n 0, 1) := by decide +kernel
theorem dX3_paidBy_30 : decode cX3_paidBy 30 = .ok (.getfield 38, 3) := by decide +kernel
theorem dX3_paidBy_33 : decode cX3_paidBy 33 = .ok (.invokevirtual 253, 3) := by decide +kernel
theorem dX3_paidBy_36 : decode cX3_paidBy 36 = .ok (.astore 4, 2) := by decide +kernel
theorem dX3_paidBy_38 : decode cX3_paidBy 38 = .ok (.aload 4, 2) := by decide +kernel
theorem dX3_paidBy_40 : decode cX3_paidBy 40 = .ok (.ifnonnull 7, 3) := by decide +kernel
theorem dX3_paidBy_43 : decode cX3_paidBy 43 = .ok (.iconst (-1), 1) := by decide +kernel
theorem dX3_paidBy_44 : decode cX3_paidBy 44 = .ok (.goto 8, 3) := by decide +kernel
theorem dX3_paidBy_47 : decode cX3_paidBy 47 = .ok (.aload 4, 2) := by decide +kernel
theorem dX3_paidBy_49 : decode cX3_paidBy 49 = .ok (.getfield 92, 3) := by decide +kernel
theorem dX3_paidBy_52 : decode cX3_paidBy 52 = .ok (.ireturn, 1) := by decide +kernel
theorem dX3_balances_0 : decode cX3_balances 0 = .ok (.iconst 0, 1) := by decide +kernel
theorem dX3_balances_1 : decode cX3_balances 1 = .ok (.istore_n 1, 1) := by decide +kernel
theorem dX3_balances_2 : decode cX3_balances 2 = .ok (.iconst 0, 1) := by decide +kernel
theorem dX3_balances_3 : decode cX3_balances 3 = .ok (.istore_n 2, 1) := by decide +kernel
theorem dX3_balances_4 : decode cX3_balances 4 = .ok (.iload_n 2, 1) := by decide +kernel
theorem dX3_balances_5 : decode cX3_balances 5 = .ok (.aload_n 0, 1) := by decide +kernel
theorem dX3_balances_6 : decode cX3_balances 6 = .ok (.getfield 31, 3) := by decide +kernel
theorem dX3_balances_9 : decode cX3_balances 9 = .ok (.if_icmp .ge 26, 3) := by decide +kernel
theorem dX3_balances_12 : decode cX3_balances 12 = .ok (.aload_n 0, 1) := by decide +kernel
theorem dX3_balances_13 : decode cX3_balances 13 = .ok (.iload_n 2, 1) := by decide +kernel
theorem dX3_balances_14 : decode cX3_balances 14 = .ok (.invokevirtual 95, 3) := by decide +kernel
theorem dX3_balances_17 : decode cX3_balances 17 = .ok (.astore_n 3, 1) := by decide +kernel
theorem dX3_balances_18 : decode cX3_balances 18 = .ok (.aload_n 3, 1) := by decide +kernel
theorem dX3_balances_19 : decode cX3_balances 19 = .ok (.ifnull 10, 3) := by decide +kernel
theorem dX3_balances_22 : decode cX3_balances 22 = .ok (.iload_n 1, 1) := by decide +kernel
theorem dX3_balances_23 : decode cX3_balances 23 = .ok (.aload_n 3, 1) := by decide +kernel
theorem dX3_balances_24 : decode cX3_balances 24 = .ok (.getfield 85, 3) := by decide +kernel
theorem dX3_balances_27 : decode cX3_balances 27 = .ok (.iadd, 1) := by decide +kernel
theorem dX3_balances_28 : decode cX3_balances 28 = .ok (.istore_n 1, 1) := by decide +kernel
theorem dX3_balances_29 : decode cX3_balances 29 = .ok (.iinc 2 1, 3) := by decide +kernel
theorem dX3_balances_32 : decode cX3_balances 32 = .ok (.goto (-28), 3) := by decide +kernel
theorem dX3_balances_35 : decode cX3_balances 35 = .ok (.iload_n 1, 1) := by decide +kernel
theorem dX3_balances_36 : decode cX3_balances 36 = .ok (.ireturn, 1) := by decide +kernel
theorem dX3_hour_0 : decode cX3_hour 0 = .ok (.aload_n 0, 1) := by decide +kernel
theorem dX3_hour_1 : decode cX3_hour 1 = .ok (.getfield 38, 3) := by decide +kernel
theorem dX3_hour_4 : decode cX3_hour 4 = .ok (.ireturn, 1) := by decide +kernel
theorem dX3_isIn_0 : decode cX3_isIn 0 = .ok (.iload_n 0, 1) := by decide +kernel
theorem dX3_isIn_1 : decode cX3_isIn 1 = .ok (.ifCond .lt 12, 3) := by decide +kernel
theorem dX3_isIn_4 : decode cX3_isIn 4 = .ok (.iload_n 0, 1) := by decide +kernel
theorem dX3_isIn_5 : decode cX3_isIn 5 = .ok (.iload_n 1, 1) := by decide +kernel
theorem dX3_isIn_6 : decode cX3_isIn 6 = .ok (.if_icmp .ge 7, 3) := by decide +kernel
theorem dX3_isIn_9 : decode cX3_isIn 9 = .ok (.iconst 1, 1) := by decide +kernel
theorem dX3_isIn_10 : decode cX3_isIn 10 = .ok (.goto 4, 3) := by decide +kernel
theorem dX3_isIn_13 : decode cX3_isIn 13 = .ok (.iconst 0, 1) := by decide +kernel
theorem dX3_isIn_14 : decode cX3_isIn 14 = .ok (.ireturn, 1) := by decide +kernel
theorem dX3_isInOrNone_0 : decode cX3_isInOrNone 0 = .ok (.iload_n 0, 1) := by decide +kernel
theorem dX3_isInOrNone_1 : decode cX3_isInOrNone 1 = .ok (.iconst (-1), 1) := by decide +kernel
theorem dX3_isInOrNone_2 : decode cX3_isInOrNone 2 = .ok (.if_icmp .eq 11, 3) := by decide +kernel
theorem dX3_isInOrNone_5 : decode cX3_isInOrNone 5 = .ok (.iload_n 0, 1) := by decide +kernel
theorem dX3_isInOrNone_6 : decode cX3_isInOrNone 6 = .ok (.iload_n 1, 1) := by decide +kernel
theorem dX3_isInOrNone_7 : decode cX3_isInOrNone 7 = .ok (.invokestatic 66, 3) := by decide +kernel
theorem dX3_isInOrNone_10 : decode cX3_isInOrNone 10 = .ok (.ifCond .eq 7, 3) := by decide +kernel
theorem dX3_isInOrNone_13 : decode cX3_isInOrNone 13 = .ok (.iconst 1, 1) := by decide +kernel
theorem dX3_isInOrNone_14 : decode cX3_isInOrNone 14 = .ok (.goto 4, 3) := by decide +kernel
theorem dX3_isInOrNone_17 : decode cX3_isInOrNone 17 = .ok (.iconst 0, 1) := by decide +kernel
theorem dX3_isInOrNone_18 : decode cX3_isInOrNone 18 = .ok (.ireturn, 1) := by decide +kernel
theorem dX3_isCalendarHour_0 : decode cX3_isCalendarHour 0 = .ok (.iload_n 0, 1) := by decide +kernel
theorem dX3_isCalendarHour_1 : decode cX3_isCalendarHour 1 = .ok (.ifCond .lt 14, 3) := by decide +kernel
theorem dX3_isCalendarHour_4 : decode cX3_isCalendarHour 4 = .ok (.iload_n 0, 1) := by decide +kernel
theorem dX3_isCalendarHour_5 : decode cX3_isCalendarHour 5 = .ok (.sipush 1003, 3) := by decide +kernel
theorem dX3_isCalendarHour_8 : decode cX3_isCalendarHour 8 = .ok (.if_icmp .gt 7, 3) := by decide +kernel
theorem dX3_isCalendarHour_11 : decode cX3_isCalendarHour 11 = .ok (.iconst 1, 1) := by decide +kernel
theorem dX3_isCalendarHour_12 : decode cX3_isCalendarHour 12 = .ok (.goto 4, 3) := by decide +kernel
theorem dX3_isCalendarHour_15 : decode cX3_isCalendarHour 15 = .ok (.iconst 0, 1) := by decide +kernel
theorem dX3_isCalendarHour_16 : decode cX3_isCalendarHour 16 = .ok (.ireturn, 1) := by decide +kernel
theorem dX3_howMany_0 : decode cX3_howMany 0 = .ok (.iload_n 0, 1) := by decide +kernel
theorem dX3_howMany_1 : decode cX3_howMany 1 = .ok (.tableswitch 34 0 2 #[27, 29, 31], 27) := by decide +kernel
theorem dX3_howMany_28 : decode cX3_howMany 28 = .ok (.iconst 4, 1) := by decide +kernel
theorem dX3_howMany_29 : decode cX3_howMany 29 = .ok (.ireturn, 1) := by decide +kernel
theorem dX3_howMany_30 : decode cX3_howMany 30 = .ok (.iconst 4, 1) := by decide +kernel
theorem dX3_howMany_31 : decode cX3_howMany 31 = .ok (.ireturn, 1) := by decide +kernel
theorem dX3_howMany_32 : decode cX3_howMany 32 = .ok (.bipush 6, 2) := by decide +kernel
theorem dX3_howMany_34 : decode cX3_howMany 34 = .ok (.ireturn, 1) := by decide +kernel
theorem dX3_howMany_35 : decode cX3_howMany 35 = .ok (.iconst 4, 1) := by decide +kernel
theorem dX3_howMany_36 : decode cX3_howMany 36 = .ok (.ireturn, 1) := by decide +kernel
theorem dX3_interpreterAt_0 : decode cX3_interpreterAt 0 = .ok (.iload_n 1, 1) := by decide +kernel
theorem dX3_interpreterAt_1 : decode cX3_interpreterAt 1 = .ok (.ifCond .lt 21, 3) := by decide +kernel
theorem dX3_interpreterAt_4 : decode cX3_interpreterAt 4 = .ok (.iload_n 1, 1) := by decide +kernel
theorem dX3_interpreterAt_5 : decode cX3_interpreterAt 5 = .ok (.aload_n 0, 1) := by decide +kernel
theorem dX3_interpreterAt_6 : decode cX3_interpreterAt 6 = .ok (.getfield 11, 3) := by decide +kernel
theorem dX3_interpreterAt_9 : decode cX3_interpreterAt 9 = .ok (.arraylength, 1) := by decide +kernel
theorem dX3_interpreterAt_10 : decode cX3_interpreterAt 10 = .ok (.if_icmp .ge 12, 3) := by decide +kernel
theorem dX3_interpreterAt_13 : decode cX3_interpreterAt 13 = .ok (.aload_n 0, 1) := by decide +kernel
theorem dX3_interpreterAt_14 : decode cX3_interpreterAt 14 = .ok (.getfield 11, 3) := by decide +kernel
theorem dX3_interpreterAt_17 : decode cX3_interpreterAt 17 = .ok (.iload_n 1, 1) := by decide +kernel
theorem dX3_interpreterAt_18 : decode cX3_interpreterAt 18 = .ok (.aaload, 1) := by decide +kernel
theorem dX3_interpreterAt_19 : decode cX3_interpreterAt 19 = .ok (.goto 4, 3) := by decide +kernel
theorem dX3_interpreterAt_22 : decode cX3_interpreterAt 22 = .ok (.aconst_null, 1) := by decide +kernel
theorem dX3_interpreterAt_23 : decode cX3_interpreterAt 23 = .ok (.areturn, 1) := by decide +kernel
theorem dX3_matterAt_0 : decode cX3_matterAt 0 = .ok (.iload_n 1, 1) := by decide +kernel
theorem dX3_matterAt_1 : decode cX3_matterAt 1 = .ok (.ifCond .lt 29, 3) := by decide +kernel
theorem dX3_matterAt_4 : decode cX3_matterAt 4 = .ok (.iload_n 1, 1) := by decide +kernel
theorem dX3_matterAt_5 : decode cX3_matterAt 5 = .ok (.aload_n 0, 1) := by decide +kernel
theorem dX3_matterAt_6 : decode cX3_matterAt 6 = .ok (.getfield 31, 3) := by decide +kernel
theorem dX3_matterAt_9 : decode cX3_matterAt 9 = .ok (.if_icmp .ge 21, 3) := by decide +kernel
theorem dX3_matterAt_12 : decode cX3_matterAt 12 = .ok (.iload_n 1, 1) := by decide +kernel
theorem dX3_matterAt_13 : decode cX3_matterAt 13 = .ok (.aload_n 0, 1) := by decide +kernel
theorem dX3_matterAt_14 : decode cX3_matterAt 14 = .ok (.getfield 21, 3) := by decide +kernel
theorem dX3_matterAt_17 : decode cX3_matterAt 17 = .ok (.arraylength, 1) := by decide +kernel
theorem dX3_matterAt_18 : decode cX3_matterAt 18 = .ok (.if_icmp .ge 12, 3) := by decide +kernel
theorem dX3_matterAt_21 : decode cX3_matterAt 21 = .ok (.aload_n 0, 1) := by decide +kernel
theorem dX3_matterAt_22 : decode cX3_matterAt 22 = .ok (.getfield 21, 3) := by decide +kernel
theorem dX3_matterAt_25 : decode cX3_matterAt 25 = .ok (.iload_n 1, 1) := by decide +kernel
theorem dX3_matterAt_26 : decode cX3_matterAt 26 = .ok (.aaload, 1) := by decide +kernel
theorem dX3_matterAt_27 : decode cX3_matterAt 27 = .ok (.goto 4, 3) := by decide +kernel
theorem dX3_matterAt_30 : decode cX3_matterAt 30 = .ok (.aconst_null, 1) := by decide +kernel
theorem dX3_matterAt_31 : decode cX3_matterAt 31 = .ok (.areturn, 1) := by decide +kernel
theorem dX3_hearingAt_0 : decode cX3_hearingAt 0 = .ok (.iload_n 1, 1) := by decide +kernel
theorem dX3_hearingAt_1 : decode cX3_hearingAt 1 = .ok (.ifCond .lt 29, 3) := by decide +kernel
theorem dX3_hearingAt_4 : decode cX3_hearingAt 4 = .ok (.iload_n 1, 1) := by decide +kernel
theorem dX3_hearingAt_5 : decode cX3_hearingAt 5 = .ok (.aload_n 0, 1) := by decide +kernel
theorem dX3_hearingAt_6 : decode cX3_hearingAt 6 = .ok (.getfield 35, 3) := by decide +kernel
theorem dX3_hearingAt_9 : decode cX3_hearingAt 9 = .ok (.if_icmp .ge 21, 3) := by decide +kernel
theorem dX3_hearingAt_12 : decode cX3_hearingAt 12 = .ok (.iload_n 1, 1) := by decide +kernel
theorem dX3_hearingAt_13 : decode cX3_hearingAt 13 = .ok (.aload_n 0, 1) := by decide +kernel
theorem dX3_hearingAt_14 : decode cX3_hearingAt 14 = .ok (.getfield 27, 3) := by decide +kernel
theorem dX3_hearingAt_17 : decode cX3_hearingAt 17 = .ok (.arraylength, 1) := by decide +kernel
theorem dX3_hearingAt_18 : decode cX3_hearingAt 18 = .ok (.if_icmp .ge 12, 3) := by decide +kernel
theorem dX3_hearingAt_21 : decode cX3_hearingAt 21 = .ok (.aload_n 0, 1) := by decide +kernel
theorem dX3_hearingAt_22 : decode cX3_hearingAt 22 = .ok (.getfield 27, 3) := by decide +kernel
theorem dX3_hearingAt_25 : decode cX3_hearingAt 25 = .ok (.iload_n 1, 1) := by decide +kernel
theorem dX3_hearingAt_26 : decode cX3_hearingAt 26 = .ok (.aaload, 1) := by decide +kernel
theorem dX3_hearingAt_27 : decode cX3_hearingAt 27 = .ok (.goto 4, 3) := by decide +kernel
theorem dX3_hearingAt_30 : decode cX3_hearingAt 30 = .ok (.aconst_null, 1) := by decide +kernel
theorem dX3_hearingAt_31 : decode cX3_hearingAt 31 = .ok (.areturn, 1) := by decide +kernel
theorem dX3_isToBegin_0 : decode cX3_isToBegin 0 = .ok (.aload_n 1, 1) := by decide +kernel
theorem dX3_isToBegin_1 : decode cX3_isToBegin 1 = .ok (.getfield 178, 3) := by decide +kernel
theorem dX3_isToBegin_4 : decode cX3_isToBegin 4 = .ok (.ifCond .ne 18, 3) := by decide +kernel
theorem dX3_isToBegin_7 : decode cX3_isToBegin 7 = .ok (.aload_n 1, 1) := by decide +kernel
theorem dX3_isToBegin_8 : decode cX3_isToBegin 8 = .ok (.getfield 189, 3) := by decide +kernel
theorem dX3_isToBegin_11 : decode cX3_isToBegin 11 = .ok (.aload_n 0, 1) := by decide +kernel
theorem dX3_isToBegin_12 : decode cX3_isToBegin 12 = .ok (.getfield 38, 3) := by decide +kernel
theorem dX3_isToBegin_15 : decode cX3_isToBegin 15 = .ok (.if_icmp .le 7, 3) := by decide +kernel
theorem dX3_isToBegin_18 : decode cX3_isToBegin 18 = .ok (.iconst 1, 1) := by decide +kernel
theorem dX3_isToBegin_19 : decode cX3_isToBegin 19 = .ok (.goto 4, 3) := by decide +kernel
theorem dX3_isToBegin_22 : decode cX3_isToBegin 22 = .ok (.iconst 0, 1) := by decide +kernel
theorem dX3_isToBegin_23 : decode cX3_isToBegin 23 = .ok (.ireturn, 1) := by decide +kernel
theorem dX3_isAsNeeded_0 : decode cX3_isAsNeeded 0 = .ok (.aload_n 0, 1) := by decide +kernel
theorem dX3_isAsNeeded_1 : decode cX3_isAsNeeded 1 = .ok (.iload_n 2, 1) := by decide +kernel
theorem dX3_isAsNeeded_2 : decode cX3_isAsNeeded 2 = .ok (.invokevirtual 42, 3) := by decide +kernel
theorem dX3_isAsNeeded_5 : decode cX3_isAsNeeded 5 = .ok (.astore_n 3, 1) := by decide +kernel
theorem dX3_isAsNeeded_6 : decode cX3_isAsNeeded 6 = .ok (.aload_n 1, 1) := by decide +kernel
theorem dX3_isAsNeeded_7 : decode cX3_isAsNeeded 7 = .ok (.getfield 233, 3) := by decide +kernel
theorem dX3_isAsNeeded_10 : decode cX3_isAsNeeded 10 = .ok (.iconst (-1), 1) := by decide +kernel
theorem dX3_isAsNeeded_11 : decode cX3_isAsNeeded 11 = .ok (.if_icmp .eq 7, 3) := by decide +kernel
theorem dX3_isAsNeeded_14 : decode cX3_isAsNeeded 14 = .ok (.aload_n 3, 1) := by decide +kernel
theorem dX3_isAsNeeded_15 : decode cX3_isAsNeeded 15 = .ok (.ifnonnull 21, 3) := by decide +kernel
theorem dX3_isAsNeeded_18 : decode cX3_isAsNeeded 18 = .ok (.aload_n 1, 1) := by decide +kernel
theorem dX3_isAsNeeded_19 : decode cX3_isAsNeeded 19 = .ok (.getfield 233, 3) := by decide +kernel
theorem dX3_isAsNeeded_22 : decode cX3_isAsNeeded 22 = .ok (.iconst (-1), 1) := by decide +kernel
theorem dX3_isAsNeeded_23 : decode cX3_isAsNeeded 23 = .ok (.if_icmp .ne 11, 3) := by decide +kernel
theorem dX3_isAsNeeded_26 : decode cX3_isAsNeeded 26 = .ok (.aload_n 3, 1) := by decide +kernel
theorem dX3_isAsNeeded_27 : decode cX3_isAsNeeded 27 = .ok (.ifnonnull 7, 3) := by decide +kernel
theorem dX3_isAsNeeded_30 : decode cX3_isAsNeeded 30 = .ok (.iconst 1, 1) := by decide +kernel
theorem dX3_isAsNeeded_31 : decode cX3_isAsNeeded 31 = .ok (.goto 4, 3) := by decide +kernel
theorem dX3_isAsNeeded_34 : decode cX3_isAsNeeded 34 = .ok (.iconst 0, 1) := by decide +kernel
theorem dX3_isAsNeeded_35 : decode cX3_isAsNeeded 35 = .ok (.ireturn, 1) := by decide +kernel
theorem dX3_isAsNeeded_36 : decode cX3_isAsNeeded 36 = .ok (.aload_n 3, 1) := by decide +kernel
theorem dX3_isAsNeeded_37 : decode cX3_isAsNeeded 37 = .ok (.aload_n 1, 1) := by decide +kernel
theorem dX3_isAsNeeded_38 : decode cX3_isAsNeeded 38 = .ok (.getfield 233, 3) := by decide +kernel
theorem dX3_isAsNeeded_41 : decode cX3_isAsNeeded 41 = .ok (.invokevirtual 257, 3) := by decide +kernel
theorem dX3_isAsNeeded_44 : decode cX3_isAsNeeded 44 = .ok (.ireturn, 1) := by decide +kernel
theorem dX3_clashReason_0 : decode cX3_clashReason 0 = .ok (.iconst 0, 1) := by decide +kernel
theorem dX3_clashReason_1 : decode cX3_clashReason 1 = .ok (.istore 7, 2) := by decide +kernel
theorem dX3_clashReason_3 : decode cX3_clashReason 3 = .ok (.iconst 0, 1) := by decide +kernel
theorem dX3_clashReason_4 : decode cX3_clashReason 4 = .ok (.istore 8, 2) := by decide +kernel
theorem dX3_clashReason_6 : decode cX3_clashReason 6 = .ok (.iload 8, 2) := by decide +kernel
theorem dX3_clashReason_8 : decode cX3_clashReason 8 = .ok (.aload_n 0, 1) := by decide +kernel
theorem dX3_clashReason_9 : decode cX3_clashReason 9 = .ok (.getfield 35, 3) := by decide +kernel
theorem dX3_clashReason_12 : decode cX3_clashReason 12 = .ok (.if_icmp .ge 72, 3) := by decide +kernel
theorem dX3_clashReason_15 : decode cX3_clashReason 15 = .ok (.aload_n 0, 1) := by decide +kernel
theorem dX3_clashReason_16 : decode cX3_clashReason 16 = .ok (.iload 8, 2) := by decide +kernel
theorem dX3_clashReason_18 : decode cX3_clashReason 18 = .ok (.invokevirtual 149, 3) := by decide +kernel
theorem dX3_clashReason_21 : decode cX3_clashReason 21 = .ok (.astore 9, 2) := by decide +kernel
theorem dX3_clashReason_23 : decode cX3_clashReason 23 = .ok (.aload 9, 2) := by decide +kernel
theorem dX3_clashReason_25 : decode cX3_clashReason 25 = .ok (.ifnull 53, 3) := by decide +kernel
theorem dX3_clashReason_28 : decode cX3_clashReason 28 = .ok (.aload 9, 2) := by decide +kernel
theorem dX3_clashReason_30 : decode cX3_clashReason 30 = .ok (.aload_n 1, 1) := by decide +kernel
theorem dX3_clashReason_31 : decode cX3_clashReason 31 = .ok (.if_acmp .eq 47, 3) := by decide +kernel
theorem dX3_clashReason_34 : decode cX3_clashReason 34 = .ok (.aload 9, 2) := by decide +kernel
theorem dX3_clashReason_36 : decode cX3_clashReason 36 = .ok (.iload 5, 2) := by decide +kernel
theorem dX3_clashReason_38 : decode cX3_clashReason 38 = .ok (.iload 6, 2) := by decide +kernel
theorem dX3_clashReason_40 : decode cX3_clashReason 40 = .ok (.invokevirtual 218, 3) := by decide +kernel
theorem dX3_clashReason_43 : decode cX3_clashReason 43 = .ok (.ifCond .eq 35, 3) := by decide +kernel
theorem dX3_clashReason_46 : decode cX3_clashReason 46 = .ok (.aload 9, 2) := by decide +kernel
theorem dX3_clashReason_48 : decode cX3_clashReason 48 = .ok (.aload_n 2, 1) := by decide +kernel
theorem dX3_clashReason_49 : decode cX3_clashReason 49 = .ok (.iload_n 3, 1) := by decide +kernel
theorem dX3_clashReason_50 : decode cX3_clashReason 50 = .ok (.iload 4, 2) := by decide +kernel
theorem dX3_clashReason_52 : decode cX3_clashReason 52 = .ok (.invokevirtual 260, 3) := by decide +kernel
theorem dX3_clashReason_55 : decode cX3_clashReason 55 = .ok (.istore 10, 2) := by decide +kernel
theorem dX3_clashReason_57 : decode cX3_clashReason 57 = .ok (.iload 10, 2) := by decide +kernel
theorem dX3_clashReason_59 : decode cX3_clashReason 59 = .ok (.ifCond .eq 19, 3) := by decide +kernel
theorem dX3_clashReason_62 : decode cX3_clashReason 62 = .ok (.iload 7, 2) := by decide +kernel
theorem dX3_clashReason_64 : decode cX3_clashReason 64 = .ok (.ifCond .eq 10, 3) := by decide +kernel
theorem dX3_clashReason_67 : decode cX3_clashReason 67 = .ok (.iload 10, 2) := by decide +kernel
theorem dX3_clashReason_69 : decode cX3_clashReason 69 = .ok (.iload 7, 2) := by decide +kernel
theorem dX3_clashReason_71 : decode cX3_clashReason 71 = .ok (.if_icmp .ge 7, 3) := by decide +kernel
theorem dX3_clashReason_74 : decode cX3_clashReason 74 = .ok (.iload 10, 2) := by decide +kernel
theorem dX3_clashReason_76 : decode cX3_clashReason 76 = .ok (.istore 7, 2) := by decide +kernel
theorem dX3_clashReason_78 : decode cX3_clashReason 78 = .ok (.iinc 8 1, 3) := by decide +kernel
theorem dX3_clashReason_81 : decode cX3_clashReason 81 = .ok (.goto (-75), 3) := by decide +kernel
theorem dX3_clashReason_84 : decode cX3_clashReason 84 = .ok (.iload 7, 2) := by decide +kernel
theorem dX3_clashReason_86 : decode cX3_clashReason 86 = .ok (.ireturn, 1) := by decide +kernel
theorem dX3_put_0 : decode cX3_put 0 = .ok (.aload_n 1, 1) := by decide +kernel
theorem dX3_put_1 : decode cX3_put 1 = .ok (.iload_n 2, 1) := by decide +kernel
theorem dX3_put_2 : decode cX3_put 2 = .ok (.iload_n 3, 1) := by decide +kernel
theorem dX3_put_3 : decode cX3_put 3 = .ok (.iload 4, 2) := by decide +kernel
theorem dX3_put_5 : decode cX3_put 5 = .ok (.invokevirtual 264, 3) := by decide +kernel
theorem dX3_put_8 : decode cX3_put 8 = .ok (.aload_n 0, 1) := by decide +kernel
theorem dX3_put_9 : decode cX3_put 9 = .ok (.iload_n 3, 1) := by decide +kernel
theorem dX3_put_10 : decode cX3_put 10 = .ok (.invokevirtual 42, 3) := by decide +kernel
theorem dX3_put_13 : decode cX3_put 13 = .ok (.astore 5, 2) := by decide +kernel
theorem dX3_put_15 : decode cX3_put 15 = .ok (.iconst 0, 1) := by decide +kernel
theorem dX3_put_16 : decode cX3_put 16 = .ok (.istore 6, 2) := by decide +kernel
theorem dX3_put_18 : decode cX3_put 18 = .ok (.iload 6, 2) := by decide +kernel
theorem dX3_put_20 : decode cX3_put 20 = .ok (.aload_n 1, 1) := by decide +kernel
theorem dX3_put_21 : decode cX3_put 21 = .ok (.getfield 167, 3) := by decide +kernel
theorem dX3_put_24 : decode cX3_put 24 = .ok (.if_icmp .ge 53, 3) := by decide +kernel
theorem dX3_put_27 : decode cX3_put 27 = .ok (.iload 6, 2) := by decide +kernel
theorem dX3_put_29 : decode cX3_put 29 = .ok (.aload_n 1, 1) := by decide +kernel
theorem dX3_put_30 : decode cX3_put 30 = .ok (.getfield 268, 3) := by decide +kernel
theorem dX3_put_33 : decode cX3_put 33 = .ok (.arraylength, 1) := by decide +kernel
theorem dX3_put_34 : decode cX3_put 34 = .ok (.if_icmp .ge 43, 3) := by decide +kernel
theorem dX3_put_37 : decode cX3_put 37 = .ok (.aload_n 1, 1) := by decide +kernel
theorem dX3_put_38 : decode cX3_put 38 = .ok (.getfield 268, 3) := by decide +kernel
theorem dX3_put_41 : decode cX3_put 41 = .ok (.iload 6, 2) := by decide +kernel
theorem dX3_put_43 : decode cX3_put 43 = .ok (.aload 5, 2) := by decide +kernel
theorem dX3_put_45 : decode cX3_put 45 = .ok (.ifnonnull 7, 3) := by decide +kernel
theorem dX3_put_48 : decode cX3_put 48 = .ok (.iconst 0, 1) := by decide +kernel
theorem dX3_put_49 : decode cX3_put 49 = .ok (.goto 21, 3) := by decide +kernel
theorem dX3_put_52 : decode cX3_put 52 = .ok (.aload 5, 2) := by decide +kernel
theorem dX3_put_54 : decode cX3_put 54 = .ok (.iload 4, 2) := by decide +kernel
theorem dX3_put_56 : decode cX3_put 56 = .ok (.iload 6, 2) := by decide +kernel
theorem dX3_put_58 : decode cX3_put 58 = .ok (.iadd, 1) := by decide +kernel
theorem dX3_put_59 : decode cX3_put 59 = .ok (.aload_n 0, 1) := by decide +kernel
theorem dX3_put_60 : decode cX3_put 60 = .ok (.getfield 38, 3) := by decide +kernel
theorem dX3_put_63 : decode cX3_put 63 = .ok (.aload_n 1, 1) := by decide +kernel
theorem dX3_put_64 : decode cX3_put 64 = .ok (.getfield 161, 3) := by decide +kernel
theorem dX3_put_67 : decode cX3_put 67 = .ok (.invokevirtual 272, 3) := by decide +kernel
theorem dX3_put_70 : decode cX3_put 70 = .ok (.iastore, 1) := by decide +kernel
theorem dX3_put_71 : decode cX3_put 71 = .ok (.iinc 6 1, 3) := by decide +kernel
theorem dX3_put_74 : decode cX3_put 74 = .ok (.goto (-56), 3) := by decide +kernel
theorem dX3_put_77 : decode cX3_put 77 = .ok (.aload_n 1, 1) := by decide +kernel
theorem dX3_put_78 : decode cX3_put 78 = .ok (.getfield 161, 3) := by decide +kernel
theorem dX3_put_81 : decode cX3_put 81 = .ok (.dup, 1) := by decide +kernel
theorem dX3_put_82 : decode cX3_put 82 = .ok (.getfield 85, 3) := by decide +kernel
theorem dX3_put_85 : decode cX3_put 85 = .ok (.aload_n 1, 1) := by decide +kernel
theorem dX3_put_86 : decode cX3_put 86 = .ok (.invokevirtual 248, 3) := by decide +kernel
theorem dX3_put_89 : decode cX3_put 89 = .ok (.isub, 1) := by decide +kernel
theorem dX3_put_90 : decode cX3_put 90 = .ok (.putfield 85, 3) := by decide +kernel
theorem dX3_put_93 : decode cX3_put 93 = .ok (.return_, 1) := by decide +kernel
theorem dX3_leave_0 : decode cX3_leave 0 = .ok (.aload_n 1, 1) := by decide +kernel
theorem dX3_leave_1 : decode cX3_leave 1 = .ok (.getfield 189, 3) := by decide +kernel
theorem dX3_leave_4 : decode cX3_leave 4 = .ok (.aload_n 0, 1) := by decide +kernel
theorem dX3_leave_5 : decode cX3_leave 5 = .ok (.getfield 38, 3) := by decide +kernel
theorem dX3_leave_8 : decode cX3_leave 8 = .ok (.isub, 1) := by decide +kernel
theorem dX3_leave_9 : decode cX3_leave 9 = .ok (.bipush 8, 2) := by decide +kernel
theorem dX3_leave_11 : decode cX3_leave 11 = .ok (.if_icmp .lt 20, 3) := by decide +kernel
theorem dX3_leave_14 : decode cX3_leave 14 = .ok (.aload_n 1, 1) := by decide +kernel
theorem dX3_leave_15 : decode cX3_leave 15 = .ok (.getfield 161, 3) := by decide +kernel
theorem dX3_leave_18 : decode cX3_leave 18 = .ok (.dup, 1) := by decide +kernel
theorem dX3_leave_19 : decode cX3_leave 19 = .ok (.getfield 85, 3) := by decide +kernel
theorem dX3_leave_22 : decode cX3_leave 22 = .ok (.aload_n 1, 1) := by decide +kernel
theorem dX3_leave_23 : decode cX3_leave 23 = .ok (.invokevirtual 248, 3) := by decide +kernel
theorem dX3_leave_26 : decode cX3_leave 26 = .ok (.iadd, 1) := by decide +kernel
theorem dX3_leave_27 : decode cX3_leave 27 = .ok (.putfield 85, 3) := by decide +kernel
theorem dX3_leave_30 : decode cX3_leave 30 = .ok (.return_, 1) := by decide +kernel
theorem dX3_leave_31 : decode cX3_leave 31 = .ok (.aload_n 0, 1) := by decide +kernel
theorem dX3_leave_32 : decode cX3_leave 32 = .ok (.aload_n 1, 1) := by decide +kernel
theorem dX3_leave_33 : decode cX3_leave 33 = .ok (.getfield 242, 3) := by decide +kernel
theorem dX3_leave_36 : decode cX3_leave 36 = .ok (.invokevirtual 42, 3) := by decide +kernel
theorem dX3_leave_39 : decode cX3_leave 39 = .ok (.astore_n 2, 1) := by decide +kernel
theorem dX3_leave_40 : decode cX3_leave 40 = .ok (.iconst 0, 1) := by decide +kernel
theorem dX3_leave_41 : decode cX3_leave 41 = .ok (.istore_n 3, 1) := by decide +kernel
theorem dX3_leave_42 : decode cX3_leave 42 = .ok (.aload_n 2, 1) := by decide +kernel
theorem dX3_leave_43 : decode cX3_leave 43 = .ok (.ifnull 46, 3) := by decide +kernel
theorem dX3_leave_46 : decode cX3_leave 46 = .ok (.iload_n 3, 1) := by decide +kernel
theorem dX3_leave_47 : decode cX3_leave 47 = .ok (.aload_n 1, 1) := by decide +kernel
theorem dX3_leave_48 : decode cX3_leave 48 = .ok (.getfield 167, 3) := by decide +kernel
theorem dX3_leave_51 : decode cX3_leave 51 = .ok (.if_icmp .ge 38, 3) := by decide +kernel
theorem dX3_leave_54 : decode cX3_leave 54 = .ok (.iload_n 3, 1) := by decide +kernel
theorem dX3_leave_55 : decode cX3_leave 55 = .ok (.aload_n 1, 1) := by decide +kernel
theorem dX3_leave_56 : decode cX3_leave 56 = .ok (.getfield 268, 3) := by decide +kernel
theorem dX3_leave_59 : decode cX3_leave 59 = .ok (.arraylength, 1) := by decide +kernel
theorem dX3_leave_60 : decode cX3_leave 60 = .ok (.if_icmp .ge 29, 3) := by decide +kernel
theorem dX3_leave_63 : decode cX3_leave 63 = .ok (.aload_n 2, 1) := by decide +kernel
theorem dX3_leave_64 : decode cX3_leave 64 = .ok (.aload_n 1, 1) := by decide +kernel
theorem dX3_leave_65 : decode cX3_leave 65 = .ok (.getfield 189, 3) := by decide +kernel
theorem dX3_leave_68 : decode cX3_leave 68 = .ok (.iload_n 3, 1) := by decide +kernel
theorem dX3_leave_69 : decode cX3_leave 69 = .ok (.iadd, 1) := by decide +kernel
theorem dX3_leave_70 : decode cX3_leave 70 = .ok (.aload_n 1, 1) := by decide +kernel
theorem dX3_leave_71 : decode cX3_leave 71 = .ok (.getfield 161, 3) := by decide +kernel
theorem dX3_leave_74 : decode cX3_leave 74 = .ok (.aload_n 1, 1) := by decide +kernel
theorem dX3_leave_75 : decode cX3_leave 75 = .ok (.getfield 268, 3) := by decide +kernel
theorem dX3_leave_78 : decode cX3_leave 78 = .ok (.iload_n 3, 1) := by decide +kernel
theorem dX3_leave_79 : decode cX3_leave 79 = .ok (.iaload, 1) := by decide +kernel
theorem dX3_leave_80 : decode cX3_leave 80 = .ok (.invokevirtual 276, 3) := by decide +kernel
theorem dX3_leave_83 : decode cX3_leave 83 = .ok (.iinc 3 1, 3) := by decide +kernel
theorem dX3_leave_86 : decode cX3_leave 86 = .ok (.goto (-44), 3) := by decide +kernel
theorem dX3_leave_89 : decode cX3_leave 89 = .ok (.return_, 1) := by decide +kernel
theorem dX3_dropAllOf_0 : decode cX3_dropAllOf 0 = .ok (.iconst 0, 1) := by decide +kernel
theorem dX3_dropAllOf_1 : decode cX3_dropAllOf 1 = .ok (.istore_n 2, 1) := by decide +kernel
theorem dX3_dropAllOf_2 : decode cX3_dropAllOf 2 = .ok (.iconst 0, 1) := by decide +kernel
theorem dX3_dropAllOf_3 : decode cX3_dropAllOf 3 = .ok (.istore_n 3, 1) := by decide +kernel
theorem dX3_dropAllOf_4 : decode cX3_dropAllOf 4 = .ok (.iload_n 3, 1) := by decide +kernel
theorem dX3_dropAllOf_5 : decode cX3_dropAllOf 5 = .ok (.aload_n 0, 1) := by decide +kernel
theorem dX3_dropAllOf_6 : decode cX3_dropAllOf 6 = .ok (.getfield 35, 3) := by decide +kernel
theorem dX3_dropAllOf_9 : decode cX3_dropAllOf 9 = .ok (.if_icmp .ge 62, 3) := by decide +kernel
theorem dX3_dropAllOf_12 : decode cX3_dropAllOf 12 = .ok (.aload_n 0, 1) := by decide +kernel
theorem dX3_dropAllOf_13 : decode cX3_dropAllOf 13 = .ok (.iload_n 3, 1) := by decide +kernel
theorem dX3_dropAllOf_14 : decode cX3_dropAllOf 14 = .ok (.invokevirtual 149, 3) := by decide +kernel
theorem dX3_dropAllOf_17 : decode cX3_dropAllOf 17 = .ok (.astore 4, 2) := by decide +kernel
theorem dX3_dropAllOf_19 : decode cX3_dropAllOf 19 = .ok (.aload 4, 2) := by decide +kernel
theorem dX3_dropAllOf_21 : decode cX3_dropAllOf 21 = .ok (.ifnull 44, 3) := by decide +kernel
theorem dX3_dropAllOf_24 : decode cX3_dropAllOf 24 = .ok (.aload 4, 2) := by decide +kernel
theorem dX3_dropAllOf_26 : decode cX3_dropAllOf 26 = .ok (.getfield 161, 3) := by decide +kernel
theorem dX3_dropAllOf_29 : decode cX3_dropAllOf 29 = .ok (.aload_n 1, 1) := by decide +kernel
theorem dX3_dropAllOf_30 : decode cX3_dropAllOf 30 = .ok (.if_acmp .ne 35, 3) := by decide +kernel
theorem dX3_dropAllOf_33 : decode cX3_dropAllOf 33 = .ok (.aload 4, 2) := by decide +kernel
theorem dX3_dropAllOf_35 : decode cX3_dropAllOf 35 = .ok (.getfield 178, 3) := by decide +kernel
theorem dX3_dropAllOf_38 : decode cX3_dropAllOf 38 = .ok (.ifCond .ne 27, 3) := by decide +kernel
theorem dX3_dropAllOf_41 : decode cX3_dropAllOf 41 = .ok (.aload_n 0, 1) := by decide +kernel
theorem dX3_dropAllOf_42 : decode cX3_dropAllOf 42 = .ok (.aload 4, 2) := by decide +kernel
theorem dX3_dropAllOf_44 : decode cX3_dropAllOf 44 = .ok (.invokevirtual 157, 3) := by decide +kernel
theorem dX3_dropAllOf_47 : decode cX3_dropAllOf 47 = .ok (.ifCond .eq 9, 3) := by decide +kernel
theorem dX3_dropAllOf_50 : decode cX3_dropAllOf 50 = .ok (.aload_n 0, 1) := by decide +kernel
theorem dX3_dropAllOf_51 : decode cX3_dropAllOf 51 = .ok (.aload 4, 2) := by decide +kernel
theorem dX3_dropAllOf_53 : decode cX3_dropAllOf 53 = .ok (.invokevirtual 170, 3) := by decide +kernel
theorem dX3_dropAllOf_56 : decode cX3_dropAllOf 56 = .ok (.aload 4, 2) := by decide +kernel
theorem dX3_dropAllOf_58 : decode cX3_dropAllOf 58 = .ok (.iconst 3, 1) := by decide +kernel
theorem dX3_dropAllOf_59 : decode cX3_dropAllOf 59 = .ok (.putfield 178, 3) := by decide +kernel
theorem dX3_dropAllOf_62 : decode cX3_dropAllOf 62 = .ok (.iinc 2 1, 3) := by decide +kernel
theorem dX3_dropAllOf_65 : decode cX3_dropAllOf 65 = .ok (.iinc 3 1, 3) := by decide +kernel
theorem dX3_dropAllOf_68 : decode cX3_dropAllOf 68 = .ok (.goto (-64), 3) := by decide +kernel
theorem dX3_dropAllOf_71 : decode cX3_dropAllOf 71 = .ok (.iload_n 2, 1) := by decide +kernel
theorem dX3_dropAllOf_72 : decode cX3_dropAllOf 72 = .ok (.ireturn, 1) := by decide +kernel
theorem dX3_endHearings_0 : decode cX3_endHearings 0 = .ok (.iconst 0, 1) := by decide +kernel
theorem dX3_endHearings_1 : decode cX3_endHearings 1 = .ok (.istore_n 1, 1) := by decide +kernel
theorem dX3_endHearings_2 : decode cX3_endHearings 2 = .ok (.iconst 0, 1) := by decide +kernel
theorem dX3_endHearings_3 : decode cX3_endHearings 3 = .ok (.istore_n 2, 1) := by decide +kernel
theorem dX3_endHearings_4 : decode cX3_endHearings 4 = .ok (.iload_n 2, 1) := by decide +kernel
theorem dX3_endHearings_5 : decode cX3_endHearings 5 = .ok (.aload_n 0, 1) := by decide +kernel
theorem dX3_endHearings_6 : decode cX3_endHearings 6 = .ok (.getfield 35, 3) := by decide +kernel
theorem dX3_endHearings_9 : decode cX3_endHearings 9 = .ok (.if_icmp .ge 57, 3) := by decide +kernel
theorem dX3_endHearings_12 : decode cX3_endHearings 12 = .ok (.aload_n 0, 1) := by decide +kernel
theorem dX3_endHearings_13 : decode cX3_endHearings 13 = .ok (.iload_n 2, 1) := by decide +kernel
theorem dX3_endHearings_14 : decode cX3_endHearings 14 = .ok (.invokevirtual 149, 3) := by decide +kernel
theorem dX3_endHearings_17 : decode cX3_endHearings 17 = .ok (.astore_n 3, 1) := by decide +kernel
theorem dX3_endHearings_18 : decode cX3_endHearings 18 = .ok (.aload_n 3, 1) := by decide +kernel
theorem dX3_endHearings_19 : decode cX3_endHearings 19 = .ok (.ifnull 41, 3) := by decide +kernel
theorem dX3_endHearings_22 : decode cX3_endHearings 22 = .ok (.aload_n 3, 1) := by decide +kernel
theorem dX3_endHearings_23 : decode cX3_endHearings 23 = .ok (.getfield 178, 3) := by decide +kernel
theorem dX3_endHearings_26 : decode cX3_endHearings 26 = .ok (.ifCond .ne 34, 3) := by decide +kernel
theorem dX3_endHearings_29 : decode cX3_endHearings 29 = .ok (.aload_n 3, 1) := by decide +kernel
theorem dX3_endHearings_30 : decode cX3_endHearings 30 = .ok (.getfield 189, 3) := by decide +kernel
theorem dX3_endHearings_33 : decode cX3_endHearings 33 = .ok (.aload_n 3, 1) := by decide +kernel
theorem dX3_endHearings_34 : decode cX3_endHearings 34 = .ok (.getfield 167, 3) := by decide +kernel
theorem dX3_endHearings_37 : decode cX3_endHearings 37 = .ok (.iadd, 1) := by decide +kernel
theorem dX3_endHearings_38 : decode cX3_endHearings 38 = .ok (.aload_n 0, 1) := by decide +kernel
theorem dX3_endHearings_39 : decode cX3_endHearings 39 = .ok (.getfield 38, 3) := by decide +kernel
theorem dX3_endHearings_42 : decode cX3_endHearings 42 = .ok (.if_icmp .gt 18, 3) := by decide +kernel
theorem dX3_endHearings_45 : decode cX3_endHearings 45 = .ok (.aload_n 3, 1) := by decide +kernel
theorem dX3_endHearings_46 : decode cX3_endHearings 46 = .ok (.invokevirtual 279, 3) := by decide +kernel
theorem dX3_endHearings_49 : decode cX3_endHearings 49 = .ok (.aload_n 3, 1) := by decide +kernel
theorem dX3_endHearings_50 : decode cX3_endHearings 50 = .ok (.getfield 178, 3) := by decide +kernel
theorem dX3_endHearings_53 : decode cX3_endHearings 53 = .ok (.iconst 1, 1) := by decide +kernel
theorem dX3_endHearings_54 : decode cX3_endHearings 54 = .ok (.if_icmp .ne 6, 3) := by decide +kernel
theorem dX3_endHearings_57 : decode cX3_endHearings 57 = .ok (.iinc 1 1, 3) := by decide +kernel
theorem dX3_endHearings_60 : decode cX3_endHearings 60 = .ok (.iinc 2 1, 3) := by decide +kernel
theorem dX3_endHearings_63 : decode cX3_endHearings 63 = .ok (.goto (-59), 3) := by decide +kernel
theorem dX3_endHearings_66 : decode cX3_endHearings 66 = .ok (.iload_n 1, 1) := by decide +kernel
theorem dX3_endHearings_67 : decode cX3_endHearings 67 = .ok (.ireturn, 1) := by decide +kernel
theorem dX3_runTerms_0 : decode cX3_runTerms 0 = .ok (.iconst 0, 1) := by decide +kernel
theorem dX3_runTerms_1 : decode cX3_runTerms 1 = .ok (.istore_n 1, 1) := by decide +kernel
theorem dX3_runTerms_2 : decode cX3_runTerms 2 = .ok (.iload_n 1, 1) := by decide +kernel
theorem dX3_runTerms_3 : decode cX3_runTerms 3 = .ok (.aload_n 0, 1) := by decide +kernel
theorem dX3_runTerms_4 : decode cX3_runTerms 4 = .ok (.getfield 31, 3) := by decide +kernel
theorem dX3_runTerms_7 : decode cX3_runTerms 7 = .ok (.if_icmp .ge 27, 3) := by decide +kernel
theorem dX3_runTerms_10 : decode cX3_runTerms 10 = .ok (.aload_n 0, 1) := by decide +kernel
theorem dX3_runTerms_11 : decode cX3_runTerms 11 = .ok (.iload_n 1, 1) := by decide +kernel
theorem dX3_runTerms_12 : decode cX3_runTerms 12 = .ok (.invokevirtual 95, 3) := by decide +kernel
theorem dX3_runTerms_15 : decode cX3_runTerms 15 = .ok (.astore_n 2, 1) := by decide +kernel
theorem dX3_runTerms_16 : decode cX3_runTerms 16 = .ok (.aload_n 2, 1) := by decide +kernel
theorem dX3_runTerms_17 : decode cX3_runTerms 17 = .ok (.ifnull 11, 3) := by decide +kernel
theorem dX3_runTerms_20 : decode cX3_runTerms 20 = .ok (.aload_n 2, 1) := by decide +kernel
theorem dX3_runTerms_21 : decode cX3_runTerms 21 = .ok (.aload_n 0, 1) := by decide +kernel
theorem dX3_runTerms_22 : decode cX3_runTerms 22 = .ok (.getfield 38, 3) := by decide +kernel
theorem dX3_runTerms_25 : decode cX3_runTerms 25 = .ok (.invokevirtual 281, 3) := by decide +kernel
theorem dX3_runTerms_28 : decode cX3_runTerms 28 = .ok (.iinc 1 1, 3) := by decide +kernel
theorem dX3_runTerms_31 : decode cX3_runTerms 31 = .ok (.goto (-29), 3) := by decide +kernel
theorem dX3_runTerms_34 : decode cX3_runTerms 34 = .ok (.return_, 1) := by decide +kernel
theorem dX3_feeFor_0 : decode cX3_feeFor 0 = .ok (.aload_n 1, 1) := by decide +kernel
theorem dX3_feeFor_1 : decode cX3_feeFor 1 = .ok (.getfield 227, 3) := by decide +kernel
theorem dX3_feeFor_4 : decode cX3_feeFor 4 = .ok (.ifCond .lt 31, 3) := by decide +kernel
theorem dX3_feeFor_7 : decode cX3_feeFor 7 = .ok (.aload_n 1, 1) := by decide +kernel
theorem dX3_feeFor_8 : decode cX3_feeFor 8 = .ok (.getfield 227, 3) := by decide +kernel
theorem dX3_feeFor_11 : decode cX3_feeFor 11 = .ok (.aload_n 0, 1) := by decide +kernel
theorem dX3_feeFor_12 : decode cX3_feeFor 12 = .ok (.getfield 15, 3) := by decide +kernel
theorem dX3_feeFor_15 : decode cX3_feeFor 15 = .ok (.arraylength, 1) := by decide +kernel
theorem dX3_feeFor_16 : decode cX3_feeFor 16 = .ok (.if_icmp .ge 19, 3) := by decide +kernel
theorem dX3_feeFor_19 : decode cX3_feeFor 19 = .ok (.aload_n 0, 1) := by decide +kernel
theorem dX3_feeFor_20 : decode cX3_feeFor 20 = .ok (.getfield 15, 3) := by decide +kernel
theorem dX3_feeFor_23 : decode cX3_feeFor 23 = .ok (.aload_n 1, 1) := by decide +kernel
theorem dX3_feeFor_24 : decode cX3_feeFor 24 = .ok (.getfield 227, 3) := by decide +kernel
theorem dX3_feeFor_27 : decode cX3_feeFor 27 = .ok (.baload, 1) := by decide +kernel
theorem dX3_feeFor_28 : decode cX3_feeFor 28 = .ok (.ifCond .eq 7, 3) := by decide +kernel
theorem dX3_feeFor_31 : decode cX3_feeFor 31 = .ok (.iconst 1, 1) := by decide +kernel
theorem dX3_feeFor_32 : decode cX3_feeFor 32 = .ok (.goto 4, 3) := by decide +kernel
theorem dX3_feeFor_35 : decode cX3_feeFor 35 = .ok (.iconst 0, 1) := by decide +kernel
theorem dX3_feeFor_36 : decode cX3_feeFor 36 = .ok (.istore_n 3, 1) := by decide +kernel
theorem dX3_feeFor_37 : decode cX3_feeFor 37 = .ok (.iload_n 3, 1) := by decide +kernel
theorem dX3_feeFor_38 : decode cX3_feeFor 38 = .ok (.ifCond .eq 7, 3) := by decide +kernel
theorem dX3_feeFor_41 : decode cX3_feeFor 41 = .ok (.iconst 0, 1) := by decide +kernel
theorem dX3_feeFor_42 : decode cX3_feeFor 42 = .ok (.goto 4, 3) := by decide +kernel
theorem dX3_feeFor_45 : decode cX3_feeFor 45 = .ok (.iload_n 2, 1) := by decide +kernel
theorem dX3_feeFor_46 : decode cX3_feeFor 46 = .ok (.ireturn, 1) := by decide +kernel
theorem dX3_paidHoursOf_0 : decode cX3_paidHoursOf 0 = .ok (.iconst 0, 1) := by decide +kernel
theorem dX3_paidHoursOf_1 : decode cX3_paidHoursOf 1 = .ok (.istore_n 2, 1) := by decide +kernel
theorem dX3_paidHoursOf_2 : decode cX3_paidHoursOf 2 = .ok (.iconst 0, 1) := by decide +kernel
theorem dX3_paidHoursOf_3 : decode cX3_paidHoursOf 3 = .ok (.istore_n 3, 1) := by decide +kernel
theorem dX3_paidHoursOf_4 : decode cX3_paidHoursOf 4 = .ok (.iload_n 3, 1) := by decide +kernel
theorem dX3_paidHoursOf_5 : decode cX3_paidHoursOf 5 = .ok (.aload_n 0, 1) := by decide +kernel
theorem dX3_paidHoursOf_6 : decode cX3_paidHoursOf 6 = .ok (.getfield 11, 3) := by decide +kernel
theorem dX3_paidHoursOf_9 : decode cX3_paidHoursOf 9 = .ok (.arraylength, 1) := by decide +kernel
theorem dX3_paidHoursOf_10 : decode cX3_paidHoursOf 10 = .ok (.if_icmp .ge 34, 3) := by decide +kernel
theorem dX3_paidHoursOf_13 : decode cX3_paidHoursOf 13 = .ok (.aload_n 0, 1) := by decide +kernel
theorem dX3_paidHoursOf_14 : decode cX3_paidHoursOf 14 = .ok (.iload_n 3, 1) := by decide +kernel
theorem dX3_paidHoursOf_15 : decode cX3_paidHoursOf 15 = .ok (.invokevirtual 42, 3) := by decide +kernel
theorem dX3_paidHoursOf_18 : decode cX3_paidHoursOf 18 = .ok (.astore 4, 2) := by decide +kernel
theorem dX3_paidHoursOf_20 : decode cX3_paidHoursOf 20 = .ok (.aload 4, 2) := by decide +kernel
theorem dX3_paidHoursOf_22 : decode cX3_paidHoursOf 22 = .ok (.ifnull 16, 3) := by decide +kernel
theorem dX3_paidHoursOf_25 : decode cX3_paidHoursOf 25 = .ok (.iload_n 2, 1) := by decide +kernel
theorem dX3_paidHoursOf_26 : decode cX3_paidHoursOf 26 = .ok (.aload 4, 2) := by decide +kernel
theorem dX3_paidHoursOf_28 : decode cX3_paidHoursOf 28 = .ok (.aload_n 1, 1) := by decide +kernel
theorem dX3_paidHoursOf_29 : decode cX3_paidHoursOf 29 = .ok (.aload_n 0, 1) := by decide +kernel
theorem dX3_paidHoursOf_30 : decode cX3_paidHoursOf 30 = .ok (.getfield 38, 3) := by decide +kernel
theorem dX3_paidHoursOf_33 : decode cX3_paidHoursOf 33 = .ok (.invokevirtual 284, 3) := by decide +kernel
theorem dX3_paidHoursOf_36 : decode cX3_paidHoursOf 36 = .ok (.iadd, 1) := by decide +kernel
theorem dX3_paidHoursOf_37 : decode cX3_paidHoursOf 37 = .ok (.istore_n 2, 1) := by decide +kernel
theorem dX3_paidHoursOf_38 : decode cX3_paidHoursOf 38 = .ok (.iinc 3 1, 3) := by decide +kernel
theorem dX3_paidHoursOf_41 : decode cX3_paidHoursOf 41 = .ok (.goto (-37), 3) := by decide +kernel
theorem dX3_paidHoursOf_44 : decode cX3_paidHoursOf 44 = .ok (.iload_n 2, 1) := by decide +kernel
theorem dX3_paidHoursOf_45 : decode cX3_paidHoursOf 45 = .ok (.ireturn, 1) := by decide +kernel
theorem dL_cell_0 : decode cL_cell 0 = .ok (.iload_n 1, 1) := by decide +kernel
theorem dL_cell_1 : decode cL_cell 1 = .ok (.aload_n 0, 1) := by decide +kernel
theorem dL_cell_2 : decode cL_cell 2 = .ok (.arraylength, 1) := by decide +kernel
theorem dL_cell_3 : decode cL_cell 3 = .ok (.if_icmp .ge 9, 3) := by decide +kernel
theorem dL_cell_6 : decode cL_cell 6 = .ok (.aload_n 0, 1) := by decide +kernel
theorem dL_cell_7 : decode cL_cell 7 = .ok (.iload_n 1, 1) := by decide +kernel
theorem dL_cell_8 : decode cL_cell 8 = .ok (.iaload, 1) := by decide +kernel
theorem dL_cell_9 : decode cL_cell 9 = .ok (.goto 13, 3) := by decide +kernel
theorem dL_cell_12 : decode cL_cell 12 = .ok (.ldc 7, 2) := by decide +kernel
theorem dL_cell_14 : decode cL_cell 14 = .ok (.iload_n 1, 1) := by decide +kernel
theorem dL_cell_15 : decode cL_cell 15 = .ok (.bipush 99, 2) := by decide +kernel
theorem dL_cell_17 : decode cL_cell 17 = .ok (.iadd, 1) := by decide +kernel
theorem dL_cell_18 : decode cL_cell 18 = .ok (.imul, 1) := by decide +kernel
theorem dL_cell_19 : decode cL_cell 19 = .ok (.ldc 8, 2) := by decide +kernel
theorem dL_cell_21 : decode cL_cell 21 = .ok (.iadd, 1) := by decide +kernel
theorem dL_cell_22 : decode cL_cell 22 = .ok (.ireturn, 1) := by decide +kernel
theorem dL_low_0 : decode cL_low 0 = .ok (.iload_n 0, 1) := by decide +kernel
theorem dL_low_1 : decode cL_low 1 = .ok (.ldc 9, 2) := by decide +kernel
theorem dL_low_3 : decode cL_low 3 = .ok (.iand, 1) := by decide +kernel
theorem dL_low_4 : decode cL_low 4 = .ok (.iload_n 1, 1) := by decide +kernel
theorem dL_low_5 : decode cL_low 5 = .ok (.irem, 1) := by decide +kernel
theorem dL_low_6 : decode cL_low 6 = .ok (.ireturn, 1) := by decide +kernel
theorem dL_calls_0 : decode cL_calls 0 = .ok (.iload_n 1, 1) := by decide +kernel
theorem dL_calls_1 : decode cL_calls 1 = .ok (.ifCond .ne 18, 3) := by decide +kernel
theorem dL_calls_4 : decode cL_calls 4 = .ok (.aload_n 0, 1) := by decide +kernel
theorem dL_calls_5 : decode cL_calls 5 = .ok (.iload_n 2, 1) := by decide +kernel
theorem dL_calls_6 : decode cL_calls 6 = .ok (.iload_n 3, 1) := by decide +kernel
theorem dL_calls_7 : decode cL_calls 7 = .ok (.iload 4, 2) := by decide +kernel
theorem dL_calls_9 : decode cL_calls 9 = .ok (.iload 5, 2) := by decide +kernel
theorem dL_calls_11 : decode cL_calls 11 = .ok (.iload 6, 2) := by decide +kernel
theorem dL_calls_13 : decode cL_calls 13 = .ok (.invokevirtual 10, 3) := by decide +kernel
theorem dL_calls_16 : decode cL_calls 16 = .ok (.goto 111, 3) := by decide +kernel
theorem dL_calls_19 : decode cL_calls 19 = .ok (.iload_n 1, 1) := by decide +kernel
theorem dL_calls_20 : decode cL_calls 20 = .ok (.iconst 1, 1) := by decide +kernel
theorem dL_calls_21 : decode cL_calls 21 = .ok (.if_icmp .ne 16, 3) := by decide +kernel
theorem dL_calls_24 : decode cL_calls 24 = .ok (.aload_n 0, 1) := by decide +kernel
theorem dL_calls_25 : decode cL_calls 25 = .ok (.iload_n 2, 1) := by decide +kernel
theorem dL_calls_26 : decode cL_calls 26 = .ok (.iload_n 3, 1) := by decide +kernel
theorem dL_calls_27 : decode cL_calls 27 = .ok (.iload 4, 2) := by decide +kernel
theorem dL_calls_29 : decode cL_calls 29 = .ok (.iload 5, 2) := by decide +kernel
theorem dL_calls_31 : decode cL_calls 31 = .ok (.invokevirtual 16, 3) := by decide +kernel
theorem dL_calls_34 : decode cL_calls 34 = .ok (.goto 93, 3) := by decide +kernel
theorem dL_calls_37 : decode cL_calls 37 = .ok (.iload_n 1, 1) := by decide +kernel
theorem dL_calls_38 : decode cL_calls 38 = .ok (.iconst 2, 1) := by decide +kernel
theorem dL_calls_39 : decode cL_calls 39 = .ok (.if_icmp .ne 11, 3) := by decide +kernel
theorem dL_calls_42 : decode cL_calls 42 = .ok (.aload_n 0, 1) := by decide +kernel
theorem dL_calls_43 : decode cL_calls 43 = .ok (.iload_n 2, 1) := by decide +kernel
theorem dL_calls_44 : decode cL_calls 44 = .ok (.invokevirtual 20, 3) := by decide +kernel
theorem dL_calls_47 : decode cL_calls 47 = .ok (.goto 80, 3) := by decide +kernel
theorem dL_calls_50 : decode cL_calls 50 = .ok (.iload_n 1, 1) := by decide +kernel
theorem dL_calls_51 : decode cL_calls 51 = .ok (.iconst 3, 1) := by decide +kernel
theorem dL_calls_52 : decode cL_calls 52 = .ok (.if_icmp .ne 11, 3) := by decide +kernel
theorem dL_calls_55 : decode cL_calls 55 = .ok (.aload_n 0, 1) := by decide +kernel
theorem dL_calls_56 : decode cL_calls 56 = .ok (.iload_n 2, 1) := by decide +kernel
theorem dL_calls_57 : decode cL_calls 57 = .ok (.invokevirtual 24, 3) := by decide +kernel
theorem dL_calls_60 : decode cL_calls 60 = .ok (.goto 67, 3) := by decide +kernel
theorem dL_calls_63 : decode cL_calls 63 = .ok (.iload_n 1, 1) := by decide +kernel
theorem dL_calls_64 : decode cL_calls 64 = .ok (.iconst 4, 1) := by decide +kernel
theorem dL_calls_65 : decode cL_calls 65 = .ok (.if_icmp .ne 11, 3) := by decide +kernel
theorem dL_calls_68 : decode cL_calls 68 = .ok (.aload_n 0, 1) := by decide +kernel
theorem dL_calls_69 : decode cL_calls 69 = .ok (.iload_n 2, 1) := by decide +kernel
theorem dL_calls_70 : decode cL_calls 70 = .ok (.invokevirtual 27, 3) := by decide +kernel
theorem dL_calls_73 : decode cL_calls 73 = .ok (.goto 54, 3) := by decide +kernel
theorem dL_calls_76 : decode cL_calls 76 = .ok (.iload_n 1, 1) := by decide +kernel
theorem dL_calls_77 : decode cL_calls 77 = .ok (.iconst 5, 1) := by decide +kernel
theorem dL_calls_78 : decode cL_calls 78 = .ok (.if_icmp .ne 21, 3) := by decide +kernel
theorem dL_calls_81 : decode cL_calls 81 = .ok (.aload_n 0, 1) := by decide +kernel
theorem dL_calls_82 : decode cL_calls 82 = .ok (.iload_n 2, 1) := by decide +kernel
theorem dL_calls_83 : decode cL_calls 83 = .ok (.iload_n 3, 1) := by decide +kernel
theorem dL_calls_84 : decode cL_calls 84 = .ok (.iconst 1, 1) := by decide +kernel
theorem dL_calls_85 : decode cL_calls 85 = .ok (.if_icmp .ne 7, 3) := by decide +kernel
theorem dL_calls_88 : decode cL_calls 88 = .ok (.iconst 1, 1) := by decide +kernel
theorem dL_calls_89 : decode cL_calls 89 = .ok (.goto 4, 3) := by decide +kernel
theorem dL_calls_92 : decode cL_calls 92 = .ok (.iconst 0, 1) := by decide +kernel
theorem dL_calls_93 : decode cL_calls 93 = .ok (.invokevirtual 30, 3) := by decide +kernel
theorem dL_calls_96 : decode cL_calls 96 = .ok (.goto 31, 3) := by decide +kernel
theorem dL_calls_99 : decode cL_calls 99 = .ok (.iload_n 1, 1) := by decide +kernel
theorem dL_calls_100 : decode cL_calls 100 = .ok (.bipush 6, 2) := by decide +kernel
theorem dL_calls_102 : decode cL_calls 102 = .ok (.if_icmp .ne 11, 3) := by decide +kernel
theorem dL_calls_105 : decode cL_calls 105 = .ok (.aload_n 0, 1) := by decide +kernel
theorem dL_calls_106 : decode cL_calls 106 = .ok (.iload_n 2, 1) := by decide +kernel
theorem dL_calls_107 : decode cL_calls 107 = .ok (.invokevirtual 34, 3) := by decide +kernel
theorem dL_calls_110 : decode cL_calls 110 = .ok (.goto 17, 3) := by decide +kernel
theorem dL_calls_113 : decode cL_calls 113 = .ok (.aload_n 0, 1) := by decide +kernel
theorem dL_calls_114 : decode cL_calls 114 = .ok (.iload_n 2, 1) := by decide +kernel
theorem dL_calls_115 : decode cL_calls 115 = .ok (.iload_n 3, 1) := by decide +kernel
theorem dL_calls_116 : decode cL_calls 116 = .ok (.invokevirtual 37, 3) := by decide +kernel
theorem dL_calls_119 : decode cL_calls 119 = .ok (.ifCond .eq 7, 3) := by decide +kernel
theorem dL_calls_122 : decode cL_calls 122 = .ok (.iconst 1, 1) := by decide +kernel
theorem dL_calls_123 : decode cL_calls 123 = .ok (.goto 4, 3) := by decide +kernel
theorem dL_calls_126 : decode cL_calls 126 = .ok (.iconst 0, 1) := by decide +kernel
theorem dL_calls_127 : decode cL_calls 127 = .ok (.ireturn, 1) := by decide +kernel
theorem dL_calls_128 : decode cL_calls 128 = .ok (.astore 7, 2) := by decide +kernel
theorem dL_calls_130 : decode cL_calls 130 = .ok (.ldc 43, 2) := by decide +kernel
theorem dL_calls_132 : decode cL_calls 132 = .ok (.ireturn, 1) := by decide +kernel
theorem dL_calls_133 : decode cL_calls 133 = .ok (.astore 7, 2) := by decide +kernel
theorem dL_calls_135 : decode cL_calls 135 = .ok (.ldc 46, 2) := by decide +kernel
theorem dL_calls_137 : decode cL_calls 137 = .ok (.ireturn, 1) := by decide +kernel
theorem dL_paid_0 : decode cL_paid 0 = .ok (.iconst 0, 1) := by decide +kernel
theorem dL_paid_1 : decode cL_paid 1 = .ok (.istore 4, 2) := by decide +kernel
theorem dL_paid_3 : decode cL_paid 3 = .ok (.iload 4, 2) := by decide +kernel
theorem dL_paid_5 : decode cL_paid 5 = .ok (.bipush 64, 2) := by decide +kernel
theorem dL_paid_7 : decode cL_paid 7 = .ok (.if_icmp .ge 34, 3) := by decide +kernel
theorem dL_paid_10 : decode cL_paid 10 = .ok (.aload_n 2, 1) := by decide +kernel
theorem dL_paid_11 : decode cL_paid 11 = .ok (.iload 4, 2) := by decide +kernel
theorem dL_paid_13 : decode cL_paid 13 = .ok (.iaload, 1) := by decide +kernel
theorem dL_paid_14 : decode cL_paid 14 = .ok (.iload_n 0, 1) := by decide +kernel
theorem dL_paid_15 : decode cL_paid 15 = .ok (.iconst 1, 1) := by decide +kernel
theorem dL_paid_16 : decode cL_paid 16 = .ok (.iadd, 1) := by decide +kernel
theorem dL_paid_17 : decode cL_paid 17 = .ok (.bipush 8, 2) := by decide +kernel
theorem dL_paid_19 : decode cL_paid 19 = .ok (.iload_n 1, 1) := by decide +kernel
theorem dL_paid_20 : decode cL_paid 20 = .ok (.imul, 1) := by decide +kernel
theorem dL_paid_21 : decode cL_paid 21 = .ok (.iadd, 1) := by decide +kernel
theorem dL_paid_22 : decode cL_paid 22 = .ok (.if_icmp .ne 13, 3) := by decide +kernel
theorem dL_paid_25 : decode cL_paid 25 = .ok (.iload_n 1, 1) := by decide +kernel
theorem dL_paid_26 : decode cL_paid 26 = .ok (.aload_n 3, 1) := by decide +kernel
theorem dL_paid_27 : decode cL_paid 27 = .ok (.iconst 2, 1) := by decide +kernel
theorem dL_paid_28 : decode cL_paid 28 = .ok (.iaload, 1) := by decide +kernel
theorem dL_paid_29 : decode cL_paid 29 = .ok (.if_icmp .le 6, 3) := by decide +kernel
theorem dL_paid_32 : decode cL_paid 32 = .ok (.iload 4, 2) := by decide +kernel
theorem dL_paid_34 : decode cL_paid 34 = .ok (.ireturn, 1) := by decide +kernel
theorem dL_paid_35 : decode cL_paid 35 = .ok (.iinc 4 1, 3) := by decide +kernel
theorem dL_paid_38 : decode cL_paid 38 = .ok (.goto (-35), 3) := by decide +kernel
theorem dL_paid_41 : decode cL_paid 41 = .ok (.iconst (-1), 1) := by decide +kernel
theorem dL_paid_42 : decode cL_paid 42 = .ok (.ireturn, 1) := by decide +kernel
theorem dL_keeps_0 : decode cL_keeps 0 = .ok (.iconst 0, 1) := by decide +kernel
theorem dL_keeps_1 : decode cL_keeps 1 = .ok (.istore 7, 2) := by decide +kernel
theorem dL_keeps_3 : decode cL_keeps 3 = .ok (.iload 7, 2) := by decide +kernel
theorem dL_keeps_5 : decode cL_keeps 5 = .ok (.bipush 63, 2) := by decide +kernel
theorem dL_keeps_7 : decode cL_keeps 7 = .ok (.if_icmp .ge 32, 3) := by decide +kernel
theorem dL_keeps_10 : decode cL_keeps 10 = .ok (.aload 4, 2) := by decide +kernel
theorem dL_keeps_12 : decode cL_keeps 12 = .ok (.iload 7, 2) := by decide +kernel
theorem dL_keeps_14 : decode cL_keeps 14 = .ok (.iaload, 1) := by decide +kernel
theorem dL_keeps_15 : decode cL_keeps 15 = .ok (.ifCond .le 24, 3) := by decide +kernel
theorem dL_keeps_18 : decode cL_keeps 18 = .ok (.aload 4, 2) := by decide +kernel
theorem dL_keeps_20 : decode cL_keeps 20 = .ok (.iload 7, 2) := by decide +kernel
theorem dL_keeps_22 : decode cL_keeps 22 = .ok (.iaload, 1) := by decide +kernel
theorem dL_keeps_23 : decode cL_keeps 23 = .ok (.bipush 8, 2) := by decide +kernel
theorem dL_keeps_25 : decode cL_keeps 25 = .ok (.idiv, 1) := by decide +kernel
theorem dL_keeps_26 : decode cL_keeps 26 = .ok (.aload 6, 2) := by decide +kernel
theorem dL_keeps_28 : decode cL_keeps 28 = .ok (.iconst 2, 1) := by decide +kernel
theorem dL_keeps_29 : decode cL_keeps 29 = .ok (.iaload, 1) := by decide +kernel
theorem dL_keeps_30 : decode cL_keeps 30 = .ok (.if_icmp .le 9, 3) := by decide +kernel
theorem dL_keeps_33 : decode cL_keeps 33 = .ok (.iinc 7 1, 3) := by decide +kernel
theorem dL_keeps_36 : decode cL_keeps 36 = .ok (.goto (-33), 3) := by decide +kernel
theorem dL_keeps_39 : decode cL_keeps 39 = .ok (.aload 4, 2) := by decide +kernel
theorem dL_keeps_41 : decode cL_keeps 41 = .ok (.iload 7, 2) := by decide +kernel
theorem dL_keeps_43 : decode cL_keeps 43 = .ok (.iload_n 0, 1) := by decide +kernel
theorem dL_keeps_44 : decode cL_keeps 44 = .ok (.iconst 1, 1) := by decide +kernel
theorem dL_keeps_45 : decode cL_keeps 45 = .ok (.iadd, 1) := by decide +kernel
theorem dL_keeps_46 : decode cL_keeps 46 = .ok (.bipush 8, 2) := by decide +kernel
theorem dL_keeps_48 : decode cL_keeps 48 = .ok (.iload_n 1, 1) := by decide +kernel
theorem dL_keeps_49 : decode cL_keeps 49 = .ok (.imul, 1) := by decide +kernel
theorem dL_keeps_50 : decode cL_keeps 50 = .ok (.iadd, 1) := by decide +kernel
theorem dL_keeps_51 : decode cL_keeps 51 = .ok (.iastore, 1) := by decide +kernel
theorem dL_keeps_52 : decode cL_keeps 52 = .ok (.aload 5, 2) := by decide +kernel
theorem dL_keeps_54 : decode cL_keeps 54 = .ok (.iload 7, 2) := by decide +kernel
theorem dL_keeps_56 : decode cL_keeps 56 = .ok (.iload_n 2, 1) := by decide +kernel
theorem dL_keeps_57 : decode cL_keeps 57 = .ok (.bipush 16, 2) := by decide +kernel
theorem dL_keeps_59 : decode cL_keeps 59 = .ok (.iload_n 3, 1) := by decide +kernel
theorem dL_keeps_60 : decode cL_keeps 60 = .ok (.imul, 1) := by decide +kernel
theorem dL_keeps_61 : decode cL_keeps 61 = .ok (.iadd, 1) := by decide +kernel
theorem dL_keeps_62 : decode cL_keeps 62 = .ok (.iastore, 1) := by decide +kernel
theorem dL_keeps_63 : decode cL_keeps 63 = .ok (.return_, 1) := by decide +kernel
theorem dL_speaker_0 : decode cL_speaker 0 = .ok (.aload_n 1, 1) := by decide +kernel
theorem dL_speaker_1 : decode cL_speaker 1 = .ok (.iconst 4, 1) := by decide +kernel
theorem dL_speaker_2 : decode cL_speaker 2 = .ok (.iload_n 0, 1) := by decide +kernel
theorem dL_speaker_3 : decode cL_speaker 3 = .ok (.imul, 1) := by decide +kernel
theorem dL_speaker_4 : decode cL_speaker 4 = .ok (.iconst 1, 1) := by decide +kernel
theorem dL_speaker_5 : decode cL_speaker 5 = .ok (.iadd, 1) := by decide +kernel
theorem dL_speaker_6 : decode cL_speaker 6 = .ok (.iaload, 1) := by decide +kernel
theorem dL_speaker_7 : decode cL_speaker 7 = .ok (.bipush 64, 2) := by decide +kernel
theorem dL_speaker_9 : decode cL_speaker 9 = .ok (.idiv, 1) := by decide +kernel
theorem dL_speaker_10 : decode cL_speaker 10 = .ok (.iconst 1, 1) := by decide +kernel
theorem dL_speaker_11 : decode cL_speaker 11 = .ok (.isub, 1) := by decide +kernel
theorem dL_speaker_12 : decode cL_speaker 12 = .ok (.ireturn, 1) := by decide +kernel
theorem dL_leaves_0 : decode cL_leaves 0 = .ok (.aload_n 2, 1) := by decide +kernel
theorem dL_leaves_1 : decode cL_leaves 1 = .ok (.iconst 4, 1) := by decide +kernel
theorem dL_leaves_2 : decode cL_leaves 2 = .ok (.iload_n 0, 1) := by decide +kernel
theorem dL_leaves_3 : decode cL_leaves 3 = .ok (.imul, 1) := by decide +kernel
theorem dL_leaves_4 : decode cL_leaves 4 = .ok (.iconst 1, 1) := by decide +kernel
theorem dL_leaves_5 : decode cL_leaves 5 = .ok (.iadd, 1) := by decide +kernel
theorem dL_leaves_6 : decode cL_leaves 6 = .ok (.iaload, 1) := by decide +kernel
theorem dL_leaves_7 : decode cL_leaves 7 = .ok (.bipush 16, 2) := by decide +kernel
theorem dL_leaves_9 : decode cL_leaves 9 = .ok (.irem, 1) := by decide +kernel
theorem dL_leaves_10 : decode cL_leaves 10 = .ok (.istore 7, 2) := by decide +kernel
theorem dL_leaves_12 : decode cL_leaves 12 = .ok (.aload_n 2, 1) := by decide +kernel
theorem dL_leaves_13 : decode cL_leaves 13 = .ok (.iconst 4, 1) := by decide +kernel
theorem dL_leaves_14 : decode cL_leaves 14 = .ok (.iload_n 0, 1) := by decide +kernel
theorem dL_leaves_15 : decode cL_leaves 15 = .ok (.imul, 1) := by decide +kernel
theorem dL_leaves_16 : decode cL_leaves 16 = .ok (.iconst 2, 1) := by decide +kernel
theorem dL_leaves_17 : decode cL_leaves 17 = .ok (.iadd, 1) := by decide +kernel
theorem dL_leaves_18 : decode cL_leaves 18 = .ok (.iaload, 1) := by decide +kernel
theorem dL_leaves_19 : decode cL_leaves 19 = .ok (.aload 6, 2) := by decide +kernel
theorem dL_leaves_21 : decode cL_leaves 21 = .ok (.iconst 2, 1) := by decide +kernel
theorem dL_leaves_22 : decode cL_leaves 22 = .ok (.iaload, 1) := by decide +kernel
theorem dL_leaves_23 : decode cL_leaves 23 = .ok (.isub, 1) := by decide +kernel
theorem dL_leaves_24 : decode cL_leaves 24 = .ok (.istore 8, 2) := by decide +kernel
theorem dL_leaves_26 : decode cL_leaves 26 = .ok (.iload_n 0, 1) := by decide +kernel
theorem dL_leaves_27 : decode cL_leaves 27 = .ok (.aload_n 2, 1) := by decide +kernel
theorem dL_leaves_28 : decode cL_leaves 28 = .ok (.invokestatic 47, 3) := by decide +kernel
theorem dL_leaves_31 : decode cL_leaves 31 = .ok (.ifCond .lt 9, 3) := by decide +kernel
theorem dL_leaves_34 : decode cL_leaves 34 = .ok (.iload 8, 2) := by decide +kernel
theorem dL_leaves_36 : decode cL_leaves 36 = .ok (.iconst 1, 1) := by decide +kernel
theorem dL_leaves_37 : decode cL_leaves 37 = .ok (.if_icmp .ge 4, 3) := by decide +kernel
theorem dL_leaves_40 : decode cL_leaves 40 = .ok (.return_, 1) := by decide +kernel
theorem dL_leaves_41 : decode cL_leaves 41 = .ok (.iconst 0, 1) := by decide +kernel
theorem dL_leaves_42 : decode cL_leaves 42 = .ok (.istore 9, 2) := by decide +kernel
theorem dL_leaves_44 : decode cL_leaves 44 = .ok (.iload 9, 2) := by decide +kernel
theorem dL_leaves_46 : decode cL_leaves 46 = .ok (.aload_n 2, 1) := by decide +kernel
theorem dL_leaves_47 : decode cL_leaves 47 = .ok (.iconst 4, 1) := by decide +kernel
theorem dL_leaves_48 : decode cL_leaves 48 = .ok (.iload_n 0, 1) := by decide +kernel
theorem dL_leaves_49 : decode cL_leaves 49 = .ok (.imul, 1) := by decide +kernel
theorem dL_leaves_50 : decode cL_leaves 50 = .ok (.iconst 3, 1) := by decide +kernel
theorem dL_leaves_51 : decode cL_leaves 51 = .ok (.iadd, 1) := by decide +kernel
theorem dL_leaves_52 : decode cL_leaves 52 = .ok (.iaload, 1) := by decide +kernel
theorem dL_leaves_53 : decode cL_leaves 53 = .ok (.bipush 16, 2) := by decide +kernel
theorem dL_leaves_55 : decode cL_leaves 55 = .ok (.irem, 1) := by decide +kernel
theorem dL_leaves_56 : decode cL_leaves 56 = .ok (.if_icmp .ge 73, 3) := by decide +kernel
theorem dL_leaves_59 : decode cL_leaves 59 = .ok (.iload 8, 2) := by decide +kernel
theorem dL_leaves_61 : decode cL_leaves 61 = .ok (.bipush 7, 2) := by decide +kernel
theorem dL_leaves_63 : decode cL_leaves 63 = .ok (.if_icmp .le 26, 3) := by decide +kernel
theorem dL_leaves_66 : decode cL_leaves 66 = .ok (.aload_n 1, 1) := by decide +kernel
theorem dL_leaves_67 : decode cL_leaves 67 = .ok (.bipush 8, 2) := by decide +kernel
theorem dL_leaves_69 : decode cL_leaves 69 = .ok (.iload 7, 2) := by decide +kernel
theorem dL_leaves_71 : decode cL_leaves 71 = .ok (.imul, 1) := by decide +kernel
theorem dL_leaves_72 : decode cL_leaves 72 = .ok (.iconst 5, 1) := by decide +kernel
theorem dL_leaves_73 : decode cL_leaves 73 = .ok (.iadd, 1) := by decide +kernel
theorem dL_leaves_74 : decode cL_leaves 74 = .ok (.dup2, 1) := by decide +kernel
theorem dL_leaves_75 : decode cL_leaves 75 = .ok (.iaload, 1) := by decide +kernel
theorem dL_leaves_76 : decode cL_leaves 76 = .ok (.aload_n 3, 1) := by decide +kernel
theorem dL_leaves_77 : decode cL_leaves 77 = .ok (.iconst 4, 1) := by decide +kernel
theorem dL_leaves_78 : decode cL_leaves 78 = .ok (.iload_n 0, 1) := by decide +kernel
theorem dL_leaves_79 : decode cL_leaves 79 = .ok (.imul, 1) := by decide +kernel
theorem dL_leaves_80 : decode cL_leaves 80 = .ok (.iload 9, 2) := by decide +kernel
theorem dL_leaves_82 : decode cL_leaves 82 = .ok (.iadd, 1) := by decide +kernel
theorem dL_leaves_83 : decode cL_leaves 83 = .ok (.iaload, 1) := by decide +kernel
theorem dL_leaves_84 : decode cL_leaves 84 = .ok (.iadd, 1) := by decide +kernel
theorem dL_leaves_85 : decode cL_leaves 85 = .ok (.iastore, 1) := by decide +kernel
theorem dL_leaves_86 : decode cL_leaves 86 = .ok (.goto 37, 3) := by decide +kernel
theorem dL_leaves_89 : decode cL_leaves 89 = .ok (.iload_n 0, 1) := by decide +kernel
theorem dL_leaves_90 : decode cL_leaves 90 = .ok (.aload_n 2, 1) := by decide +kernel
theorem dL_leaves_91 : decode cL_leaves 91 = .ok (.invokestatic 47, 3) := by decide +kernel
theorem dL_leaves_94 : decode cL_leaves 94 = .ok (.aload_n 2, 1) := by decide +kernel
theorem dL_leaves_95 : decode cL_leaves 95 = .ok (.iconst 4, 1) := by decide +kernel
theorem dL_leaves_96 : decode cL_leaves 96 = .ok (.iload_n 0, 1) := by decide +kernel
theorem dL_leaves_97 : decode cL_leaves 97 = .ok (.imul, 1) := by decide +kernel
theorem dL_leaves_98 : decode cL_leaves 98 = .ok (.iconst 2, 1) := by decide +kernel
theorem dL_leaves_99 : decode cL_leaves 99 = .ok (.iadd, 1) := by decide +kernel
theorem dL_leaves_100 : decode cL_leaves 100 = .ok (.iaload, 1) := by decide +kernel
theorem dL_leaves_101 : decode cL_leaves 101 = .ok (.iload 9, 2) := by decide +kernel
theorem dL_leaves_103 : decode cL_leaves 103 = .ok (.iadd, 1) := by decide +kernel
theorem dL_leaves_104 : decode cL_leaves 104 = .ok (.iload 7, 2) := by decide +kernel
theorem dL_leaves_106 : decode cL_leaves 106 = .ok (.aload_n 3, 1) := by decide +kernel
theorem dL_leaves_107 : decode cL_leaves 107 = .ok (.iconst 4, 1) := by decide +kernel
theorem dL_leaves_108 : decode cL_leaves 108 = .ok (.iload_n 0, 1) := by decide +kernel
theorem dL_leaves_109 : decode cL_leaves 109 = .ok (.imul, 1) := by decide +kernel
theorem dL_leaves_110 : decode cL_leaves 110 = .ok (.iload 9, 2) := by decide +kernel
theorem dL_leaves_112 : decode cL_leaves 112 = .ok (.iadd, 1) := by decide +kernel
theorem dL_leaves_113 : decode cL_leaves 113 = .ok (.iaload, 1) := by decide +kernel
theorem dL_leaves_114 : decode cL_leaves 114 = .ok (.aload 4, 2) := by decide +kernel
theorem dL_leaves_116 : decode cL_leaves 116 = .ok (.aload 5, 2) := by decide +kernel
theorem dL_leaves_118 : decode cL_leaves 118 = .ok (.aload 6, 2) := by decide +kernel
theorem dL_leaves_120 : decode cL_leaves 120 = .ok (.invokestatic 53, 3) := by decide +kernel
theorem dL_leaves_123 : decode cL_leaves 123 = .ok (.iinc 9 1, 3) := by decide +kernel
theorem dL_leaves_126 : decode cL_leaves 126 = .ok (.goto (-82), 3) := by decide +kernel
theorem dL_leaves_129 : decode cL_leaves 129 = .ok (.return_, 1) := by decide +kernel
theorem dL_comes_0 : decode cL_comes 0 = .ok (.aload_n 2, 1) := by decide +kernel
theorem dL_comes_1 : decode cL_comes 1 = .ok (.iconst 4, 1) := by decide +kernel
theorem dL_comes_2 : decode cL_comes 2 = .ok (.iload_n 0, 1) := by decide +kernel
theorem dL_comes_3 : decode cL_comes 3 = .ok (.imul, 1) := by decide +kernel
theorem dL_comes_4 : decode cL_comes 4 = .ok (.iconst 1, 1) := by decide +kernel
theorem dL_comes_5 : decode cL_comes 5 = .ok (.iadd, 1) := by decide +kernel
theorem dL_comes_6 : decode cL_comes 6 = .ok (.iaload, 1) := by decide +kernel
theorem dL_comes_7 : decode cL_comes 7 = .ok (.bipush 16, 2) := by decide +kernel
theorem dL_comes_9 : decode cL_comes 9 = .ok (.irem, 1) := by decide +kernel
theorem dL_comes_10 : decode cL_comes 10 = .ok (.istore 8, 2) := by decide +kernel
theorem dL_comes_12 : decode cL_comes 12 = .ok (.iload_n 0, 1) := by decide +kernel
theorem dL_comes_13 : decode cL_comes 13 = .ok (.aload_n 2, 1) := by decide +kernel
theorem dL_comes_14 : decode cL_comes 14 = .ok (.invokestatic 47, 3) := by decide +kernel
theorem dL_comes_17 : decode cL_comes 17 = .ok (.istore 9, 2) := by decide +kernel
theorem dL_comes_19 : decode cL_comes 19 = .ok (.iconst 0, 1) := by decide +kernel
theorem dL_comes_20 : decode cL_comes 20 = .ok (.istore 10, 2) := by decide +kernel
theorem dL_comes_22 : decode cL_comes 22 = .ok (.iload 10, 2) := by decide +kernel
theorem dL_comes_24 : decode cL_comes 24 = .ok (.aload_n 2, 1) := by decide +kernel
theorem dL_comes_25 : decode cL_comes 25 = .ok (.iconst 4, 1) := by decide +kernel
theorem dL_comes_26 : decode cL_comes 26 = .ok (.iload_n 0, 1) := by decide +kernel
theorem dL_comes_27 : decode cL_comes 27 = .ok (.imul, 1) := by decide +kernel
theorem dL_comes_28 : decode cL_comes 28 = .ok (.iconst 3, 1) := by decide +kernel
theorem dL_comes_29 : decode cL_comes 29 = .ok (.iadd, 1) := by decide +kernel
theorem dL_comes_30 : decode cL_comes 30 = .ok (.iaload, 1) := by decide +kernel
theorem dL_comes_31 : decode cL_comes 31 = .ok (.bipush 16, 2) := by decide +kernel
theorem dL_comes_33 : decode cL_comes 33 = .ok (.irem, 1) := by decide +kernel
theorem dL_comes_34 : decode cL_comes 34 = .ok (.if_icmp .ge 139, 3) := by decide +kernel
theorem dL_comes_37 : decode cL_comes 37 = .ok (.iload 9, 2) := by decide +kernel
theorem dL_comes_39 : decode cL_comes 39 = .ok (.ifCond .ge 7, 3) := by decide +kernel
theorem dL_comes_42 : decode cL_comes 42 = .ok (.iconst 0, 1) := by decide +kernel
theorem dL_comes_43 : decode cL_comes 43 = .ok (.goto 10, 3) := by decide +kernel
theorem dL_comes_46 : decode cL_comes 46 = .ok (.aload 6, 2) := by decide +kernel
theorem dL_comes_48 : decode cL_comes 48 = .ok (.iconst 4, 1) := by decide +kernel
theorem dL_comes_49 : decode cL_comes 49 = .ok (.iload 9, 2) := by decide +kernel
theorem dL_comes_51 : decode cL_comes 51 = .ok (.iadd, 1) := by decide +kernel
theorem dL_comes_52 : decode cL_comes 52 = .ok (.iaload, 1) := by decide +kernel
theorem dL_comes_53 : decode cL_comes 53 = .ok (.istore 11, 2) := by decide +kernel
theorem dL_comes_55 : decode cL_comes 55 = .ok (.iload 9, 2) := by decide +kernel
theorem dL_comes_57 : decode cL_comes 57 = .ok (.ifCond .ge 7, 3) := by decide +kernel
theorem dL_comes_60 : decode cL_comes 60 = .ok (.iconst (-1), 1) := by decide +kernel
theorem dL_comes_61 : decode cL_comes 61 = .ok (.goto 22, 3) := by decide +kernel
theorem dL_comes_64 : decode cL_comes 64 = .ok (.iload 9, 2) := by decide +kernel
theorem dL_comes_66 : decode cL_comes 66 = .ok (.aload_n 2, 1) := by decide +kernel
theorem dL_comes_67 : decode cL_comes 67 = .ok (.iconst 4, 1) := by decide +kernel
theorem dL_comes_68 : decode cL_comes 68 = .ok (.iload_n 0, 1) := by decide +kernel
theorem dL_comes_69 : decode cL_comes 69 = .ok (.imul, 1) := by decide +kernel
theorem dL_comes_70 : decode cL_comes 70 = .ok (.iconst 2, 1) := by decide +kernel
theorem dL_comes_71 : decode cL_comes 71 = .ok (.iadd, 1) := by decide +kernel
theorem dL_comes_72 : decode cL_comes 72 = .ok (.iaload, 1) := by decide +kernel
theorem dL_comes_73 : decode cL_comes 73 = .ok (.iload 10, 2) := by decide +kernel
theorem dL_comes_75 : decode cL_comes 75 = .ok (.iadd, 1) := by decide +kernel
theorem dL_comes_76 : decode cL_comes 76 = .ok (.aload 4, 2) := by decide +kernel
theorem dL_comes_78 : decode cL_comes 78 = .ok (.aload 7, 2) := by decide +kernel
theorem dL_comes_80 : decode cL_comes 80 = .ok (.invokestatic 57, 3) := by decide +kernel
theorem dL_comes_83 : decode cL_comes 83 = .ok (.istore 12, 2) := by decide +kernel
theorem dL_comes_85 : decode cL_comes 85 = .ok (.iload 12, 2) := by decide +kernel
theorem dL_comes_87 : decode cL_comes 87 = .ok (.ifCond .lt 56, 3) := by decide +kernel
theorem dL_comes_90 : decode cL_comes 90 = .ok (.aload 5, 2) := by decide +kernel
theorem dL_comes_92 : decode cL_comes 92 = .ok (.iload 12, 2) := by decide +kernel
theorem dL_comes_94 : decode cL_comes 94 = .ok (.iaload, 1) := by decide +kernel
theorem dL_comes_95 : decode cL_comes 95 = .ok (.bipush 16, 2) := by decide +kernel
theorem dL_comes_97 : decode cL_comes 97 = .ok (.irem, 1) := by decide +kernel
theorem dL_comes_98 : decode cL_comes 98 = .ok (.istore 13, 2) := by decide +kernel
theorem dL_comes_100 : decode cL_comes 100 = .ok (.iload 13, 2) := by decide +kernel
theorem dL_comes_102 : decode cL_comes 102 = .ok (.iload 8, 2) := by decide +kernel
theorem dL_comes_104 : decode cL_comes 104 = .ok (.if_icmp .ne 7, 3) := by decide +kernel
theorem dL_comes_107 : decode cL_comes 107 = .ok (.iconst 0, 1) := by decide +kernel
theorem dL_comes_108 : decode cL_comes 108 = .ok (.goto 13, 3) := by decide +kernel
theorem dL_comes_111 : decode cL_comes 111 = .ok (.aload 5, 2) := by decide +kernel
theorem dL_comes_113 : decode cL_comes 113 = .ok (.iload 12, 2) := by decide +kernel
theorem dL_comes_115 : decode cL_comes 115 = .ok (.iaload, 1) := by decide +kernel
theorem dL_comes_116 : decode cL_comes 116 = .ok (.bipush 16, 2) := by decide +kernel
theorem dL_comes_118 : decode cL_comes 118 = .ok (.idiv, 1) := by decide +kernel
theorem dL_comes_119 : decode cL_comes 119 = .ok (.iconst 2, 1) := by decide +kernel
theorem dL_comes_120 : decode cL_comes 120 = .ok (.idiv, 1) := by decide +kernel
theorem dL_comes_121 : decode cL_comes 121 = .ok (.istore 11, 2) := by decide +kernel
theorem dL_comes_123 : decode cL_comes 123 = .ok (.aload_n 1, 1) := by decide +kernel
theorem dL_comes_124 : decode cL_comes 124 = .ok (.bipush 8, 2) := by decide +kernel
theorem dL_comes_126 : decode cL_comes 126 = .ok (.iload 13, 2) := by decide +kernel
theorem dL_comes_128 : decode cL_comes 128 = .ok (.imul, 1) := by decide +kernel
theorem dL_comes_129 : decode cL_comes 129 = .ok (.iconst 5, 1) := by decide +kernel
theorem dL_comes_130 : decode cL_comes 130 = .ok (.iadd, 1) := by decide +kernel
theorem dL_comes_131 : decode cL_comes 131 = .ok (.dup2, 1) := by decide +kernel
theorem dL_comes_132 : decode cL_comes 132 = .ok (.iaload, 1) := by decide +kernel
theorem dL_comes_133 : decode cL_comes 133 = .ok (.iload 11, 2) := by decide +kernel
theorem dL_comes_135 : decode cL_comes 135 = .ok (.iadd, 1) := by decide +kernel
theorem dL_comes_136 : decode cL_comes 136 = .ok (.iastore, 1) := by decide +kernel
theorem dL_comes_137 : decode cL_comes 137 = .ok (.aload 4, 2) := by decide +kernel
theorem dL_comes_139 : decode cL_comes 139 = .ok (.iload 12, 2) := by decide +kernel
theorem dL_comes_141 : decode cL_comes 141 = .ok (.iconst 0, 1) := by decide +kernel
theorem dL_comes_142 : decode cL_comes 142 = .ok (.iastore, 1) := by decide +kernel
theorem dL_comes_143 : decode cL_comes 143 = .ok (.aload_n 3, 1) := by decide +kernel
theorem dL_comes_144 : decode cL_comes 144 = .ok (.iconst 4, 1) := by decide +kernel
theorem dL_comes_145 : decode cL_comes 145 = .ok (.iload_n 0, 1) := by decide +kernel
theorem dL_comes_146 : decode cL_comes 146 = .ok (.imul, 1) := by decide +kernel
theorem dL_comes_147 : decode cL_comes 147 = .ok (.iload 10, 2) := by decide +kernel
theorem dL_comes_149 : decode cL_comes 149 = .ok (.iadd, 1) := by decide +kernel
theorem dL_comes_150 : decode cL_comes 150 = .ok (.iload 11, 2) := by decide +kernel
theorem dL_comes_152 : decode cL_comes 152 = .ok (.iastore, 1) := by decide +kernel
theorem dL_comes_153 : decode cL_comes 153 = .ok (.aload_n 1, 1) := by decide +kernel
theorem dL_comes_154 : decode cL_comes 154 = .ok (.bipush 8, 2) := by decide +kernel
theorem dL_comes_156 : decode cL_comes 156 = .ok (.iload 8, 2) := by decide +kernel
theorem dL_comes_158 : decode cL_comes 158 = .ok (.imul, 1) := by decide +kernel
theorem dL_comes_159 : decode cL_comes 159 = .ok (.iconst 5, 1) := by decide +kernel
theorem dL_comes_160 : decode cL_comes 160 = .ok (.iadd, 1) := by decide +kernel
theorem dL_comes_161 : decode cL_comes 161 = .ok (.dup2, 1) := by decide +kernel
theorem dL_comes_162 : decode cL_comes 162 = .ok (.iaload, 1) := by decide +kernel
theorem dL_comes_163 : decode cL_comes 163 = .ok (.iload 11, 2) := by decide +kernel
theorem dL_comes_165 : decode cL_comes 165 = .ok (.isub, 1) := by decide +kernel
theorem dL_comes_166 : decode cL_comes 166 = .ok (.iastore, 1) := by decide +kernel
theorem dL_comes_167 : decode cL_comes 167 = .ok (.iinc 10 1, 3) := by decide +kernel
theorem dL_comes_170 : decode cL_comes 170 = .ok (.goto (-148), 3) := by decide +kernel
theorem dL_comes_173 : decode cL_comes 173 = .ok (.return_, 1) := by decide +kernel
theorem dL_shares_0 : decode cL_shares 0 = .ok (.aload_n 2, 1) := by decide +kernel
theorem dL_shares_1 : decode cL_shares 1 = .ok (.bipush 8, 2) := by decide +kernel
theorem dL_shares_3 : decode cL_shares 3 = .ok (.iload_n 0, 1) := by decide +kernel
theorem dL_shares_4 : decode cL_shares 4 = .ok (.imul, 1) := by decide +kernel
theorem dL_shares_5 : decode cL_shares 5 = .ok (.iconst 2, 1) := by decide +kernel
theorem dL_shares_6 : decode cL_shares 6 = .ok (.iadd, 1) := by decide +kernel
theorem dL_shares_7 : decode cL_shares 7 = .ok (.iaload, 1) := by decide +kernel
theorem dL_shares_8 : decode cL_shares 8 = .ok (.aload_n 2, 1) := by decide +kernel
theorem dL_shares_9 : decode cL_shares 9 = .ok (.bipush 8, 2) := by decide +kernel
theorem dL_shares_11 : decode cL_shares 11 = .ok (.iload_n 1, 1) := by decide +kernel
theorem dL_shares_12 : decode cL_shares 12 = .ok (.imul, 1) := by decide +kernel
theorem dL_shares_13 : decode cL_shares 13 = .ok (.iconst 2, 1) := by decide +kernel
theorem dL_shares_14 : decode cL_shares 14 = .ok (.iadd, 1) := by decide +kernel
theorem dL_shares_15 : decode cL_shares 15 = .ok (.iaload, 1) := by decide +kernel
theorem dL_shares_16 : decode cL_shares 16 = .ok (.if_icmp .eq 60, 3) := by decide +kernel
theorem dL_shares_19 : decode cL_shares 19 = .ok (.aload_n 2, 1) := by decide +kernel
theorem dL_shares_20 : decode cL_shares 20 = .ok (.bipush 8, 2) := by decide +kernel
theorem dL_shares_22 : decode cL_shares 22 = .ok (.iload_n 0, 1) := by decide +kernel
theorem dL_shares_23 : decode cL_shares 23 = .ok (.imul, 1) := by decide +kernel
theorem dL_shares_24 : decode cL_shares 24 = .ok (.iconst 2, 1) := by decide +kernel
theorem dL_shares_25 : decode cL_shares 25 = .ok (.iadd, 1) := by decide +kernel
theorem dL_shares_26 : decode cL_shares 26 = .ok (.iaload, 1) := by decide +kernel
theorem dL_shares_27 : decode cL_shares 27 = .ok (.aload_n 2, 1) := by decide +kernel
theorem dL_shares_28 : decode cL_shares 28 = .ok (.bipush 8, 2) := by decide +kernel
theorem dL_shares_30 : decode cL_shares 30 = .ok (.iload_n 1, 1) := by decide +kernel
theorem dL_shares_31 : decode cL_shares 31 = .ok (.imul, 1) := by decide +kernel
theorem dL_shares_32 : decode cL_shares 32 = .ok (.iconst 3, 1) := by decide +kernel
theorem dL_shares_33 : decode cL_shares 33 = .ok (.iadd, 1) := by decide +kernel
theorem dL_shares_34 : decode cL_shares 34 = .ok (.iaload, 1) := by decide +kernel
theorem dL_shares_35 : decode cL_shares 35 = .ok (.if_icmp .eq 41, 3) := by decide +kernel
theorem dL_shares_38 : decode cL_shares 38 = .ok (.aload_n 2, 1) := by decide +kernel
theorem dL_shares_39 : decode cL_shares 39 = .ok (.bipush 8, 2) := by decide +kernel
theorem dL_shares_41 : decode cL_shares 41 = .ok (.iload_n 0, 1) := by decide +kernel
theorem dL_shares_42 : decode cL_shares 42 = .ok (.imul, 1) := by decide +kernel
theorem dL_shares_43 : decode cL_shares 43 = .ok (.iconst 3, 1) := by decide +kernel
theorem dL_shares_44 : decode cL_shares 44 = .ok (.iadd, 1) := by decide +kernel
theorem dL_shares_45 : decode cL_shares 45 = .ok (.iaload, 1) := by decide +kernel
theorem dL_shares_46 : decode cL_shares 46 = .ok (.aload_n 2, 1) := by decide +kernel
theorem dL_shares_47 : decode cL_shares 47 = .ok (.bipush 8, 2) := by decide +kernel
theorem dL_shares_49 : decode cL_shares 49 = .ok (.iload_n 1, 1) := by decide +kernel
theorem dL_shares_50 : decode cL_shares 50 = .ok (.imul, 1) := by decide +kernel
theorem dL_shares_51 : decode cL_shares 51 = .ok (.iconst 2, 1) := by decide +kernel
theorem dL_shares_52 : decode cL_shares 52 = .ok (.iadd, 1) := by decide +kernel
theorem dL_shares_53 : decode cL_shares 53 = .ok (.iaload, 1) := by decide +kernel
theorem dL_shares_54 : decode cL_shares 54 = .ok (.if_icmp .eq 22, 3) := by decide +kernel
theorem dL_shares_57 : decode cL_shares 57 = .ok (.aload_n 2, 1) := by decide +kernel
theorem dL_shares_58 : decode cL_shares 58 = .ok (.bipush 8, 2) := by decide +kernel
theorem dL_shares_60 : decode cL_shares 60 = .ok (.iload_n 0, 1) := by decide +kernel
theorem dL_shares_61 : decode cL_shares 61 = .ok (.imul, 1) := by decide +kernel
theorem dL_shares_62 : decode cL_shares 62 = .ok (.iconst 3, 1) := by decide +kernel
theorem dL_shares_63 : decode cL_shares 63 = .ok (.iadd, 1) := by decide +kernel
theorem dL_shares_64 : decode cL_shares 64 = .ok (.iaload, 1) := by decide +kernel
theorem dL_shares_65 : decode cL_shares 65 = .ok (.aload_n 2, 1) := by decide +kernel
theorem dL_shares_66 : decode cL_shares 66 = .ok (.bipush 8, 2) := by decide +kernel
theorem dL_shares_68 : decode cL_shares 68 = .ok (.iload_n 1, 1) := by decide +kernel
theorem dL_shares_69 : decode cL_shares 69 = .ok (.imul, 1) := by decide +kernel
theorem dL_shares_70 : decode cL_shares 70 = .ok (.iconst 3, 1) := by decide +kernel
theorem dL_shares_71 : decode cL_shares 71 = .ok (.iadd, 1) := by decide +kernel
theorem dL_shares_72 : decode cL_shares 72 = .ok (.iaload, 1) := by decide +kernel
theorem dL_shares_73 : decode cL_shares 73 = .ok (.if_icmp .ne 7, 3) := by decide +kernel
theorem dL_shares_76 : decode cL_shares 76 = .ok (.iconst 1, 1) := by decide +kernel
theorem dL_shares_77 : decode cL_shares 77 = .ok (.goto 4, 3) := by decide +kernel
theorem dL_shares_80 : decode cL_shares 80 = .ok (.iconst 0, 1) := by decide +kernel
theorem dL_shares_81 : decode cL_shares 81 = .ok (.ireturn, 1) := by decide +kernel
theorem dL_clash_0 : decode cL_clash 0 = .ok (.iconst 0, 1) := by decide +kernel
theorem dL_clash_1 : decode cL_clash 1 = .ok (.istore 9, 2) := by decide +kernel
theorem dL_clash_3 : decode cL_clash 3 = .ok (.iconst 0, 1) := by decide +kernel
theorem dL_clash_4 : decode cL_clash 4 = .ok (.istore 10, 2) := by decide +kernel
theorem dL_clash_6 : decode cL_clash 6 = .ok (.iload 10, 2) := by decide +kernel
theorem dL_clash_8 : decode cL_clash 8 = .ok (.aload 8, 2) := by decide +kernel
theorem dL_clash_10 : decode cL_clash 10 = .ok (.iconst 1, 1) := by decide +kernel
theorem dL_clash_11 : decode cL_clash 11 = .ok (.iaload, 1) := by decide +kernel
theorem dL_clash_12 : decode cL_clash 12 = .ok (.if_icmp .ge 210, 3) := by decide +kernel
theorem dL_clash_15 : decode cL_clash 15 = .ok (.iload_n 3, 1) := by decide +kernel
theorem dL_clash_16 : decode cL_clash 16 = .ok (.istore 11, 2) := by decide +kernel
theorem dL_clash_18 : decode cL_clash 18 = .ok (.iload 11, 2) := by decide +kernel
theorem dL_clash_20 : decode cL_clash 20 = .ok (.iload_n 3, 1) := by decide +kernel
theorem dL_clash_21 : decode cL_clash 21 = .ok (.iload 4, 2) := by decide +kernel
theorem dL_clash_23 : decode cL_clash 23 = .ok (.iadd, 1) := by decide +kernel
theorem dL_clash_24 : decode cL_clash 24 = .ok (.if_icmp .ge 192, 3) := by decide +kernel
theorem dL_clash_27 : decode cL_clash 27 = .ok (.iload 10, 2) := by decide +kernel
theorem dL_clash_29 : decode cL_clash 29 = .ok (.iload 5, 2) := by decide +kernel
theorem dL_clash_31 : decode cL_clash 31 = .ok (.if_icmp .eq 179, 3) := by decide +kernel
theorem dL_clash_34 : decode cL_clash 34 = .ok (.aload 7, 2) := by decide +kernel
theorem dL_clash_36 : decode cL_clash 36 = .ok (.iconst 4, 1) := by decide +kernel
theorem dL_clash_37 : decode cL_clash 37 = .ok (.iload 10, 2) := by decide +kernel
theorem dL_clash_39 : decode cL_clash 39 = .ok (.imul, 1) := by decide +kernel
theorem dL_clash_40 : decode cL_clash 40 = .ok (.iaload, 1) := by decide +kernel
theorem dL_clash_41 : decode cL_clash 41 = .ok (.ifCond .ne 169, 3) := by decide +kernel
theorem dL_clash_44 : decode cL_clash 44 = .ok (.aload 7, 2) := by decide +kernel
theorem dL_clash_46 : decode cL_clash 46 = .ok (.iconst 4, 1) := by decide +kernel
theorem dL_clash_47 : decode cL_clash 47 = .ok (.iload 10, 2) := by decide +kernel
theorem dL_clash_49 : decode cL_clash 49 = .ok (.imul, 1) := by decide +kernel
theorem dL_clash_50 : decode cL_clash 50 = .ok (.iconst 2, 1) := by decide +kernel
theorem dL_clash_51 : decode cL_clash 51 = .ok (.iadd, 1) := by decide +kernel
theorem dL_clash_52 : decode cL_clash 52 = .ok (.iaload, 1) := by decide +kernel
theorem dL_clash_53 : decode cL_clash 53 = .ok (.iload 11, 2) := by decide +kernel
theorem dL_clash_55 : decode cL_clash 55 = .ok (.if_icmp .gt 155, 3) := by decide +kernel
theorem dL_clash_58 : decode cL_clash 58 = .ok (.iload 11, 2) := by decide +kernel
theorem dL_clash_60 : decode cL_clash 60 = .ok (.aload 7, 2) := by decide +kernel
theorem dL_clash_62 : decode cL_clash 62 = .ok (.iconst 4, 1) := by decide +kernel
theorem dL_clash_63 : decode cL_clash 63 = .ok (.iload 10, 2) := by decide +kernel
theorem dL_clash_65 : decode cL_clash 65 = .ok (.imul, 1) := by decide +kernel
theorem dL_clash_66 : decode cL_clash 66 = .ok (.iconst 2, 1) := by decide +kernel
theorem dL_clash_67 : decode cL_clash 67 = .ok (.iadd, 1) := by decide +kernel
theorem dL_clash_68 : decode cL_clash 68 = .ok (.iaload, 1) := by decide +kernel
theorem dL_clash_69 : decode cL_clash 69 = .ok (.aload 7, 2) := by decide +kernel
theorem dL_clash_71 : decode cL_clash 71 = .ok (.iconst 4, 1) := by decide +kernel
theorem dL_clash_72 : decode cL_clash 72 = .ok (.iload 10, 2) := by decide +kernel
theorem dL_clash_74 : decode cL_clash 74 = .ok (.imul, 1) := by decide +kernel
theorem dL_clash_75 : decode cL_clash 75 = .ok (.iconst 3, 1) := by decide +kernel
theorem dL_clash_76 : decode cL_clash 76 = .ok (.iadd, 1) := by decide +kernel
theorem dL_clash_77 : decode cL_clash 77 = .ok (.iaload, 1) := by decide +kernel
theorem dL_clash_78 : decode cL_clash 78 = .ok (.bipush 16, 2) := by decide +kernel
theorem dL_clash_80 : decode cL_clash 80 = .ok (.irem, 1) := by decide +kernel
theorem dL_clash_81 : decode cL_clash 81 = .ok (.iadd, 1) := by decide +kernel
theorem dL_clash_82 : decode cL_clash 82 = .ok (.if_icmp .ge 128, 3) := by decide +kernel
theorem dL_clash_85 : decode cL_clash 85 = .ok (.aload 7, 2) := by decide +kernel
theorem dL_clash_87 : decode cL_clash 87 = .ok (.iconst 4, 1) := by decide +kernel
theorem dL_clash_88 : decode cL_clash 88 = .ok (.iload 10, 2) := by decide +kernel
theorem dL_clash_90 : decode cL_clash 90 = .ok (.imul, 1) := by decide +kernel
theorem dL_clash_91 : decode cL_clash 91 = .ok (.iconst 1, 1) := by decide +kernel
theorem dL_clash_92 : decode cL_clash 92 = .ok (.iadd, 1) := by decide +kernel
theorem dL_clash_93 : decode cL_clash 93 = .ok (.iaload, 1) := by decide +kernel
theorem dL_clash_94 : decode cL_clash 94 = .ok (.bipush 16, 2) := by decide +kernel
theorem dL_clash_96 : decode cL_clash 96 = .ok (.irem, 1) := by decide +kernel
theorem dL_clash_97 : decode cL_clash 97 = .ok (.istore 12, 2) := by decide +kernel
theorem dL_clash_99 : decode cL_clash 99 = .ok (.aload 7, 2) := by decide +kernel
theorem dL_clash_101 : decode cL_clash 101 = .ok (.iconst 4, 1) := by decide +kernel
theorem dL_clash_102 : decode cL_clash 102 = .ok (.iload 10, 2) := by decide +kernel
theorem dL_clash_104 : decode cL_clash 104 = .ok (.imul, 1) := by decide +kernel
theorem dL_clash_105 : decode cL_clash 105 = .ok (.iconst 1, 1) := by decide +kernel
theorem dL_clash_106 : decode cL_clash 106 = .ok (.iadd, 1) := by decide +kernel
theorem dL_clash_107 : decode cL_clash 107 = .ok (.iaload, 1) := by decide +kernel
theorem dL_clash_108 : decode cL_clash 108 = .ok (.bipush 16, 2) := by decide +kernel
theorem dL_clash_110 : decode cL_clash 110 = .ok (.idiv, 1) := by decide +kernel
theorem dL_clash_111 : decode cL_clash 111 = .ok (.iconst 4, 1) := by decide +kernel
theorem dL_clash_112 : decode cL_clash 112 = .ok (.irem, 1) := by decide +kernel
theorem dL_clash_113 : decode cL_clash 113 = .ok (.iload_n 1, 1) := by decide +kernel
theorem dL_clash_114 : decode cL_clash 114 = .ok (.if_icmp .ne 7, 3) := by decide +kernel
theorem dL_clash_117 : decode cL_clash 117 = .ok (.iconst 1, 1) := by decide +kernel
theorem dL_clash_118 : decode cL_clash 118 = .ok (.goto 64, 3) := by decide +kernel
theorem dL_clash_121 : decode cL_clash 121 = .ok (.aload 6, 2) := by decide +kernel
theorem dL_clash_123 : decode cL_clash 123 = .ok (.bipush 8, 2) := by decide +kernel
theorem dL_clash_125 : decode cL_clash 125 = .ok (.iload 12, 2) := by decide +kernel
theorem dL_clash_127 : decode cL_clash 127 = .ok (.imul, 1) := by decide +kernel
theorem dL_clash_128 : decode cL_clash 128 = .ok (.iconst 1, 1) := by decide +kernel
theorem dL_clash_129 : decode cL_clash 129 = .ok (.iadd, 1) := by decide +kernel
theorem dL_clash_130 : decode cL_clash 130 = .ok (.iaload, 1) := by decide +kernel
theorem dL_clash_131 : decode cL_clash 131 = .ok (.aload 6, 2) := by decide +kernel
theorem dL_clash_133 : decode cL_clash 133 = .ok (.bipush 8, 2) := by decide +kernel
theorem dL_clash_135 : decode cL_clash 135 = .ok (.iload_n 0, 1) := by decide +kernel
theorem dL_clash_136 : decode cL_clash 136 = .ok (.imul, 1) := by decide +kernel
theorem dL_clash_137 : decode cL_clash 137 = .ok (.iconst 1, 1) := by decide +kernel
theorem dL_clash_138 : decode cL_clash 138 = .ok (.iadd, 1) := by decide +kernel
theorem dL_clash_139 : decode cL_clash 139 = .ok (.iaload, 1) := by decide +kernel
theorem dL_clash_140 : decode cL_clash 140 = .ok (.if_icmp .ne 7, 3) := by decide +kernel
theorem dL_clash_143 : decode cL_clash 143 = .ok (.iconst 2, 1) := by decide +kernel
theorem dL_clash_144 : decode cL_clash 144 = .ok (.goto 38, 3) := by decide +kernel
theorem dL_clash_147 : decode cL_clash 147 = .ok (.iload_n 0, 1) := by decide +kernel
theorem dL_clash_148 : decode cL_clash 148 = .ok (.iload 12, 2) := by decide +kernel
theorem dL_clash_150 : decode cL_clash 150 = .ok (.aload 6, 2) := by decide +kernel
theorem dL_clash_152 : decode cL_clash 152 = .ok (.invokestatic 61, 3) := by decide +kernel
theorem dL_clash_155 : decode cL_clash 155 = .ok (.ifCond .eq 7, 3) := by decide +kernel
theorem dL_clash_158 : decode cL_clash 158 = .ok (.iconst 3, 1) := by decide +kernel
theorem dL_clash_159 : decode cL_clash 159 = .ok (.goto 23, 3) := by decide +kernel
theorem dL_clash_162 : decode cL_clash 162 = .ok (.iload_n 2, 1) := by decide +kernel
theorem dL_clash_163 : decode cL_clash 163 = .ok (.ifCond .lt 18, 3) := by decide +kernel
theorem dL_clash_166 : decode cL_clash 166 = .ok (.iload 10, 2) := by decide +kernel
theorem dL_clash_168 : decode cL_clash 168 = .ok (.aload 7, 2) := by decide +kernel
theorem dL_clash_170 : decode cL_clash 170 = .ok (.invokestatic 47, 3) := by decide +kernel
theorem dL_clash_173 : decode cL_clash 173 = .ok (.iload_n 2, 1) := by decide +kernel
theorem dL_clash_174 : decode cL_clash 174 = .ok (.if_icmp .ne 7, 3) := by decide +kernel
theorem dL_clash_177 : decode cL_clash 177 = .ok (.iconst 4, 1) := by decide +kernel
theorem dL_clash_178 : decode cL_clash 178 = .ok (.goto 4, 3) := by decide +kernel
theorem dL_clash_181 : decode cL_clash 181 = .ok (.iconst 0, 1) := by decide +kernel
theorem dL_clash_182 : decode cL_clash 182 = .ok (.istore 13, 2) := by decide +kernel
theorem dL_clash_184 : decode cL_clash 184 = .ok (.iload 13, 2) := by decide +kernel
theorem dL_clash_186 : decode cL_clash 186 = .ok (.ifCond .le 20, 3) := by decide +kernel
theorem dL_clash_189 : decode cL_clash 189 = .ok (.iload 9, 2) := by decide +kernel
theorem dL_clash_191 : decode cL_clash 191 = .ok (.ifCond .eq 10, 3) := by decide +kernel
theorem dL_clash_194 : decode cL_clash 194 = .ok (.iload 13, 2) := by decide +kernel
theorem dL_clash_196 : decode cL_clash 196 = .ok (.iload 9, 2) := by decide +kernel
theorem dL_clash_198 : decode cL_clash 198 = .ok (.if_icmp .ge 8, 3) := by decide +kernel
theorem dL_clash_201 : decode cL_clash 201 = .ok (.iload 13, 2) := by decide +kernel
theorem dL_clash_203 : decode cL_clash 203 = .ok (.goto 5, 3) := by decide +kernel
theorem dL_clash_206 : decode cL_clash 206 = .ok (.iload 9, 2) := by decide +kernel
theorem dL_clash_208 : decode cL_clash 208 = .ok (.istore 9, 2) := by decide +kernel
theorem dL_clash_210 : decode cL_clash 210 = .ok (.iinc 11 1, 3) := by decide +kernel
theorem dL_clash_213 : decode cL_clash 213 = .ok (.goto (-195), 3) := by decide +kernel
theorem dL_clash_216 : decode cL_clash 216 = .ok (.iinc 10 1, 3) := by decide +kernel
theorem dL_clash_219 : decode cL_clash 219 = .ok (.goto (-213), 3) := by decide +kernel
theorem dL_clash_222 : decode cL_clash 222 = .ok (.iload 9, 2) := by decide +kernel
theorem dL_clash_224 : decode cL_clash 224 = .ok (.ireturn, 1) := by decide +kernel
theorem dL_fits_0 : decode cL_fits 0 = .ok (.aload_n 2, 1) := by decide +kernel
theorem dL_fits_1 : decode cL_fits 1 = .ok (.bipush 8, 2) := by decide +kernel
theorem dL_fits_3 : decode cL_fits 3 = .ok (.iload_n 0, 1) := by decide +kernel
theorem dL_fits_4 : decode cL_fits 4 = .ok (.imul, 1) := by decide +kernel
theorem dL_fits_5 : decode cL_fits 5 = .ok (.iconst 4, 1) := by decide +kernel
theorem dL_fits_6 : decode cL_fits 6 = .ok (.iadd, 1) := by decide +kernel
theorem dL_fits_7 : decode cL_fits 7 = .ok (.iaload, 1) := by decide +kernel
theorem dL_fits_8 : decode cL_fits 8 = .ok (.iconst 1, 1) := by decide +kernel
theorem dL_fits_9 : decode cL_fits 9 = .ok (.isub, 1) := by decide +kernel
theorem dL_fits_10 : decode cL_fits 10 = .ok (.istore 4, 2) := by decide +kernel
theorem dL_fits_12 : decode cL_fits 12 = .ok (.iload 4, 2) := by decide +kernel
theorem dL_fits_14 : decode cL_fits 14 = .ok (.ifCond .ge 15, 3) := by decide +kernel
theorem dL_fits_17 : decode cL_fits 17 = .ok (.iload_n 1, 1) := by decide +kernel
theorem dL_fits_18 : decode cL_fits 18 = .ok (.ifCond .ge 7, 3) := by decide +kernel
theorem dL_fits_21 : decode cL_fits 21 = .ok (.iconst 1, 1) := by decide +kernel
theorem dL_fits_22 : decode cL_fits 22 = .ok (.goto 28, 3) := by decide +kernel
theorem dL_fits_25 : decode cL_fits 25 = .ok (.iconst 0, 1) := by decide +kernel
theorem dL_fits_26 : decode cL_fits 26 = .ok (.goto 24, 3) := by decide +kernel
theorem dL_fits_29 : decode cL_fits 29 = .ok (.iload_n 1, 1) := by decide +kernel
theorem dL_fits_30 : decode cL_fits 30 = .ok (.ifCond .lt 19, 3) := by decide +kernel
theorem dL_fits_33 : decode cL_fits 33 = .ok (.aload_n 3, 1) := by decide +kernel
theorem dL_fits_34 : decode cL_fits 34 = .ok (.iload_n 1, 1) := by decide +kernel
theorem dL_fits_35 : decode cL_fits 35 = .ok (.iaload, 1) := by decide +kernel
theorem dL_fits_36 : decode cL_fits 36 = .ok (.iload 4, 2) := by decide +kernel
theorem dL_fits_38 : decode cL_fits 38 = .ok (.ishr, 1) := by decide +kernel
theorem dL_fits_39 : decode cL_fits 39 = .ok (.iconst 1, 1) := by decide +kernel
theorem dL_fits_40 : decode cL_fits 40 = .ok (.iand, 1) := by decide +kernel
theorem dL_fits_41 : decode cL_fits 41 = .ok (.iconst 1, 1) := by decide +kernel
theorem dL_fits_42 : decode cL_fits 42 = .ok (.if_icmp .ne 7, 3) := by decide +kernel
theorem dL_fits_45 : decode cL_fits 45 = .ok (.iconst 1, 1) := by decide +kernel
theorem dL_fits_46 : decode cL_fits 46 = .ok (.goto 4, 3) := by decide +kernel
theorem dL_fits_49 : decode cL_fits 49 = .ok (.iconst 0, 1) := by decide +kernel
theorem dL_fits_50 : decode cL_fits 50 = .ok (.ireturn, 1) := by decide +kernel
theorem dL_hour_0 : decode cL_hour 0 = .ok (.iconst 0, 1) := by decide +kernel
theorem dL_hour_1 : decode cL_hour 1 = .ok (.istore_n 3, 1) := by decide +kernel
theorem dL_hour_2 : decode cL_hour 2 = .ok (.iconst 0, 1) := by decide +kernel
theorem dL_hour_3 : decode cL_hour 3 = .ok (.istore 4, 2) := by decide +kernel
theorem dL_hour_5 : decode cL_hour 5 = .ok (.iload 4, 2) := by decide +kernel
theorem dL_hour_7 : decode cL_hour 7 = .ok (.aload_n 2, 1) := by decide +kernel
theorem dL_hour_8 : decode cL_hour 8 = .ok (.iconst 0, 1) := by decide +kernel
theorem dL_hour_9 : decode cL_hour 9 = .ok (.iaload, 1) := by decide +kernel
theorem dL_hour_10 : decode cL_hour 10 = .ok (.if_icmp .ge 38, 3) := by decide +kernel
theorem dL_hour_13 : decode cL_hour 13 = .ok (.aload_n 0, 1) := by decide +kernel
theorem dL_hour_14 : decode cL_hour 14 = .ok (.bipush 8, 2) := by decide +kernel
theorem dL_hour_16 : decode cL_hour 16 = .ok (.iload 4, 2) := by decide +kernel
theorem dL_hour_18 : decode cL_hour 18 = .ok (.imul, 1) := by decide +kernel
theorem dL_hour_19 : decode cL_hour 19 = .ok (.bipush 6, 2) := by decide +kernel
theorem dL_hour_21 : decode cL_hour 21 = .ok (.iadd, 1) := by decide +kernel
theorem dL_hour_22 : decode cL_hour 22 = .ok (.dup2, 1) := by decide +kernel
theorem dL_hour_23 : decode cL_hour 23 = .ok (.iaload, 1) := by decide +kernel
theorem dL_hour_24 : decode cL_hour 24 = .ok (.aload_n 0, 1) := by decide +kernel
theorem dL_hour_25 : decode cL_hour 25 = .ok (.bipush 8, 2) := by decide +kernel
theorem dL_hour_27 : decode cL_hour 27 = .ok (.iload 4, 2) := by decide +kernel
theorem dL_hour_29 : decode cL_hour 29 = .ok (.imul, 1) := by decide +kernel
theorem dL_hour_30 : decode cL_hour 30 = .ok (.iaload, 1) := by decide +kernel
theorem dL_hour_31 : decode cL_hour 31 = .ok (.iconst 3, 1) := by decide +kernel
theorem dL_hour_32 : decode cL_hour 32 = .ok (.if_icmp .ne 7, 3) := by decide +kernel
theorem dL_hour_35 : decode cL_hour 35 = .ok (.iconst 1, 1) := by decide +kernel
theorem dL_hour_36 : decode cL_hour 36 = .ok (.goto 4, 3) := by decide +kernel
theorem dL_hour_39 : decode cL_hour 39 = .ok (.iconst 0, 1) := by decide +kernel
theorem dL_hour_40 : decode cL_hour 40 = .ok (.iadd, 1) := by decide +kernel
theorem dL_hour_41 : decode cL_hour 41 = .ok (.iastore, 1) := by decide +kernel
theorem dL_hour_42 : decode cL_hour 42 = .ok (.iinc 4 1, 3) := by decide +kernel
theorem dL_hour_45 : decode cL_hour 45 = .ok (.goto (-40), 3) := by decide +kernel
theorem dL_hour_48 : decode cL_hour 48 = .ok (.aload_n 2, 1) := by decide +kernel
theorem dL_hour_49 : decode cL_hour 49 = .ok (.iconst 2, 1) := by decide +kernel
theorem dL_hour_50 : decode cL_hour 50 = .ok (.dup2, 1) := by decide +kernel
theorem dL_hour_51 : decode cL_hour 51 = .ok (.iaload, 1) := by decide +kernel
theorem dL_hour_52 : decode cL_hour 52 = .ok (.iconst 1, 1) := by decide +kernel
theorem dL_hour_53 : decode cL_hour 53 = .ok (.iadd, 1) := by decide +kernel
theorem dL_hour_54 : decode cL_hour 54 = .ok (.iastore, 1) := by decide +kernel
theorem dL_hour_55 : decode cL_hour 55 = .ok (.iconst 0, 1) := by decide +kernel
theorem dL_hour_56 : decode cL_hour 56 = .ok (.istore 4, 2) := by decide +kernel
theorem dL_hour_58 : decode cL_hour 58 = .ok (.iload 4, 2) := by decide +kernel
theorem dL_hour_60 : decode cL_hour 60 = .ok (.aload_n 2, 1) := by decide +kernel
theorem dL_hour_61 : decode cL_hour 61 = .ok (.iconst 1, 1) := by decide +kernel
theorem dL_hour_62 : decode cL_hour 62 = .ok (.iaload, 1) := by decide +kernel
theorem dL_hour_63 : decode cL_hour 63 = .ok (.if_icmp .ge 142, 3) := by decide +kernel
theorem dL_hour_66 : decode cL_hour 66 = .ok (.aload_n 1, 1) := by decide +kernel
theorem dL_hour_67 : decode cL_hour 67 = .ok (.iconst 4, 1) := by decide +kernel
theorem dL_hour_68 : decode cL_hour 68 = .ok (.iload 4, 2) := by decide +kernel
theorem dL_hour_70 : decode cL_hour 70 = .ok (.imul, 1) := by decide +kernel
theorem dL_hour_71 : decode cL_hour 71 = .ok (.iconst 1, 1) := by decide +kernel
theorem dL_hour_72 : decode cL_hour 72 = .ok (.iadd, 1) := by decide +kernel
theorem dL_hour_73 : decode cL_hour 73 = .ok (.iaload, 1) := by decide +kernel
theorem dL_hour_74 : decode cL_hour 74 = .ok (.bipush 16, 2) := by decide +kernel
theorem dL_hour_76 : decode cL_hour 76 = .ok (.irem, 1) := by decide +kernel
theorem dL_hour_77 : decode cL_hour 77 = .ok (.istore 5, 2) := by decide +kernel
theorem dL_hour_79 : decode cL_hour 79 = .ok (.aload_n 1, 1) := by decide +kernel
theorem dL_hour_80 : decode cL_hour 80 = .ok (.iconst 4, 1) := by decide +kernel
theorem dL_hour_81 : decode cL_hour 81 = .ok (.iload 4, 2) := by decide +kernel
theorem dL_hour_83 : decode cL_hour 83 = .ok (.imul, 1) := by decide +kernel
theorem dL_hour_84 : decode cL_hour 84 = .ok (.iaload, 1) := by decide +kernel
theorem dL_hour_85 : decode cL_hour 85 = .ok (.ifCond .ne 114, 3) := by decide +kernel
theorem dL_hour_88 : decode cL_hour 88 = .ok (.aload_n 1, 1) := by decide +kernel
theorem dL_hour_89 : decode cL_hour 89 = .ok (.iconst 4, 1) := by decide +kernel
theorem dL_hour_90 : decode cL_hour 90 = .ok (.iload 4, 2) := by decide +kernel
theorem dL_hour_92 : decode cL_hour 92 = .ok (.imul, 1) := by decide +kernel
theorem dL_hour_93 : decode cL_hour 93 = .ok (.iconst 2, 1) := by decide +kernel
theorem dL_hour_94 : decode cL_hour 94 = .ok (.iadd, 1) := by decide +kernel
theorem dL_hour_95 : decode cL_hour 95 = .ok (.iaload, 1) := by decide +kernel
theorem dL_hour_96 : decode cL_hour 96 = .ok (.aload_n 1, 1) := by decide +kernel
theorem dL_hour_97 : decode cL_hour 97 = .ok (.iconst 4, 1) := by decide +kernel
theorem dL_hour_98 : decode cL_hour 98 = .ok (.iload 4, 2) := by decide +kernel
theorem dL_hour_100 : decode cL_hour 100 = .ok (.imul, 1) := by decide +kernel
theorem dL_hour_101 : decode cL_hour 101 = .ok (.iconst 3, 1) := by decide +kernel
theorem dL_hour_102 : decode cL_hour 102 = .ok (.iadd, 1) := by decide +kernel
theorem dL_hour_103 : decode cL_hour 103 = .ok (.iaload, 1) := by decide +kernel
theorem dL_hour_104 : decode cL_hour 104 = .ok (.bipush 16, 2) := by decide +kernel
theorem dL_hour_106 : decode cL_hour 106 = .ok (.irem, 1) := by decide +kernel
theorem dL_hour_107 : decode cL_hour 107 = .ok (.iadd, 1) := by decide +kernel
theorem dL_hour_108 : decode cL_hour 108 = .ok (.aload_n 2, 1) := by decide +kernel
theorem dL_hour_109 : decode cL_hour 109 = .ok (.iconst 2, 1) := by decide +kernel
theorem dL_hour_110 : decode cL_hour 110 = .ok (.iaload, 1) := by decide +kernel
theorem dL_hour_111 : decode cL_hour 111 = .ok (.if_icmp .ne 88, 3) := by decide +kernel
theorem dL_hour_114 : decode cL_hour 114 = .ok (.aload_n 0, 1) := by decide +kernel
theorem dL_hour_115 : decode cL_hour 115 = .ok (.bipush 8, 2) := by decide +kernel
theorem dL_hour_117 : decode cL_hour 117 = .ok (.iload 5, 2) := by decide +kernel
theorem dL_hour_119 : decode cL_hour 119 = .ok (.imul, 1) := by decide +kernel
theorem dL_hour_120 : decode cL_hour 120 = .ok (.iaload, 1) := by decide +kernel
theorem dL_hour_121 : decode cL_hour 121 = .ok (.iconst 2, 1) := by decide +kernel
theorem dL_hour_122 : decode cL_hour 122 = .ok (.if_icmp .ge 22, 3) := by decide +kernel
theorem dL_hour_125 : decode cL_hour 125 = .ok (.aload_n 1, 1) := by decide +kernel
theorem dL_hour_126 : decode cL_hour 126 = .ok (.iconst 4, 1) := by decide +kernel
theorem dL_hour_127 : decode cL_hour 127 = .ok (.iload 4, 2) := by decide +kernel
theorem dL_hour_129 : decode cL_hour 129 = .ok (.imul, 1) := by decide +kernel
theorem dL_hour_130 : decode cL_hour 130 = .ok (.iconst 3, 1) := by decide +kernel
theorem dL_hour_131 : decode cL_hour 131 = .ok (.iadd, 1) := by decide +kernel
theorem dL_hour_132 : decode cL_hour 132 = .ok (.iaload, 1) := by decide +kernel
theorem dL_hour_133 : decode cL_hour 133 = .ok (.bipush 16, 2) := by decide +kernel
theorem dL_hour_135 : decode cL_hour 135 = .ok (.idiv, 1) := by decide +kernel
theorem dL_hour_136 : decode cL_hour 136 = .ok (.iconst 3, 1) := by decide +kernel
theorem dL_hour_137 : decode cL_hour 137 = .ok (.if_icmp .ne 7, 3) := by decide +kernel
theorem dL_hour_140 : decode cL_hour 140 = .ok (.iconst 1, 1) := by decide +kernel
theorem dL_hour_141 : decode cL_hour 141 = .ok (.goto 4, 3) := by decide +kernel
theorem dL_hour_144 : decode cL_hour 144 = .ok (.iconst 0, 1) := by decide +kernel
theorem dL_hour_145 : decode cL_hour 145 = .ok (.istore 6, 2) := by decide +kernel
theorem dL_hour_147 : decode cL_hour 147 = .ok (.aload_n 1, 1) := by decide +kernel
theorem dL_hour_148 : decode cL_hour 148 = .ok (.iconst 4, 1) := by decide +kernel
theorem dL_hour_149 : decode cL_hour 149 = .ok (.iload 4, 2) := by decide +kernel
theorem dL_hour_151 : decode cL_hour 151 = .ok (.imul, 1) := by decide +kernel
theorem dL_hour_152 : decode cL_hour 152 = .ok (.iload 6, 2) := by decide +kernel
theorem dL_hour_154 : decode cL_hour 154 = .ok (.ifCond .eq 7, 3) := by decide +kernel
theorem dL_hour_157 : decode cL_hour 157 = .ok (.iconst 1, 1) := by decide +kernel
theorem dL_hour_158 : decode cL_hour 158 = .ok (.goto 4, 3) := by decide +kernel
theorem dL_hour_161 : decode cL_hour 161 = .ok (.iconst 2, 1) := by decide +kernel
theorem dL_hour_162 : decode cL_hour 162 = .ok (.iastore, 1) := by decide +kernel
theorem dL_hour_163 : decode cL_hour 163 = .ok (.aload_n 0, 1) := by decide +kernel
theorem dL_hour_164 : decode cL_hour 164 = .ok (.bipush 8, 2) := by decide +kernel
theorem dL_hour_166 : decode cL_hour 166 = .ok (.iload 5, 2) := by decide +kernel
theorem dL_hour_168 : decode cL_hour 168 = .ok (.imul, 1) := by decide +kernel
theorem dL_hour_169 : decode cL_hour 169 = .ok (.iload 6, 2) := by decide +kernel
theorem dL_hour_171 : decode cL_hour 171 = .ok (.ifCond .eq 7, 3) := by decide +kernel
theorem dL_hour_174 : decode cL_hour 174 = .ok (.iconst 1, 1) := by decide +kernel
theorem dL_hour_175 : decode cL_hour 175 = .ok (.goto 10, 3) := by decide +kernel
theorem dL_hour_178 : decode cL_hour 178 = .ok (.aload_n 0, 1) := by decide +kernel
theorem dL_hour_179 : decode cL_hour 179 = .ok (.bipush 8, 2) := by decide +kernel
theorem dL_hour_181 : decode cL_hour 181 = .ok (.iload 5, 2) := by decide +kernel
theorem dL_hour_183 : decode cL_hour 183 = .ok (.imul, 1) := by decide +kernel
theorem dL_hour_184 : decode cL_hour 184 = .ok (.iaload, 1) := by decide +kernel
theorem dL_hour_185 : decode cL_hour 185 = .ok (.iastore, 1) := by decide +kernel
theorem dL_hour_186 : decode cL_hour 186 = .ok (.iload_n 3, 1) := by decide +kernel
theorem dL_hour_187 : decode cL_hour 187 = .ok (.iload 6, 2) := by decide +kernel
theorem dL_hour_189 : decode cL_hour 189 = .ok (.ifCond .eq 7, 3) := by decide +kernel
theorem dL_hour_192 : decode cL_hour 192 = .ok (.iconst 1, 1) := by decide +kernel
theorem dL_hour_193 : decode cL_hour 193 = .ok (.goto 4, 3) := by decide +kernel
theorem dL_hour_196 : decode cL_hour 196 = .ok (.iconst 0, 1) := by decide +kernel
theorem dL_hour_197 : decode cL_hour 197 = .ok (.iadd, 1) := by decide +kernel
theorem dL_hour_198 : decode cL_hour 198 = .ok (.istore_n 3, 1) := by decide +kernel
theorem dL_hour_199 : decode cL_hour 199 = .ok (.iinc 4 1, 3) := by decide +kernel
theorem dL_hour_202 : decode cL_hour 202 = .ok (.goto (-144), 3) := by decide +kernel
theorem dL_hour_205 : decode cL_hour 205 = .ok (.iconst 0, 1) := by decide +kernel
theorem dL_hour_206 : decode cL_hour 206 = .ok (.istore 4, 2) := by decide +kernel
theorem dL_hour_208 : decode cL_hour 208 = .ok (.iload 4, 2) := by decide +kernel
theorem dL_hour_210 : decode cL_hour 210 = .ok (.aload_n 2, 1) := by decide +kernel
theorem dL_hour_211 : decode cL_hour 211 = .ok (.iconst 0, 1) := by decide +kernel
theorem dL_hour_212 : decode cL_hour 212 = .ok (.iaload, 1) := by decide +kernel
theorem dL_hour_213 : decode cL_hour 213 = .ok (.if_icmp .ge 54, 3) := by decide +kernel
theorem dL_hour_216 : decode cL_hour 216 = .ok (.aload_n 0, 1) := by decide +kernel
theorem dL_hour_217 : decode cL_hour 217 = .ok (.bipush 8, 2) := by decide +kernel
theorem dL_hour_219 : decode cL_hour 219 = .ok (.iload 4, 2) := by decide +kernel
theorem dL_hour_221 : decode cL_hour 221 = .ok (.imul, 1) := by decide +kernel
theorem dL_hour_222 : decode cL_hour 222 = .ok (.aload_n 0, 1) := by decide +kernel
theorem dL_hour_223 : decode cL_hour 223 = .ok (.bipush 8, 2) := by decide +kernel
theorem dL_hour_225 : decode cL_hour 225 = .ok (.iload 4, 2) := by decide +kernel
theorem dL_hour_227 : decode cL_hour 227 = .ok (.imul, 1) := by decide +kernel
theorem dL_hour_228 : decode cL_hour 228 = .ok (.iaload, 1) := by decide +kernel
theorem dL_hour_229 : decode cL_hour 229 = .ok (.iconst 2, 1) := by decide +kernel
theorem dL_hour_230 : decode cL_hour 230 = .ok (.if_icmp .ge 23, 3) := by decide +kernel
theorem dL_hour_233 : decode cL_hour 233 = .ok (.aload_n 0, 1) := by decide +kernel
theorem dL_hour_234 : decode cL_hour 234 = .ok (.bipush 8, 2) := by decide +kernel
theorem dL_hour_236 : decode cL_hour 236 = .ok (.iload 4, 2) := by decide +kernel
theorem dL_hour_238 : decode cL_hour 238 = .ok (.imul, 1) := by decide +kernel
theorem dL_hour_239 : decode cL_hour 239 = .ok (.bipush 6, 2) := by decide +kernel
theorem dL_hour_241 : decode cL_hour 241 = .ok (.iadd, 1) := by decide +kernel
theorem dL_hour_242 : decode cL_hour 242 = .ok (.iaload, 1) := by decide +kernel
theorem dL_hour_243 : decode cL_hour 243 = .ok (.aload_n 2, 1) := by decide +kernel
theorem dL_hour_244 : decode cL_hour 244 = .ok (.iconst 2, 1) := by decide +kernel
theorem dL_hour_245 : decode cL_hour 245 = .ok (.iaload, 1) := by decide +kernel
theorem dL_hour_246 : decode cL_hour 246 = .ok (.if_icmp .gt 7, 3) := by decide +kernel
theorem dL_hour_249 : decode cL_hour 249 = .ok (.iconst 5, 1) := by decide +kernel
theorem dL_hour_250 : decode cL_hour 250 = .ok (.goto 10, 3) := by decide +kernel
theorem dL_hour_253 : decode cL_hour 253 = .ok (.aload_n 0, 1) := by decide +kernel
theorem dL_hour_254 : decode cL_hour 254 = .ok (.bipush 8, 2) := by decide +kernel
theorem dL_hour_256 : decode cL_hour 256 = .ok (.iload 4, 2) := by decide +kernel
theorem dL_hour_258 : decode cL_hour 258 = .ok (.imul, 1) := by decide +kernel
theorem dL_hour_259 : decode cL_hour 259 = .ok (.iaload, 1) := by decide +kernel
theorem dL_hour_260 : decode cL_hour 260 = .ok (.iastore, 1) := by decide +kernel
theorem dL_hour_261 : decode cL_hour 261 = .ok (.iinc 4 1, 3) := by decide +kernel
theorem dL_hour_264 : decode cL_hour 264 = .ok (.goto (-56), 3) := by decide +kernel
theorem dL_hour_267 : decode cL_hour 267 = .ok (.iload_n 3, 1) := by decide +kernel
theorem dL_hour_268 : decode cL_hour 268 = .ok (.ireturn, 1) := by decide +kernel
theorem dL_plans_0 : decode cL_plans 0 = .ok (.iload_n 2, 1) := by decide +kernel
theorem dL_plans_1 : decode cL_plans 1 = .ok (.iconst 4, 1) := by decide +kernel
theorem dL_plans_2 : decode cL_plans 2 = .ok (.invokestatic 65, 3) := by decide +kernel
theorem dL_plans_5 : decode cL_plans 5 = .ok (.istore 10, 2) := by decide +kernel
theorem dL_plans_7 : decode cL_plans 7 = .ok (.aload 9, 2) := by decide +kernel
theorem dL_plans_9 : decode cL_plans 9 = .ok (.iconst 2, 1) := by decide +kernel
theorem dL_plans_10 : decode cL_plans 10 = .ok (.iaload, 1) := by decide +kernel
theorem dL_plans_11 : decode cL_plans 11 = .ok (.iload_n 2, 1) := by decide +kernel
theorem dL_plans_12 : decode cL_plans 12 = .ok (.iconst 2, 1) := by decide +kernel
theorem dL_plans_13 : decode cL_plans 13 = .ok (.ishr, 1) := by decide +kernel
theorem dL_plans_14 : decode cL_plans 14 = .ok (.bipush 14, 2) := by decide +kernel
theorem dL_plans_16 : decode cL_plans 16 = .ok (.invokestatic 65, 3) := by decide +kernel
theorem dL_plans_19 : decode cL_plans 19 = .ok (.iadd, 1) := by decide +kernel
theorem dL_plans_20 : decode cL_plans 20 = .ok (.istore 11, 2) := by decide +kernel
theorem dL_plans_22 : decode cL_plans 22 = .ok (.iconst 1, 1) := by decide +kernel
theorem dL_plans_23 : decode cL_plans 23 = .ok (.iload_n 2, 1) := by decide +kernel
theorem dL_plans_24 : decode cL_plans 24 = .ok (.iconst 5, 1) := by decide +kernel
theorem dL_plans_25 : decode cL_plans 25 = .ok (.ishr, 1) := by decide +kernel
theorem dL_plans_26 : decode cL_plans 26 = .ok (.iconst 4, 1) := by decide +kernel
theorem dL_plans_27 : decode cL_plans 27 = .ok (.invokestatic 65, 3) := by decide +kernel
theorem dL_plans_30 : decode cL_plans 30 = .ok (.iadd, 1) := by decide +kernel
theorem dL_plans_31 : decode cL_plans 31 = .ok (.istore 12, 2) := by decide +kernel
theorem dL_plans_33 : decode cL_plans 33 = .ok (.iload_n 1, 1) := by decide +kernel
theorem dL_plans_34 : decode cL_plans 34 = .ok (.ifCond .ne 280, 3) := by decide +kernel
theorem dL_plans_37 : decode cL_plans 37 = .ok (.iload_n 2, 1) := by decide +kernel
theorem dL_plans_38 : decode cL_plans 38 = .ok (.bipush 7, 2) := by decide +kernel
theorem dL_plans_40 : decode cL_plans 40 = .ok (.ishr, 1) := by decide +kernel
theorem dL_plans_41 : decode cL_plans 41 = .ok (.aload 9, 2) := by decide +kernel
theorem dL_plans_43 : decode cL_plans 43 = .ok (.iconst 0, 1) := by decide +kernel
theorem dL_plans_44 : decode cL_plans 44 = .ok (.iaload, 1) := by decide +kernel
theorem dL_plans_45 : decode cL_plans 45 = .ok (.invokestatic 65, 3) := by decide +kernel
theorem dL_plans_48 : decode cL_plans 48 = .ok (.istore 13, 2) := by decide +kernel
theorem dL_plans_50 : decode cL_plans 50 = .ok (.aload_n 3, 1) := by decide +kernel
theorem dL_plans_51 : decode cL_plans 51 = .ok (.bipush 8, 2) := by decide +kernel
theorem dL_plans_53 : decode cL_plans 53 = .ok (.iload 13, 2) := by decide +kernel
theorem dL_plans_55 : decode cL_plans 55 = .ok (.imul, 1) := by decide +kernel
theorem dL_plans_56 : decode cL_plans 56 = .ok (.iconst 4, 1) := by decide +kernel
theorem dL_plans_57 : decode cL_plans 57 = .ok (.iadd, 1) := by decide +kernel
theorem dL_plans_58 : decode cL_plans 58 = .ok (.iaload, 1) := by decide +kernel
theorem dL_plans_59 : decode cL_plans 59 = .ok (.ifCond .ne 17, 3) := by decide +kernel
theorem dL_plans_62 : decode cL_plans 62 = .ok (.iload_n 2, 1) := by decide +kernel
theorem dL_plans_63 : decode cL_plans 63 = .ok (.bipush 9, 2) := by decide +kernel
theorem dL_plans_65 : decode cL_plans 65 = .ok (.ishr, 1) := by decide +kernel
theorem dL_plans_66 : decode cL_plans 66 = .ok (.bipush 9, 2) := by decide +kernel
theorem dL_plans_68 : decode cL_plans 68 = .ok (.invokestatic 65, 3) := by decide +kernel
theorem dL_plans_71 : decode cL_plans 71 = .ok (.iconst 1, 1) := by decide +kernel
theorem dL_plans_72 : decode cL_plans 72 = .ok (.isub, 1) := by decide +kernel
theorem dL_plans_73 : decode cL_plans 73 = .ok (.goto 13, 3) := by decide +kernel
theorem dL_plans_76 : decode cL_plans 76 = .ok (.iload_n 2, 1) := by decide +kernel
theorem dL_plans_77 : decode cL_plans 77 = .ok (.bipush 9, 2) := by decide +kernel
theorem dL_plans_79 : decode cL_plans 79 = .ok (.ishr, 1) := by decide +kernel
theorem dL_plans_80 : decode cL_plans 80 = .ok (.iconst 5, 1) := by decide +kernel
theorem dL_plans_81 : decode cL_plans 81 = .ok (.invokestatic 65, 3) := by decide +kernel
theorem dL_plans_84 : decode cL_plans 84 = .ok (.iconst 1, 1) := by decide +kernel
theorem dL_plans_85 : decode cL_plans 85 = .ok (.isub, 1) := by decide +kernel
theorem dL_plans_86 : decode cL_plans 86 = .ok (.istore 14, 2) := by decide +kernel
theorem dL_plans_88 : decode cL_plans 88 = .ok (.iload 14, 2) := by decide +kernel
theorem dL_plans_90 : decode cL_plans 90 = .ok (.iconst 3, 1) := by decide +kernel
theorem dL_plans_91 : decode cL_plans 91 = .ok (.if_icmp .le 7, 3) := by decide +kernel
theorem dL_plans_94 : decode cL_plans 94 = .ok (.iconst (-1), 1) := by decide +kernel
theorem dL_plans_95 : decode cL_plans 95 = .ok (.goto 5, 3) := by decide +kernel
theorem dL_plans_98 : decode cL_plans 98 = .ok (.iload 14, 2) := by decide +kernel
theorem dL_plans_100 : decode cL_plans 100 = .ok (.istore 14, 2) := by decide +kernel
theorem dL_plans_102 : decode cL_plans 102 = .ok (.aload 9, 2) := by decide +kernel
theorem dL_plans_104 : decode cL_plans 104 = .ok (.iconst 1, 1) := by decide +kernel
theorem dL_plans_105 : decode cL_plans 105 = .ok (.iaload, 1) := by decide +kernel
theorem dL_plans_106 : decode cL_plans 106 = .ok (.bipush 16, 2) := by decide +kernel
theorem dL_plans_108 : decode cL_plans 108 = .ok (.if_icmp .ne 5, 3) := by decide +kernel
theorem dL_plans_111 : decode cL_plans 111 = .ok (.iconst 1, 1) := by decide +kernel
theorem dL_plans_112 : decode cL_plans 112 = .ok (.ireturn, 1) := by decide +kernel
theorem dL_plans_113 : decode cL_plans 113 = .ok (.aload_n 3, 1) := by decide +kernel
theorem dL_plans_114 : decode cL_plans 114 = .ok (.bipush 8, 2) := by decide +kernel
theorem dL_plans_116 : decode cL_plans 116 = .ok (.iload 13, 2) := by decide +kernel
theorem dL_plans_118 : decode cL_plans 118 = .ok (.imul, 1) := by decide +kernel
theorem dL_plans_119 : decode cL_plans 119 = .ok (.iaload, 1) := by decide +kernel
theorem dL_plans_120 : decode cL_plans 120 = .ok (.iconst 2, 1) := by decide +kernel
theorem dL_plans_121 : decode cL_plans 121 = .ok (.if_icmp .ge 42, 3) := by decide +kernel
theorem dL_plans_124 : decode cL_plans 124 = .ok (.iload 13, 2) := by decide +kernel
theorem dL_plans_126 : decode cL_plans 126 = .ok (.iload 14, 2) := by decide +kernel
theorem dL_plans_128 : decode cL_plans 128 = .ok (.aload_n 3, 1) := by decide +kernel
theorem dL_plans_129 : decode cL_plans 129 = .ok (.aload 8, 2) := by decide +kernel
theorem dL_plans_131 : decode cL_plans 131 = .ok (.invokestatic 69, 3) := by decide +kernel
theorem dL_plans_134 : decode cL_plans 134 = .ok (.ifCond .eq 29, 3) := by decide +kernel
theorem dL_plans_137 : decode cL_plans 137 = .ok (.iload 13, 2) := by decide +kernel
theorem dL_plans_139 : decode cL_plans 139 = .ok (.iload 10, 2) := by decide +kernel
theorem dL_plans_141 : decode cL_plans 141 = .ok (.iload 14, 2) := by decide +kernel
theorem dL_plans_143 : decode cL_plans 143 = .ok (.iload 11, 2) := by decide +kernel
theorem dL_plans_145 : decode cL_plans 145 = .ok (.iload 12, 2) := by decide +kernel
theorem dL_plans_147 : decode cL_plans 147 = .ok (.iconst (-1), 1) := by decide +kernel
theorem dL_plans_148 : decode cL_plans 148 = .ok (.aload_n 3, 1) := by decide +kernel
theorem dL_plans_149 : decode cL_plans 149 = .ok (.aload 4, 2) := by decide +kernel
theorem dL_plans_151 : decode cL_plans 151 = .ok (.aload 9, 2) := by decide +kernel
theorem dL_plans_153 : decode cL_plans 153 = .ok (.invokestatic 73, 3) := by decide +kernel
theorem dL_plans_156 : decode cL_plans 156 = .ok (.ifCond .ne 7, 3) := by decide +kernel
theorem dL_plans_159 : decode cL_plans 159 = .ok (.iconst 1, 1) := by decide +kernel
theorem dL_plans_160 : decode cL_plans 160 = .ok (.goto 4, 3) := by decide +kernel
theorem dL_plans_163 : decode cL_plans 163 = .ok (.iconst 0, 1) := by decide +kernel
theorem dL_plans_164 : decode cL_plans 164 = .ok (.istore 15, 2) := by decide +kernel
theorem dL_plans_166 : decode cL_plans 166 = .ok (.iload 11, 2) := by decide +kernel
theorem dL_plans_168 : decode cL_plans 168 = .ok (.aload 9, 2) := by decide +kernel
theorem dL_plans_170 : decode cL_plans 170 = .ok (.iconst 2, 1) := by decide +kernel
theorem dL_plans_171 : decode cL_plans 171 = .ok (.iaload, 1) := by decide +kernel
theorem dL_plans_172 : decode cL_plans 172 = .ok (.if_icmp .gt 8, 3) := by decide +kernel
theorem dL_plans_175 : decode cL_plans 175 = .ok (.ldc 43, 2) := by decide +kernel
theorem dL_plans_177 : decode cL_plans 177 = .ok (.goto 17, 3) := by decide +kernel
theorem dL_plans_180 : decode cL_plans 180 = .ok (.iload 15, 2) := by decide +kernel
theorem dL_plans_182 : decode cL_plans 182 = .ok (.ifCond .eq 10, 3) := by decide +kernel
theorem dL_plans_185 : decode cL_plans 185 = .ok (.aload 9, 2) := by decide +kernel
theorem dL_plans_187 : decode cL_plans 187 = .ok (.iconst 1, 1) := by decide +kernel
theorem dL_plans_188 : decode cL_plans 188 = .ok (.iaload, 1) := by decide +kernel
theorem dL_plans_189 : decode cL_plans 189 = .ok (.goto 5, 3) := by decide +kernel
theorem dL_plans_192 : decode cL_plans 192 = .ok (.ldc 46, 2) := by decide +kernel
theorem dL_plans_194 : decode cL_plans 194 = .ok (.istore 16, 2) := by decide +kernel
theorem dL_plans_196 : decode cL_plans 196 = .ok (.iload 16, 2) := by decide +kernel
theorem dL_plans_198 : decode cL_plans 198 = .ok (.ifCond .lt 90, 3) := by decide +kernel
theorem dL_plans_201 : decode cL_plans 201 = .ok (.aload 9, 2) := by decide +kernel
theorem dL_plans_203 : decode cL_plans 203 = .ok (.iconst 1, 1) := by decide +kernel
theorem dL_plans_204 : decode cL_plans 204 = .ok (.iaload, 1) := by decide +kernel
theorem dL_plans_205 : decode cL_plans 205 = .ok (.istore 17, 2) := by decide +kernel
theorem dL_plans_207 : decode cL_plans 207 = .ok (.aload 4, 2) := by decide +kernel
theorem dL_plans_209 : decode cL_plans 209 = .ok (.iconst 4, 1) := by decide +kernel
theorem dL_plans_210 : decode cL_plans 210 = .ok (.iload 17, 2) := by decide +kernel
theorem dL_plans_212 : decode cL_plans 212 = .ok (.imul, 1) := by decide +kernel
theorem dL_plans_213 : decode cL_plans 213 = .ok (.iconst 0, 1) := by decide +kernel
theorem dL_plans_214 : decode cL_plans 214 = .ok (.iastore, 1) := by decide +kernel
theorem dL_plans_215 : decode cL_plans 215 = .ok (.aload 4, 2) := by decide +kernel
theorem dL_plans_217 : decode cL_plans 217 = .ok (.iconst 4, 1) := by decide +kernel
theorem dL_plans_218 : decode cL_plans 218 = .ok (.iload 17, 2) := by decide +kernel
theorem dL_plans_220 : decode cL_plans 220 = .ok (.imul, 1) := by decide +kernel
theorem dL_plans_221 : decode cL_plans 221 = .ok (.iconst 1, 1) := by decide +kernel
theorem dL_plans_222 : decode cL_plans 222 = .ok (.iadd, 1) := by decide +kernel
theorem dL_plans_223 : decode cL_plans 223 = .ok (.iload 13, 2) := by decide +kernel
theorem dL_plans_225 : decode cL_plans 225 = .ok (.bipush 16, 2) := by decide +kernel
theorem dL_plans_227 : decode cL_plans 227 = .ok (.iload 10, 2) := by decide +kernel
theorem dL_plans_229 : decode cL_plans 229 = .ok (.imul, 1) := by decide +kernel
theorem dL_plans_230 : decode cL_plans 230 = .ok (.iadd, 1) := by decide +kernel
theorem dL_plans_231 : decode cL_plans 231 = .ok (.bipush 64, 2) := by decide +kernel
theorem dL_plans_233 : decode cL_plans 233 = .ok (.iload 14, 2) := by decide +kernel
theorem dL_plans_235 : decode cL_plans 235 = .ok (.iconst 1, 1) := by decide +kernel
theorem dL_plans_236 : decode cL_plans 236 = .ok (.iadd, 1) := by decide +kernel
theorem dL_plans_237 : decode cL_plans 237 = .ok (.imul, 1) := by decide +kernel
theorem dL_plans_238 : decode cL_plans 238 = .ok (.iadd, 1) := by decide +kernel
theorem dL_plans_239 : decode cL_plans 239 = .ok (.iastore, 1) := by decide +kernel
theorem dL_plans_240 : decode cL_plans 240 = .ok (.aload 4, 2) := by decide +kernel
theorem dL_plans_242 : decode cL_plans 242 = .ok (.iconst 4, 1) := by decide +kernel
theorem dL_plans_243 : decode cL_plans 243 = .ok (.iload 17, 2) := by decide +kernel
theorem dL_plans_245 : decode cL_plans 245 = .ok (.imul, 1) := by decide +kernel
theorem dL_plans_246 : decode cL_plans 246 = .ok (.iconst 2, 1) := by decide +kernel
theorem dL_plans_247 : decode cL_plans 247 = .ok (.iadd, 1) := by decide +kernel
theorem dL_plans_248 : decode cL_plans 248 = .ok (.iload 11, 2) := by decide +kernel
theorem dL_plans_250 : decode cL_plans 250 = .ok (.iastore, 1) := by decide +kernel
theorem dL_plans_251 : decode cL_plans 251 = .ok (.aload 4, 2) := by decide +kernel
theorem dL_plans_253 : decode cL_plans 253 = .ok (.iconst 4, 1) := by decide +kernel
theorem dL_plans_254 : decode cL_plans 254 = .ok (.iload 17, 2) := by decide +kernel
theorem dL_plans_256 : decode cL_plans 256 = .ok (.imul, 1) := by decide +kernel
theorem dL_plans_257 : decode cL_plans 257 = .ok (.iconst 3, 1) := by decide +kernel
theorem dL_plans_258 : decode cL_plans 258 = .ok (.iadd, 1) := by decide +kernel
theorem dL_plans_259 : decode cL_plans 259 = .ok (.iload 12, 2) := by decide +kernel
theorem dL_plans_261 : decode cL_plans 261 = .ok (.iastore, 1) := by decide +kernel
theorem dL_plans_262 : decode cL_plans 262 = .ok (.aload 9, 2) := by decide +kernel
theorem dL_plans_264 : decode cL_plans 264 = .ok (.iconst 1, 1) := by decide +kernel
theorem dL_plans_265 : decode cL_plans 265 = .ok (.dup2, 1) := by decide +kernel
theorem dL_plans_266 : decode cL_plans 266 = .ok (.iaload, 1) := by decide +kernel
theorem dL_plans_267 : decode cL_plans 267 = .ok (.iconst 1, 1) := by decide +kernel
theorem dL_plans_268 : decode cL_plans 268 = .ok (.iadd, 1) := by decide +kernel
theorem dL_plans_269 : decode cL_plans 269 = .ok (.iastore, 1) := by decide +kernel
theorem dL_plans_270 : decode cL_plans 270 = .ok (.iload 17, 2) := by decide +kernel
theorem dL_plans_272 : decode cL_plans 272 = .ok (.aload_n 3, 1) := by decide +kernel
theorem dL_plans_273 : decode cL_plans 273 = .ok (.aload 4, 2) := by decide +kernel
theorem dL_plans_275 : decode cL_plans 275 = .ok (.aload 5, 2) := by decide +kernel
theorem dL_plans_277 : decode cL_plans 277 = .ok (.aload 6, 2) := by decide +kernel
theorem dL_plans_279 : decode cL_plans 279 = .ok (.aload 7, 2) := by decide +kernel
theorem dL_plans_281 : decode cL_plans 281 = .ok (.aload 8, 2) := by decide +kernel
theorem dL_plans_283 : decode cL_plans 283 = .ok (.aload 9, 2) := by decide +kernel
theorem dL_plans_285 : decode cL_plans 285 = .ok (.invokestatic 77, 3) := by decide +kernel
theorem dL_plans_288 : decode cL_plans 288 = .ok (.aload_n 0, 1) := by decide +kernel
theorem dL_plans_289 : decode cL_plans 289 = .ok (.iconst 0, 1) := by decide +kernel
theorem dL_plans_290 : decode cL_plans 290 = .ok (.iload 13, 2) := by decide +kernel
theorem dL_plans_292 : decode cL_plans 292 = .ok (.iload 10, 2) := by decide +kernel
theorem dL_plans_294 : decode cL_plans 294 = .ok (.iload 14, 2) := by decide +kernel
theorem dL_plans_296 : decode cL_plans 296 = .ok (.iload 11, 2) := by decide +kernel
theorem dL_plans_298 : decode cL_plans 298 = .ok (.iload 12, 2) := by decide +kernel
theorem dL_plans_300 : decode cL_plans 300 = .ok (.invokestatic 81, 3) := by decide +kernel
theorem dL_plans_303 : decode cL_plans 303 = .ok (.iload 16, 2) := by decide +kernel
theorem dL_plans_305 : decode cL_plans 305 = .ok (.if_icmp .ne 7, 3) := by decide +kernel
theorem dL_plans_308 : decode cL_plans 308 = .ok (.iconst 1, 1) := by decide +kernel
theorem dL_plans_309 : decode cL_plans 309 = .ok (.goto 4, 3) := by decide +kernel
theorem dL_plans_312 : decode cL_plans 312 = .ok (.iconst 0, 1) := by decide +kernel
theorem dL_plans_313 : decode cL_plans 313 = .ok (.ireturn, 1) := by decide +kernel
theorem dL_plans_314 : decode cL_plans 314 = .ok (.aload 9, 2) := by decide +kernel
theorem dL_plans_316 : decode cL_plans 316 = .ok (.iconst 1, 1) := by decide +kernel
theorem dL_plans_317 : decode cL_plans 317 = .ok (.iaload, 1) := by decide +kernel
theorem dL_plans_318 : decode cL_plans 318 = .ok (.ifCond .ne 5, 3) := by decide +kernel
theorem dL_plans_321 : decode cL_plans 321 = .ok (.iconst 1, 1) := by decide +kernel
theorem dL_plans_322 : decode cL_plans 322 = .ok (.ireturn, 1) := by decide +kernel
theorem dL_plans_323 : decode cL_plans 323 = .ok (.iload_n 2, 1) := by decide +kernel
theorem dL_plans_324 : decode cL_plans 324 = .ok (.bipush 8, 2) := by decide +kernel
theorem dL_plans_326 : decode cL_plans 326 = .ok (.ishr, 1) := by decide +kernel
theorem dL_plans_327 : decode cL_plans 327 = .ok (.iconst 2, 1) := by decide +kernel
theorem dL_plans_328 : decode cL_plans 328 = .ok (.invokestatic 65, 3) := by decide +kernel
theorem dL_plans_331 : decode cL_plans 331 = .ok (.ifCond .ne 12, 3) := by decide +kernel
theorem dL_plans_334 : decode cL_plans 334 = .ok (.aload 9, 2) := by decide +kernel
theorem dL_plans_336 : decode cL_plans 336 = .ok (.iconst 1, 1) := by decide +kernel
theorem dL_plans_337 : decode cL_plans 337 = .ok (.iaload, 1) := by decide +kernel
theorem dL_plans_338 : decode cL_plans 338 = .ok (.iconst 1, 1) := by decide +kernel
theorem dL_plans_339 : decode cL_plans 339 = .ok (.isub, 1) := by decide +kernel
theorem dL_plans_340 : decode cL_plans 340 = .ok (.goto 14, 3) := by decide +kernel
theorem dL_plans_343 : decode cL_plans 343 = .ok (.iload_n 2, 1) := by decide +kernel
theorem dL_plans_344 : decode cL_plans 344 = .ok (.bipush 9, 2) := by decide +kernel
theorem dL_plans_346 : decode cL_plans 346 = .ok (.ishr, 1) := by decide +kernel
theorem dL_plans_347 : decode cL_plans 347 = .ok (.aload 9, 2) := by decide +kernel
theorem dL_plans_349 : decode cL_plans 349 = .ok (.iconst 1, 1) := by decide +kernel
theorem dL_plans_350 : decode cL_plans 350 = .ok (.iaload, 1) := by decide +kernel
theorem dL_plans_351 : decode cL_plans 351 = .ok (.invokestatic 65, 3) := by decide +kernel
theorem dL_plans_354 : decode cL_plans 354 = .ok (.istore 13, 2) := by decide +kernel
theorem dL_plans_356 : decode cL_plans 356 = .ok (.aload 4, 2) := by decide +kernel
theorem dL_plans_358 : decode cL_plans 358 = .ok (.iconst 4, 1) := by decide +kernel
theorem dL_plans_359 : decode cL_plans 359 = .ok (.iload 13, 2) := by decide +kernel
theorem dL_plans_361 : decode cL_plans 361 = .ok (.imul, 1) := by decide +kernel
theorem dL_plans_362 : decode cL_plans 362 = .ok (.iconst 1, 1) := by decide +kernel
theorem dL_plans_363 : decode cL_plans 363 = .ok (.iadd, 1) := by decide +kernel
theorem dL_plans_364 : decode cL_plans 364 = .ok (.iaload, 1) := by decide +kernel
theorem dL_plans_365 : decode cL_plans 365 = .ok (.bipush 16, 2) := by decide +kernel
theorem dL_plans_367 : decode cL_plans 367 = .ok (.irem, 1) := by decide +kernel
theorem dL_plans_368 : decode cL_plans 368 = .ok (.istore 14, 2) := by decide +kernel
theorem dL_plans_370 : decode cL_plans 370 = .ok (.aload 4, 2) := by decide +kernel
theorem dL_plans_372 : decode cL_plans 372 = .ok (.iconst 4, 1) := by decide +kernel
theorem dL_plans_373 : decode cL_plans 373 = .ok (.iload 13, 2) := by decide +kernel
theorem dL_plans_375 : decode cL_plans 375 = .ok (.imul, 1) := by decide +kernel
theorem dL_plans_376 : decode cL_plans 376 = .ok (.iaload, 1) := by decide +kernel
theorem dL_plans_377 : decode cL_plans 377 = .ok (.ifCond .ne 23, 3) := by decide +kernel
theorem dL_plans_380 : decode cL_plans 380 = .ok (.aload 4, 2) := by decide +kernel
theorem dL_plans_382 : decode cL_plans 382 = .ok (.iconst 4, 1) := by decide +kernel
theorem dL_plans_383 : decode cL_plans 383 = .ok (.iload 13, 2) := by decide +kernel
theorem dL_plans_385 : decode cL_plans 385 = .ok (.imul, 1) := by decide +kernel
theorem dL_plans_386 : decode cL_plans 386 = .ok (.iconst 2, 1) := by decide +kernel
theorem dL_plans_387 : decode cL_plans 387 = .ok (.iadd, 1) := by decide +kernel
theorem dL_plans_388 : decode cL_plans 388 = .ok (.iaload, 1) := by decide +kernel
theorem dL_plans_389 : decode cL_plans 389 = .ok (.aload 9, 2) := by decide +kernel
theorem dL_plans_391 : decode cL_plans 391 = .ok (.iconst 2, 1) := by decide +kernel
theorem dL_plans_392 : decode cL_plans 392 = .ok (.iaload, 1) := by decide +kernel
theorem dL_plans_393 : decode cL_plans 393 = .ok (.if_icmp .le 7, 3) := by decide +kernel
theorem dL_plans_396 : decode cL_plans 396 = .ok (.iconst 1, 1) := by decide +kernel
theorem dL_plans_397 : decode cL_plans 397 = .ok (.goto 4, 3) := by decide +kernel
theorem dL_plans_400 : decode cL_plans 400 = .ok (.iconst 0, 1) := by decide +kernel
theorem dL_plans_401 : decode cL_plans 401 = .ok (.istore 15, 2) := by decide +kernel
theorem dL_plans_403 : decode cL_plans 403 = .ok (.iload_n 1, 1) := by decide +kernel
theorem dL_plans_404 : decode cL_plans 404 = .ok (.iconst 1, 1) := by decide +kernel
theorem dL_plans_405 : decode cL_plans 405 = .ok (.if_icmp .ne 255, 3) := by decide +kernel
theorem dL_plans_408 : decode cL_plans 408 = .ok (.iload_n 2, 1) := by decide +kernel
theorem dL_plans_409 : decode cL_plans 409 = .ok (.bipush 6, 2) := by decide +kernel
theorem dL_plans_411 : decode cL_plans 411 = .ok (.ishr, 1) := by decide +kernel
theorem dL_plans_412 : decode cL_plans 412 = .ok (.iconst 3, 1) := by decide +kernel
theorem dL_plans_413 : decode cL_plans 413 = .ok (.invokestatic 65, 3) := by decide +kernel
theorem dL_plans_416 : decode cL_plans 416 = .ok (.ifCond .le 13, 3) := by decide +kernel
theorem dL_plans_419 : decode cL_plans 419 = .ok (.iload 13, 2) := by decide +kernel
theorem dL_plans_421 : decode cL_plans 421 = .ok (.aload 4, 2) := by decide +kernel
theorem dL_plans_423 : decode cL_plans 423 = .ok (.invokestatic 47, 3) := by decide +kernel
theorem dL_plans_426 : decode cL_plans 426 = .ok (.goto 13, 3) := by decide +kernel
theorem dL_plans_429 : decode cL_plans 429 = .ok (.iload_n 2, 1) := by decide +kernel
theorem dL_plans_430 : decode cL_plans 430 = .ok (.bipush 7, 2) := by decide +kernel
theorem dL_plans_432 : decode cL_plans 432 = .ok (.ishr, 1) := by decide +kernel
theorem dL_plans_433 : decode cL_plans 433 = .ok (.iconst 5, 1) := by decide +kernel
theorem dL_plans_434 : decode cL_plans 434 = .ok (.invokestatic 65, 3) := by decide +kernel
theorem dL_plans_437 : decode cL_plans 437 = .ok (.iconst 1, 1) := by decide +kernel
theorem dL_plans_438 : decode cL_plans 438 = .ok (.isub, 1) := by decide +kernel
theorem dL_plans_439 : decode cL_plans 439 = .ok (.istore 16, 2) := by decide +kernel
theorem dL_plans_441 : decode cL_plans 441 = .ok (.iload 15, 2) := by decide +kernel
theorem dL_plans_443 : decode cL_plans 443 = .ok (.ifCond .eq 53, 3) := by decide +kernel
theorem dL_plans_446 : decode cL_plans 446 = .ok (.iload 14, 2) := by decide +kernel
theorem dL_plans_448 : decode cL_plans 448 = .ok (.iload 16, 2) := by decide +kernel
theorem dL_plans_450 : decode cL_plans 450 = .ok (.aload_n 3, 1) := by decide +kernel
theorem dL_plans_451 : decode cL_plans 451 = .ok (.aload 8, 2) := by decide +kernel
theorem dL_plans_453 : decode cL_plans 453 = .ok (.invokestatic 69, 3) := by decide +kernel
theorem dL_plans_456 : decode cL_plans 456 = .ok (.ifCond .eq 40, 3) := by decide +kernel
theorem dL_plans_459 : decode cL_plans 459 = .ok (.iload 14, 2) := by decide +kernel
theorem dL_plans_461 : decode cL_plans 461 = .ok (.iload 10, 2) := by decide +kernel
theorem dL_plans_463 : decode cL_plans 463 = .ok (.iload 16, 2) := by decide +kernel
theorem dL_plans_465 : decode cL_plans 465 = .ok (.iload 11, 2) := by decide +kernel
theorem dL_plans_467 : decode cL_plans 467 = .ok (.aload 4, 2) := by decide +kernel
theorem dL_plans_469 : decode cL_plans 469 = .ok (.iconst 4, 1) := by decide +kernel
theorem dL_plans_470 : decode cL_plans 470 = .ok (.iload 13, 2) := by decide +kernel
theorem dL_plans_472 : decode cL_plans 472 = .ok (.imul, 1) := by decide +kernel
theorem dL_plans_473 : decode cL_plans 473 = .ok (.iconst 3, 1) := by decide +kernel
theorem dL_plans_474 : decode cL_plans 474 = .ok (.iadd, 1) := by decide +kernel
theorem dL_plans_475 : decode cL_plans 475 = .ok (.iaload, 1) := by decide +kernel
theorem dL_plans_476 : decode cL_plans 476 = .ok (.bipush 16, 2) := by decide +kernel
theorem dL_plans_478 : decode cL_plans 478 = .ok (.irem, 1) := by decide +kernel
theorem dL_plans_479 : decode cL_plans 479 = .ok (.iload 13, 2) := by decide +kernel
theorem dL_plans_481 : decode cL_plans 481 = .ok (.aload_n 3, 1) := by decide +kernel
theorem dL_plans_482 : decode cL_plans 482 = .ok (.aload 4, 2) := by decide +kernel
theorem dL_plans_484 : decode cL_plans 484 = .ok (.aload 9, 2) := by decide +kernel
theorem dL_plans_486 : decode cL_plans 486 = .ok (.invokestatic 73, 3) := by decide +kernel
theorem dL_plans_489 : decode cL_plans 489 = .ok (.ifCond .ne 7, 3) := by decide +kernel
theorem dL_plans_492 : decode cL_plans 492 = .ok (.iconst 1, 1) := by decide +kernel
theorem dL_plans_493 : decode cL_plans 493 = .ok (.goto 4, 3) := by decide +kernel
theorem dL_plans_496 : decode cL_plans 496 = .ok (.iconst 0, 1) := by decide +kernel
theorem dL_plans_497 : decode cL_plans 497 = .ok (.istore 17, 2) := by decide +kernel
theorem dL_plans_499 : decode cL_plans 499 = .ok (.iload 17, 2) := by decide +kernel
theorem dL_plans_501 : decode cL_plans 501 = .ok (.ifCond .eq 103, 3) := by decide +kernel
theorem dL_plans_504 : decode cL_plans 504 = .ok (.iload 11, 2) := by decide +kernel
theorem dL_plans_506 : decode cL_plans 506 = .ok (.aload 9, 2) := by decide +kernel
theorem dL_plans_508 : decode cL_plans 508 = .ok (.iconst 2, 1) := by decide +kernel
theorem dL_plans_509 : decode cL_plans 509 = .ok (.iaload, 1) := by decide +kernel
theorem dL_plans_510 : decode cL_plans 510 = .ok (.if_icmp .le 94, 3) := by decide +kernel
theorem dL_plans_513 : decode cL_plans 513 = .ok (.iload 13, 2) := by decide +kernel
theorem dL_plans_515 : decode cL_plans 515 = .ok (.aload_n 3, 1) := by decide +kernel
theorem dL_plans_516 : decode cL_plans 516 = .ok (.aload 4, 2) := by decide +kernel
theorem dL_plans_518 : decode cL_plans 518 = .ok (.aload 5, 2) := by decide +kernel
theorem dL_plans_520 : decode cL_plans 520 = .ok (.aload 6, 2) := by decide +kernel
theorem dL_plans_522 : decode cL_plans 522 = .ok (.aload 7, 2) := by decide +kernel
theorem dL_plans_524 : decode cL_plans 524 = .ok (.aload 9, 2) := by decide +kernel
theorem dL_plans_526 : decode cL_plans 526 = .ok (.invokestatic 85, 3) := by decide +kernel
theorem dL_plans_529 : decode cL_plans 529 = .ok (.aload 4, 2) := by decide +kernel
theorem dL_plans_531 : decode cL_plans 531 = .ok (.iconst 4, 1) := by decide +kernel
theorem dL_plans_532 : decode cL_plans 532 = .ok (.iload 13, 2) := by decide +kernel
theorem dL_plans_534 : decode cL_plans 534 = .ok (.imul, 1) := by decide +kernel
theorem dL_plans_535 : decode cL_plans 535 = .ok (.iconst 1, 1) := by decide +kernel
theorem dL_plans_536 : decode cL_plans 536 = .ok (.iadd, 1) := by decide +kernel
theorem dL_plans_537 : decode cL_plans 537 = .ok (.iload 14, 2) := by decide +kernel
theorem dL_plans_539 : decode cL_plans 539 = .ok (.bipush 16, 2) := by decide +kernel
theorem dL_plans_541 : decode cL_plans 541 = .ok (.iload 10, 2) := by decide +kernel
theorem dL_plans_543 : decode cL_plans 543 = .ok (.imul, 1) := by decide +kernel
theorem dL_plans_544 : decode cL_plans 544 = .ok (.iadd, 1) := by decide +kernel
theorem dL_plans_545 : decode cL_plans 545 = .ok (.bipush 64, 2) := by decide +kernel
theorem dL_plans_547 : decode cL_plans 547 = .ok (.iload 16, 2) := by decide +kernel
theorem dL_plans_549 : decode cL_plans 549 = .ok (.iconst 1, 1) := by decide +kernel
theorem dL_plans_550 : decode cL_plans 550 = .ok (.iadd, 1) := by decide +kernel
theorem dL_plans_551 : decode cL_plans 551 = .ok (.imul, 1) := by decide +kernel
theorem dL_plans_552 : decode cL_plans 552 = .ok (.iadd, 1) := by decide +kernel
theorem dL_plans_553 : decode cL_plans 553 = .ok (.iastore, 1) := by decide +kernel
theorem dL_plans_554 : decode cL_plans 554 = .ok (.aload 4, 2) := by decide +kernel
theorem dL_plans_556 : decode cL_plans 556 = .ok (.iconst 4, 1) := by decide +kernel
theorem dL_plans_557 : decode cL_plans 557 = .ok (.iload 13, 2) := by decide +kernel
theorem dL_plans_559 : decode cL_plans 559 = .ok (.imul, 1) := by decide +kernel
theorem dL_plans_560 : decode cL_plans 560 = .ok (.iconst 2, 1) := by decide +kernel
theorem dL_plans_561 : decode cL_plans 561 = .ok (.iadd, 1) := by decide +kernel
theorem dL_plans_562 : decode cL_plans 562 = .ok (.iload 11, 2) := by decide +kernel
theorem dL_plans_564 : decode cL_plans 564 = .ok (.iastore, 1) := by decide +kernel
theorem dL_plans_565 : decode cL_plans 565 = .ok (.aload 4, 2) := by decide +kernel
theorem dL_plans_567 : decode cL_plans 567 = .ok (.iconst 4, 1) := by decide +kernel
theorem dL_plans_568 : decode cL_plans 568 = .ok (.iload 13, 2) := by decide +kernel
theorem dL_plans_570 : decode cL_plans 570 = .ok (.imul, 1) := by decide +kernel
theorem dL_plans_571 : decode cL_plans 571 = .ok (.iconst 3, 1) := by decide +kernel
theorem dL_plans_572 : decode cL_plans 572 = .ok (.iadd, 1) := by decide +kernel
theorem dL_plans_573 : decode cL_plans 573 = .ok (.aload 4, 2) := by decide +kernel
theorem dL_plans_575 : decode cL_plans 575 = .ok (.iconst 4, 1) := by decide +kernel
theorem dL_plans_576 : decode cL_plans 576 = .ok (.iload 13, 2) := by decide +kernel
theorem dL_plans_578 : decode cL_plans 578 = .ok (.imul, 1) := by decide +kernel
theorem dL_plans_579 : decode cL_plans 579 = .ok (.iconst 3, 1) := by decide +kernel
theorem dL_plans_580 : decode cL_plans 580 = .ok (.iadd, 1) := by decide +kernel
theorem dL_plans_581 : decode cL_plans 581 = .ok (.iaload, 1) := by decide +kernel
theorem dL_plans_582 : decode cL_plans 582 = .ok (.bipush 16, 2) := by decide +kernel
theorem dL_plans_584 : decode cL_plans 584 = .ok (.irem, 1) := by decide +kernel
theorem dL_plans_585 : decode cL_plans 585 = .ok (.iastore, 1) := by decide +kernel
theorem dL_plans_586 : decode cL_plans 586 = .ok (.iload 13, 2) := by decide +kernel
theorem dL_plans_588 : decode cL_plans 588 = .ok (.aload_n 3, 1) := by decide +kernel
theorem dL_plans_589 : decode cL_plans 589 = .ok (.aload 4, 2) := by decide +kernel
theorem dL_plans_591 : decode cL_plans 591 = .ok (.aload 5, 2) := by decide +kernel
theorem dL_plans_593 : decode cL_plans 593 = .ok (.aload 6, 2) := by decide +kernel
theorem dL_plans_595 : decode cL_plans 595 = .ok (.aload 7, 2) := by decide +kernel
theorem dL_plans_597 : decode cL_plans 597 = .ok (.aload 8, 2) := by decide +kernel
theorem dL_plans_599 : decode cL_plans 599 = .ok (.aload 9, 2) := by decide +kernel
theorem dL_plans_601 : decode cL_plans 601 = .ok (.invokestatic 77, 3) := by decide +kernel
theorem dL_plans_604 : decode cL_plans 604 = .ok (.aload_n 0, 1) := by decide +kernel
theorem dL_plans_605 : decode cL_plans 605 = .ok (.iconst 1, 1) := by decide +kernel
theorem dL_plans_606 : decode cL_plans 606 = .ok (.iload 13, 2) := by decide +kernel
theorem dL_plans_608 : decode cL_plans 608 = .ok (.iload 10, 2) := by decide +kernel
theorem dL_plans_610 : decode cL_plans 610 = .ok (.iload 16, 2) := by decide +kernel
theorem dL_plans_612 : decode cL_plans 612 = .ok (.iload 11, 2) := by decide +kernel
theorem dL_plans_614 : decode cL_plans 614 = .ok (.iconst 0, 1) := by decide +kernel
theorem dL_plans_615 : decode cL_plans 615 = .ok (.invokestatic 81, 3) := by decide +kernel
theorem dL_plans_618 : decode cL_plans 618 = .ok (.iload 11, 2) := by decide +kernel
theorem dL_plans_620 : decode cL_plans 620 = .ok (.aload 9, 2) := by decide +kernel
theorem dL_plans_622 : decode cL_plans 622 = .ok (.iconst 2, 1) := by decide +kernel
theorem dL_plans_623 : decode cL_plans 623 = .ok (.iaload, 1) := by decide +kernel
theorem dL_plans_624 : decode cL_plans 624 = .ok (.if_icmp .gt 8, 3) := by decide +kernel
theorem dL_plans_627 : decode cL_plans 627 = .ok (.ldc 43, 2) := by decide +kernel
theorem dL_plans_629 : decode cL_plans 629 = .ok (.goto 22, 3) := by decide +kernel
theorem dL_plans_632 : decode cL_plans 632 = .ok (.iload 17, 2) := by decide +kernel
theorem dL_plans_634 : decode cL_plans 634 = .ok (.ifCond .eq 15, 3) := by decide +kernel
theorem dL_plans_637 : decode cL_plans 637 = .ok (.aload_n 3, 1) := by decide +kernel
theorem dL_plans_638 : decode cL_plans 638 = .ok (.bipush 8, 2) := by decide +kernel
theorem dL_plans_640 : decode cL_plans 640 = .ok (.iload 14, 2) := by decide +kernel
theorem dL_plans_642 : decode cL_plans 642 = .ok (.imul, 1) := by decide +kernel
theorem dL_plans_643 : decode cL_plans 643 = .ok (.iconst 5, 1) := by decide +kernel
theorem dL_plans_644 : decode cL_plans 644 = .ok (.iadd, 1) := by decide +kernel
theorem dL_plans_645 : decode cL_plans 645 = .ok (.iaload, 1) := by decide +kernel
theorem dL_plans_646 : decode cL_plans 646 = .ok (.goto 5, 3) := by decide +kernel
theorem dL_plans_649 : decode cL_plans 649 = .ok (.ldc 46, 2) := by decide +kernel
theorem dL_plans_651 : decode cL_plans 651 = .ok (.if_icmp .ne 7, 3) := by decide +kernel
theorem dL_plans_654 : decode cL_plans 654 = .ok (.iconst 1, 1) := by decide +kernel
theorem dL_plans_655 : decode cL_plans 655 = .ok (.goto 4, 3) := by decide +kernel
theorem dL_plans_658 : decode cL_plans 658 = .ok (.iconst 0, 1) := by decide +kernel
theorem dL_plans_659 : decode cL_plans 659 = .ok (.ireturn, 1) := by decide +kernel
theorem dL_plans_660 : decode cL_plans 660 = .ok (.iload_n 1, 1) := by decide +kernel
theorem dL_plans_661 : decode cL_plans 661 = .ok (.iconst 2, 1) := by decide +kernel
theorem dL_plans_662 : decode cL_plans 662 = .ok (.if_icmp .ne 71, 3) := by decide +kernel
theorem dL_plans_665 : decode cL_plans 665 = .ok (.iload 15, 2) := by decide +kernel
theorem dL_plans_667 : decode cL_plans 667 = .ok (.ifCond .eq 27, 3) := by decide +kernel
theorem dL_plans_670 : decode cL_plans 670 = .ok (.iload 13, 2) := by decide +kernel
theorem dL_plans_672 : decode cL_plans 672 = .ok (.aload_n 3, 1) := by decide +kernel
theorem dL_plans_673 : decode cL_plans 673 = .ok (.aload 4, 2) := by decide +kernel
theorem dL_plans_675 : decode cL_plans 675 = .ok (.aload 5, 2) := by decide +kernel
theorem dL_plans_677 : decode cL_plans 677 = .ok (.aload 6, 2) := by decide +kernel
theorem dL_plans_679 : decode cL_plans 679 = .ok (.aload 7, 2) := by decide +kernel
theorem dL_plans_681 : decode cL_plans 681 = .ok (.aload 9, 2) := by decide +kernel
theorem dL_plans_683 : decode cL_plans 683 = .ok (.invokestatic 85, 3) := by decide +kernel
theorem dL_plans_686 : decode cL_plans 686 = .ok (.aload 4, 2) := by decide +kernel
theorem dL_plans_688 : decode cL_plans 688 = .ok (.iconst 4, 1) := by decide +kernel
theorem dL_plans_689 : decode cL_plans 689 = .ok (.iload 13, 2) := by decide +kernel
theorem dL_plans_691 : decode cL_plans 691 = .ok (.imul, 1) := by decide +kernel
theorem dL_plans_692 : decode cL_plans 692 = .ok (.iconst 3, 1) := by decide +kernel
theorem dL_plans_693 : decode cL_plans 693 = .ok (.iastore, 1) := by decide +kernel
theorem dL_plans_694 : decode cL_plans 694 = .ok (.aload_n 0, 1) := by decide +kernel
theorem dL_plans_695 : decode cL_plans 695 = .ok (.iconst 2, 1) := by decide +kernel
theorem dL_plans_696 : decode cL_plans 696 = .ok (.iload 13, 2) := by decide +kernel
theorem dL_plans_698 : decode cL_plans 698 = .ok (.iconst 0, 1) := by decide +kernel
theorem dL_plans_699 : decode cL_plans 699 = .ok (.iconst 0, 1) := by decide +kernel
theorem dL_plans_700 : decode cL_plans 700 = .ok (.iconst 0, 1) := by decide +kernel
theorem dL_plans_701 : decode cL_plans 701 = .ok (.iconst 0, 1) := by decide +kernel
theorem dL_plans_702 : decode cL_plans 702 = .ok (.invokestatic 81, 3) := by decide +kernel
theorem dL_plans_705 : decode cL_plans 705 = .ok (.iload 15, 2) := by decide +kernel
theorem dL_plans_707 : decode cL_plans 707 = .ok (.ifCond .eq 15, 3) := by decide +kernel
theorem dL_plans_710 : decode cL_plans 710 = .ok (.aload_n 3, 1) := by decide +kernel
theorem dL_plans_711 : decode cL_plans 711 = .ok (.bipush 8, 2) := by decide +kernel
theorem dL_plans_713 : decode cL_plans 713 = .ok (.iload 14, 2) := by decide +kernel
theorem dL_plans_715 : decode cL_plans 715 = .ok (.imul, 1) := by decide +kernel
theorem dL_plans_716 : decode cL_plans 716 = .ok (.iconst 5, 1) := by decide +kernel
theorem dL_plans_717 : decode cL_plans 717 = .ok (.iadd, 1) := by decide +kernel
theorem dL_plans_718 : decode cL_plans 718 = .ok (.iaload, 1) := by decide +kernel
theorem dL_plans_719 : decode cL_plans 719 = .ok (.goto 5, 3) := by decide +kernel
theorem dL_plans_722 : decode cL_plans 722 = .ok (.ldc 46, 2) := by decide +kernel
theorem dL_plans_724 : decode cL_plans 724 = .ok (.if_icmp .ne 7, 3) := by decide +kernel
theorem dL_plans_727 : decode cL_plans 727 = .ok (.iconst 1, 1) := by decide +kernel
theorem dL_plans_728 : decode cL_plans 728 = .ok (.goto 4, 3) := by decide +kernel
theorem dL_plans_731 : decode cL_plans 731 = .ok (.iconst 0, 1) := by decide +kernel
theorem dL_plans_732 : decode cL_plans 732 = .ok (.ireturn, 1) := by decide +kernel
theorem dL_plans_733 : decode cL_plans 733 = .ok (.iload_n 2, 1) := by decide +kernel
theorem dL_plans_734 : decode cL_plans 734 = .ok (.iconst 4, 1) := by decide +kernel
theorem dL_plans_735 : decode cL_plans 735 = .ok (.ishr, 1) := by decide +kernel
theorem dL_plans_736 : decode cL_plans 736 = .ok (.bipush 8, 2) := by decide +kernel
theorem dL_plans_738 : decode cL_plans 738 = .ok (.invokestatic 65, 3) := by decide +kernel
theorem dL_plans_741 : decode cL_plans 741 = .ok (.ifCond .ne 14, 3) := by decide +kernel
theorem dL_plans_744 : decode cL_plans 744 = .ok (.iload_n 2, 1) := by decide +kernel
theorem dL_plans_745 : decode cL_plans 745 = .ok (.iconst 5, 1) := by decide +kernel
theorem dL_plans_746 : decode cL_plans 746 = .ok (.ishr, 1) := by decide +kernel
theorem dL_plans_747 : decode cL_plans 747 = .ok (.bipush 6, 2) := by decide +kernel
theorem dL_plans_749 : decode cL_plans 749 = .ok (.invokestatic 65, 3) := by decide +kernel
theorem dL_plans_752 : decode cL_plans 752 = .ok (.goto 21, 3) := by decide +kernel
theorem dL_plans_755 : decode cL_plans 755 = .ok (.aload_n 3, 1) := by decide +kernel
theorem dL_plans_756 : decode cL_plans 756 = .ok (.bipush 8, 2) := by decide +kernel
theorem dL_plans_758 : decode cL_plans 758 = .ok (.iload 14, 2) := by decide +kernel
theorem dL_plans_760 : decode cL_plans 760 = .ok (.imul, 1) := by decide +kernel
theorem dL_plans_761 : decode cL_plans 761 = .ok (.iconst 2, 1) := by decide +kernel
theorem dL_plans_762 : decode cL_plans 762 = .ok (.iadd, 1) := by decide +kernel
theorem dL_plans_763 : decode cL_plans 763 = .ok (.iload_n 2, 1) := by decide +kernel
theorem dL_plans_764 : decode cL_plans 764 = .ok (.bipush 6, 2) := by decide +kernel
theorem dL_plans_766 : decode cL_plans 766 = .ok (.ishr, 1) := by decide +kernel
theorem dL_plans_767 : decode cL_plans 767 = .ok (.iconst 2, 1) := by decide +kernel
theorem dL_plans_768 : decode cL_plans 768 = .ok (.invokestatic 65, 3) := by decide +kernel
theorem dL_plans_771 : decode cL_plans 771 = .ok (.iadd, 1) := by decide +kernel
theorem dL_plans_772 : decode cL_plans 772 = .ok (.iaload, 1) := by decide +kernel
theorem dL_plans_773 : decode cL_plans 773 = .ok (.istore 16, 2) := by decide +kernel
theorem dL_plans_775 : decode cL_plans 775 = .ok (.iload 16, 2) := by decide +kernel
theorem dL_plans_777 : decode cL_plans 777 = .ok (.aload_n 3, 1) := by decide +kernel
theorem dL_plans_778 : decode cL_plans 778 = .ok (.bipush 8, 2) := by decide +kernel
theorem dL_plans_780 : decode cL_plans 780 = .ok (.iload 14, 2) := by decide +kernel
theorem dL_plans_782 : decode cL_plans 782 = .ok (.imul, 1) := by decide +kernel
theorem dL_plans_783 : decode cL_plans 783 = .ok (.iconst 2, 1) := by decide +kernel
theorem dL_plans_784 : decode cL_plans 784 = .ok (.iadd, 1) := by decide +kernel
theorem dL_plans_785 : decode cL_plans 785 = .ok (.iaload, 1) := by decide +kernel
theorem dL_plans_786 : decode cL_plans 786 = .ok (.if_icmp .ne 7, 3) := by decide +kernel
theorem dL_plans_789 : decode cL_plans 789 = .ok (.iconst 1, 1) := by decide +kernel
theorem dL_plans_790 : decode cL_plans 790 = .ok (.goto 22, 3) := by decide +kernel
theorem dL_plans_793 : decode cL_plans 793 = .ok (.iload 16, 2) := by decide +kernel
theorem dL_plans_795 : decode cL_plans 795 = .ok (.aload_n 3, 1) := by decide +kernel
theorem dL_plans_796 : decode cL_plans 796 = .ok (.bipush 8, 2) := by decide +kernel
theorem dL_plans_798 : decode cL_plans 798 = .ok (.iload 14, 2) := by decide +kernel
theorem dL_plans_800 : decode cL_plans 800 = .ok (.imul, 1) := by decide +kernel
theorem dL_plans_801 : decode cL_plans 801 = .ok (.iconst 3, 1) := by decide +kernel
theorem dL_plans_802 : decode cL_plans 802 = .ok (.iadd, 1) := by decide +kernel
theorem dL_plans_803 : decode cL_plans 803 = .ok (.iaload, 1) := by decide +kernel
theorem dL_plans_804 : decode cL_plans 804 = .ok (.if_icmp .ne 7, 3) := by decide +kernel
theorem dL_plans_807 : decode cL_plans 807 = .ok (.iconst 2, 1) := by decide +kernel
theorem dL_plans_808 : decode cL_plans 808 = .ok (.goto 4, 3) := by decide +kernel
theorem dL_plans_811 : decode cL_plans 811 = .ok (.iconst 0, 1) := by decide +kernel
theorem dL_plans_812 : decode cL_plans 812 = .ok (.istore 17, 2) := by decide +kernel
theorem dL_plans_814 : decode cL_plans 814 = .ok (.iload 17, 2) := by decide +kernel
theorem dL_plans_816 : decode cL_plans 816 = .ok (.ifCond .ne 8, 3) := by decide +kernel
theorem dL_plans_819 : decode cL_plans 819 = .ok (.ldc 43, 2) := by decide +kernel
theorem dL_plans_821 : decode cL_plans 821 = .ok (.goto 41, 3) := by decide +kernel
theorem dL_plans_824 : decode cL_plans 824 = .ok (.aload 4, 2) := by decide +kernel
theorem dL_plans_826 : decode cL_plans 826 = .ok (.iconst 4, 1) := by decide +kernel
theorem dL_plans_827 : decode cL_plans 827 = .ok (.iload 13, 2) := by decide +kernel
theorem dL_plans_829 : decode cL_plans 829 = .ok (.imul, 1) := by decide +kernel
theorem dL_plans_830 : decode cL_plans 830 = .ok (.iaload, 1) := by decide +kernel
theorem dL_plans_831 : decode cL_plans 831 = .ok (.ifCond .le 8, 3) := by decide +kernel
theorem dL_plans_834 : decode cL_plans 834 = .ok (.ldc 46, 2) := by decide +kernel
theorem dL_plans_836 : decode cL_plans 836 = .ok (.goto 26, 3) := by decide +kernel
theorem dL_plans_839 : decode cL_plans 839 = .ok (.aload 4, 2) := by decide +kernel
theorem dL_plans_841 : decode cL_plans 841 = .ok (.iconst 4, 1) := by decide +kernel
theorem dL_plans_842 : decode cL_plans 842 = .ok (.iload 13, 2) := by decide +kernel
theorem dL_plans_844 : decode cL_plans 844 = .ok (.imul, 1) := by decide +kernel
theorem dL_plans_845 : decode cL_plans 845 = .ok (.iconst 2, 1) := by decide +kernel
theorem dL_plans_846 : decode cL_plans 846 = .ok (.iadd, 1) := by decide +kernel
theorem dL_plans_847 : decode cL_plans 847 = .ok (.iaload, 1) := by decide +kernel
theorem dL_plans_848 : decode cL_plans 848 = .ok (.aload 9, 2) := by decide +kernel
theorem dL_plans_850 : decode cL_plans 850 = .ok (.iconst 2, 1) := by decide +kernel
theorem dL_plans_851 : decode cL_plans 851 = .ok (.iaload, 1) := by decide +kernel
theorem dL_plans_852 : decode cL_plans 852 = .ok (.isub, 1) := by decide +kernel
theorem dL_plans_853 : decode cL_plans 853 = .ok (.iconst 3, 1) := by decide +kernel
theorem dL_plans_854 : decode cL_plans 854 = .ok (.if_icmp .le 7, 3) := by decide +kernel
theorem dL_plans_857 : decode cL_plans 857 = .ok (.iconst 1, 1) := by decide +kernel
theorem dL_plans_858 : decode cL_plans 858 = .ok (.goto 4, 3) := by decide +kernel
theorem dL_plans_861 : decode cL_plans 861 = .ok (.iconst 0, 1) := by decide +kernel
theorem dL_plans_862 : decode cL_plans 862 = .ok (.istore 18, 2) := by decide +kernel
theorem dL_plans_864 : decode cL_plans 864 = .ok (.aload 4, 2) := by decide +kernel
theorem dL_plans_866 : decode cL_plans 866 = .ok (.iconst 4, 1) := by decide +kernel
theorem dL_plans_867 : decode cL_plans 867 = .ok (.iload 13, 2) := by decide +kernel
theorem dL_plans_869 : decode cL_plans 869 = .ok (.imul, 1) := by decide +kernel
theorem dL_plans_870 : decode cL_plans 870 = .ok (.iconst 3, 1) := by decide +kernel
theorem dL_plans_871 : decode cL_plans 871 = .ok (.iadd, 1) := by decide +kernel
theorem dL_plans_872 : decode cL_plans 872 = .ok (.iaload, 1) := by decide +kernel
theorem dL_plans_873 : decode cL_plans 873 = .ok (.bipush 16, 2) := by decide +kernel
theorem dL_plans_875 : decode cL_plans 875 = .ok (.idiv, 1) := by decide +kernel
theorem dL_plans_876 : decode cL_plans 876 = .ok (.istore 19, 2) := by decide +kernel
theorem dL_plans_878 : decode cL_plans 878 = .ok (.aload 4, 2) := by decide +kernel
theorem dL_plans_880 : decode cL_plans 880 = .ok (.iconst 4, 1) := by decide +kernel
theorem dL_plans_881 : decode cL_plans 881 = .ok (.iload 13, 2) := by decide +kernel
theorem dL_plans_883 : decode cL_plans 883 = .ok (.imul, 1) := by decide +kernel
theorem dL_plans_884 : decode cL_plans 884 = .ok (.iconst 3, 1) := by decide +kernel
theorem dL_plans_885 : decode cL_plans 885 = .ok (.iadd, 1) := by decide +kernel
theorem dL_plans_886 : decode cL_plans 886 = .ok (.aload 4, 2) := by decide +kernel
theorem dL_plans_888 : decode cL_plans 888 = .ok (.iconst 4, 1) := by decide +kernel
theorem dL_plans_889 : decode cL_plans 889 = .ok (.iload 13, 2) := by decide +kernel
theorem dL_plans_891 : decode cL_plans 891 = .ok (.imul, 1) := by decide +kernel
theorem dL_plans_892 : decode cL_plans 892 = .ok (.iconst 3, 1) := by decide +kernel
theorem dL_plans_893 : decode cL_plans 893 = .ok (.iadd, 1) := by decide +kernel
theorem dL_plans_894 : decode cL_plans 894 = .ok (.iaload, 1) := by decide +kernel
theorem dL_plans_895 : decode cL_plans 895 = .ok (.bipush 16, 2) := by decide +kernel
theorem dL_plans_897 : decode cL_plans 897 = .ok (.irem, 1) := by decide +kernel
theorem dL_plans_898 : decode cL_plans 898 = .ok (.bipush 16, 2) := by decide +kernel
theorem dL_plans_900 : decode cL_plans 900 = .ok (.iload 18, 2) := by decide +kernel
theorem dL_plans_902 : decode cL_plans 902 = .ok (.iconst 1, 1) := by decide +kernel
theorem dL_plans_903 : decode cL_plans 903 = .ok (.if_icmp .ne 11, 3) := by decide +kernel
theorem dL_plans_906 : decode cL_plans 906 = .ok (.iload 19, 2) := by decide +kernel
theorem dL_plans_908 : decode cL_plans 908 = .ok (.iload 17, 2) := by decide +kernel
theorem dL_plans_910 : decode cL_plans 910 = .ok (.ior, 1) := by decide +kernel
theorem dL_plans_911 : decode cL_plans 911 = .ok (.goto 5, 3) := by decide +kernel
theorem dL_plans_914 : decode cL_plans 914 = .ok (.iload 19, 2) := by decide +kernel
theorem dL_plans_916 : decode cL_plans 916 = .ok (.imul, 1) := by decide +kernel
theorem dL_plans_917 : decode cL_plans 917 = .ok (.iadd, 1) := by decide +kernel
theorem dL_plans_918 : decode cL_plans 918 = .ok (.iastore, 1) := by decide +kernel
theorem dL_plans_919 : decode cL_plans 919 = .ok (.aload_n 0, 1) := by decide +kernel
theorem dL_plans_920 : decode cL_plans 920 = .ok (.bipush 7, 2) := by decide +kernel
theorem dL_plans_922 : decode cL_plans 922 = .ok (.iload 13, 2) := by decide +kernel
theorem dL_plans_924 : decode cL_plans 924 = .ok (.iload 16, 2) := by decide +kernel
theorem dL_plans_926 : decode cL_plans 926 = .ok (.iconst 0, 1) := by decide +kernel
theorem dL_plans_927 : decode cL_plans 927 = .ok (.iconst 0, 1) := by decide +kernel
theorem dL_plans_928 : decode cL_plans 928 = .ok (.iconst 0, 1) := by decide +kernel
theorem dL_plans_929 : decode cL_plans 929 = .ok (.invokestatic 81, 3) := by decide +kernel
theorem dL_plans_932 : decode cL_plans 932 = .ok (.iload 18, 2) := by decide +kernel
theorem dL_plans_934 : decode cL_plans 934 = .ok (.if_icmp .ne 7, 3) := by decide +kernel
theorem dL_plans_937 : decode cL_plans 937 = .ok (.iconst 1, 1) := by decide +kernel
theorem dL_plans_938 : decode cL_plans 938 = .ok (.goto 4, 3) := by decide +kernel
theorem dL_plans_941 : decode cL_plans 941 = .ok (.iconst 0, 1) := by decide +kernel
theorem dL_plans_942 : decode cL_plans 942 = .ok (.ireturn, 1) := by decide +kernel
theorem dL_matters_0 : decode cL_matters 0 = .ok (.iload_n 2, 1) := by decide +kernel
theorem dL_matters_1 : decode cL_matters 1 = .ok (.aload 9, 2) := by decide +kernel
theorem dL_matters_3 : decode cL_matters 3 = .ok (.iconst 0, 1) := by decide +kernel
theorem dL_matters_4 : decode cL_matters 4 = .ok (.iaload, 1) := by decide +kernel
theorem dL_matters_5 : decode cL_matters 5 = .ok (.invokestatic 65, 3) := by decide +kernel
theorem dL_matters_8 : decode cL_matters 8 = .ok (.istore 10, 2) := by decide +kernel
theorem dL_matters_10 : decode cL_matters 10 = .ok (.aload_n 3, 1) := by decide +kernel
theorem dL_matters_11 : decode cL_matters 11 = .ok (.bipush 8, 2) := by decide +kernel
theorem dL_matters_13 : decode cL_matters 13 = .ok (.iload 10, 2) := by decide +kernel
theorem dL_matters_15 : decode cL_matters 15 = .ok (.imul, 1) := by decide +kernel
theorem dL_matters_16 : decode cL_matters 16 = .ok (.iaload, 1) := by decide +kernel
theorem dL_matters_17 : decode cL_matters 17 = .ok (.istore 11, 2) := by decide +kernel
theorem dL_matters_19 : decode cL_matters 19 = .ok (.iload_n 1, 1) := by decide +kernel
theorem dL_matters_20 : decode cL_matters 20 = .ok (.ifCond .ne 136, 3) := by decide +kernel
theorem dL_matters_23 : decode cL_matters 23 = .ok (.iconst 0, 1) := by decide +kernel
theorem dL_matters_24 : decode cL_matters 24 = .ok (.istore 12, 2) := by decide +kernel
theorem dL_matters_26 : decode cL_matters 26 = .ok (.iconst 0, 1) := by decide +kernel
theorem dL_matters_27 : decode cL_matters 27 = .ok (.istore 13, 2) := by decide +kernel
theorem dL_matters_29 : decode cL_matters 29 = .ok (.iload 13, 2) := by decide +kernel
theorem dL_matters_31 : decode cL_matters 31 = .ok (.aload 9, 2) := by decide +kernel
theorem dL_matters_33 : decode cL_matters 33 = .ok (.iconst 1, 1) := by decide +kernel
theorem dL_matters_34 : decode cL_matters 34 = .ok (.iaload, 1) := by decide +kernel
theorem dL_matters_35 : decode cL_matters 35 = .ok (.if_icmp .ge 69, 3) := by decide +kernel
theorem dL_matters_38 : decode cL_matters 38 = .ok (.iload 11, 2) := by decide +kernel
theorem dL_matters_40 : decode cL_matters 40 = .ok (.iconst 1, 1) := by decide +kernel
theorem dL_matters_41 : decode cL_matters 41 = .ok (.if_icmp .ne 63, 3) := by decide +kernel
theorem dL_matters_44 : decode cL_matters 44 = .ok (.aload 4, 2) := by decide +kernel
theorem dL_matters_46 : decode cL_matters 46 = .ok (.iconst 4, 1) := by decide +kernel
theorem dL_matters_47 : decode cL_matters 47 = .ok (.iload 13, 2) := by decide +kernel
theorem dL_matters_49 : decode cL_matters 49 = .ok (.imul, 1) := by decide +kernel
theorem dL_matters_50 : decode cL_matters 50 = .ok (.iaload, 1) := by decide +kernel
theorem dL_matters_51 : decode cL_matters 51 = .ok (.ifCond .ne 47, 3) := by decide +kernel
theorem dL_matters_54 : decode cL_matters 54 = .ok (.aload 4, 2) := by decide +kernel
theorem dL_matters_56 : decode cL_matters 56 = .ok (.iconst 4, 1) := by decide +kernel
theorem dL_matters_57 : decode cL_matters 57 = .ok (.iload 13, 2) := by decide +kernel
theorem dL_matters_59 : decode cL_matters 59 = .ok (.imul, 1) := by decide +kernel
theorem dL_matters_60 : decode cL_matters 60 = .ok (.iconst 1, 1) := by decide +kernel
theorem dL_matters_61 : decode cL_matters 61 = .ok (.iadd, 1) := by decide +kernel
theorem dL_matters_62 : decode cL_matters 62 = .ok (.iaload, 1) := by decide +kernel
theorem dL_matters_63 : decode cL_matters 63 = .ok (.bipush 16, 2) := by decide +kernel
theorem dL_matters_65 : decode cL_matters 65 = .ok (.irem, 1) := by decide +kernel
theorem dL_matters_66 : decode cL_matters 66 = .ok (.iload 10, 2) := by decide +kernel
theorem dL_matters_68 : decode cL_matters 68 = .ok (.if_icmp .ne 30, 3) := by decide +kernel
theorem dL_matters_71 : decode cL_matters 71 = .ok (.iload 13, 2) := by decide +kernel
theorem dL_matters_73 : decode cL_matters 73 = .ok (.aload_n 3, 1) := by decide +kernel
theorem dL_matters_74 : decode cL_matters 74 = .ok (.aload 4, 2) := by decide +kernel
theorem dL_matters_76 : decode cL_matters 76 = .ok (.aload 5, 2) := by decide +kernel
theorem dL_matters_78 : decode cL_matters 78 = .ok (.aload 6, 2) := by decide +kernel
theorem dL_matters_80 : decode cL_matters 80 = .ok (.aload 7, 2) := by decide +kernel
theorem dL_matters_82 : decode cL_matters 82 = .ok (.aload 9, 2) := by decide +kernel
theorem dL_matters_84 : decode cL_matters 84 = .ok (.invokestatic 85, 3) := by decide +kernel
theorem dL_matters_87 : decode cL_matters 87 = .ok (.aload 4, 2) := by decide +kernel
theorem dL_matters_89 : decode cL_matters 89 = .ok (.iconst 4, 1) := by decide +kernel
theorem dL_matters_90 : decode cL_matters 90 = .ok (.iload 13, 2) := by decide +kernel
theorem dL_matters_92 : decode cL_matters 92 = .ok (.imul, 1) := by decide +kernel
theorem dL_matters_93 : decode cL_matters 93 = .ok (.iconst 3, 1) := by decide +kernel
theorem dL_matters_94 : decode cL_matters 94 = .ok (.iastore, 1) := by decide +kernel
theorem dL_matters_95 : decode cL_matters 95 = .ok (.iinc 12 1, 3) := by decide +kernel
theorem dL_matters_98 : decode cL_matters 98 = .ok (.iinc 13 1, 3) := by decide +kernel
theorem dL_matters_101 : decode cL_matters 101 = .ok (.goto (-72), 3) := by decide +kernel
theorem dL_matters_104 : decode cL_matters 104 = .ok (.aload_n 3, 1) := by decide +kernel
theorem dL_matters_105 : decode cL_matters 105 = .ok (.bipush 8, 2) := by decide +kernel
theorem dL_matters_107 : decode cL_matters 107 = .ok (.iload 10, 2) := by decide +kernel
theorem dL_matters_109 : decode cL_matters 109 = .ok (.imul, 1) := by decide +kernel
theorem dL_matters_110 : decode cL_matters 110 = .ok (.iload 11, 2) := by decide +kernel
theorem dL_matters_112 : decode cL_matters 112 = .ok (.iconst 1, 1) := by decide +kernel
theorem dL_matters_113 : decode cL_matters 113 = .ok (.if_icmp .ne 7, 3) := by decide +kernel
theorem dL_matters_116 : decode cL_matters 116 = .ok (.iconst 2, 1) := by decide +kernel
theorem dL_matters_117 : decode cL_matters 117 = .ok (.goto 5, 3) := by decide +kernel
theorem dL_matters_120 : decode cL_matters 120 = .ok (.iload 11, 2) := by decide +kernel
theorem dL_matters_122 : decode cL_matters 122 = .ok (.iastore, 1) := by decide +kernel
theorem dL_matters_123 : decode cL_matters 123 = .ok (.aload_n 0, 1) := by decide +kernel
theorem dL_matters_124 : decode cL_matters 124 = .ok (.iconst 3, 1) := by decide +kernel
theorem dL_matters_125 : decode cL_matters 125 = .ok (.iload 10, 2) := by decide +kernel
theorem dL_matters_127 : decode cL_matters 127 = .ok (.iconst 0, 1) := by decide +kernel
theorem dL_matters_128 : decode cL_matters 128 = .ok (.iconst 0, 1) := by decide +kernel
theorem dL_matters_129 : decode cL_matters 129 = .ok (.iconst 0, 1) := by decide +kernel
theorem dL_matters_130 : decode cL_matters 130 = .ok (.iconst 0, 1) := by decide +kernel
theorem dL_matters_131 : decode cL_matters 131 = .ok (.invokestatic 81, 3) := by decide +kernel
theorem dL_matters_134 : decode cL_matters 134 = .ok (.iload 11, 2) := by decide +kernel
theorem dL_matters_136 : decode cL_matters 136 = .ok (.iconst 1, 1) := by decide +kernel
theorem dL_matters_137 : decode cL_matters 137 = .ok (.if_icmp .ne 8, 3) := by decide +kernel
theorem dL_matters_140 : decode cL_matters 140 = .ok (.iload 12, 2) := by decide +kernel
theorem dL_matters_142 : decode cL_matters 142 = .ok (.goto 5, 3) := by decide +kernel
theorem dL_matters_145 : decode cL_matters 145 = .ok (.ldc 46, 2) := by decide +kernel
theorem dL_matters_147 : decode cL_matters 147 = .ok (.if_icmp .ne 7, 3) := by decide +kernel
theorem dL_matters_150 : decode cL_matters 150 = .ok (.iconst 1, 1) := by decide +kernel
theorem dL_matters_151 : decode cL_matters 151 = .ok (.goto 4, 3) := by decide +kernel
theorem dL_matters_154 : decode cL_matters 154 = .ok (.iconst 0, 1) := by decide +kernel
theorem dL_matters_155 : decode cL_matters 155 = .ok (.ireturn, 1) := by decide +kernel
theorem dL_matters_156 : decode cL_matters 156 = .ok (.iload_n 1, 1) := by decide +kernel
theorem dL_matters_157 : decode cL_matters 157 = .ok (.iconst 1, 1) := by decide +kernel
theorem dL_matters_158 : decode cL_matters 158 = .ok (.if_icmp .ne 126, 3) := by decide +kernel
theorem dL_matters_161 : decode cL_matters 161 = .ok (.iload 11, 2) := by decide +kernel
theorem dL_matters_163 : decode cL_matters 163 = .ok (.iconst 2, 1) := by decide +kernel
theorem dL_matters_164 : decode cL_matters 164 = .ok (.if_icmp .ne 19, 3) := by decide +kernel
theorem dL_matters_167 : decode cL_matters 167 = .ok (.aload_n 3, 1) := by decide +kernel
theorem dL_matters_168 : decode cL_matters 168 = .ok (.bipush 8, 2) := by decide +kernel
theorem dL_matters_170 : decode cL_matters 170 = .ok (.iload 10, 2) := by decide +kernel
theorem dL_matters_172 : decode cL_matters 172 = .ok (.imul, 1) := by decide +kernel
theorem dL_matters_173 : decode cL_matters 173 = .ok (.iconst 5, 1) := by decide +kernel
theorem dL_matters_174 : decode cL_matters 174 = .ok (.iadd, 1) := by decide +kernel
theorem dL_matters_175 : decode cL_matters 175 = .ok (.iaload, 1) := by decide +kernel
theorem dL_matters_176 : decode cL_matters 176 = .ok (.ifCond .lt 7, 3) := by decide +kernel
theorem dL_matters_179 : decode cL_matters 179 = .ok (.iconst 1, 1) := by decide +kernel
theorem dL_matters_180 : decode cL_matters 180 = .ok (.goto 4, 3) := by decide +kernel
theorem dL_matters_183 : decode cL_matters 183 = .ok (.iconst 0, 1) := by decide +kernel
theorem dL_matters_184 : decode cL_matters 184 = .ok (.istore 12, 2) := by decide +kernel
theorem dL_matters_186 : decode cL_matters 186 = .ok (.aload_n 3, 1) := by decide +kernel
theorem dL_matters_187 : decode cL_matters 187 = .ok (.bipush 8, 2) := by decide +kernel
theorem dL_matters_189 : decode cL_matters 189 = .ok (.iload 10, 2) := by decide +kernel
theorem dL_matters_191 : decode cL_matters 191 = .ok (.imul, 1) := by decide +kernel
theorem dL_matters_192 : decode cL_matters 192 = .ok (.iload 12, 2) := by decide +kernel
theorem dL_matters_194 : decode cL_matters 194 = .ok (.ifCond .eq 7, 3) := by decide +kernel
theorem dL_matters_197 : decode cL_matters 197 = .ok (.iconst 3, 1) := by decide +kernel
theorem dL_matters_198 : decode cL_matters 198 = .ok (.goto 5, 3) := by decide +kernel
theorem dL_matters_201 : decode cL_matters 201 = .ok (.iload 11, 2) := by decide +kernel
theorem dL_matters_203 : decode cL_matters 203 = .ok (.iastore, 1) := by decide +kernel
theorem dL_matters_204 : decode cL_matters 204 = .ok (.aload_n 3, 1) := by decide +kernel
theorem dL_matters_205 : decode cL_matters 205 = .ok (.bipush 8, 2) := by decide +kernel
theorem dL_matters_207 : decode cL_matters 207 = .ok (.iload 10, 2) := by decide +kernel
theorem dL_matters_209 : decode cL_matters 209 = .ok (.imul, 1) := by decide +kernel
theorem dL_matters_210 : decode cL_matters 210 = .ok (.iconst 5, 1) := by decide +kernel
theorem dL_matters_211 : decode cL_matters 211 = .ok (.iadd, 1) := by decide +kernel
theorem dL_matters_212 : decode cL_matters 212 = .ok (.dup2, 1) := by decide +kernel
theorem dL_matters_213 : decode cL_matters 213 = .ok (.iaload, 1) := by decide +kernel
theorem dL_matters_214 : decode cL_matters 214 = .ok (.iload 12, 2) := by decide +kernel
theorem dL_matters_216 : decode cL_matters 216 = .ok (.ifCond .eq 26, 3) := by decide +kernel
theorem dL_matters_219 : decode cL_matters 219 = .ok (.aload 8, 2) := by decide +kernel
theorem dL_matters_221 : decode cL_matters 221 = .ok (.bipush 8, 2) := by decide +kernel
theorem dL_matters_223 : decode cL_matters 223 = .ok (.aload_n 3, 1) := by decide +kernel
theorem dL_matters_224 : decode cL_matters 224 = .ok (.bipush 8, 2) := by decide +kernel
theorem dL_matters_226 : decode cL_matters 226 = .ok (.iload 10, 2) := by decide +kernel
theorem dL_matters_228 : decode cL_matters 228 = .ok (.imul, 1) := by decide +kernel
theorem dL_matters_229 : decode cL_matters 229 = .ok (.iconst 2, 1) := by decide +kernel
theorem dL_matters_230 : decode cL_matters 230 = .ok (.iadd, 1) := by decide +kernel
theorem dL_matters_231 : decode cL_matters 231 = .ok (.iaload, 1) := by decide +kernel
theorem dL_matters_232 : decode cL_matters 232 = .ok (.iadd, 1) := by decide +kernel
theorem dL_matters_233 : decode cL_matters 233 = .ok (.iaload, 1) := by decide +kernel
theorem dL_matters_234 : decode cL_matters 234 = .ok (.ifCond .ne 8, 3) := by decide +kernel
theorem dL_matters_237 : decode cL_matters 237 = .ok (.bipush 80, 2) := by decide +kernel
theorem dL_matters_239 : decode cL_matters 239 = .ok (.goto 4, 3) := by decide +kernel
theorem dL_matters_242 : decode cL_matters 242 = .ok (.iconst 0, 1) := by decide +kernel
theorem dL_matters_243 : decode cL_matters 243 = .ok (.isub, 1) := by decide +kernel
theorem dL_matters_244 : decode cL_matters 244 = .ok (.iastore, 1) := by decide +kernel
theorem dL_matters_245 : decode cL_matters 245 = .ok (.aload_n 0, 1) := by decide +kernel
theorem dL_matters_246 : decode cL_matters 246 = .ok (.iconst 4, 1) := by decide +kernel
theorem dL_matters_247 : decode cL_matters 247 = .ok (.iload 10, 2) := by decide +kernel
theorem dL_matters_249 : decode cL_matters 249 = .ok (.iconst 0, 1) := by decide +kernel
theorem dL_matters_250 : decode cL_matters 250 = .ok (.iconst 0, 1) := by decide +kernel
theorem dL_matters_251 : decode cL_matters 251 = .ok (.iconst 0, 1) := by decide +kernel
theorem dL_matters_252 : decode cL_matters 252 = .ok (.iconst 0, 1) := by decide +kernel
theorem dL_matters_253 : decode cL_matters 253 = .ok (.invokestatic 81, 3) := by decide +kernel
theorem dL_matters_256 : decode cL_matters 256 = .ok (.iload 12, 2) := by decide +kernel
theorem dL_matters_258 : decode cL_matters 258 = .ok (.ifCond .eq 15, 3) := by decide +kernel
theorem dL_matters_261 : decode cL_matters 261 = .ok (.aload_n 3, 1) := by decide +kernel
theorem dL_matters_262 : decode cL_matters 262 = .ok (.bipush 8, 2) := by decide +kernel
theorem dL_matters_264 : decode cL_matters 264 = .ok (.iload 10, 2) := by decide +kernel
theorem dL_matters_266 : decode cL_matters 266 = .ok (.imul, 1) := by decide +kernel
theorem dL_matters_267 : decode cL_matters 267 = .ok (.iconst 5, 1) := by decide +kernel
theorem dL_matters_268 : decode cL_matters 268 = .ok (.iadd, 1) := by decide +kernel
theorem dL_matters_269 : decode cL_matters 269 = .ok (.iaload, 1) := by decide +kernel
theorem dL_matters_270 : decode cL_matters 270 = .ok (.goto 5, 3) := by decide +kernel
theorem dL_matters_273 : decode cL_matters 273 = .ok (.ldc 46, 2) := by decide +kernel
theorem dL_matters_275 : decode cL_matters 275 = .ok (.if_icmp .ne 7, 3) := by decide +kernel
theorem dL_matters_278 : decode cL_matters 278 = .ok (.iconst 1, 1) := by decide +kernel
theorem dL_matters_279 : decode cL_matters 279 = .ok (.goto 4, 3) := by decide +kernel
theorem dL_matters_282 : decode cL_matters 282 = .ok (.iconst 0, 1) := by decide +kernel
theorem dL_matters_283 : decode cL_matters 283 = .ok (.ireturn, 1) := by decide +kernel
theorem dL_matters_284 : decode cL_matters 284 = .ok (.iload_n 1, 1) := by decide +kernel
theorem dL_matters_285 : decode cL_matters 285 = .ok (.iconst 2, 1) := by decide +kernel
theorem dL_matters_286 : decode cL_matters 286 = .ok (.if_icmp .ne 83, 3) := by decide +kernel
theorem dL_matters_289 : decode cL_matters 289 = .ok (.iload_n 2, 1) := by decide +kernel
theorem dL_matters_290 : decode cL_matters 290 = .ok (.iconst 4, 1) := by decide +kernel
theorem dL_matters_291 : decode cL_matters 291 = .ok (.ishr, 1) := by decide +kernel
theorem dL_matters_292 : decode cL_matters 292 = .ok (.iconst 2, 1) := by decide +kernel
theorem dL_matters_293 : decode cL_matters 293 = .ok (.invokestatic 65, 3) := by decide +kernel
theorem dL_matters_296 : decode cL_matters 296 = .ok (.istore 12, 2) := by decide +kernel
theorem dL_matters_298 : decode cL_matters 298 = .ok (.aload_n 3, 1) := by decide +kernel
theorem dL_matters_299 : decode cL_matters 299 = .ok (.bipush 8, 2) := by decide +kernel
theorem dL_matters_301 : decode cL_matters 301 = .ok (.iload 10, 2) := by decide +kernel
theorem dL_matters_303 : decode cL_matters 303 = .ok (.imul, 1) := by decide +kernel
theorem dL_matters_304 : decode cL_matters 304 = .ok (.iload 11, 2) := by decide +kernel
theorem dL_matters_306 : decode cL_matters 306 = .ok (.iconst 3, 1) := by decide +kernel
theorem dL_matters_307 : decode cL_matters 307 = .ok (.if_icmp .ne 17, 3) := by decide +kernel
theorem dL_matters_310 : decode cL_matters 310 = .ok (.iload 12, 2) := by decide +kernel
theorem dL_matters_312 : decode cL_matters 312 = .ok (.iconst 1, 1) := by decide +kernel
theorem dL_matters_313 : decode cL_matters 313 = .ok (.if_icmp .ne 7, 3) := by decide +kernel
theorem dL_matters_316 : decode cL_matters 316 = .ok (.iconst 0, 1) := by decide +kernel
theorem dL_matters_317 : decode cL_matters 317 = .ok (.goto 9, 3) := by decide +kernel
theorem dL_matters_320 : decode cL_matters 320 = .ok (.iconst 2, 1) := by decide +kernel
theorem dL_matters_321 : decode cL_matters 321 = .ok (.goto 5, 3) := by decide +kernel
theorem dL_matters_324 : decode cL_matters 324 = .ok (.iload 11, 2) := by decide +kernel
theorem dL_matters_326 : decode cL_matters 326 = .ok (.iastore, 1) := by decide +kernel
theorem dL_matters_327 : decode cL_matters 327 = .ok (.aload_n 0, 1) := by decide +kernel
theorem dL_matters_328 : decode cL_matters 328 = .ok (.iconst 5, 1) := by decide +kernel
theorem dL_matters_329 : decode cL_matters 329 = .ok (.iload 10, 2) := by decide +kernel
theorem dL_matters_331 : decode cL_matters 331 = .ok (.iload 12, 2) := by decide +kernel
theorem dL_matters_333 : decode cL_matters 333 = .ok (.iconst 0, 1) := by decide +kernel
theorem dL_matters_334 : decode cL_matters 334 = .ok (.iconst 0, 1) := by decide +kernel
theorem dL_matters_335 : decode cL_matters 335 = .ok (.iconst 0, 1) := by decide +kernel
theorem dL_matters_336 : decode cL_matters 336 = .ok (.invokestatic 81, 3) := by decide +kernel
theorem dL_matters_339 : decode cL_matters 339 = .ok (.iload 11, 2) := by decide +kernel
theorem dL_matters_341 : decode cL_matters 341 = .ok (.iconst 3, 1) := by decide +kernel
theorem dL_matters_342 : decode cL_matters 342 = .ok (.if_icmp .ne 16, 3) := by decide +kernel
theorem dL_matters_345 : decode cL_matters 345 = .ok (.aload_n 3, 1) := by decide +kernel
theorem dL_matters_346 : decode cL_matters 346 = .ok (.bipush 8, 2) := by decide +kernel
theorem dL_matters_348 : decode cL_matters 348 = .ok (.iload 10, 2) := by decide +kernel
theorem dL_matters_350 : decode cL_matters 350 = .ok (.imul, 1) := by decide +kernel
theorem dL_matters_351 : decode cL_matters 351 = .ok (.bipush 6, 2) := by decide +kernel
theorem dL_matters_353 : decode cL_matters 353 = .ok (.iadd, 1) := by decide +kernel
theorem dL_matters_354 : decode cL_matters 354 = .ok (.iaload, 1) := by decide +kernel
theorem dL_matters_355 : decode cL_matters 355 = .ok (.goto 5, 3) := by decide +kernel
theorem dL_matters_358 : decode cL_matters 358 = .ok (.ldc 46, 2) := by decide +kernel
theorem dL_matters_360 : decode cL_matters 360 = .ok (.if_icmp .ne 7, 3) := by decide +kernel
theorem dL_matters_363 : decode cL_matters 363 = .ok (.iconst 1, 1) := by decide +kernel
theorem dL_matters_364 : decode cL_matters 364 = .ok (.goto 4, 3) := by decide +kernel
theorem dL_matters_367 : decode cL_matters 367 = .ok (.iconst 0, 1) := by decide +kernel
theorem dL_matters_368 : decode cL_matters 368 = .ok (.ireturn, 1) := by decide +kernel
theorem dL_matters_369 : decode cL_matters 369 = .ok (.iload_n 1, 1) := by decide +kernel
theorem dL_matters_370 : decode cL_matters 370 = .ok (.iconst 3, 1) := by decide +kernel
theorem dL_matters_371 : decode cL_matters 371 = .ok (.if_icmp .ne 73, 3) := by decide +kernel
theorem dL_matters_374 : decode cL_matters 374 = .ok (.iload_n 2, 1) := by decide +kernel
theorem dL_matters_375 : decode cL_matters 375 = .ok (.iconst 5, 1) := by decide +kernel
theorem dL_matters_376 : decode cL_matters 376 = .ok (.ishr, 1) := by decide +kernel
theorem dL_matters_377 : decode cL_matters 377 = .ok (.iconst 3, 1) := by decide +kernel
theorem dL_matters_378 : decode cL_matters 378 = .ok (.invokestatic 65, 3) := by decide +kernel
theorem dL_matters_381 : decode cL_matters 381 = .ok (.ifCond .ne 63, 3) := by decide +kernel
theorem dL_matters_384 : decode cL_matters 384 = .ok (.aload_n 3, 1) := by decide +kernel
theorem dL_matters_385 : decode cL_matters 385 = .ok (.bipush 8, 2) := by decide +kernel
theorem dL_matters_387 : decode cL_matters 387 = .ok (.iload 10, 2) := by decide +kernel
theorem dL_matters_389 : decode cL_matters 389 = .ok (.imul, 1) := by decide +kernel
theorem dL_matters_390 : decode cL_matters 390 = .ok (.iload 11, 2) := by decide +kernel
theorem dL_matters_392 : decode cL_matters 392 = .ok (.iconst 2, 1) := by decide +kernel
theorem dL_matters_393 : decode cL_matters 393 = .ok (.if_icmp .ne 7, 3) := by decide +kernel
theorem dL_matters_396 : decode cL_matters 396 = .ok (.iconst 4, 1) := by decide +kernel
theorem dL_matters_397 : decode cL_matters 397 = .ok (.goto 5, 3) := by decide +kernel
theorem dL_matters_400 : decode cL_matters 400 = .ok (.iload 11, 2) := by decide +kernel
theorem dL_matters_402 : decode cL_matters 402 = .ok (.iastore, 1) := by decide +kernel
theorem dL_matters_403 : decode cL_matters 403 = .ok (.aload_n 0, 1) := by decide +kernel
theorem dL_matters_404 : decode cL_matters 404 = .ok (.bipush 6, 2) := by decide +kernel
theorem dL_matters_406 : decode cL_matters 406 = .ok (.iload 10, 2) := by decide +kernel
theorem dL_matters_408 : decode cL_matters 408 = .ok (.iconst 0, 1) := by decide +kernel
theorem dL_matters_409 : decode cL_matters 409 = .ok (.iconst 0, 1) := by decide +kernel
theorem dL_matters_410 : decode cL_matters 410 = .ok (.iconst 0, 1) := by decide +kernel
theorem dL_matters_411 : decode cL_matters 411 = .ok (.iconst 0, 1) := by decide +kernel
theorem dL_matters_412 : decode cL_matters 412 = .ok (.invokestatic 81, 3) := by decide +kernel
theorem dL_matters_415 : decode cL_matters 415 = .ok (.iload 11, 2) := by decide +kernel
theorem dL_matters_417 : decode cL_matters 417 = .ok (.iconst 2, 1) := by decide +kernel
theorem dL_matters_418 : decode cL_matters 418 = .ok (.if_icmp .ne 15, 3) := by decide +kernel
theorem dL_matters_421 : decode cL_matters 421 = .ok (.aload_n 3, 1) := by decide +kernel
theorem dL_matters_422 : decode cL_matters 422 = .ok (.bipush 8, 2) := by decide +kernel
theorem dL_matters_424 : decode cL_matters 424 = .ok (.iload 10, 2) := by decide +kernel
theorem dL_matters_426 : decode cL_matters 426 = .ok (.imul, 1) := by decide +kernel
theorem dL_matters_427 : decode cL_matters 427 = .ok (.iconst 5, 1) := by decide +kernel
theorem dL_matters_428 : decode cL_matters 428 = .ok (.iadd, 1) := by decide +kernel
theorem dL_matters_429 : decode cL_matters 429 = .ok (.iaload, 1) := by decide +kernel
theorem dL_matters_430 : decode cL_matters 430 = .ok (.goto 5, 3) := by decide +kernel
theorem dL_matters_433 : decode cL_matters 433 = .ok (.ldc 46, 2) := by decide +kernel
theorem dL_matters_435 : decode cL_matters 435 = .ok (.if_icmp .ne 7, 3) := by decide +kernel
theorem dL_matters_438 : decode cL_matters 438 = .ok (.iconst 1, 1) := by decide +kernel
theorem dL_matters_439 : decode cL_matters 439 = .ok (.goto 4, 3) := by decide +kernel
theorem dL_matters_442 : decode cL_matters 442 = .ok (.iconst 0, 1) := by decide +kernel
theorem dL_matters_443 : decode cL_matters 443 = .ok (.ireturn, 1) := by decide +kernel
theorem dL_matters_444 : decode cL_matters 444 = .ok (.iconst 1, 1) := by decide +kernel
theorem dL_matters_445 : decode cL_matters 445 = .ok (.iload_n 2, 1) := by decide +kernel
theorem dL_matters_446 : decode cL_matters 446 = .ok (.iconst 4, 1) := by decide +kernel
theorem dL_matters_447 : decode cL_matters 447 = .ok (.ishr, 1) := by decide +kernel
theorem dL_matters_448 : decode cL_matters 448 = .ok (.sipush 300, 3) := by decide +kernel
theorem dL_matters_451 : decode cL_matters 451 = .ok (.invokestatic 65, 3) := by decide +kernel
theorem dL_matters_454 : decode cL_matters 454 = .ok (.iadd, 1) := by decide +kernel
theorem dL_matters_455 : decode cL_matters 455 = .ok (.istore 12, 2) := by decide +kernel
theorem dL_matters_457 : decode cL_matters 457 = .ok (.aload_n 3, 1) := by decide +kernel
theorem dL_matters_458 : decode cL_matters 458 = .ok (.bipush 8, 2) := by decide +kernel
theorem dL_matters_460 : decode cL_matters 460 = .ok (.iload 10, 2) := by decide +kernel
theorem dL_matters_462 : decode cL_matters 462 = .ok (.imul, 1) := by decide +kernel
theorem dL_matters_463 : decode cL_matters 463 = .ok (.iconst 5, 1) := by decide +kernel
theorem dL_matters_464 : decode cL_matters 464 = .ok (.iadd, 1) := by decide +kernel
theorem dL_matters_465 : decode cL_matters 465 = .ok (.dup2, 1) := by decide +kernel
theorem dL_matters_466 : decode cL_matters 466 = .ok (.iaload, 1) := by decide +kernel
theorem dL_matters_467 : decode cL_matters 467 = .ok (.iload 12, 2) := by decide +kernel
theorem dL_matters_469 : decode cL_matters 469 = .ok (.iadd, 1) := by decide +kernel
theorem dL_matters_470 : decode cL_matters 470 = .ok (.iastore, 1) := by decide +kernel
theorem dL_matters_471 : decode cL_matters 471 = .ok (.aload_n 0, 1) := by decide +kernel
theorem dL_matters_472 : decode cL_matters 472 = .ok (.iload 10, 2) := by decide +kernel
theorem dL_matters_474 : decode cL_matters 474 = .ok (.iload 12, 2) := by decide +kernel
theorem dL_matters_476 : decode cL_matters 476 = .ok (.invokevirtual 89, 3) := by decide +kernel
theorem dL_matters_479 : decode cL_matters 479 = .ok (.aload_n 3, 1) := by decide +kernel
theorem dL_matters_480 : decode cL_matters 480 = .ok (.bipush 8, 2) := by decide +kernel
theorem dL_matters_482 : decode cL_matters 482 = .ok (.iload 10, 2) := by decide +kernel
theorem dL_matters_484 : decode cL_matters 484 = .ok (.imul, 1) := by decide +kernel
theorem dL_matters_485 : decode cL_matters 485 = .ok (.iconst 5, 1) := by decide +kernel
theorem dL_matters_486 : decode cL_matters 486 = .ok (.iadd, 1) := by decide +kernel
theorem dL_matters_487 : decode cL_matters 487 = .ok (.iaload, 1) := by decide +kernel
theorem dL_matters_488 : decode cL_matters 488 = .ok (.if_icmp .ne 7, 3) := by decide +kernel
theorem dL_matters_491 : decode cL_matters 491 = .ok (.iconst 1, 1) := by decide +kernel
theorem dL_matters_492 : decode cL_matters 492 = .ok (.goto 4, 3) := by decide +kernel
theorem dL_matters_495 : decode cL_matters 495 = .ok (.iconst 0, 1) := by decide +kernel
theorem dL_matters_496 : decode cL_matters 496 = .ok (.ireturn, 1) := by decide +kernel
theorem dL_same_0 : decode cL_same 0 = .ok (.aload_n 0, 1) := by decide +kernel
theorem dL_same_1 : decode cL_same 1 = .ok (.invokevirtual 92, 3) := by decide +kernel
theorem dL_same_4 : decode cL_same 4 = .ok (.aload 7, 2) := by decide +kernel
theorem dL_same_6 : decode cL_same 6 = .ok (.iconst 2, 1) := by decide +kernel
theorem dL_same_7 : decode cL_same 7 = .ok (.iaload, 1) := by decide +kernel
theorem dL_same_8 : decode cL_same 8 = .ok (.if_icmp .ne 7, 3) := by decide +kernel
theorem dL_same_11 : decode cL_same 11 = .ok (.iconst 1, 1) := by decide +kernel
theorem dL_same_12 : decode cL_same 12 = .ok (.goto 4, 3) := by decide +kernel
theorem dL_same_15 : decode cL_same 15 = .ok (.iconst 0, 1) := by decide +kernel
theorem dL_same_16 : decode cL_same 16 = .ok (.istore 8, 2) := by decide +kernel
theorem dL_same_18 : decode cL_same 18 = .ok (.iconst 0, 1) := by decide +kernel
theorem dL_same_19 : decode cL_same 19 = .ok (.istore 9, 2) := by decide +kernel
theorem dL_same_21 : decode cL_same 21 = .ok (.iconst 0, 1) := by decide +kernel
theorem dL_same_22 : decode cL_same 22 = .ok (.istore 10, 2) := by decide +kernel
theorem dL_same_24 : decode cL_same 24 = .ok (.iload 10, 2) := by decide +kernel
theorem dL_same_26 : decode cL_same 26 = .ok (.aload 7, 2) := by decide +kernel
theorem dL_same_28 : decode cL_same 28 = .ok (.iconst 0, 1) := by decide +kernel
theorem dL_same_29 : decode cL_same 29 = .ok (.iaload, 1) := by decide +kernel
theorem dL_same_30 : decode cL_same 30 = .ok (.if_icmp .ge 191, 3) := by decide +kernel
theorem dL_same_33 : decode cL_same 33 = .ok (.iload 8, 2) := by decide +kernel
theorem dL_same_35 : decode cL_same 35 = .ok (.ifCond .eq 186, 3) := by decide +kernel
theorem dL_same_38 : decode cL_same 38 = .ok (.iconst 0, 1) := by decide +kernel
theorem dL_same_39 : decode cL_same 39 = .ok (.istore 11, 2) := by decide +kernel
theorem dL_same_41 : decode cL_same 41 = .ok (.iconst 0, 1) := by decide +kernel
theorem dL_same_42 : decode cL_same 42 = .ok (.istore 12, 2) := by decide +kernel
theorem dL_same_44 : decode cL_same 44 = .ok (.iload 12, 2) := by decide +kernel
theorem dL_same_46 : decode cL_same 46 = .ok (.bipush 64, 2) := by decide +kernel
theorem dL_same_48 : decode cL_same 48 = .ok (.if_icmp .ge 55, 3) := by decide +kernel
theorem dL_same_51 : decode cL_same 51 = .ok (.iload 11, 2) := by decide +kernel
theorem dL_same_53 : decode cL_same 53 = .ok (.aload 5, 2) := by decide +kernel
theorem dL_same_55 : decode cL_same 55 = .ok (.iload 12, 2) := by decide +kernel
theorem dL_same_57 : decode cL_same 57 = .ok (.iaload, 1) := by decide +kernel
theorem dL_same_58 : decode cL_same 58 = .ok (.ifCond .le 35, 3) := by decide +kernel
theorem dL_same_61 : decode cL_same 61 = .ok (.aload 5, 2) := by decide +kernel
theorem dL_same_63 : decode cL_same 63 = .ok (.iload 12, 2) := by decide +kernel
theorem dL_same_65 : decode cL_same 65 = .ok (.iaload, 1) := by decide +kernel
theorem dL_same_66 : decode cL_same 66 = .ok (.bipush 8, 2) := by decide +kernel
theorem dL_same_68 : decode cL_same 68 = .ok (.idiv, 1) := by decide +kernel
theorem dL_same_69 : decode cL_same 69 = .ok (.aload 7, 2) := by decide +kernel
theorem dL_same_71 : decode cL_same 71 = .ok (.iconst 2, 1) := by decide +kernel
theorem dL_same_72 : decode cL_same 72 = .ok (.iaload, 1) := by decide +kernel
theorem dL_same_73 : decode cL_same 73 = .ok (.if_icmp .le 20, 3) := by decide +kernel
theorem dL_same_76 : decode cL_same 76 = .ok (.aload 6, 2) := by decide +kernel
theorem dL_same_78 : decode cL_same 78 = .ok (.iload 12, 2) := by decide +kernel
theorem dL_same_80 : decode cL_same 80 = .ok (.iaload, 1) := by decide +kernel
theorem dL_same_81 : decode cL_same 81 = .ok (.bipush 16, 2) := by decide +kernel
theorem dL_same_83 : decode cL_same 83 = .ok (.irem, 1) := by decide +kernel
theorem dL_same_84 : decode cL_same 84 = .ok (.iload 10, 2) := by decide +kernel
theorem dL_same_86 : decode cL_same 86 = .ok (.if_icmp .ne 7, 3) := by decide +kernel
theorem dL_same_89 : decode cL_same 89 = .ok (.iconst 1, 1) := by decide +kernel
theorem dL_same_90 : decode cL_same 90 = .ok (.goto 4, 3) := by decide +kernel
theorem dL_same_93 : decode cL_same 93 = .ok (.iconst 0, 1) := by decide +kernel
theorem dL_same_94 : decode cL_same 94 = .ok (.iadd, 1) := by decide +kernel
theorem dL_same_95 : decode cL_same 95 = .ok (.istore 11, 2) := by decide +kernel
theorem dL_same_97 : decode cL_same 97 = .ok (.iinc 12 1, 3) := by decide +kernel
theorem dL_same_100 : decode cL_same 100 = .ok (.goto (-56), 3) := by decide +kernel
theorem dL_same_103 : decode cL_same 103 = .ok (.iload 9, 2) := by decide +kernel
theorem dL_same_105 : decode cL_same 105 = .ok (.aload_n 2, 1) := by decide +kernel
theorem dL_same_106 : decode cL_same 106 = .ok (.bipush 8, 2) := by decide +kernel
theorem dL_same_108 : decode cL_same 108 = .ok (.iload 10, 2) := by decide +kernel
theorem dL_same_110 : decode cL_same 110 = .ok (.imul, 1) := by decide +kernel
theorem dL_same_111 : decode cL_same 111 = .ok (.iconst 5, 1) := by decide +kernel
theorem dL_same_112 : decode cL_same 112 = .ok (.iadd, 1) := by decide +kernel
theorem dL_same_113 : decode cL_same 113 = .ok (.iaload, 1) := by decide +kernel
theorem dL_same_114 : decode cL_same 114 = .ok (.iadd, 1) := by decide +kernel
theorem dL_same_115 : decode cL_same 115 = .ok (.istore 9, 2) := by decide +kernel
theorem dL_same_117 : decode cL_same 117 = .ok (.aload_n 0, 1) := by decide +kernel
theorem dL_same_118 : decode cL_same 118 = .ok (.iload 10, 2) := by decide +kernel
theorem dL_same_120 : decode cL_same 120 = .ok (.iconst 0, 1) := by decide +kernel
theorem dL_same_121 : decode cL_same 121 = .ok (.invokevirtual 96, 3) := by decide +kernel
theorem dL_same_124 : decode cL_same 124 = .ok (.aload_n 2, 1) := by decide +kernel
theorem dL_same_125 : decode cL_same 125 = .ok (.bipush 8, 2) := by decide +kernel
theorem dL_same_127 : decode cL_same 127 = .ok (.iload 10, 2) := by decide +kernel
theorem dL_same_129 : decode cL_same 129 = .ok (.imul, 1) := by decide +kernel
theorem dL_same_130 : decode cL_same 130 = .ok (.iaload, 1) := by decide +kernel
theorem dL_same_131 : decode cL_same 131 = .ok (.if_icmp .ne 81, 3) := by decide +kernel
theorem dL_same_134 : decode cL_same 134 = .ok (.aload_n 0, 1) := by decide +kernel
theorem dL_same_135 : decode cL_same 135 = .ok (.iload 10, 2) := by decide +kernel
theorem dL_same_137 : decode cL_same 137 = .ok (.iconst 5, 1) := by decide +kernel
theorem dL_same_138 : decode cL_same 138 = .ok (.invokevirtual 96, 3) := by decide +kernel
theorem dL_same_141 : decode cL_same 141 = .ok (.aload_n 2, 1) := by decide +kernel
theorem dL_same_142 : decode cL_same 142 = .ok (.bipush 8, 2) := by decide +kernel
theorem dL_same_144 : decode cL_same 144 = .ok (.iload 10, 2) := by decide +kernel
theorem dL_same_146 : decode cL_same 146 = .ok (.imul, 1) := by decide +kernel
theorem dL_same_147 : decode cL_same 147 = .ok (.iconst 5, 1) := by decide +kernel
theorem dL_same_148 : decode cL_same 148 = .ok (.iadd, 1) := by decide +kernel
theorem dL_same_149 : decode cL_same 149 = .ok (.iaload, 1) := by decide +kernel
theorem dL_same_150 : decode cL_same 150 = .ok (.if_icmp .ne 62, 3) := by decide +kernel
theorem dL_same_153 : decode cL_same 153 = .ok (.aload_n 0, 1) := by decide +kernel
theorem dL_same_154 : decode cL_same 154 = .ok (.iload 10, 2) := by decide +kernel
theorem dL_same_156 : decode cL_same 156 = .ok (.bipush 6, 2) := by decide +kernel
theorem dL_same_158 : decode cL_same 158 = .ok (.invokevirtual 96, 3) := by decide +kernel
theorem dL_same_161 : decode cL_same 161 = .ok (.aload_n 2, 1) := by decide +kernel
theorem dL_same_162 : decode cL_same 162 = .ok (.bipush 8, 2) := by decide +kernel
theorem dL_same_164 : decode cL_same 164 = .ok (.iload 10, 2) := by decide +kernel
theorem dL_same_166 : decode cL_same 166 = .ok (.imul, 1) := by decide +kernel
theorem dL_same_167 : decode cL_same 167 = .ok (.bipush 6, 2) := by decide +kernel
theorem dL_same_169 : decode cL_same 169 = .ok (.iadd, 1) := by decide +kernel
theorem dL_same_170 : decode cL_same 170 = .ok (.iaload, 1) := by decide +kernel
theorem dL_same_171 : decode cL_same 171 = .ok (.if_icmp .ne 41, 3) := by decide +kernel
theorem dL_same_174 : decode cL_same 174 = .ok (.aload_n 0, 1) := by decide +kernel
theorem dL_same_175 : decode cL_same 175 = .ok (.iload 10, 2) := by decide +kernel
theorem dL_same_177 : decode cL_same 177 = .ok (.bipush 7, 2) := by decide +kernel
theorem dL_same_179 : decode cL_same 179 = .ok (.invokevirtual 96, 3) := by decide +kernel
theorem dL_same_182 : decode cL_same 182 = .ok (.iload 11, 2) := by decide +kernel
theorem dL_same_184 : decode cL_same 184 = .ok (.if_icmp .ne 28, 3) := by decide +kernel
theorem dL_same_187 : decode cL_same 187 = .ok (.aload_n 0, 1) := by decide +kernel
theorem dL_same_188 : decode cL_same 188 = .ok (.iload 10, 2) := by decide +kernel
theorem dL_same_190 : decode cL_same 190 = .ok (.iconst 4, 1) := by decide +kernel
theorem dL_same_191 : decode cL_same 191 = .ok (.invokevirtual 96, 3) := by decide +kernel
theorem dL_same_194 : decode cL_same 194 = .ok (.aload_n 2, 1) := by decide +kernel
theorem dL_same_195 : decode cL_same 195 = .ok (.bipush 8, 2) := by decide +kernel
theorem dL_same_197 : decode cL_same 197 = .ok (.iload 10, 2) := by decide +kernel
theorem dL_same_199 : decode cL_same 199 = .ok (.imul, 1) := by decide +kernel
theorem dL_same_200 : decode cL_same 200 = .ok (.iconst 4, 1) := by decide +kernel
theorem dL_same_201 : decode cL_same 201 = .ok (.iadd, 1) := by decide +kernel
theorem dL_same_202 : decode cL_same 202 = .ok (.iaload, 1) := by decide +kernel
theorem dL_same_203 : decode cL_same 203 = .ok (.iconst 1, 1) := by decide +kernel
theorem dL_same_204 : decode cL_same 204 = .ok (.isub, 1) := by decide +kernel
theorem dL_same_205 : decode cL_same 205 = .ok (.if_icmp .ne 7, 3) := by decide +kernel
theorem dL_same_208 : decode cL_same 208 = .ok (.iconst 1, 1) := by decide +kernel
theorem dL_same_209 : decode cL_same 209 = .ok (.goto 4, 3) := by decide +kernel
theorem dL_same_212 : decode cL_same 212 = .ok (.iconst 0, 1) := by decide +kernel
theorem dL_same_213 : decode cL_same 213 = .ok (.istore 8, 2) := by decide +kernel
theorem dL_same_215 : decode cL_same 215 = .ok (.iinc 10 1, 3) := by decide +kernel
theorem dL_same_218 : decode cL_same 218 = .ok (.goto (-194), 3) := by decide +kernel
theorem dL_same_221 : decode cL_same 221 = .ok (.iconst 0, 1) := by decide +kernel
theorem dL_same_222 : decode cL_same 222 = .ok (.istore 10, 2) := by decide +kernel
theorem dL_same_224 : decode cL_same 224 = .ok (.iload 10, 2) := by decide +kernel
theorem dL_same_226 : decode cL_same 226 = .ok (.aload 7, 2) := by decide +kernel
theorem dL_same_228 : decode cL_same 228 = .ok (.iconst 1, 1) := by decide +kernel
theorem dL_same_229 : decode cL_same 229 = .ok (.iaload, 1) := by decide +kernel
theorem dL_same_230 : decode cL_same 230 = .ok (.if_icmp .ge 196, 3) := by decide +kernel
theorem dL_same_233 : decode cL_same 233 = .ok (.iload 8, 2) := by decide +kernel
theorem dL_same_235 : decode cL_same 235 = .ok (.ifCond .eq 191, 3) := by decide +kernel
theorem dL_same_238 : decode cL_same 238 = .ok (.aload_n 3, 1) := by decide +kernel
theorem dL_same_239 : decode cL_same 239 = .ok (.iconst 4, 1) := by decide +kernel
theorem dL_same_240 : decode cL_same 240 = .ok (.iload 10, 2) := by decide +kernel
theorem dL_same_242 : decode cL_same 242 = .ok (.imul, 1) := by decide +kernel
theorem dL_same_243 : decode cL_same 243 = .ok (.iconst 3, 1) := by decide +kernel
theorem dL_same_244 : decode cL_same 244 = .ok (.iadd, 1) := by decide +kernel
theorem dL_same_245 : decode cL_same 245 = .ok (.iaload, 1) := by decide +kernel
theorem dL_same_246 : decode cL_same 246 = .ok (.bipush 16, 2) := by decide +kernel
theorem dL_same_248 : decode cL_same 248 = .ok (.idiv, 1) := by decide +kernel
theorem dL_same_249 : decode cL_same 249 = .ok (.istore 11, 2) := by decide +kernel
theorem dL_same_251 : decode cL_same 251 = .ok (.aload_n 0, 1) := by decide +kernel
theorem dL_same_252 : decode cL_same 252 = .ok (.iload 10, 2) := by decide +kernel
theorem dL_same_254 : decode cL_same 254 = .ok (.iconst 0, 1) := by decide +kernel
theorem dL_same_255 : decode cL_same 255 = .ok (.invokevirtual 99, 3) := by decide +kernel
theorem dL_same_258 : decode cL_same 258 = .ok (.aload_n 3, 1) := by decide +kernel
theorem dL_same_259 : decode cL_same 259 = .ok (.iconst 4, 1) := by decide +kernel
theorem dL_same_260 : decode cL_same 260 = .ok (.iload 10, 2) := by decide +kernel
theorem dL_same_262 : decode cL_same 262 = .ok (.imul, 1) := by decide +kernel
theorem dL_same_263 : decode cL_same 263 = .ok (.iaload, 1) := by decide +kernel
theorem dL_same_264 : decode cL_same 264 = .ok (.if_icmp .ne 153, 3) := by decide +kernel
theorem dL_same_267 : decode cL_same 267 = .ok (.aload_n 0, 1) := by decide +kernel
theorem dL_same_268 : decode cL_same 268 = .ok (.iload 10, 2) := by decide +kernel
theorem dL_same_270 : decode cL_same 270 = .ok (.iconst 2, 1) := by decide +kernel
theorem dL_same_271 : decode cL_same 271 = .ok (.invokevirtual 99, 3) := by decide +kernel
theorem dL_same_274 : decode cL_same 274 = .ok (.aload_n 3, 1) := by decide +kernel
theorem dL_same_275 : decode cL_same 275 = .ok (.iconst 4, 1) := by decide +kernel
theorem dL_same_276 : decode cL_same 276 = .ok (.iload 10, 2) := by decide +kernel
theorem dL_same_278 : decode cL_same 278 = .ok (.imul, 1) := by decide +kernel
theorem dL_same_279 : decode cL_same 279 = .ok (.iconst 1, 1) := by decide +kernel
theorem dL_same_280 : decode cL_same 280 = .ok (.iadd, 1) := by decide +kernel
theorem dL_same_281 : decode cL_same 281 = .ok (.iaload, 1) := by decide +kernel
theorem dL_same_282 : decode cL_same 282 = .ok (.bipush 16, 2) := by decide +kernel
theorem dL_same_284 : decode cL_same 284 = .ok (.idiv, 1) := by decide +kernel
theorem dL_same_285 : decode cL_same 285 = .ok (.iconst 4, 1) := by decide +kernel
theorem dL_same_286 : decode cL_same 286 = .ok (.irem, 1) := by decide +kernel
theorem dL_same_287 : decode cL_same 287 = .ok (.if_icmp .ne 130, 3) := by decide +kernel
theorem dL_same_290 : decode cL_same 290 = .ok (.aload_n 0, 1) := by decide +kernel
theorem dL_same_291 : decode cL_same 291 = .ok (.iload 10, 2) := by decide +kernel
theorem dL_same_293 : decode cL_same 293 = .ok (.iconst 3, 1) := by decide +kernel
theorem dL_same_294 : decode cL_same 294 = .ok (.invokevirtual 99, 3) := by decide +kernel
theorem dL_same_297 : decode cL_same 297 = .ok (.iload 10, 2) := by decide +kernel
theorem dL_same_299 : decode cL_same 299 = .ok (.aload_n 3, 1) := by decide +kernel
theorem dL_same_300 : decode cL_same 300 = .ok (.invokestatic 47, 3) := by decide +kernel
theorem dL_same_303 : decode cL_same 303 = .ok (.if_icmp .ne 114, 3) := by decide +kernel
theorem dL_same_306 : decode cL_same 306 = .ok (.aload_n 0, 1) := by decide +kernel
theorem dL_same_307 : decode cL_same 307 = .ok (.iload 10, 2) := by decide +kernel
theorem dL_same_309 : decode cL_same 309 = .ok (.iconst 4, 1) := by decide +kernel
theorem dL_same_310 : decode cL_same 310 = .ok (.invokevirtual 99, 3) := by decide +kernel
theorem dL_same_313 : decode cL_same 313 = .ok (.aload_n 3, 1) := by decide +kernel
theorem dL_same_314 : decode cL_same 314 = .ok (.iconst 4, 1) := by decide +kernel
theorem dL_same_315 : decode cL_same 315 = .ok (.iload 10, 2) := by decide +kernel
theorem dL_same_317 : decode cL_same 317 = .ok (.imul, 1) := by decide +kernel
theorem dL_same_318 : decode cL_same 318 = .ok (.iconst 2, 1) := by decide +kernel
theorem dL_same_319 : decode cL_same 319 = .ok (.iadd, 1) := by decide +kernel
theorem dL_same_320 : decode cL_same 320 = .ok (.iaload, 1) := by decide +kernel
theorem dL_same_321 : decode cL_same 321 = .ok (.if_icmp .ne 96, 3) := by decide +kernel
theorem dL_same_324 : decode cL_same 324 = .ok (.aload_n 0, 1) := by decide +kernel
theorem dL_same_325 : decode cL_same 325 = .ok (.iload 10, 2) := by decide +kernel
theorem dL_same_327 : decode cL_same 327 = .ok (.iconst 5, 1) := by decide +kernel
theorem dL_same_328 : decode cL_same 328 = .ok (.invokevirtual 99, 3) := by decide +kernel
theorem dL_same_331 : decode cL_same 331 = .ok (.aload_n 3, 1) := by decide +kernel
theorem dL_same_332 : decode cL_same 332 = .ok (.iconst 4, 1) := by decide +kernel
theorem dL_same_333 : decode cL_same 333 = .ok (.iload 10, 2) := by decide +kernel
theorem dL_same_335 : decode cL_same 335 = .ok (.imul, 1) := by decide +kernel
theorem dL_same_336 : decode cL_same 336 = .ok (.iconst 3, 1) := by decide +kernel
theorem dL_same_337 : decode cL_same 337 = .ok (.iadd, 1) := by decide +kernel
theorem dL_same_338 : decode cL_same 338 = .ok (.iaload, 1) := by decide +kernel
theorem dL_same_339 : decode cL_same 339 = .ok (.bipush 16, 2) := by decide +kernel
theorem dL_same_341 : decode cL_same 341 = .ok (.irem, 1) := by decide +kernel
theorem dL_same_342 : decode cL_same 342 = .ok (.if_icmp .ne 75, 3) := by decide +kernel
theorem dL_same_345 : decode cL_same 345 = .ok (.aload_n 0, 1) := by decide +kernel
theorem dL_same_346 : decode cL_same 346 = .ok (.iload 10, 2) := by decide +kernel
theorem dL_same_348 : decode cL_same 348 = .ok (.bipush 6, 2) := by decide +kernel
theorem dL_same_350 : decode cL_same 350 = .ok (.invokevirtual 99, 3) := by decide +kernel
theorem dL_same_353 : decode cL_same 353 = .ok (.iload 11, 2) := by decide +kernel
theorem dL_same_355 : decode cL_same 355 = .ok (.iconst 2, 1) := by decide +kernel
theorem dL_same_356 : decode cL_same 356 = .ok (.irem, 1) := by decide +kernel
theorem dL_same_357 : decode cL_same 357 = .ok (.iload 11, 2) := by decide +kernel
theorem dL_same_359 : decode cL_same 359 = .ok (.iconst 2, 1) := by decide +kernel
theorem dL_same_360 : decode cL_same 360 = .ok (.idiv, 1) := by decide +kernel
theorem dL_same_361 : decode cL_same 361 = .ok (.iadd, 1) := by decide +kernel
theorem dL_same_362 : decode cL_same 362 = .ok (.if_icmp .ne 55, 3) := by decide +kernel
theorem dL_same_365 : decode cL_same 365 = .ok (.aload_n 0, 1) := by decide +kernel
theorem dL_same_366 : decode cL_same 366 = .ok (.iload 10, 2) := by decide +kernel
theorem dL_same_368 : decode cL_same 368 = .ok (.bipush 7, 2) := by decide +kernel
theorem dL_same_370 : decode cL_same 370 = .ok (.invokevirtual 99, 3) := by decide +kernel
theorem dL_same_373 : decode cL_same 373 = .ok (.aload 4, 2) := by decide +kernel
theorem dL_same_375 : decode cL_same 375 = .ok (.iconst 4, 1) := by decide +kernel
theorem dL_same_376 : decode cL_same 376 = .ok (.iload 10, 2) := by decide +kernel
theorem dL_same_378 : decode cL_same 378 = .ok (.imul, 1) := by decide +kernel
theorem dL_same_379 : decode cL_same 379 = .ok (.iaload, 1) := by decide +kernel
theorem dL_same_380 : decode cL_same 380 = .ok (.aload 4, 2) := by decide +kernel
theorem dL_same_382 : decode cL_same 382 = .ok (.iconst 4, 1) := by decide +kernel
theorem dL_same_383 : decode cL_same 383 = .ok (.iload 10, 2) := by decide +kernel
theorem dL_same_385 : decode cL_same 385 = .ok (.imul, 1) := by decide +kernel
theorem dL_same_386 : decode cL_same 386 = .ok (.iconst 1, 1) := by decide +kernel
theorem dL_same_387 : decode cL_same 387 = .ok (.iadd, 1) := by decide +kernel
theorem dL_same_388 : decode cL_same 388 = .ok (.iaload, 1) := by decide +kernel
theorem dL_same_389 : decode cL_same 389 = .ok (.iadd, 1) := by decide +kernel
theorem dL_same_390 : decode cL_same 390 = .ok (.aload 4, 2) := by decide +kernel
theorem dL_same_392 : decode cL_same 392 = .ok (.iconst 4, 1) := by decide +kernel
theorem dL_same_393 : decode cL_same 393 = .ok (.iload 10, 2) := by decide +kernel
theorem dL_same_395 : decode cL_same 395 = .ok (.imul, 1) := by decide +kernel
theorem dL_same_396 : decode cL_same 396 = .ok (.iconst 2, 1) := by decide +kernel
theorem dL_same_397 : decode cL_same 397 = .ok (.iadd, 1) := by decide +kernel
theorem dL_same_398 : decode cL_same 398 = .ok (.iaload, 1) := by decide +kernel
theorem dL_same_399 : decode cL_same 399 = .ok (.iadd, 1) := by decide +kernel
theorem dL_same_400 : decode cL_same 400 = .ok (.aload 4, 2) := by decide +kernel
theorem dL_same_402 : decode cL_same 402 = .ok (.iconst 4, 1) := by decide +kernel
theorem dL_same_403 : decode cL_same 403 = .ok (.iload 10, 2) := by decide +kernel
theorem dL_same_405 : decode cL_same 405 = .ok (.imul, 1) := by decide +kernel
theorem dL_same_406 : decode cL_same 406 = .ok (.iconst 3, 1) := by decide +kernel
theorem dL_same_407 : decode cL_same 407 = .ok (.iadd, 1) := by decide +kernel
theorem dL_same_408 : decode cL_same 408 = .ok (.iaload, 1) := by decide +kernel
theorem dL_same_409 : decode cL_same 409 = .ok (.iadd, 1) := by decide +kernel
theorem dL_same_410 : decode cL_same 410 = .ok (.if_icmp .ne 7, 3) := by decide +kernel
theorem dL_same_413 : decode cL_same 413 = .ok (.iconst 1, 1) := by decide +kernel
theorem dL_same_414 : decode cL_same 414 = .ok (.goto 4, 3) := by decide +kernel
theorem dL_same_417 : decode cL_same 417 = .ok (.iconst 0, 1) := by decide +kernel
theorem dL_same_418 : decode cL_same 418 = .ok (.istore 8, 2) := by decide +kernel
theorem dL_same_420 : decode cL_same 420 = .ok (.iinc 10 1, 3) := by decide +kernel
theorem dL_same_423 : decode cL_same 423 = .ok (.goto (-199), 3) := by decide +kernel
theorem dL_same_426 : decode cL_same 426 = .ok (.iconst 0, 1) := by decide +kernel
theorem dL_same_427 : decode cL_same 427 = .ok (.istore 10, 2) := by decide +kernel
theorem dL_same_429 : decode cL_same 429 = .ok (.iload 10, 2) := by decide +kernel
theorem dL_same_431 : decode cL_same 431 = .ok (.iconst 4, 1) := by decide +kernel
theorem dL_same_432 : decode cL_same 432 = .ok (.if_icmp .ge 243, 3) := by decide +kernel
theorem dL_same_435 : decode cL_same 435 = .ok (.iload 8, 2) := by decide +kernel
theorem dL_same_437 : decode cL_same 437 = .ok (.ifCond .eq 238, 3) := by decide +kernel
theorem dL_same_440 : decode cL_same 440 = .ok (.iload_n 1, 1) := by decide +kernel
theorem dL_same_441 : decode cL_same 441 = .ok (.iload 10, 2) := by decide +kernel
theorem dL_same_443 : decode cL_same 443 = .ok (.ishr, 1) := by decide +kernel
theorem dL_same_444 : decode cL_same 444 = .ok (.iconst 4, 1) := by decide +kernel
theorem dL_same_445 : decode cL_same 445 = .ok (.invokestatic 65, 3) := by decide +kernel
theorem dL_same_448 : decode cL_same 448 = .ok (.istore 11, 2) := by decide +kernel
theorem dL_same_450 : decode cL_same 450 = .ok (.aload 7, 2) := by decide +kernel
theorem dL_same_452 : decode cL_same 452 = .ok (.iconst 2, 1) := by decide +kernel
theorem dL_same_453 : decode cL_same 453 = .ok (.iaload, 1) := by decide +kernel
theorem dL_same_454 : decode cL_same 454 = .ok (.iload_n 1, 1) := by decide +kernel
theorem dL_same_455 : decode cL_same 455 = .ok (.iconst 2, 1) := by decide +kernel
theorem dL_same_456 : decode cL_same 456 = .ok (.iload 10, 2) := by decide +kernel
theorem dL_same_458 : decode cL_same 458 = .ok (.imul, 1) := by decide +kernel
theorem dL_same_459 : decode cL_same 459 = .ok (.ishr, 1) := by decide +kernel
theorem dL_same_460 : decode cL_same 460 = .ok (.bipush 12, 2) := by decide +kernel
theorem dL_same_462 : decode cL_same 462 = .ok (.invokestatic 65, 3) := by decide +kernel
theorem dL_same_465 : decode cL_same 465 = .ok (.iadd, 1) := by decide +kernel
theorem dL_same_466 : decode cL_same 466 = .ok (.istore 12, 2) := by decide +kernel
theorem dL_same_468 : decode cL_same 468 = .ok (.iload 11, 2) := by decide +kernel
theorem dL_same_470 : decode cL_same 470 = .ok (.iload 12, 2) := by decide +kernel
theorem dL_same_472 : decode cL_same 472 = .ok (.aload 5, 2) := by decide +kernel
theorem dL_same_474 : decode cL_same 474 = .ok (.aload 7, 2) := by decide +kernel
theorem dL_same_476 : decode cL_same 476 = .ok (.invokestatic 57, 3) := by decide +kernel
theorem dL_same_479 : decode cL_same 479 = .ok (.istore 13, 2) := by decide +kernel
theorem dL_same_481 : decode cL_same 481 = .ok (.iconst (-1), 1) := by decide +kernel
theorem dL_same_482 : decode cL_same 482 = .ok (.istore 14, 2) := by decide +kernel
theorem dL_same_484 : decode cL_same 484 = .ok (.iconst 0, 1) := by decide +kernel
theorem dL_same_485 : decode cL_same 485 = .ok (.istore 15, 2) := by decide +kernel
theorem dL_same_487 : decode cL_same 487 = .ok (.iload 15, 2) := by decide +kernel
theorem dL_same_489 : decode cL_same 489 = .ok (.aload 7, 2) := by decide +kernel
theorem dL_same_491 : decode cL_same 491 = .ok (.iconst 1, 1) := by decide +kernel
theorem dL_same_492 : decode cL_same 492 = .ok (.iaload, 1) := by decide +kernel
theorem dL_same_493 : decode cL_same 493 = .ok (.if_icmp .ge 76, 3) := by decide +kernel
theorem dL_same_496 : decode cL_same 496 = .ok (.aload_n 3, 1) := by decide +kernel
theorem dL_same_497 : decode cL_same 497 = .ok (.iconst 4, 1) := by decide +kernel
theorem dL_same_498 : decode cL_same 498 = .ok (.iload 15, 2) := by decide +kernel
theorem dL_same_500 : decode cL_same 500 = .ok (.imul, 1) := by decide +kernel
theorem dL_same_501 : decode cL_same 501 = .ok (.iaload, 1) := by decide +kernel
theorem dL_same_502 : decode cL_same 502 = .ok (.ifCond .ne 57, 3) := by decide +kernel
theorem dL_same_505 : decode cL_same 505 = .ok (.aload_n 3, 1) := by decide +kernel
theorem dL_same_506 : decode cL_same 506 = .ok (.iconst 4, 1) := by decide +kernel
theorem dL_same_507 : decode cL_same 507 = .ok (.iload 15, 2) := by decide +kernel
theorem dL_same_509 : decode cL_same 509 = .ok (.imul, 1) := by decide +kernel
theorem dL_same_510 : decode cL_same 510 = .ok (.iconst 2, 1) := by decide +kernel
theorem dL_same_511 : decode cL_same 511 = .ok (.iadd, 1) := by decide +kernel
theorem dL_same_512 : decode cL_same 512 = .ok (.iaload, 1) := by decide +kernel
theorem dL_same_513 : decode cL_same 513 = .ok (.iload 12, 2) := by decide +kernel
theorem dL_same_515 : decode cL_same 515 = .ok (.if_icmp .gt 44, 3) := by decide +kernel
theorem dL_same_518 : decode cL_same 518 = .ok (.iload 12, 2) := by decide +kernel
theorem dL_same_520 : decode cL_same 520 = .ok (.aload_n 3, 1) := by decide +kernel
theorem dL_same_521 : decode cL_same 521 = .ok (.iconst 4, 1) := by decide +kernel
theorem dL_same_522 : decode cL_same 522 = .ok (.iload 15, 2) := by decide +kernel
theorem dL_same_524 : decode cL_same 524 = .ok (.imul, 1) := by decide +kernel
theorem dL_same_525 : decode cL_same 525 = .ok (.iconst 2, 1) := by decide +kernel
theorem dL_same_526 : decode cL_same 526 = .ok (.iadd, 1) := by decide +kernel
theorem dL_same_527 : decode cL_same 527 = .ok (.iaload, 1) := by decide +kernel
theorem dL_same_528 : decode cL_same 528 = .ok (.aload_n 3, 1) := by decide +kernel
theorem dL_same_529 : decode cL_same 529 = .ok (.iconst 4, 1) := by decide +kernel
theorem dL_same_530 : decode cL_same 530 = .ok (.iload 15, 2) := by decide +kernel
theorem dL_same_532 : decode cL_same 532 = .ok (.imul, 1) := by decide +kernel
theorem dL_same_533 : decode cL_same 533 = .ok (.iconst 3, 1) := by decide +kernel
theorem dL_same_534 : decode cL_same 534 = .ok (.iadd, 1) := by decide +kernel
theorem dL_same_535 : decode cL_same 535 = .ok (.iaload, 1) := by decide +kernel
theorem dL_same_536 : decode cL_same 536 = .ok (.bipush 16, 2) := by decide +kernel
theorem dL_same_538 : decode cL_same 538 = .ok (.irem, 1) := by decide +kernel
theorem dL_same_539 : decode cL_same 539 = .ok (.iadd, 1) := by decide +kernel
theorem dL_same_540 : decode cL_same 540 = .ok (.if_icmp .ge 19, 3) := by decide +kernel
theorem dL_same_543 : decode cL_same 543 = .ok (.iload 15, 2) := by decide +kernel
theorem dL_same_545 : decode cL_same 545 = .ok (.aload_n 3, 1) := by decide +kernel
theorem dL_same_546 : decode cL_same 546 = .ok (.invokestatic 47, 3) := by decide +kernel
theorem dL_same_549 : decode cL_same 549 = .ok (.iload 11, 2) := by decide +kernel
theorem dL_same_551 : decode cL_same 551 = .ok (.if_icmp .ne 8, 3) := by decide +kernel
theorem dL_same_554 : decode cL_same 554 = .ok (.iload 15, 2) := by decide +kernel
theorem dL_same_556 : decode cL_same 556 = .ok (.goto 5, 3) := by decide +kernel
theorem dL_same_559 : decode cL_same 559 = .ok (.iload 14, 2) := by decide +kernel
theorem dL_same_561 : decode cL_same 561 = .ok (.istore 14, 2) := by decide +kernel
theorem dL_same_563 : decode cL_same 563 = .ok (.iinc 15 1, 3) := by decide +kernel
theorem dL_same_566 : decode cL_same 566 = .ok (.goto (-79), 3) := by decide +kernel
theorem dL_same_569 : decode cL_same 569 = .ok (.iload_n 1, 1) := by decide +kernel
theorem dL_same_570 : decode cL_same 570 = .ok (.iconst 3, 1) := by decide +kernel
theorem dL_same_571 : decode cL_same 571 = .ok (.ishr, 1) := by decide +kernel
theorem dL_same_572 : decode cL_same 572 = .ok (.aload 7, 2) := by decide +kernel
theorem dL_same_574 : decode cL_same 574 = .ok (.iconst 0, 1) := by decide +kernel
theorem dL_same_575 : decode cL_same 575 = .ok (.iaload, 1) := by decide +kernel
theorem dL_same_576 : decode cL_same 576 = .ok (.invokestatic 65, 3) := by decide +kernel
theorem dL_same_579 : decode cL_same 579 = .ok (.istore 15, 2) := by decide +kernel
theorem dL_same_581 : decode cL_same 581 = .ok (.aload_n 0, 1) := by decide +kernel
theorem dL_same_582 : decode cL_same 582 = .ok (.iload 11, 2) := by decide +kernel
theorem dL_same_584 : decode cL_same 584 = .ok (.iload 12, 2) := by decide +kernel
theorem dL_same_586 : decode cL_same 586 = .ok (.invokevirtual 102, 3) := by decide +kernel
theorem dL_same_589 : decode cL_same 589 = .ok (.iload 13, 2) := by decide +kernel
theorem dL_same_591 : decode cL_same 591 = .ok (.ifCond .ge 7, 3) := by decide +kernel
theorem dL_same_594 : decode cL_same 594 = .ok (.iconst (-1), 1) := by decide +kernel
theorem dL_same_595 : decode cL_same 595 = .ok (.goto 11, 3) := by decide +kernel
theorem dL_same_598 : decode cL_same 598 = .ok (.aload 6, 2) := by decide +kernel
theorem dL_same_600 : decode cL_same 600 = .ok (.iload 13, 2) := by decide +kernel
theorem dL_same_602 : decode cL_same 602 = .ok (.iaload, 1) := by decide +kernel
theorem dL_same_603 : decode cL_same 603 = .ok (.bipush 16, 2) := by decide +kernel
theorem dL_same_605 : decode cL_same 605 = .ok (.irem, 1) := by decide +kernel
theorem dL_same_606 : decode cL_same 606 = .ok (.if_icmp .ne 60, 3) := by decide +kernel
theorem dL_same_609 : decode cL_same 609 = .ok (.aload_n 0, 1) := by decide +kernel
theorem dL_same_610 : decode cL_same 610 = .ok (.iconst 3, 1) := by decide +kernel
theorem dL_same_611 : decode cL_same 611 = .ok (.iload 11, 2) := by decide +kernel
theorem dL_same_613 : decode cL_same 613 = .ok (.iload 12, 2) := by decide +kernel
theorem dL_same_615 : decode cL_same 615 = .ok (.invokevirtual 105, 3) := by decide +kernel
theorem dL_same_618 : decode cL_same 618 = .ok (.iload 14, 2) := by decide +kernel
theorem dL_same_620 : decode cL_same 620 = .ok (.if_icmp .ne 46, 3) := by decide +kernel
theorem dL_same_623 : decode cL_same 623 = .ok (.aload_n 0, 1) := by decide +kernel
theorem dL_same_624 : decode cL_same 624 = .ok (.iload 15, 2) := by decide +kernel
theorem dL_same_626 : decode cL_same 626 = .ok (.iload 10, 2) := by decide +kernel
theorem dL_same_628 : decode cL_same 628 = .ok (.iload 11, 2) := by decide +kernel
theorem dL_same_630 : decode cL_same 630 = .ok (.iload 12, 2) := by decide +kernel
theorem dL_same_632 : decode cL_same 632 = .ok (.iconst 1, 1) := by decide +kernel
theorem dL_same_633 : decode cL_same 633 = .ok (.iload 10, 2) := by decide +kernel
theorem dL_same_635 : decode cL_same 635 = .ok (.iadd, 1) := by decide +kernel
theorem dL_same_636 : decode cL_same 636 = .ok (.invokevirtual 109, 3) := by decide +kernel
theorem dL_same_639 : decode cL_same 639 = .ok (.iload 15, 2) := by decide +kernel
theorem dL_same_641 : decode cL_same 641 = .ok (.iload 10, 2) := by decide +kernel
theorem dL_same_643 : decode cL_same 643 = .ok (.iload 11, 2) := by decide +kernel
theorem dL_same_645 : decode cL_same 645 = .ok (.iload 12, 2) := by decide +kernel
theorem dL_same_647 : decode cL_same 647 = .ok (.iconst 1, 1) := by decide +kernel
theorem dL_same_648 : decode cL_same 648 = .ok (.iload 10, 2) := by decide +kernel
theorem dL_same_650 : decode cL_same 650 = .ok (.iadd, 1) := by decide +kernel
theorem dL_same_651 : decode cL_same 651 = .ok (.iconst (-1), 1) := by decide +kernel
theorem dL_same_652 : decode cL_same 652 = .ok (.aload_n 2, 1) := by decide +kernel
theorem dL_same_653 : decode cL_same 653 = .ok (.aload_n 3, 1) := by decide +kernel
theorem dL_same_654 : decode cL_same 654 = .ok (.aload 7, 2) := by decide +kernel
theorem dL_same_656 : decode cL_same 656 = .ok (.invokestatic 73, 3) := by decide +kernel
theorem dL_same_659 : decode cL_same 659 = .ok (.if_icmp .ne 7, 3) := by decide +kernel
theorem dL_same_662 : decode cL_same 662 = .ok (.iconst 1, 1) := by decide +kernel
theorem dL_same_663 : decode cL_same 663 = .ok (.goto 4, 3) := by decide +kernel
theorem dL_same_666 : decode cL_same 666 = .ok (.iconst 0, 1) := by decide +kernel
theorem dL_same_667 : decode cL_same 667 = .ok (.istore 8, 2) := by decide +kernel
theorem dL_same_669 : decode cL_same 669 = .ok (.iinc 10 1, 3) := by decide +kernel
theorem dL_same_672 : decode cL_same 672 = .ok (.goto (-243), 3) := by decide +kernel
theorem dL_same_675 : decode cL_same 675 = .ok (.iload 8, 2) := by decide +kernel
theorem dL_same_677 : decode cL_same 677 = .ok (.ifCond .eq 16, 3) := by decide +kernel
theorem dL_same_680 : decode cL_same 680 = .ok (.aload_n 0, 1) := by decide +kernel
theorem dL_same_681 : decode cL_same 681 = .ok (.invokevirtual 111, 3) := by decide +kernel
theorem dL_same_684 : decode cL_same 684 = .ok (.iload 9, 2) := by decide +kernel
theorem dL_same_686 : decode cL_same 686 = .ok (.if_icmp .ne 7, 3) := by decide +kernel
theorem dL_same_689 : decode cL_same 689 = .ok (.iconst 1, 1) := by decide +kernel
theorem dL_same_690 : decode cL_same 690 = .ok (.goto 4, 3) := by decide +kernel
theorem dL_same_693 : decode cL_same 693 = .ok (.iconst 0, 1) := by decide +kernel
theorem dL_same_694 : decode cL_same 694 = .ok (.ireturn, 1) := by decide +kernel
theorem dL_law_0 : decode cL_law 0 = .ok (.new 11, 3) := by decide +kernel
theorem dL_law_3 : decode cL_law 3 = .ok (.dup, 1) := by decide +kernel
theorem dL_law_4 : decode cL_law 4 = .ok (.invokespecial 114, 3) := by decide +kernel
theorem dL_law_7 : decode cL_law 7 = .ok (.astore_n 1, 1) := by decide +kernel
theorem dL_law_8 : decode cL_law 8 = .ok (.bipush 64, 2) := by decide +kernel
theorem dL_law_10 : decode cL_law 10 = .ok (.newarray .int, 2) := by decide +kernel
theorem dL_law_12 : decode cL_law 12 = .ok (.astore_n 2, 1) := by decide +kernel
theorem dL_law_13 : decode cL_law 13 = .ok (.bipush 64, 2) := by decide +kernel
theorem dL_law_15 : decode cL_law 15 = .ok (.newarray .int, 2) := by decide +kernel
theorem dL_law_17 : decode cL_law 17 = .ok (.astore_n 3, 1) := by decide +kernel
theorem dL_law_18 : decode cL_law 18 = .ok (.bipush 64, 2) := by decide +kernel
theorem dL_law_20 : decode cL_law 20 = .ok (.newarray .int, 2) := by decide +kernel
theorem dL_law_22 : decode cL_law 22 = .ok (.astore 4, 2) := by decide +kernel
theorem dL_law_24 : decode cL_law 24 = .ok (.bipush 64, 2) := by decide +kernel
theorem dL_law_26 : decode cL_law 26 = .ok (.newarray .int, 2) := by decide +kernel
theorem dL_law_28 : decode cL_law 28 = .ok (.astore 5, 2) := by decide +kernel
theorem dL_law_30 : decode cL_law 30 = .ok (.bipush 64, 2) := by decide +kernel
theorem dL_law_32 : decode cL_law 32 = .ok (.newarray .int, 2) := by decide +kernel
theorem dL_law_34 : decode cL_law 34 = .ok (.astore 6, 2) := by decide +kernel
theorem dL_law_36 : decode cL_law 36 = .ok (.bipush 14, 2) := by decide +kernel
theorem dL_law_38 : decode cL_law 38 = .ok (.newarray .int, 2) := by decide +kernel
theorem dL_law_40 : decode cL_law 40 = .ok (.astore 7, 2) := by decide +kernel
theorem dL_law_42 : decode cL_law 42 = .ok (.iconst 3, 1) := by decide +kernel
theorem dL_law_43 : decode cL_law 43 = .ok (.newarray .int, 2) := by decide +kernel
theorem dL_law_45 : decode cL_law 45 = .ok (.astore 8, 2) := by decide +kernel
theorem dL_law_47 : decode cL_law 47 = .ok (.iconst 1, 1) := by decide +kernel
theorem dL_law_48 : decode cL_law 48 = .ok (.istore 9, 2) := by decide +kernel
theorem dL_law_50 : decode cL_law 50 = .ok (.iconst 0, 1) := by decide +kernel
theorem dL_law_51 : decode cL_law 51 = .ok (.istore 10, 2) := by decide +kernel
theorem dL_law_53 : decode cL_law 53 = .ok (.iload 10, 2) := by decide +kernel
theorem dL_law_55 : decode cL_law 55 = .ok (.iconst 4, 1) := by decide +kernel
theorem dL_law_56 : decode cL_law 56 = .ok (.if_icmp .ge 90, 3) := by decide +kernel
theorem dL_law_59 : decode cL_law 59 = .ok (.aload 7, 2) := by decide +kernel
theorem dL_law_61 : decode cL_law 61 = .ok (.iload 10, 2) := by decide +kernel
theorem dL_law_63 : decode cL_law 63 = .ok (.iconst 1, 1) := by decide +kernel
theorem dL_law_64 : decode cL_law 64 = .ok (.aload_n 0, 1) := by decide +kernel
theorem dL_law_65 : decode cL_law 65 = .ok (.sipush 700, 3) := by decide +kernel
theorem dL_law_68 : decode cL_law 68 = .ok (.iload 10, 2) := by decide +kernel
theorem dL_law_70 : decode cL_law 70 = .ok (.iadd, 1) := by decide +kernel
theorem dL_law_71 : decode cL_law 71 = .ok (.invokestatic 115, 3) := by decide +kernel
theorem dL_law_74 : decode cL_law 74 = .ok (.bipush 15, 2) := by decide +kernel
theorem dL_law_76 : decode cL_law 76 = .ok (.invokestatic 65, 3) := by decide +kernel
theorem dL_law_79 : decode cL_law 79 = .ok (.iadd, 1) := by decide +kernel
theorem dL_law_80 : decode cL_law 80 = .ok (.iastore, 1) := by decide +kernel
theorem dL_law_81 : decode cL_law 81 = .ok (.aload 7, 2) := by decide +kernel
theorem dL_law_83 : decode cL_law 83 = .ok (.iconst 4, 1) := by decide +kernel
theorem dL_law_84 : decode cL_law 84 = .ok (.iload 10, 2) := by decide +kernel
theorem dL_law_86 : decode cL_law 86 = .ok (.iadd, 1) := by decide +kernel
theorem dL_law_87 : decode cL_law 87 = .ok (.iconst 5, 1) := by decide +kernel
theorem dL_law_88 : decode cL_law 88 = .ok (.aload_n 0, 1) := by decide +kernel
theorem dL_law_89 : decode cL_law 89 = .ok (.sipush 710, 3) := by decide +kernel
theorem dL_law_92 : decode cL_law 92 = .ok (.iload 10, 2) := by decide +kernel
theorem dL_law_94 : decode cL_law 94 = .ok (.iadd, 1) := by decide +kernel
theorem dL_law_95 : decode cL_law 95 = .ok (.invokestatic 115, 3) := by decide +kernel
theorem dL_law_98 : decode cL_law 98 = .ok (.bipush 40, 2) := by decide +kernel
theorem dL_law_100 : decode cL_law 100 = .ok (.invokestatic 65, 3) := by decide +kernel
theorem dL_law_103 : decode cL_law 103 = .ok (.iadd, 1) := by decide +kernel
theorem dL_law_104 : decode cL_law 104 = .ok (.iastore, 1) := by decide +kernel
theorem dL_law_105 : decode cL_law 105 = .ok (.iload 9, 2) := by decide +kernel
theorem dL_law_107 : decode cL_law 107 = .ok (.ifCond .eq 30, 3) := by decide +kernel
theorem dL_law_110 : decode cL_law 110 = .ok (.aload_n 1, 1) := by decide +kernel
theorem dL_law_111 : decode cL_law 111 = .ok (.iload 10, 2) := by decide +kernel
theorem dL_law_113 : decode cL_law 113 = .ok (.aload 7, 2) := by decide +kernel
theorem dL_law_115 : decode cL_law 115 = .ok (.iload 10, 2) := by decide +kernel
theorem dL_law_117 : decode cL_law 117 = .ok (.iaload, 1) := by decide +kernel
theorem dL_law_118 : decode cL_law 118 = .ok (.aload 7, 2) := by decide +kernel
theorem dL_law_120 : decode cL_law 120 = .ok (.iconst 4, 1) := by decide +kernel
theorem dL_law_121 : decode cL_law 121 = .ok (.iload 10, 2) := by decide +kernel
theorem dL_law_123 : decode cL_law 123 = .ok (.iadd, 1) := by decide +kernel
theorem dL_law_124 : decode cL_law 124 = .ok (.iaload, 1) := by decide +kernel
theorem dL_law_125 : decode cL_law 125 = .ok (.invokevirtual 119, 3) := by decide +kernel
theorem dL_law_128 : decode cL_law 128 = .ok (.bipush 10, 2) := by decide +kernel
theorem dL_law_130 : decode cL_law 130 = .ok (.if_icmp .ne 7, 3) := by decide +kernel
theorem dL_law_133 : decode cL_law 133 = .ok (.iconst 1, 1) := by decide +kernel
theorem dL_law_134 : decode cL_law 134 = .ok (.goto 4, 3) := by decide +kernel
theorem dL_law_137 : decode cL_law 137 = .ok (.iconst 0, 1) := by decide +kernel
theorem dL_law_138 : decode cL_law 138 = .ok (.istore 9, 2) := by decide +kernel
theorem dL_law_140 : decode cL_law 140 = .ok (.iinc 10 1, 3) := by decide +kernel
theorem dL_law_143 : decode cL_law 143 = .ok (.goto (-90), 3) := by decide +kernel
theorem dL_law_146 : decode cL_law 146 = .ok (.iconst 0, 1) := by decide +kernel
theorem dL_law_147 : decode cL_law 147 = .ok (.istore 10, 2) := by decide +kernel
theorem dL_law_149 : decode cL_law 149 = .ok (.iload 10, 2) := by decide +kernel
theorem dL_law_151 : decode cL_law 151 = .ok (.sipush 150, 3) := by decide +kernel
theorem dL_law_154 : decode cL_law 154 = .ok (.if_icmp .ge 656, 3) := by decide +kernel
theorem dL_law_157 : decode cL_law 157 = .ok (.iload 9, 2) := by decide +kernel
theorem dL_law_159 : decode cL_law 159 = .ok (.ifCond .eq 651, 3) := by decide +kernel
theorem dL_law_162 : decode cL_law 162 = .ok (.aload_n 0, 1) := by decide +kernel
theorem dL_law_163 : decode cL_law 163 = .ok (.iload 10, 2) := by decide +kernel
theorem dL_law_165 : decode cL_law 165 = .ok (.invokestatic 115, 3) := by decide +kernel
theorem dL_law_168 : decode cL_law 168 = .ok (.istore 11, 2) := by decide +kernel
theorem dL_law_170 : decode cL_law 170 = .ok (.iload 11, 2) := by decide +kernel
theorem dL_law_172 : decode cL_law 172 = .ok (.bipush 32, 2) := by decide +kernel
theorem dL_law_174 : decode cL_law 174 = .ok (.invokestatic 65, 3) := by decide +kernel
theorem dL_law_177 : decode cL_law 177 = .ok (.istore 12, 2) := by decide +kernel
theorem dL_law_179 : decode cL_law 179 = .ok (.iload 11, 2) := by decide +kernel
theorem dL_law_181 : decode cL_law 181 = .ok (.iconst 5, 1) := by decide +kernel
theorem dL_law_182 : decode cL_law 182 = .ok (.ishr, 1) := by decide +kernel
theorem dL_law_183 : decode cL_law 183 = .ok (.istore 13, 2) := by decide +kernel
theorem dL_law_185 : decode cL_law 185 = .ok (.iload 12, 2) := by decide +kernel
theorem dL_law_187 : decode cL_law 187 = .ok (.iconst 3, 1) := by decide +kernel
theorem dL_law_188 : decode cL_law 188 = .ok (.if_icmp .ge 12, 3) := by decide +kernel
theorem dL_law_191 : decode cL_law 191 = .ok (.aload 8, 2) := by decide +kernel
theorem dL_law_193 : decode cL_law 193 = .ok (.iconst 0, 1) := by decide +kernel
theorem dL_law_194 : decode cL_law 194 = .ok (.iaload, 1) := by decide +kernel
theorem dL_law_195 : decode cL_law 195 = .ok (.bipush 8, 2) := by decide +kernel
theorem dL_law_197 : decode cL_law 197 = .ok (.if_icmp .lt 10, 3) := by decide +kernel
theorem dL_law_200 : decode cL_law 200 = .ok (.aload 8, 2) := by decide +kernel
theorem dL_law_202 : decode cL_law 202 = .ok (.iconst 0, 1) := by decide +kernel
theorem dL_law_203 : decode cL_law 203 = .ok (.iaload, 1) := by decide +kernel
theorem dL_law_204 : decode cL_law 204 = .ok (.ifCond .ne 179, 3) := by decide +kernel
theorem dL_law_207 : decode cL_law 207 = .ok (.bipush 8, 2) := by decide +kernel
theorem dL_law_209 : decode cL_law 209 = .ok (.aload 8, 2) := by decide +kernel
theorem dL_law_211 : decode cL_law 211 = .ok (.iconst 0, 1) := by decide +kernel
theorem dL_law_212 : decode cL_law 212 = .ok (.iaload, 1) := by decide +kernel
theorem dL_law_213 : decode cL_law 213 = .ok (.imul, 1) := by decide +kernel
theorem dL_law_214 : decode cL_law 214 = .ok (.istore 14, 2) := by decide +kernel
theorem dL_law_216 : decode cL_law 216 = .ok (.aload_n 2, 1) := by decide +kernel
theorem dL_law_217 : decode cL_law 217 = .ok (.iload 14, 2) := by decide +kernel
theorem dL_law_219 : decode cL_law 219 = .ok (.iconst 1, 1) := by decide +kernel
theorem dL_law_220 : decode cL_law 220 = .ok (.iadd, 1) := by decide +kernel
theorem dL_law_221 : decode cL_law 221 = .ok (.iload 13, 2) := by decide +kernel
theorem dL_law_223 : decode cL_law 223 = .ok (.iconst 4, 1) := by decide +kernel
theorem dL_law_224 : decode cL_law 224 = .ok (.invokestatic 65, 3) := by decide +kernel
theorem dL_law_227 : decode cL_law 227 = .ok (.iastore, 1) := by decide +kernel
theorem dL_law_228 : decode cL_law 228 = .ok (.aload_n 2, 1) := by decide +kernel
theorem dL_law_229 : decode cL_law 229 = .ok (.iload 14, 2) := by decide +kernel
theorem dL_law_231 : decode cL_law 231 = .ok (.iconst 2, 1) := by decide +kernel
theorem dL_law_232 : decode cL_law 232 = .ok (.iadd, 1) := by decide +kernel
theorem dL_law_233 : decode cL_law 233 = .ok (.iload 13, 2) := by decide +kernel
theorem dL_law_235 : decode cL_law 235 = .ok (.iconst 2, 1) := by decide +kernel
theorem dL_law_236 : decode cL_law 236 = .ok (.ishr, 1) := by decide +kernel
theorem dL_law_237 : decode cL_law 237 = .ok (.bipush 6, 2) := by decide +kernel
theorem dL_law_239 : decode cL_law 239 = .ok (.invokestatic 65, 3) := by decide +kernel
theorem dL_law_242 : decode cL_law 242 = .ok (.iastore, 1) := by decide +kernel
theorem dL_law_243 : decode cL_law 243 = .ok (.aload_n 2, 1) := by decide +kernel
theorem dL_law_244 : decode cL_law 244 = .ok (.iload 14, 2) := by decide +kernel
theorem dL_law_246 : decode cL_law 246 = .ok (.iconst 3, 1) := by decide +kernel
theorem dL_law_247 : decode cL_law 247 = .ok (.iadd, 1) := by decide +kernel
theorem dL_law_248 : decode cL_law 248 = .ok (.aload_n 2, 1) := by decide +kernel
theorem dL_law_249 : decode cL_law 249 = .ok (.iload 14, 2) := by decide +kernel
theorem dL_law_251 : decode cL_law 251 = .ok (.iconst 2, 1) := by decide +kernel
theorem dL_law_252 : decode cL_law 252 = .ok (.iadd, 1) := by decide +kernel
theorem dL_law_253 : decode cL_law 253 = .ok (.iaload, 1) := by decide +kernel
theorem dL_law_254 : decode cL_law 254 = .ok (.iconst 1, 1) := by decide +kernel
theorem dL_law_255 : decode cL_law 255 = .ok (.iadd, 1) := by decide +kernel
theorem dL_law_256 : decode cL_law 256 = .ok (.iload 13, 2) := by decide +kernel
theorem dL_law_258 : decode cL_law 258 = .ok (.iconst 5, 1) := by decide +kernel
theorem dL_law_259 : decode cL_law 259 = .ok (.ishr, 1) := by decide +kernel
theorem dL_law_260 : decode cL_law 260 = .ok (.iconst 5, 1) := by decide +kernel
theorem dL_law_261 : decode cL_law 261 = .ok (.invokestatic 65, 3) := by decide +kernel
theorem dL_law_264 : decode cL_law 264 = .ok (.iadd, 1) := by decide +kernel
theorem dL_law_265 : decode cL_law 265 = .ok (.bipush 6, 2) := by decide +kernel
theorem dL_law_267 : decode cL_law 267 = .ok (.irem, 1) := by decide +kernel
theorem dL_law_268 : decode cL_law 268 = .ok (.iastore, 1) := by decide +kernel
theorem dL_law_269 : decode cL_law 269 = .ok (.aload_n 2, 1) := by decide +kernel
theorem dL_law_270 : decode cL_law 270 = .ok (.iload 14, 2) := by decide +kernel
theorem dL_law_272 : decode cL_law 272 = .ok (.iconst 4, 1) := by decide +kernel
theorem dL_law_273 : decode cL_law 273 = .ok (.iadd, 1) := by decide +kernel
theorem dL_law_274 : decode cL_law 274 = .ok (.iload 13, 2) := by decide +kernel
theorem dL_law_276 : decode cL_law 276 = .ok (.bipush 8, 2) := by decide +kernel
theorem dL_law_278 : decode cL_law 278 = .ok (.ishr, 1) := by decide +kernel
theorem dL_law_279 : decode cL_law 279 = .ok (.iconst 5, 1) := by decide +kernel
theorem dL_law_280 : decode cL_law 280 = .ok (.invokestatic 65, 3) := by decide +kernel
theorem dL_law_283 : decode cL_law 283 = .ok (.iastore, 1) := by decide +kernel
theorem dL_law_284 : decode cL_law 284 = .ok (.aload_n 2, 1) := by decide +kernel
theorem dL_law_285 : decode cL_law 285 = .ok (.iload 14, 2) := by decide +kernel
theorem dL_law_287 : decode cL_law 287 = .ok (.iconst 5, 1) := by decide +kernel
theorem dL_law_288 : decode cL_law 288 = .ok (.iadd, 1) := by decide +kernel
theorem dL_law_289 : decode cL_law 289 = .ok (.aload 7, 2) := by decide +kernel
theorem dL_law_291 : decode cL_law 291 = .ok (.bipush 8, 2) := by decide +kernel
theorem dL_law_293 : decode cL_law 293 = .ok (.aload_n 2, 1) := by decide +kernel
theorem dL_law_294 : decode cL_law 294 = .ok (.iload 14, 2) := by decide +kernel
theorem dL_law_296 : decode cL_law 296 = .ok (.iconst 2, 1) := by decide +kernel
theorem dL_law_297 : decode cL_law 297 = .ok (.iadd, 1) := by decide +kernel
theorem dL_law_298 : decode cL_law 298 = .ok (.iaload, 1) := by decide +kernel
theorem dL_law_299 : decode cL_law 299 = .ok (.iadd, 1) := by decide +kernel
theorem dL_law_300 : decode cL_law 300 = .ok (.iaload, 1) := by decide +kernel
theorem dL_law_301 : decode cL_law 301 = .ok (.iconst 1, 1) := by decide +kernel
theorem dL_law_302 : decode cL_law 302 = .ok (.if_icmp .ne 7, 3) := by decide +kernel
theorem dL_law_305 : decode cL_law 305 = .ok (.iconst 0, 1) := by decide +kernel
theorem dL_law_306 : decode cL_law 306 = .ok (.goto 5, 3) := by decide +kernel
theorem dL_law_309 : decode cL_law 309 = .ok (.bipush (-50), 2) := by decide +kernel
theorem dL_law_311 : decode cL_law 311 = .ok (.iastore, 1) := by decide +kernel
theorem dL_law_312 : decode cL_law 312 = .ok (.aload_n 2, 1) := by decide +kernel
theorem dL_law_313 : decode cL_law 313 = .ok (.iload 14, 2) := by decide +kernel
theorem dL_law_315 : decode cL_law 315 = .ok (.bipush 6, 2) := by decide +kernel
theorem dL_law_317 : decode cL_law 317 = .ok (.iadd, 1) := by decide +kernel
theorem dL_law_318 : decode cL_law 318 = .ok (.aload 8, 2) := by decide +kernel
theorem dL_law_320 : decode cL_law 320 = .ok (.iconst 2, 1) := by decide +kernel
theorem dL_law_321 : decode cL_law 321 = .ok (.iaload, 1) := by decide +kernel
theorem dL_law_322 : decode cL_law 322 = .ok (.bipush 100, 2) := by decide +kernel
theorem dL_law_324 : decode cL_law 324 = .ok (.iadd, 1) := by decide +kernel
theorem dL_law_325 : decode cL_law 325 = .ok (.iastore, 1) := by decide +kernel
theorem dL_law_326 : decode cL_law 326 = .ok (.aload 8, 2) := by decide +kernel
theorem dL_law_328 : decode cL_law 328 = .ok (.iconst 0, 1) := by decide +kernel
theorem dL_law_329 : decode cL_law 329 = .ok (.dup2, 1) := by decide +kernel
theorem dL_law_330 : decode cL_law 330 = .ok (.iaload, 1) := by decide +kernel
theorem dL_law_331 : decode cL_law 331 = .ok (.iconst 1, 1) := by decide +kernel
theorem dL_law_332 : decode cL_law 332 = .ok (.iadd, 1) := by decide +kernel
theorem dL_law_333 : decode cL_law 333 = .ok (.iastore, 1) := by decide +kernel
theorem dL_law_334 : decode cL_law 334 = .ok (.aload_n 1, 1) := by decide +kernel
theorem dL_law_335 : decode cL_law 335 = .ok (.aload_n 2, 1) := by decide +kernel
theorem dL_law_336 : decode cL_law 336 = .ok (.iload 14, 2) := by decide +kernel
theorem dL_law_338 : decode cL_law 338 = .ok (.iconst 1, 1) := by decide +kernel
theorem dL_law_339 : decode cL_law 339 = .ok (.iadd, 1) := by decide +kernel
theorem dL_law_340 : decode cL_law 340 = .ok (.iaload, 1) := by decide +kernel
theorem dL_law_341 : decode cL_law 341 = .ok (.aload_n 2, 1) := by decide +kernel
theorem dL_law_342 : decode cL_law 342 = .ok (.iload 14, 2) := by decide +kernel
theorem dL_law_344 : decode cL_law 344 = .ok (.iconst 2, 1) := by decide +kernel
theorem dL_law_345 : decode cL_law 345 = .ok (.iadd, 1) := by decide +kernel
theorem dL_law_346 : decode cL_law 346 = .ok (.iaload, 1) := by decide +kernel
theorem dL_law_347 : decode cL_law 347 = .ok (.aload_n 2, 1) := by decide +kernel
theorem dL_law_348 : decode cL_law 348 = .ok (.iload 14, 2) := by decide +kernel
theorem dL_law_350 : decode cL_law 350 = .ok (.iconst 3, 1) := by decide +kernel
theorem dL_law_351 : decode cL_law 351 = .ok (.iadd, 1) := by decide +kernel
theorem dL_law_352 : decode cL_law 352 = .ok (.iaload, 1) := by decide +kernel
theorem dL_law_353 : decode cL_law 353 = .ok (.aload_n 2, 1) := by decide +kernel
theorem dL_law_354 : decode cL_law 354 = .ok (.iload 14, 2) := by decide +kernel
theorem dL_law_356 : decode cL_law 356 = .ok (.iconst 4, 1) := by decide +kernel
theorem dL_law_357 : decode cL_law 357 = .ok (.iadd, 1) := by decide +kernel
theorem dL_law_358 : decode cL_law 358 = .ok (.iaload, 1) := by decide +kernel
theorem dL_law_359 : decode cL_law 359 = .ok (.iconst 1, 1) := by decide +kernel
theorem dL_law_360 : decode cL_law 360 = .ok (.isub, 1) := by decide +kernel
theorem dL_law_361 : decode cL_law 361 = .ok (.invokevirtual 122, 3) := by decide +kernel
theorem dL_law_364 : decode cL_law 364 = .ok (.aload 8, 2) := by decide +kernel
theorem dL_law_366 : decode cL_law 366 = .ok (.iconst 0, 1) := by decide +kernel
theorem dL_law_367 : decode cL_law 367 = .ok (.iaload, 1) := by decide +kernel
theorem dL_law_368 : decode cL_law 368 = .ok (.iconst 1, 1) := by decide +kernel
theorem dL_law_369 : decode cL_law 369 = .ok (.isub, 1) := by decide +kernel
theorem dL_law_370 : decode cL_law 370 = .ok (.if_icmp .ne 7, 3) := by decide +kernel
theorem dL_law_373 : decode cL_law 373 = .ok (.iconst 1, 1) := by decide +kernel
theorem dL_law_374 : decode cL_law 374 = .ok (.goto 4, 3) := by decide +kernel
theorem dL_law_377 : decode cL_law 377 = .ok (.iconst 0, 1) := by decide +kernel
theorem dL_law_378 : decode cL_law 378 = .ok (.istore 9, 2) := by decide +kernel
theorem dL_law_380 : decode cL_law 380 = .ok (.goto 391, 3) := by decide +kernel
theorem dL_law_383 : decode cL_law 383 = .ok (.iload 12, 2) := by decide +kernel
theorem dL_law_385 : decode cL_law 385 = .ok (.bipush 18, 2) := by decide +kernel
theorem dL_law_387 : decode cL_law 387 = .ok (.if_icmp .ge 60, 3) := by decide +kernel
theorem dL_law_390 : decode cL_law 390 = .ok (.aload_n 1, 1) := by decide +kernel
theorem dL_law_391 : decode cL_law 391 = .ok (.iload 12, 2) := by decide +kernel
theorem dL_law_393 : decode cL_law 393 = .ok (.bipush 9, 2) := by decide +kernel
theorem dL_law_395 : decode cL_law 395 = .ok (.if_icmp .ge 7, 3) := by decide +kernel
theorem dL_law_398 : decode cL_law 398 = .ok (.iconst 0, 1) := by decide +kernel
theorem dL_law_399 : decode cL_law 399 = .ok (.goto 26, 3) := by decide +kernel
theorem dL_law_402 : decode cL_law 402 = .ok (.iload 12, 2) := by decide +kernel
theorem dL_law_404 : decode cL_law 404 = .ok (.bipush 12, 2) := by decide +kernel
theorem dL_law_406 : decode cL_law 406 = .ok (.if_icmp .ge 7, 3) := by decide +kernel
theorem dL_law_409 : decode cL_law 409 = .ok (.iconst 1, 1) := by decide +kernel
theorem dL_law_410 : decode cL_law 410 = .ok (.goto 15, 3) := by decide +kernel
theorem dL_law_413 : decode cL_law 413 = .ok (.iload 12, 2) := by decide +kernel
theorem dL_law_415 : decode cL_law 415 = .ok (.bipush 12, 2) := by decide +kernel
theorem dL_law_417 : decode cL_law 417 = .ok (.if_icmp .ne 7, 3) := by decide +kernel
theorem dL_law_420 : decode cL_law 420 = .ok (.iconst 2, 1) := by decide +kernel
theorem dL_law_421 : decode cL_law 421 = .ok (.goto 4, 3) := by decide +kernel
theorem dL_law_424 : decode cL_law 424 = .ok (.iconst 3, 1) := by decide +kernel
theorem dL_law_425 : decode cL_law 425 = .ok (.iload 13, 2) := by decide +kernel
theorem dL_law_427 : decode cL_law 427 = .ok (.aload_n 2, 1) := by decide +kernel
theorem dL_law_428 : decode cL_law 428 = .ok (.aload_n 3, 1) := by decide +kernel
theorem dL_law_429 : decode cL_law 429 = .ok (.aload 4, 2) := by decide +kernel
theorem dL_law_431 : decode cL_law 431 = .ok (.aload 5, 2) := by decide +kernel
theorem dL_law_433 : decode cL_law 433 = .ok (.aload 6, 2) := by decide +kernel
theorem dL_law_435 : decode cL_law 435 = .ok (.aload 7, 2) := by decide +kernel
theorem dL_law_437 : decode cL_law 437 = .ok (.aload 8, 2) := by decide +kernel
theorem dL_law_439 : decode cL_law 439 = .ok (.invokestatic 125, 3) := by decide +kernel
theorem dL_law_442 : decode cL_law 442 = .ok (.istore 9, 2) := by decide +kernel
theorem dL_law_444 : decode cL_law 444 = .ok (.goto 327, 3) := by decide +kernel
theorem dL_law_447 : decode cL_law 447 = .ok (.iload 12, 2) := by decide +kernel
theorem dL_law_449 : decode cL_law 449 = .ok (.bipush 24, 2) := by decide +kernel
theorem dL_law_451 : decode cL_law 451 = .ok (.if_icmp .ge 42, 3) := by decide +kernel
theorem dL_law_454 : decode cL_law 454 = .ok (.aload_n 1, 1) := by decide +kernel
theorem dL_law_455 : decode cL_law 455 = .ok (.iload 12, 2) := by decide +kernel
theorem dL_law_457 : decode cL_law 457 = .ok (.bipush 20, 2) := by decide +kernel
theorem dL_law_459 : decode cL_law 459 = .ok (.if_icmp .ge 7, 3) := by decide +kernel
theorem dL_law_462 : decode cL_law 462 = .ok (.iconst 0, 1) := by decide +kernel
theorem dL_law_463 : decode cL_law 463 = .ok (.goto 8, 3) := by decide +kernel
theorem dL_law_466 : decode cL_law 466 = .ok (.iload 12, 2) := by decide +kernel
theorem dL_law_468 : decode cL_law 468 = .ok (.bipush 19, 2) := by decide +kernel
theorem dL_law_470 : decode cL_law 470 = .ok (.isub, 1) := by decide +kernel
theorem dL_law_471 : decode cL_law 471 = .ok (.iload 13, 2) := by decide +kernel
theorem dL_law_473 : decode cL_law 473 = .ok (.aload_n 2, 1) := by decide +kernel
theorem dL_law_474 : decode cL_law 474 = .ok (.aload_n 3, 1) := by decide +kernel
theorem dL_law_475 : decode cL_law 475 = .ok (.aload 4, 2) := by decide +kernel
theorem dL_law_477 : decode cL_law 477 = .ok (.aload 5, 2) := by decide +kernel
theorem dL_law_479 : decode cL_law 479 = .ok (.aload 6, 2) := by decide +kernel
theorem dL_law_481 : decode cL_law 481 = .ok (.aload 7, 2) := by decide +kernel
theorem dL_law_483 : decode cL_law 483 = .ok (.aload 8, 2) := by decide +kernel
theorem dL_law_485 : decode cL_law 485 = .ok (.invokestatic 129, 3) := by decide +kernel
theorem dL_law_488 : decode cL_law 488 = .ok (.istore 9, 2) := by decide +kernel
theorem dL_law_490 : decode cL_law 490 = .ok (.goto 281, 3) := by decide +kernel
theorem dL_law_493 : decode cL_law 493 = .ok (.iload 12, 2) := by decide +kernel
theorem dL_law_495 : decode cL_law 495 = .ok (.bipush 24, 2) := by decide +kernel
theorem dL_law_497 : decode cL_law 497 = .ok (.if_icmp .ne 86, 3) := by decide +kernel
theorem dL_law_500 : decode cL_law 500 = .ok (.iload 13, 2) := by decide +kernel
theorem dL_law_502 : decode cL_law 502 = .ok (.iconst 4, 1) := by decide +kernel
theorem dL_law_503 : decode cL_law 503 = .ok (.invokestatic 65, 3) := by decide +kernel
theorem dL_law_506 : decode cL_law 506 = .ok (.istore 14, 2) := by decide +kernel
theorem dL_law_508 : decode cL_law 508 = .ok (.aload 7, 2) := by decide +kernel
theorem dL_law_510 : decode cL_law 510 = .ok (.iconst 4, 1) := by decide +kernel
theorem dL_law_511 : decode cL_law 511 = .ok (.iload 14, 2) := by decide +kernel
theorem dL_law_513 : decode cL_law 513 = .ok (.iadd, 1) := by decide +kernel
theorem dL_law_514 : decode cL_law 514 = .ok (.iaload, 1) := by decide +kernel
theorem dL_law_515 : decode cL_law 515 = .ok (.istore 15, 2) := by decide +kernel
theorem dL_law_517 : decode cL_law 517 = .ok (.aload 7, 2) := by decide +kernel
theorem dL_law_519 : decode cL_law 519 = .ok (.iload 14, 2) := by decide +kernel
theorem dL_law_521 : decode cL_law 521 = .ok (.iload 13, 2) := by decide +kernel
theorem dL_law_523 : decode cL_law 523 = .ok (.iconst 2, 1) := by decide +kernel
theorem dL_law_524 : decode cL_law 524 = .ok (.ishr, 1) := by decide +kernel
theorem dL_law_525 : decode cL_law 525 = .ok (.bipush 16, 2) := by decide +kernel
theorem dL_law_527 : decode cL_law 527 = .ok (.invokestatic 65, 3) := by decide +kernel
theorem dL_law_530 : decode cL_law 530 = .ok (.iastore, 1) := by decide +kernel
theorem dL_law_531 : decode cL_law 531 = .ok (.aload 7, 2) := by decide +kernel
theorem dL_law_533 : decode cL_law 533 = .ok (.iconst 4, 1) := by decide +kernel
theorem dL_law_534 : decode cL_law 534 = .ok (.iload 14, 2) := by decide +kernel
theorem dL_law_536 : decode cL_law 536 = .ok (.iadd, 1) := by decide +kernel
theorem dL_law_537 : decode cL_law 537 = .ok (.iconst 1, 1) := by decide +kernel
theorem dL_law_538 : decode cL_law 538 = .ok (.iload 13, 2) := by decide +kernel
theorem dL_law_540 : decode cL_law 540 = .ok (.bipush 6, 2) := by decide +kernel
theorem dL_law_542 : decode cL_law 542 = .ok (.ishr, 1) := by decide +kernel
theorem dL_law_543 : decode cL_law 543 = .ok (.bipush 60, 2) := by decide +kernel
theorem dL_law_545 : decode cL_law 545 = .ok (.invokestatic 65, 3) := by decide +kernel
theorem dL_law_548 : decode cL_law 548 = .ok (.iadd, 1) := by decide +kernel
theorem dL_law_549 : decode cL_law 549 = .ok (.iastore, 1) := by decide +kernel
theorem dL_law_550 : decode cL_law 550 = .ok (.aload_n 1, 1) := by decide +kernel
theorem dL_law_551 : decode cL_law 551 = .ok (.iload 14, 2) := by decide +kernel
theorem dL_law_553 : decode cL_law 553 = .ok (.aload 7, 2) := by decide +kernel
theorem dL_law_555 : decode cL_law 555 = .ok (.iload 14, 2) := by decide +kernel
theorem dL_law_557 : decode cL_law 557 = .ok (.iaload, 1) := by decide +kernel
theorem dL_law_558 : decode cL_law 558 = .ok (.aload 7, 2) := by decide +kernel
theorem dL_law_560 : decode cL_law 560 = .ok (.iconst 4, 1) := by decide +kernel
theorem dL_law_561 : decode cL_law 561 = .ok (.iload 14, 2) := by decide +kernel
theorem dL_law_563 : decode cL_law 563 = .ok (.iadd, 1) := by decide +kernel
theorem dL_law_564 : decode cL_law 564 = .ok (.iaload, 1) := by decide +kernel
theorem dL_law_565 : decode cL_law 565 = .ok (.invokevirtual 119, 3) := by decide +kernel
theorem dL_law_568 : decode cL_law 568 = .ok (.iload 15, 2) := by decide +kernel
theorem dL_law_570 : decode cL_law 570 = .ok (.if_icmp .ne 7, 3) := by decide +kernel
theorem dL_law_573 : decode cL_law 573 = .ok (.iconst 1, 1) := by decide +kernel
theorem dL_law_574 : decode cL_law 574 = .ok (.goto 4, 3) := by decide +kernel
theorem dL_law_577 : decode cL_law 577 = .ok (.iconst 0, 1) := by decide +kernel
theorem dL_law_578 : decode cL_law 578 = .ok (.istore 9, 2) := by decide +kernel
theorem dL_law_580 : decode cL_law 580 = .ok (.goto 191, 3) := by decide +kernel
theorem dL_law_583 : decode cL_law 583 = .ok (.iload 12, 2) := by decide +kernel
theorem dL_law_585 : decode cL_law 585 = .ok (.bipush 25, 2) := by decide +kernel
theorem dL_law_587 : decode cL_law 587 = .ok (.if_icmp .ne 85, 3) := by decide +kernel
theorem dL_law_590 : decode cL_law 590 = .ok (.iload 13, 2) := by decide +kernel
theorem dL_law_592 : decode cL_law 592 = .ok (.bipush 6, 2) := by decide +kernel
theorem dL_law_594 : decode cL_law 594 = .ok (.invokestatic 65, 3) := by decide +kernel
theorem dL_law_597 : decode cL_law 597 = .ok (.istore 14, 2) := by decide +kernel
theorem dL_law_599 : decode cL_law 599 = .ok (.aload 7, 2) := by decide +kernel
theorem dL_law_601 : decode cL_law 601 = .ok (.bipush 8, 2) := by decide +kernel
theorem dL_law_603 : decode cL_law 603 = .ok (.iload 14, 2) := by decide +kernel
theorem dL_law_605 : decode cL_law 605 = .ok (.iadd, 1) := by decide +kernel
theorem dL_law_606 : decode cL_law 606 = .ok (.iaload, 1) := by decide +kernel
theorem dL_law_607 : decode cL_law 607 = .ok (.iconst 1, 1) := by decide +kernel
theorem dL_law_608 : decode cL_law 608 = .ok (.if_icmp .ne 7, 3) := by decide +kernel
theorem dL_law_611 : decode cL_law 611 = .ok (.iconst 1, 1) := by decide +kernel
theorem dL_law_612 : decode cL_law 612 = .ok (.goto 4, 3) := by decide +kernel
theorem dL_law_615 : decode cL_law 615 = .ok (.iconst 0, 1) := by decide +kernel
theorem dL_law_616 : decode cL_law 616 = .ok (.istore 15, 2) := by decide +kernel
theorem dL_law_618 : decode cL_law 618 = .ok (.aload 7, 2) := by decide +kernel
theorem dL_law_620 : decode cL_law 620 = .ok (.bipush 8, 2) := by decide +kernel
theorem dL_law_622 : decode cL_law 622 = .ok (.iload 14, 2) := by decide +kernel
theorem dL_law_624 : decode cL_law 624 = .ok (.iadd, 1) := by decide +kernel
theorem dL_law_625 : decode cL_law 625 = .ok (.iload 13, 2) := by decide +kernel
theorem dL_law_627 : decode cL_law 627 = .ok (.iconst 3, 1) := by decide +kernel
theorem dL_law_628 : decode cL_law 628 = .ok (.ishr, 1) := by decide +kernel
theorem dL_law_629 : decode cL_law 629 = .ok (.iconst 2, 1) := by decide +kernel
theorem dL_law_630 : decode cL_law 630 = .ok (.invokestatic 65, 3) := by decide +kernel
theorem dL_law_633 : decode cL_law 633 = .ok (.iastore, 1) := by decide +kernel
theorem dL_law_634 : decode cL_law 634 = .ok (.aload_n 1, 1) := by decide +kernel
theorem dL_law_635 : decode cL_law 635 = .ok (.iload 14, 2) := by decide +kernel
theorem dL_law_637 : decode cL_law 637 = .ok (.aload 7, 2) := by decide +kernel
theorem dL_law_639 : decode cL_law 639 = .ok (.bipush 8, 2) := by decide +kernel
theorem dL_law_641 : decode cL_law 641 = .ok (.iload 14, 2) := by decide +kernel
theorem dL_law_643 : decode cL_law 643 = .ok (.iadd, 1) := by decide +kernel
theorem dL_law_644 : decode cL_law 644 = .ok (.iaload, 1) := by decide +kernel
theorem dL_law_645 : decode cL_law 645 = .ok (.iconst 1, 1) := by decide +kernel
theorem dL_law_646 : decode cL_law 646 = .ok (.if_icmp .ne 7, 3) := by decide +kernel
theorem dL_law_649 : decode cL_law 649 = .ok (.iconst 1, 1) := by decide +kernel
theorem dL_law_650 : decode cL_law 650 = .ok (.goto 4, 3) := by decide +kernel
theorem dL_law_653 : decode cL_law 653 = .ok (.iconst 0, 1) := by decide +kernel
theorem dL_law_654 : decode cL_law 654 = .ok (.invokevirtual 132, 3) := by decide +kernel
theorem dL_law_657 : decode cL_law 657 = .ok (.iload 15, 2) := by decide +kernel
theorem dL_law_659 : decode cL_law 659 = .ok (.if_icmp .ne 7, 3) := by decide +kernel
theorem dL_law_662 : decode cL_law 662 = .ok (.iconst 1, 1) := by decide +kernel
theorem dL_law_663 : decode cL_law 663 = .ok (.goto 4, 3) := by decide +kernel
theorem dL_law_666 : decode cL_law 666 = .ok (.iconst 0, 1) := by decide +kernel
theorem dL_law_667 : decode cL_law 667 = .ok (.istore 9, 2) := by decide +kernel
theorem dL_law_669 : decode cL_law 669 = .ok (.goto 102, 3) := by decide +kernel
theorem dL_law_672 : decode cL_law 672 = .ok (.iconst 1, 1) := by decide +kernel
theorem dL_law_673 : decode cL_law 673 = .ok (.iload 13, 2) := by decide +kernel
theorem dL_law_675 : decode cL_law 675 = .ok (.iload 13, 2) := by decide +kernel
theorem dL_law_677 : decode cL_law 677 = .ok (.iconst 3, 1) := by decide +kernel
theorem dL_law_678 : decode cL_law 678 = .ok (.ishr, 1) := by decide +kernel
theorem dL_law_679 : decode cL_law 679 = .ok (.bipush 8, 2) := by decide +kernel
theorem dL_law_681 : decode cL_law 681 = .ok (.invokestatic 65, 3) := by decide +kernel
theorem dL_law_684 : decode cL_law 684 = .ok (.ifCond .ne 8, 3) := by decide +kernel
theorem dL_law_687 : decode cL_law 687 = .ok (.bipush 20, 2) := by decide +kernel
theorem dL_law_689 : decode cL_law 689 = .ok (.goto 4, 3) := by decide +kernel
theorem dL_law_692 : decode cL_law 692 = .ok (.iconst 4, 1) := by decide +kernel
theorem dL_law_693 : decode cL_law 693 = .ok (.invokestatic 65, 3) := by decide +kernel
theorem dL_law_696 : decode cL_law 696 = .ok (.iadd, 1) := by decide +kernel
theorem dL_law_697 : decode cL_law 697 = .ok (.istore 14, 2) := by decide +kernel
theorem dL_law_699 : decode cL_law 699 = .ok (.iconst 0, 1) := by decide +kernel
theorem dL_law_700 : decode cL_law 700 = .ok (.istore 15, 2) := by decide +kernel
theorem dL_law_702 : decode cL_law 702 = .ok (.iconst 0, 1) := by decide +kernel
theorem dL_law_703 : decode cL_law 703 = .ok (.istore 16, 2) := by decide +kernel
theorem dL_law_705 : decode cL_law 705 = .ok (.iload 16, 2) := by decide +kernel
theorem dL_law_707 : decode cL_law 707 = .ok (.iload 14, 2) := by decide +kernel
theorem dL_law_709 : decode cL_law 709 = .ok (.if_icmp .ge 21, 3) := by decide +kernel
theorem dL_law_712 : decode cL_law 712 = .ok (.iload 15, 2) := by decide +kernel
theorem dL_law_714 : decode cL_law 714 = .ok (.aload_n 2, 1) := by decide +kernel
theorem dL_law_715 : decode cL_law 715 = .ok (.aload_n 3, 1) := by decide +kernel
theorem dL_law_716 : decode cL_law 716 = .ok (.aload 8, 2) := by decide +kernel
theorem dL_law_718 : decode cL_law 718 = .ok (.invokestatic 136, 3) := by decide +kernel
theorem dL_law_721 : decode cL_law 721 = .ok (.iadd, 1) := by decide +kernel
theorem dL_law_722 : decode cL_law 722 = .ok (.istore 15, 2) := by decide +kernel
theorem dL_law_724 : decode cL_law 724 = .ok (.iinc 16 1, 3) := by decide +kernel
theorem dL_law_727 : decode cL_law 727 = .ok (.goto (-22), 3) := by decide +kernel
theorem dL_law_730 : decode cL_law 730 = .ok (.aload 8, 2) := by decide +kernel
theorem dL_law_732 : decode cL_law 732 = .ok (.iconst 2, 1) := by decide +kernel
theorem dL_law_733 : decode cL_law 733 = .ok (.iaload, 1) := by decide +kernel
theorem dL_law_734 : decode cL_law 734 = .ok (.sipush 900, 3) := by decide +kernel
theorem dL_law_737 : decode cL_law 737 = .ok (.if_icmp .gt 14, 3) := by decide +kernel
theorem dL_law_740 : decode cL_law 740 = .ok (.aload_n 1, 1) := by decide +kernel
theorem dL_law_741 : decode cL_law 741 = .ok (.iload 14, 2) := by decide +kernel
theorem dL_law_743 : decode cL_law 743 = .ok (.invokevirtual 139, 3) := by decide +kernel
theorem dL_law_746 : decode cL_law 746 = .ok (.iload 15, 2) := by decide +kernel
theorem dL_law_748 : decode cL_law 748 = .ok (.if_icmp .ne 7, 3) := by decide +kernel
theorem dL_law_751 : decode cL_law 751 = .ok (.iconst 1, 1) := by decide +kernel
theorem dL_law_752 : decode cL_law 752 = .ok (.goto 4, 3) := by decide +kernel
theorem dL_law_755 : decode cL_law 755 = .ok (.iconst 0, 1) := by decide +kernel
theorem dL_law_756 : decode cL_law 756 = .ok (.istore 9, 2) := by decide +kernel
theorem dL_law_758 : decode cL_law 758 = .ok (.aload 8, 2) := by decide +kernel
theorem dL_law_760 : decode cL_law 760 = .ok (.iconst 2, 1) := by decide +kernel
theorem dL_law_761 : decode cL_law 761 = .ok (.iaload, 1) := by decide +kernel
theorem dL_law_762 : decode cL_law 762 = .ok (.sipush 900, 3) := by decide +kernel
theorem dL_law_765 : decode cL_law 765 = .ok (.if_icmp .le 6, 3) := by decide +kernel
theorem dL_law_768 : decode cL_law 768 = .ok (.iload 9, 2) := by decide +kernel
theorem dL_law_770 : decode cL_law 770 = .ok (.ireturn, 1) := by decide +kernel
theorem dL_law_771 : decode cL_law 771 = .ok (.iload 9, 2) := by decide +kernel
theorem dL_law_773 : decode cL_law 773 = .ok (.ifCond .eq 28, 3) := by decide +kernel
theorem dL_law_776 : decode cL_law 776 = .ok (.aload_n 1, 1) := by decide +kernel
theorem dL_law_777 : decode cL_law 777 = .ok (.iload 13, 2) := by decide +kernel
theorem dL_law_779 : decode cL_law 779 = .ok (.iconst 1, 1) := by decide +kernel
theorem dL_law_780 : decode cL_law 780 = .ok (.ishr, 1) := by decide +kernel
theorem dL_law_781 : decode cL_law 781 = .ok (.aload_n 2, 1) := by decide +kernel
theorem dL_law_782 : decode cL_law 782 = .ok (.aload_n 3, 1) := by decide +kernel
theorem dL_law_783 : decode cL_law 783 = .ok (.aload 4, 2) := by decide +kernel
theorem dL_law_785 : decode cL_law 785 = .ok (.aload 5, 2) := by decide +kernel
theorem dL_law_787 : decode cL_law 787 = .ok (.aload 6, 2) := by decide +kernel
theorem dL_law_789 : decode cL_law 789 = .ok (.aload 8, 2) := by decide +kernel
theorem dL_law_791 : decode cL_law 791 = .ok (.invokestatic 142, 3) := by decide +kernel
theorem dL_law_794 : decode cL_law 794 = .ok (.ifCond .eq 7, 3) := by decide +kernel
theorem dL_law_797 : decode cL_law 797 = .ok (.iconst 1, 1) := by decide +kernel
theorem dL_law_798 : decode cL_law 798 = .ok (.goto 4, 3) := by decide +kernel
theorem dL_law_801 : decode cL_law 801 = .ok (.iconst 0, 1) := by decide +kernel
theorem dL_law_802 : decode cL_law 802 = .ok (.istore 9, 2) := by decide +kernel
theorem dL_law_804 : decode cL_law 804 = .ok (.iinc 10 1, 3) := by decide +kernel
theorem dL_law_807 : decode cL_law 807 = .ok (.goto (-658), 3) := by decide +kernel
theorem dL_law_810 : decode cL_law 810 = .ok (.iload 9, 2) := by decide +kernel
theorem dL_law_812 : decode cL_law 812 = .ok (.ireturn, 1) := by decide +kernel
