/-! ===== printed decode rows ===== -/
theorem dX0_init_0 : decode cX0_init 0 = .ok (.aload_n 0, 1) := by decide +kernel
theorem dX0_init_1 : decode cX0_init 1 = .ok (.invokespecial 3, 3) := by decide +kernel
theorem dX0_init_4 : decode cX0_init 4 = .ok (.aload_n 0, 1) := by decide +kernel
theorem dX0_init_5 : decode cX0_init 5 = .ok (.iconst 4, 1) := by decide +kernel
theorem dX0_init_6 : decode cX0_init 6 = .ok (.newarray .int, 2) := by decide +kernel
theorem dX0_init_8 : decode cX0_init 8 = .ok (.putfield 9, 3) := by decide +kernel
theorem dX0_init_11 : decode cX0_init 11 = .ok (.aload_n 0, 1) := by decide +kernel
theorem dX0_init_12 : decode cX0_init 12 = .ok (.iconst 0, 1) := by decide +kernel
theorem dX0_init_13 : decode cX0_init 13 = .ok (.putfield 15, 3) := by decide +kernel
theorem dX0_init_16 : decode cX0_init 16 = .ok (.aload_n 0, 1) := by decide +kernel
theorem dX0_init_17 : decode cX0_init 17 = .ok (.iconst (-1), 1) := by decide +kernel
theorem dX0_init_18 : decode cX0_init 18 = .ok (.putfield 19, 3) := by decide +kernel
theorem dX0_init_21 : decode cX0_init 21 = .ok (.aload_n 0, 1) := by decide +kernel
theorem dX0_init_22 : decode cX0_init 22 = .ok (.iconst (-1), 1) := by decide +kernel
theorem dX0_init_23 : decode cX0_init 23 = .ok (.putfield 22, 3) := by decide +kernel
theorem dX0_init_26 : decode cX0_init 26 = .ok (.aload_n 0, 1) := by decide +kernel
theorem dX0_init_27 : decode cX0_init 27 = .ok (.iconst (-1), 1) := by decide +kernel
theorem dX0_init_28 : decode cX0_init 28 = .ok (.putfield 25, 3) := by decide +kernel
theorem dX0_init_31 : decode cX0_init 31 = .ok (.aload_n 0, 1) := by decide +kernel
theorem dX0_init_32 : decode cX0_init 32 = .ok (.iconst 0, 1) := by decide +kernel
theorem dX0_init_33 : decode cX0_init 33 = .ok (.putfield 28, 3) := by decide +kernel
theorem dX0_init_36 : decode cX0_init 36 = .ok (.aload_n 0, 1) := by decide +kernel
theorem dX0_init_37 : decode cX0_init 37 = .ok (.iconst 0, 1) := by decide +kernel
theorem dX0_init_38 : decode cX0_init 38 = .ok (.putfield 32, 3) := by decide +kernel
theorem dX0_init_41 : decode cX0_init 41 = .ok (.aload_n 0, 1) := by decide +kernel
theorem dX0_init_42 : decode cX0_init 42 = .ok (.iload_n 1, 1) := by decide +kernel
theorem dX0_init_43 : decode cX0_init 43 = .ok (.putfield 35, 3) := by decide +kernel
theorem dX0_init_46 : decode cX0_init 46 = .ok (.aload_n 0, 1) := by decide +kernel
theorem dX0_init_47 : decode cX0_init 47 = .ok (.aload_n 2, 1) := by decide +kernel
theorem dX0_init_48 : decode cX0_init 48 = .ok (.putfield 38, 3) := by decide +kernel
theorem dX0_init_51 : decode cX0_init 51 = .ok (.aload_n 0, 1) := by decide +kernel
theorem dX0_init_52 : decode cX0_init 52 = .ok (.iload_n 3, 1) := by decide +kernel
theorem dX0_init_53 : decode cX0_init 53 = .ok (.putfield 42, 3) := by decide +kernel
theorem dX0_init_56 : decode cX0_init 56 = .ok (.return_, 1) := by decide +kernel
theorem dX0_settleAt_0 : decode cX0_settleAt 0 = .ok (.aload_n 0, 1) := by decide +kernel
theorem dX0_settleAt_1 : decode cX0_settleAt 1 = .ok (.iload_n 1, 1) := by decide +kernel
theorem dX0_settleAt_2 : decode cX0_settleAt 2 = .ok (.putfield 19, 3) := by decide +kernel
theorem dX0_settleAt_5 : decode cX0_settleAt 5 = .ok (.aload_n 0, 1) := by decide +kernel
theorem dX0_settleAt_6 : decode cX0_settleAt 6 = .ok (.iload_n 2, 1) := by decide +kernel
theorem dX0_settleAt_7 : decode cX0_settleAt 7 = .ok (.putfield 22, 3) := by decide +kernel
theorem dX0_settleAt_10 : decode cX0_settleAt 10 = .ok (.aload_n 0, 1) := by decide +kernel
theorem dX0_settleAt_11 : decode cX0_settleAt 11 = .ok (.iload_n 3, 1) := by decide +kernel
theorem dX0_settleAt_12 : decode cX0_settleAt 12 = .ok (.putfield 25, 3) := by decide +kernel
theorem dX0_settleAt_15 : decode cX0_settleAt 15 = .ok (.aload_n 0, 1) := by decide +kernel
theorem dX0_settleAt_16 : decode cX0_settleAt 16 = .ok (.iconst 0, 1) := by decide +kernel
theorem dX0_settleAt_17 : decode cX0_settleAt 17 = .ok (.putfield 28, 3) := by decide +kernel
theorem dX0_settleAt_20 : decode cX0_settleAt 20 = .ok (.aload_n 0, 1) := by decide +kernel
theorem dX0_settleAt_21 : decode cX0_settleAt 21 = .ok (.iconst 0, 1) := by decide +kernel
theorem dX0_settleAt_22 : decode cX0_settleAt 22 = .ok (.putfield 32, 3) := by decide +kernel
theorem dX0_settleAt_25 : decode cX0_settleAt 25 = .ok (.return_, 1) := by decide +kernel
theorem dX0_takesPartOf_0 : decode cX0_takesPartOf 0 = .ok (.aload_n 0, 1) := by decide +kernel
theorem dX0_takesPartOf_1 : decode cX0_takesPartOf 1 = .ok (.getfield 15, 3) := by decide +kernel
theorem dX0_takesPartOf_4 : decode cX0_takesPartOf 4 = .ok (.ifCond .ne 30, 3) := by decide +kernel
theorem dX0_takesPartOf_7 : decode cX0_takesPartOf 7 = .ok (.aload_n 0, 1) := by decide +kernel
theorem dX0_takesPartOf_8 : decode cX0_takesPartOf 8 = .ok (.getfield 25, 3) := by decide +kernel
theorem dX0_takesPartOf_11 : decode cX0_takesPartOf 11 = .ok (.iload_n 1, 1) := by decide +kernel
theorem dX0_takesPartOf_12 : decode cX0_takesPartOf 12 = .ok (.iload_n 2, 1) := by decide +kernel
theorem dX0_takesPartOf_13 : decode cX0_takesPartOf 13 = .ok (.iadd, 1) := by decide +kernel
theorem dX0_takesPartOf_14 : decode cX0_takesPartOf 14 = .ok (.if_icmp .ge 20, 3) := by decide +kernel
theorem dX0_takesPartOf_17 : decode cX0_takesPartOf 17 = .ok (.iload_n 1, 1) := by decide +kernel
theorem dX0_takesPartOf_18 : decode cX0_takesPartOf 18 = .ok (.aload_n 0, 1) := by decide +kernel
theorem dX0_takesPartOf_19 : decode cX0_takesPartOf 19 = .ok (.getfield 25, 3) := by decide +kernel
theorem dX0_takesPartOf_22 : decode cX0_takesPartOf 22 = .ok (.aload_n 0, 1) := by decide +kernel
theorem dX0_takesPartOf_23 : decode cX0_takesPartOf 23 = .ok (.getfield 42, 3) := by decide +kernel
theorem dX0_takesPartOf_26 : decode cX0_takesPartOf 26 = .ok (.iadd, 1) := by decide +kernel
theorem dX0_takesPartOf_27 : decode cX0_takesPartOf 27 = .ok (.if_icmp .ge 7, 3) := by decide +kernel
theorem dX0_takesPartOf_30 : decode cX0_takesPartOf 30 = .ok (.iconst 1, 1) := by decide +kernel
theorem dX0_takesPartOf_31 : decode cX0_takesPartOf 31 = .ok (.goto 4, 3) := by decide +kernel
theorem dX0_takesPartOf_34 : decode cX0_takesPartOf 34 = .ok (.iconst 0, 1) := by decide +kernel
theorem dX0_takesPartOf_35 : decode cX0_takesPartOf 35 = .ok (.ireturn, 1) := by decide +kernel
theorem dX0_needs_0 : decode cX0_needs 0 = .ok (.iload_n 1, 1) := by decide +kernel
theorem dX0_needs_1 : decode cX0_needs 1 = .ok (.tableswitch 67 0 2 #[27, 41, 58], 27) := by decide +kernel
theorem dX0_needs_28 : decode cX0_needs 28 = .ok (.aload_n 0, 1) := by decide +kernel
theorem dX0_needs_29 : decode cX0_needs 29 = .ok (.getfield 19, 3) := by decide +kernel
theorem dX0_needs_32 : decode cX0_needs 32 = .ok (.iload_n 2, 1) := by decide +kernel
theorem dX0_needs_33 : decode cX0_needs 33 = .ok (.if_icmp .ne 7, 3) := by decide +kernel
theorem dX0_needs_36 : decode cX0_needs 36 = .ok (.iconst 1, 1) := by decide +kernel
theorem dX0_needs_37 : decode cX0_needs 37 = .ok (.goto 4, 3) := by decide +kernel
theorem dX0_needs_40 : decode cX0_needs 40 = .ok (.iconst 0, 1) := by decide +kernel
theorem dX0_needs_41 : decode cX0_needs 41 = .ok (.ireturn, 1) := by decide +kernel
theorem dX0_needs_42 : decode cX0_needs 42 = .ok (.aload_n 0, 1) := by decide +kernel
theorem dX0_needs_43 : decode cX0_needs 43 = .ok (.getfield 38, 3) := by decide +kernel
theorem dX0_needs_46 : decode cX0_needs 46 = .ok (.getfield 45, 3) := by decide +kernel
theorem dX0_needs_49 : decode cX0_needs 49 = .ok (.iload_n 2, 1) := by decide +kernel
theorem dX0_needs_50 : decode cX0_needs 50 = .ok (.if_icmp .ne 7, 3) := by decide +kernel
theorem dX0_needs_53 : decode cX0_needs 53 = .ok (.iconst 1, 1) := by decide +kernel
theorem dX0_needs_54 : decode cX0_needs 54 = .ok (.goto 4, 3) := by decide +kernel
theorem dX0_needs_57 : decode cX0_needs 57 = .ok (.iconst 0, 1) := by decide +kernel
theorem dX0_needs_58 : decode cX0_needs 58 = .ok (.ireturn, 1) := by decide +kernel
theorem dX0_needs_59 : decode cX0_needs 59 = .ok (.aload_n 0, 1) := by decide +kernel
theorem dX0_needs_60 : decode cX0_needs 60 = .ok (.getfield 38, 3) := by decide +kernel
theorem dX0_needs_63 : decode cX0_needs 63 = .ok (.iload_n 2, 1) := by decide +kernel
theorem dX0_needs_64 : decode cX0_needs 64 = .ok (.invokevirtual 50, 3) := by decide +kernel
theorem dX0_needs_67 : decode cX0_needs 67 = .ok (.ireturn, 1) := by decide +kernel
theorem dX0_needs_68 : decode cX0_needs 68 = .ok (.aload_n 0, 1) := by decide +kernel
theorem dX0_needs_69 : decode cX0_needs 69 = .ok (.getfield 22, 3) := by decide +kernel
theorem dX0_needs_72 : decode cX0_needs 72 = .ok (.iload_n 2, 1) := by decide +kernel
theorem dX0_needs_73 : decode cX0_needs 73 = .ok (.if_icmp .ne 7, 3) := by decide +kernel
theorem dX0_needs_76 : decode cX0_needs 76 = .ok (.iconst 1, 1) := by decide +kernel
theorem dX0_needs_77 : decode cX0_needs 77 = .ok (.goto 4, 3) := by decide +kernel
theorem dX0_needs_80 : decode cX0_needs 80 = .ok (.iconst 0, 1) := by decide +kernel
theorem dX0_needs_81 : decode cX0_needs 81 = .ok (.ireturn, 1) := by decide +kernel
theorem dX0_reasonAgainst_0 : decode cX0_reasonAgainst 0 = .ok (.aload_n 0, 1) := by decide +kernel
theorem dX0_reasonAgainst_1 : decode cX0_reasonAgainst 1 = .ok (.iconst 0, 1) := by decide +kernel
theorem dX0_reasonAgainst_2 : decode cX0_reasonAgainst 2 = .ok (.iload_n 2, 1) := by decide +kernel
theorem dX0_reasonAgainst_3 : decode cX0_reasonAgainst 3 = .ok (.invokevirtual 54, 3) := by decide +kernel
theorem dX0_reasonAgainst_6 : decode cX0_reasonAgainst 6 = .ok (.ifCond .eq 5, 3) := by decide +kernel
theorem dX0_reasonAgainst_9 : decode cX0_reasonAgainst 9 = .ok (.iconst 1, 1) := by decide +kernel
theorem dX0_reasonAgainst_10 : decode cX0_reasonAgainst 10 = .ok (.ireturn, 1) := by decide +kernel
theorem dX0_reasonAgainst_11 : decode cX0_reasonAgainst 11 = .ok (.aload_n 0, 1) := by decide +kernel
theorem dX0_reasonAgainst_12 : decode cX0_reasonAgainst 12 = .ok (.iconst 1, 1) := by decide +kernel
theorem dX0_reasonAgainst_13 : decode cX0_reasonAgainst 13 = .ok (.aload_n 1, 1) := by decide +kernel
theorem dX0_reasonAgainst_14 : decode cX0_reasonAgainst 14 = .ok (.getfield 45, 3) := by decide +kernel
theorem dX0_reasonAgainst_17 : decode cX0_reasonAgainst 17 = .ok (.invokevirtual 54, 3) := by decide +kernel
theorem dX0_reasonAgainst_20 : decode cX0_reasonAgainst 20 = .ok (.ifCond .eq 5, 3) := by decide +kernel
theorem dX0_reasonAgainst_23 : decode cX0_reasonAgainst 23 = .ok (.iconst 2, 1) := by decide +kernel
theorem dX0_reasonAgainst_24 : decode cX0_reasonAgainst 24 = .ok (.ireturn, 1) := by decide +kernel
theorem dX0_reasonAgainst_25 : decode cX0_reasonAgainst 25 = .ok (.aload_n 0, 1) := by decide +kernel
theorem dX0_reasonAgainst_26 : decode cX0_reasonAgainst 26 = .ok (.iconst 2, 1) := by decide +kernel
theorem dX0_reasonAgainst_27 : decode cX0_reasonAgainst 27 = .ok (.aload_n 1, 1) := by decide +kernel
theorem dX0_reasonAgainst_28 : decode cX0_reasonAgainst 28 = .ok (.getfield 58, 3) := by decide +kernel
theorem dX0_reasonAgainst_31 : decode cX0_reasonAgainst 31 = .ok (.invokevirtual 54, 3) := by decide +kernel
theorem dX0_reasonAgainst_34 : decode cX0_reasonAgainst 34 = .ok (.ifCond .ne 15, 3) := by decide +kernel
theorem dX0_reasonAgainst_37 : decode cX0_reasonAgainst 37 = .ok (.aload_n 0, 1) := by decide +kernel
theorem dX0_reasonAgainst_38 : decode cX0_reasonAgainst 38 = .ok (.iconst 2, 1) := by decide +kernel
theorem dX0_reasonAgainst_39 : decode cX0_reasonAgainst 39 = .ok (.aload_n 1, 1) := by decide +kernel
theorem dX0_reasonAgainst_40 : decode cX0_reasonAgainst 40 = .ok (.getfield 61, 3) := by decide +kernel
theorem dX0_reasonAgainst_43 : decode cX0_reasonAgainst 43 = .ok (.invokevirtual 54, 3) := by decide +kernel
theorem dX0_reasonAgainst_46 : decode cX0_reasonAgainst 46 = .ok (.ifCond .eq 5, 3) := by decide +kernel
theorem dX0_reasonAgainst_49 : decode cX0_reasonAgainst 49 = .ok (.iconst 3, 1) := by decide +kernel
theorem dX0_reasonAgainst_50 : decode cX0_reasonAgainst 50 = .ok (.ireturn, 1) := by decide +kernel
theorem dX0_reasonAgainst_51 : decode cX0_reasonAgainst 51 = .ok (.iload_n 3, 1) := by decide +kernel
theorem dX0_reasonAgainst_52 : decode cX0_reasonAgainst 52 = .ok (.iconst (-1), 1) := by decide +kernel
theorem dX0_reasonAgainst_53 : decode cX0_reasonAgainst 53 = .ok (.if_icmp .eq 16, 3) := by decide +kernel
theorem dX0_reasonAgainst_56 : decode cX0_reasonAgainst 56 = .ok (.aload_n 0, 1) := by decide +kernel
theorem dX0_reasonAgainst_57 : decode cX0_reasonAgainst 57 = .ok (.iconst 3, 1) := by decide +kernel
theorem dX0_reasonAgainst_58 : decode cX0_reasonAgainst 58 = .ok (.iload_n 3, 1) := by decide +kernel
theorem dX0_reasonAgainst_59 : decode cX0_reasonAgainst 59 = .ok (.invokevirtual 54, 3) := by decide +kernel
theorem dX0_reasonAgainst_62 : decode cX0_reasonAgainst 62 = .ok (.ifCond .eq 7, 3) := by decide +kernel
theorem dX0_reasonAgainst_65 : decode cX0_reasonAgainst 65 = .ok (.iconst 4, 1) := by decide +kernel
theorem dX0_reasonAgainst_66 : decode cX0_reasonAgainst 66 = .ok (.goto 4, 3) := by decide +kernel
theorem dX0_reasonAgainst_69 : decode cX0_reasonAgainst 69 = .ok (.iconst 0, 1) := by decide +kernel
theorem dX0_reasonAgainst_70 : decode cX0_reasonAgainst 70 = .ok (.ireturn, 1) := by decide +kernel
theorem dX0_tell_0 : decode cX0_tell 0 = .ok (.iload_n 1, 1) := by decide +kernel
theorem dX0_tell_1 : decode cX0_tell 1 = .ok (.aload_n 0, 1) := by decide +kernel
theorem dX0_tell_2 : decode cX0_tell 2 = .ok (.getfield 38, 3) := by decide +kernel
theorem dX0_tell_5 : decode cX0_tell 5 = .ok (.getfield 58, 3) := by decide +kernel
theorem dX0_tell_8 : decode cX0_tell 8 = .ok (.if_icmp .ne 8, 3) := by decide +kernel
theorem dX0_tell_11 : decode cX0_tell 11 = .ok (.aload_n 0, 1) := by decide +kernel
theorem dX0_tell_12 : decode cX0_tell 12 = .ok (.iconst 1, 1) := by decide +kernel
theorem dX0_tell_13 : decode cX0_tell 13 = .ok (.putfield 28, 3) := by decide +kernel
theorem dX0_tell_16 : decode cX0_tell 16 = .ok (.iload_n 1, 1) := by decide +kernel
theorem dX0_tell_17 : decode cX0_tell 17 = .ok (.aload_n 0, 1) := by decide +kernel
theorem dX0_tell_18 : decode cX0_tell 18 = .ok (.getfield 38, 3) := by decide +kernel
theorem dX0_tell_21 : decode cX0_tell 21 = .ok (.getfield 61, 3) := by decide +kernel
theorem dX0_tell_24 : decode cX0_tell 24 = .ok (.if_icmp .ne 8, 3) := by decide +kernel
theorem dX0_tell_27 : decode cX0_tell 27 = .ok (.aload_n 0, 1) := by decide +kernel
theorem dX0_tell_28 : decode cX0_tell 28 = .ok (.iconst 1, 1) := by decide +kernel
theorem dX0_tell_29 : decode cX0_tell 29 = .ok (.putfield 32, 3) := by decide +kernel
theorem dX0_tell_32 : decode cX0_tell 32 = .ok (.return_, 1) := by decide +kernel
theorem dX0_notices_0 : decode cX0_notices 0 = .ok (.aload_n 0, 1) := by decide +kernel
theorem dX0_notices_1 : decode cX0_notices 1 = .ok (.getfield 28, 3) := by decide +kernel
theorem dX0_notices_4 : decode cX0_notices 4 = .ok (.ifCond .eq 7, 3) := by decide +kernel
theorem dX0_notices_7 : decode cX0_notices 7 = .ok (.iconst 1, 1) := by decide +kernel
theorem dX0_notices_8 : decode cX0_notices 8 = .ok (.goto 4, 3) := by decide +kernel
theorem dX0_notices_11 : decode cX0_notices 11 = .ok (.iconst 0, 1) := by decide +kernel
theorem dX0_notices_12 : decode cX0_notices 12 = .ok (.aload_n 0, 1) := by decide +kernel
theorem dX0_notices_13 : decode cX0_notices 13 = .ok (.getfield 32, 3) := by decide +kernel
theorem dX0_notices_16 : decode cX0_notices 16 = .ok (.ifCond .eq 7, 3) := by decide +kernel
theorem dX0_notices_19 : decode cX0_notices 19 = .ok (.iconst 1, 1) := by decide +kernel
theorem dX0_notices_20 : decode cX0_notices 20 = .ok (.goto 4, 3) := by decide +kernel
theorem dX0_notices_23 : decode cX0_notices 23 = .ok (.iconst 0, 1) := by decide +kernel
theorem dX0_notices_24 : decode cX0_notices 24 = .ok (.iadd, 1) := by decide +kernel
theorem dX0_notices_25 : decode cX0_notices 25 = .ok (.ireturn, 1) := by decide +kernel
theorem dX0_charged_0 : decode cX0_charged 0 = .ok (.iconst 0, 1) := by decide +kernel
theorem dX0_charged_1 : decode cX0_charged 1 = .ok (.istore_n 1, 1) := by decide +kernel
theorem dX0_charged_2 : decode cX0_charged 2 = .ok (.iconst 0, 1) := by decide +kernel
theorem dX0_charged_3 : decode cX0_charged 3 = .ok (.istore_n 2, 1) := by decide +kernel
theorem dX0_charged_4 : decode cX0_charged 4 = .ok (.iload_n 2, 1) := by decide +kernel
theorem dX0_charged_5 : decode cX0_charged 5 = .ok (.aload_n 0, 1) := by decide +kernel
theorem dX0_charged_6 : decode cX0_charged 6 = .ok (.getfield 9, 3) := by decide +kernel
theorem dX0_charged_9 : decode cX0_charged 9 = .ok (.arraylength, 1) := by decide +kernel
theorem dX0_charged_10 : decode cX0_charged 10 = .ok (.if_icmp .ge 18, 3) := by decide +kernel
theorem dX0_charged_13 : decode cX0_charged 13 = .ok (.iload_n 1, 1) := by decide +kernel
theorem dX0_charged_14 : decode cX0_charged 14 = .ok (.aload_n 0, 1) := by decide +kernel
theorem dX0_charged_15 : decode cX0_charged 15 = .ok (.getfield 9, 3) := by decide +kernel
theorem dX0_charged_18 : decode cX0_charged 18 = .ok (.iload_n 2, 1) := by decide +kernel
theorem dX0_charged_19 : decode cX0_charged 19 = .ok (.iaload, 1) := by decide +kernel
theorem dX0_charged_20 : decode cX0_charged 20 = .ok (.iadd, 1) := by decide +kernel
theorem dX0_charged_21 : decode cX0_charged 21 = .ok (.istore_n 1, 1) := by decide +kernel
theorem dX0_charged_22 : decode cX0_charged 22 = .ok (.iinc 2 1, 3) := by decide +kernel
theorem dX0_charged_25 : decode cX0_charged 25 = .ok (.goto (-21), 3) := by decide +kernel
theorem dX0_charged_28 : decode cX0_charged 28 = .ok (.iload_n 1, 1) := by decide +kernel
theorem dX0_charged_29 : decode cX0_charged 29 = .ok (.ireturn, 1) := by decide +kernel
theorem dX0_end_0 : decode cX0_end 0 = .ok (.aload_n 0, 1) := by decide +kernel
theorem dX0_end_1 : decode cX0_end 1 = .ok (.getfield 38, 3) := by decide +kernel
theorem dX0_end_4 : decode cX0_end 4 = .ok (.invokevirtual 64, 3) := by decide +kernel
theorem dX0_end_7 : decode cX0_end 7 = .ok (.ifCond .eq 33, 3) := by decide +kernel
theorem dX0_end_10 : decode cX0_end 10 = .ok (.aload_n 0, 1) := by decide +kernel
theorem dX0_end_11 : decode cX0_end 11 = .ok (.getfield 28, 3) := by decide +kernel
theorem dX0_end_14 : decode cX0_end 14 = .ok (.ifCond .eq 26, 3) := by decide +kernel
theorem dX0_end_17 : decode cX0_end 17 = .ok (.aload_n 0, 1) := by decide +kernel
theorem dX0_end_18 : decode cX0_end 18 = .ok (.getfield 32, 3) := by decide +kernel
theorem dX0_end_21 : decode cX0_end 21 = .ok (.ifCond .eq 19, 3) := by decide +kernel
theorem dX0_end_24 : decode cX0_end 24 = .ok (.aload_n 0, 1) := by decide +kernel
theorem dX0_end_25 : decode cX0_end 25 = .ok (.iconst 1, 1) := by decide +kernel
theorem dX0_end_26 : decode cX0_end 26 = .ok (.putfield 15, 3) := by decide +kernel
theorem dX0_end_29 : decode cX0_end 29 = .ok (.aload_n 0, 1) := by decide +kernel
theorem dX0_end_30 : decode cX0_end 30 = .ok (.getfield 38, 3) := by decide +kernel
theorem dX0_end_33 : decode cX0_end 33 = .ok (.iconst 1, 1) := by decide +kernel
theorem dX0_end_34 : decode cX0_end 34 = .ok (.putfield 68, 3) := by decide +kernel
theorem dX0_end_37 : decode cX0_end 37 = .ok (.goto 8, 3) := by decide +kernel
theorem dX0_end_40 : decode cX0_end 40 = .ok (.aload_n 0, 1) := by decide +kernel
theorem dX0_end_41 : decode cX0_end 41 = .ok (.iconst 2, 1) := by decide +kernel
theorem dX0_end_42 : decode cX0_end 42 = .ok (.putfield 15, 3) := by decide +kernel
theorem dX0_end_45 : decode cX0_end 45 = .ok (.return_, 1) := by decide +kernel
theorem dX1_init_0 : decode cX1_init 0 = .ok (.aload_n 0, 1) := by decide +kernel
theorem dX1_init_1 : decode cX1_init 1 = .ok (.invokespecial 3, 3) := by decide +kernel
theorem dX1_init_4 : decode cX1_init 4 = .ok (.aload_n 0, 1) := by decide +kernel
theorem dX1_init_5 : decode cX1_init 5 = .ok (.iconst 0, 1) := by decide +kernel
theorem dX1_init_6 : decode cX1_init 6 = .ok (.putfield 9, 3) := by decide +kernel
theorem dX1_init_9 : decode cX1_init 9 = .ok (.aload_n 0, 1) := by decide +kernel
theorem dX1_init_10 : decode cX1_init 10 = .ok (.bipush 10, 2) := by decide +kernel
theorem dX1_init_12 : decode cX1_init 12 = .ok (.putfield 15, 3) := by decide +kernel
theorem dX1_init_15 : decode cX1_init 15 = .ok (.aload_n 0, 1) := by decide +kernel
theorem dX1_init_16 : decode cX1_init 16 = .ok (.bipush 16, 2) := by decide +kernel
theorem dX1_init_18 : decode cX1_init 18 = .ok (.newarray .int, 2) := by decide +kernel
theorem dX1_init_20 : decode cX1_init 20 = .ok (.putfield 18, 3) := by decide +kernel
theorem dX1_init_23 : decode cX1_init 23 = .ok (.aload_n 0, 1) := by decide +kernel
theorem dX1_init_24 : decode cX1_init 24 = .ok (.bipush 16, 2) := by decide +kernel
theorem dX1_init_26 : decode cX1_init 26 = .ok (.anewarray 22, 3) := by decide +kernel
theorem dX1_init_29 : decode cX1_init 29 = .ok (.putfield 24, 3) := by decide +kernel
theorem dX1_init_32 : decode cX1_init 32 = .ok (.aload_n 0, 1) := by decide +kernel
theorem dX1_init_33 : decode cX1_init 33 = .ok (.bipush 16, 2) := by decide +kernel
theorem dX1_init_35 : decode cX1_init 35 = .ok (.newarray .int, 2) := by decide +kernel
theorem dX1_init_37 : decode cX1_init 37 = .ok (.putfield 28, 3) := by decide +kernel
theorem dX1_init_40 : decode cX1_init 40 = .ok (.return_, 1) := by decide +kernel
theorem dX1_placeOf_0 : decode cX1_placeOf 0 = .ok (.iload_n 0, 1) := by decide +kernel
theorem dX1_placeOf_1 : decode cX1_placeOf 1 = .ok (.bipush 15, 2) := by decide +kernel
theorem dX1_placeOf_3 : decode cX1_placeOf 3 = .ok (.iand, 1) := by decide +kernel
theorem dX1_placeOf_4 : decode cX1_placeOf 4 = .ok (.ireturn, 1) := by decide +kernel
theorem dX1_knows_0 : decode cX1_knows 0 = .ok (.aload_n 0, 1) := by decide +kernel
theorem dX1_knows_1 : decode cX1_knows 1 = .ok (.getfield 9, 3) := by decide +kernel
theorem dX1_knows_4 : decode cX1_knows 4 = .ok (.iload_n 1, 1) := by decide +kernel
theorem dX1_knows_5 : decode cX1_knows 5 = .ok (.ishr, 1) := by decide +kernel
theorem dX1_knows_6 : decode cX1_knows 6 = .ok (.iconst 1, 1) := by decide +kernel
theorem dX1_knows_7 : decode cX1_knows 7 = .ok (.iand, 1) := by decide +kernel
theorem dX1_knows_8 : decode cX1_knows 8 = .ok (.iconst 1, 1) := by decide +kernel
theorem dX1_knows_9 : decode cX1_knows 9 = .ok (.if_icmp .ne 7, 3) := by decide +kernel
theorem dX1_knows_12 : decode cX1_knows 12 = .ok (.iconst 1, 1) := by decide +kernel
theorem dX1_knows_13 : decode cX1_knows 13 = .ok (.goto 4, 3) := by decide +kernel
theorem dX1_knows_16 : decode cX1_knows 16 = .ok (.iconst 0, 1) := by decide +kernel
theorem dX1_knows_17 : decode cX1_knows 17 = .ok (.ireturn, 1) := by decide +kernel
theorem dX1_payer_0 : decode cX1_payer 0 = .ok (.iload_n 1, 1) := by decide +kernel
theorem dX1_payer_1 : decode cX1_payer 1 = .ok (.invokestatic 31, 3) := by decide +kernel
theorem dX1_payer_4 : decode cX1_payer 4 = .ok (.istore_n 3, 1) := by decide +kernel
theorem dX1_payer_5 : decode cX1_payer 5 = .ok (.iload_n 1, 1) := by decide +kernel
theorem dX1_payer_6 : decode cX1_payer 6 = .ok (.iload_n 2, 1) := by decide +kernel
theorem dX1_payer_7 : decode cX1_payer 7 = .ok (.if_icmp .le 22, 3) := by decide +kernel
theorem dX1_payer_10 : decode cX1_payer 10 = .ok (.aload_n 0, 1) := by decide +kernel
theorem dX1_payer_11 : decode cX1_payer 11 = .ok (.getfield 18, 3) := by decide +kernel
theorem dX1_payer_14 : decode cX1_payer 14 = .ok (.iload_n 3, 1) := by decide +kernel
theorem dX1_payer_15 : decode cX1_payer 15 = .ok (.iaload, 1) := by decide +kernel
theorem dX1_payer_16 : decode cX1_payer 16 = .ok (.iload_n 1, 1) := by decide +kernel
theorem dX1_payer_17 : decode cX1_payer 17 = .ok (.if_icmp .ne 12, 3) := by decide +kernel
theorem dX1_payer_20 : decode cX1_payer 20 = .ok (.aload_n 0, 1) := by decide +kernel
theorem dX1_payer_21 : decode cX1_payer 21 = .ok (.getfield 24, 3) := by decide +kernel
theorem dX1_payer_24 : decode cX1_payer 24 = .ok (.iload_n 3, 1) := by decide +kernel
theorem dX1_payer_25 : decode cX1_payer 25 = .ok (.aaload, 1) := by decide +kernel
theorem dX1_payer_26 : decode cX1_payer 26 = .ok (.goto 4, 3) := by decide +kernel
theorem dX1_payer_29 : decode cX1_payer 29 = .ok (.aconst_null, 1) := by decide +kernel
theorem dX1_payer_30 : decode cX1_payer 30 = .ok (.areturn, 1) := by decide +kernel
theorem dX1_keep_0 : decode cX1_keep 0 = .ok (.iload_n 1, 1) := by decide +kernel
theorem dX1_keep_1 : decode cX1_keep 1 = .ok (.invokestatic 31, 3) := by decide +kernel
theorem dX1_keep_4 : decode cX1_keep 4 = .ok (.istore 4, 2) := by decide +kernel
theorem dX1_keep_6 : decode cX1_keep 6 = .ok (.aload_n 0, 1) := by decide +kernel
theorem dX1_keep_7 : decode cX1_keep 7 = .ok (.getfield 18, 3) := by decide +kernel
theorem dX1_keep_10 : decode cX1_keep 10 = .ok (.iload 4, 2) := by decide +kernel
theorem dX1_keep_12 : decode cX1_keep 12 = .ok (.iload_n 1, 1) := by decide +kernel
theorem dX1_keep_13 : decode cX1_keep 13 = .ok (.iastore, 1) := by decide +kernel
theorem dX1_keep_14 : decode cX1_keep 14 = .ok (.aload_n 0, 1) := by decide +kernel
theorem dX1_keep_15 : decode cX1_keep 15 = .ok (.getfield 24, 3) := by decide +kernel
theorem dX1_keep_18 : decode cX1_keep 18 = .ok (.iload 4, 2) := by decide +kernel
theorem dX1_keep_20 : decode cX1_keep 20 = .ok (.aload_n 2, 1) := by decide +kernel
theorem dX1_keep_21 : decode cX1_keep 21 = .ok (.aastore, 1) := by decide +kernel
theorem dX1_keep_22 : decode cX1_keep 22 = .ok (.aload_n 0, 1) := by decide +kernel
theorem dX1_keep_23 : decode cX1_keep 23 = .ok (.getfield 28, 3) := by decide +kernel
theorem dX1_keep_26 : decode cX1_keep 26 = .ok (.iload 4, 2) := by decide +kernel
theorem dX1_keep_28 : decode cX1_keep 28 = .ok (.iload_n 3, 1) := by decide +kernel
theorem dX1_keep_29 : decode cX1_keep 29 = .ok (.iastore, 1) := by decide +kernel
theorem dX1_keep_30 : decode cX1_keep 30 = .ok (.return_, 1) := by decide +kernel
theorem dX1_take_0 : decode cX1_take 0 = .ok (.aload_n 0, 1) := by decide +kernel
theorem dX1_take_1 : decode cX1_take 1 = .ok (.iload_n 1, 1) := by decide +kernel
theorem dX1_take_2 : decode cX1_take 2 = .ok (.iload_n 2, 1) := by decide +kernel
theorem dX1_take_3 : decode cX1_take 3 = .ok (.invokevirtual 35, 3) := by decide +kernel
theorem dX1_take_6 : decode cX1_take 6 = .ok (.astore 4, 2) := by decide +kernel
theorem dX1_take_8 : decode cX1_take 8 = .ok (.aload 4, 2) := by decide +kernel
theorem dX1_take_10 : decode cX1_take 10 = .ok (.ifnonnull 8, 3) := by decide +kernel
theorem dX1_take_13 : decode cX1_take 13 = .ok (.aload_n 0, 1) := by decide +kernel
theorem dX1_take_14 : decode cX1_take 14 = .ok (.getfield 15, 3) := by decide +kernel
theorem dX1_take_17 : decode cX1_take 17 = .ok (.ireturn, 1) := by decide +kernel
theorem dX1_take_18 : decode cX1_take 18 = .ok (.iload_n 1, 1) := by decide +kernel
theorem dX1_take_19 : decode cX1_take 19 = .ok (.invokestatic 31, 3) := by decide +kernel
theorem dX1_take_22 : decode cX1_take 22 = .ok (.istore 5, 2) := by decide +kernel
theorem dX1_take_24 : decode cX1_take 24 = .ok (.aload_n 0, 1) := by decide +kernel
theorem dX1_take_25 : decode cX1_take 25 = .ok (.getfield 24, 3) := by decide +kernel
theorem dX1_take_28 : decode cX1_take 28 = .ok (.iload 5, 2) := by decide +kernel
theorem dX1_take_30 : decode cX1_take 30 = .ok (.aconst_null, 1) := by decide +kernel
theorem dX1_take_31 : decode cX1_take 31 = .ok (.aastore, 1) := by decide +kernel
theorem dX1_take_32 : decode cX1_take 32 = .ok (.aload 4, 2) := by decide +kernel
theorem dX1_take_34 : decode cX1_take 34 = .ok (.aload_n 3, 1) := by decide +kernel
theorem dX1_take_35 : decode cX1_take 35 = .ok (.if_acmp .ne 5, 3) := by decide +kernel
theorem dX1_take_38 : decode cX1_take 38 = .ok (.iconst 0, 1) := by decide +kernel
theorem dX1_take_39 : decode cX1_take 39 = .ok (.ireturn, 1) := by decide +kernel
theorem dX1_take_40 : decode cX1_take 40 = .ok (.aload_n 0, 1) := by decide +kernel
theorem dX1_take_41 : decode cX1_take 41 = .ok (.getfield 28, 3) := by decide +kernel
theorem dX1_take_44 : decode cX1_take 44 = .ok (.iload 5, 2) := by decide +kernel
theorem dX1_take_46 : decode cX1_take 46 = .ok (.iaload, 1) := by decide +kernel
theorem dX1_take_47 : decode cX1_take 47 = .ok (.iconst 2, 1) := by decide +kernel
theorem dX1_take_48 : decode cX1_take 48 = .ok (.idiv, 1) := by decide +kernel
theorem dX1_take_49 : decode cX1_take 49 = .ok (.istore 6, 2) := by decide +kernel
theorem dX1_take_51 : decode cX1_take 51 = .ok (.aload 4, 2) := by decide +kernel
theorem dX1_take_53 : decode cX1_take 53 = .ok (.dup, 1) := by decide +kernel
theorem dX1_take_54 : decode cX1_take 54 = .ok (.getfield 39, 3) := by decide +kernel
theorem dX1_take_57 : decode cX1_take 57 = .ok (.iload 6, 2) := by decide +kernel
theorem dX1_take_59 : decode cX1_take 59 = .ok (.iadd, 1) := by decide +kernel
theorem dX1_take_60 : decode cX1_take 60 = .ok (.putfield 39, 3) := by decide +kernel
theorem dX1_take_63 : decode cX1_take 63 = .ok (.iload 6, 2) := by decide +kernel
theorem dX1_take_65 : decode cX1_take 65 = .ok (.ireturn, 1) := by decide +kernel
theorem dX1_hoursPaidBy_0 : decode cX1_hoursPaidBy 0 = .ok (.iconst 0, 1) := by decide +kernel
theorem dX1_hoursPaidBy_1 : decode cX1_hoursPaidBy 1 = .ok (.istore_n 3, 1) := by decide +kernel
theorem dX1_hoursPaidBy_2 : decode cX1_hoursPaidBy 2 = .ok (.iconst 0, 1) := by decide +kernel
theorem dX1_hoursPaidBy_3 : decode cX1_hoursPaidBy 3 = .ok (.istore 4, 2) := by decide +kernel
theorem dX1_hoursPaidBy_5 : decode cX1_hoursPaidBy 5 = .ok (.iload 4, 2) := by decide +kernel
theorem dX1_hoursPaidBy_7 : decode cX1_hoursPaidBy 7 = .ok (.bipush 16, 2) := by decide +kernel
theorem dX1_hoursPaidBy_9 : decode cX1_hoursPaidBy 9 = .ok (.if_icmp .ge 34, 3) := by decide +kernel
theorem dX1_hoursPaidBy_12 : decode cX1_hoursPaidBy 12 = .ok (.aload_n 0, 1) := by decide +kernel
theorem dX1_hoursPaidBy_13 : decode cX1_hoursPaidBy 13 = .ok (.getfield 24, 3) := by decide +kernel
theorem dX1_hoursPaidBy_16 : decode cX1_hoursPaidBy 16 = .ok (.iload 4, 2) := by decide +kernel
theorem dX1_hoursPaidBy_18 : decode cX1_hoursPaidBy 18 = .ok (.aaload, 1) := by decide +kernel
theorem dX1_hoursPaidBy_19 : decode cX1_hoursPaidBy 19 = .ok (.aload_n 1, 1) := by decide +kernel
theorem dX1_hoursPaidBy_20 : decode cX1_hoursPaidBy 20 = .ok (.if_acmp .ne 17, 3) := by decide +kernel
theorem dX1_hoursPaidBy_23 : decode cX1_hoursPaidBy 23 = .ok (.aload_n 0, 1) := by decide +kernel
theorem dX1_hoursPaidBy_24 : decode cX1_hoursPaidBy 24 = .ok (.getfield 18, 3) := by decide +kernel
theorem dX1_hoursPaidBy_27 : decode cX1_hoursPaidBy 27 = .ok (.iload 4, 2) := by decide +kernel
theorem dX1_hoursPaidBy_29 : decode cX1_hoursPaidBy 29 = .ok (.iaload, 1) := by decide +kernel
theorem dX1_hoursPaidBy_30 : decode cX1_hoursPaidBy 30 = .ok (.iload_n 2, 1) := by decide +kernel
theorem dX1_hoursPaidBy_31 : decode cX1_hoursPaidBy 31 = .ok (.if_icmp .le 6, 3) := by decide +kernel
theorem dX1_hoursPaidBy_34 : decode cX1_hoursPaidBy 34 = .ok (.iinc 3 1, 3) := by decide +kernel
theorem dX1_hoursPaidBy_37 : decode cX1_hoursPaidBy 37 = .ok (.iinc 4 1, 3) := by decide +kernel
theorem dX1_hoursPaidBy_40 : decode cX1_hoursPaidBy 40 = .ok (.goto (-35), 3) := by decide +kernel
theorem dX1_hoursPaidBy_43 : decode cX1_hoursPaidBy 43 = .ok (.iload_n 3, 1) := by decide +kernel
theorem dX1_hoursPaidBy_44 : decode cX1_hoursPaidBy 44 = .ok (.ireturn, 1) := by decide +kernel
theorem dX2_init_0 : decode cX2_init 0 = .ok (.aload_n 0, 1) := by decide +kernel
theorem dX2_init_1 : decode cX2_init 1 = .ok (.invokespecial 3, 3) := by decide +kernel
theorem dX2_init_4 : decode cX2_init 4 = .ok (.aload_n 0, 1) := by decide +kernel
theorem dX2_init_5 : decode cX2_init 5 = .ok (.iconst 0, 1) := by decide +kernel
theorem dX2_init_6 : decode cX2_init 6 = .ok (.putfield 9, 3) := by decide +kernel
theorem dX2_init_9 : decode cX2_init 9 = .ok (.aload_n 0, 1) := by decide +kernel
theorem dX2_init_10 : decode cX2_init 10 = .ok (.iconst 0, 1) := by decide +kernel
theorem dX2_init_11 : decode cX2_init 11 = .ok (.putfield 15, 3) := by decide +kernel
theorem dX2_init_14 : decode cX2_init 14 = .ok (.aload_n 0, 1) := by decide +kernel
theorem dX2_init_15 : decode cX2_init 15 = .ok (.iload_n 1, 1) := by decide +kernel
theorem dX2_init_16 : decode cX2_init 16 = .ok (.putfield 18, 3) := by decide +kernel
theorem dX2_init_19 : decode cX2_init 19 = .ok (.aload_n 0, 1) := by decide +kernel
theorem dX2_init_20 : decode cX2_init 20 = .ok (.iload_n 2, 1) := by decide +kernel
theorem dX2_init_21 : decode cX2_init 21 = .ok (.putfield 21, 3) := by decide +kernel
theorem dX2_init_24 : decode cX2_init 24 = .ok (.aload_n 0, 1) := by decide +kernel
theorem dX2_init_25 : decode cX2_init 25 = .ok (.iload_n 3, 1) := by decide +kernel
theorem dX2_init_26 : decode cX2_init 26 = .ok (.putfield 24, 3) := by decide +kernel
theorem dX2_init_29 : decode cX2_init 29 = .ok (.aload_n 0, 1) := by decide +kernel
theorem dX2_init_30 : decode cX2_init 30 = .ok (.iload 4, 2) := by decide +kernel
theorem dX2_init_32 : decode cX2_init 32 = .ok (.putfield 27, 3) := by decide +kernel
theorem dX2_init_35 : decode cX2_init 35 = .ok (.aload_n 0, 1) := by decide +kernel
theorem dX2_init_36 : decode cX2_init 36 = .ok (.iload 5, 2) := by decide +kernel
theorem dX2_init_38 : decode cX2_init 38 = .ok (.putfield 30, 3) := by decide +kernel
theorem dX2_init_41 : decode cX2_init 41 = .ok (.aload_n 0, 1) := by decide +kernel
theorem dX2_init_42 : decode cX2_init 42 = .ok (.iload 6, 2) := by decide +kernel
theorem dX2_init_44 : decode cX2_init 44 = .ok (.putfield 33, 3) := by decide +kernel
theorem dX2_init_47 : decode cX2_init 47 = .ok (.return_, 1) := by decide +kernel
theorem dX2_isOpen_0 : decode cX2_isOpen 0 = .ok (.aload_n 0, 1) := by decide +kernel
theorem dX2_isOpen_1 : decode cX2_isOpen 1 = .ok (.getfield 9, 3) := by decide +kernel
theorem dX2_isOpen_4 : decode cX2_isOpen 4 = .ok (.ifCond .eq 11, 3) := by decide +kernel
theorem dX2_isOpen_7 : decode cX2_isOpen 7 = .ok (.aload_n 0, 1) := by decide +kernel
theorem dX2_isOpen_8 : decode cX2_isOpen 8 = .ok (.getfield 9, 3) := by decide +kernel
theorem dX2_isOpen_11 : decode cX2_isOpen 11 = .ok (.iconst 1, 1) := by decide +kernel
theorem dX2_isOpen_12 : decode cX2_isOpen 12 = .ok (.if_icmp .ne 7, 3) := by decide +kernel
theorem dX2_isOpen_15 : decode cX2_isOpen 15 = .ok (.iconst 1, 1) := by decide +kernel
theorem dX2_isOpen_16 : decode cX2_isOpen 16 = .ok (.goto 4, 3) := by decide +kernel
theorem dX2_isOpen_19 : decode cX2_isOpen 19 = .ok (.iconst 0, 1) := by decide +kernel
theorem dX2_isOpen_20 : decode cX2_isOpen 20 = .ok (.ireturn, 1) := by decide +kernel
theorem dX2_isOf_0 : decode cX2_isOf 0 = .ok (.iload_n 1, 1) := by decide +kernel
theorem dX2_isOf_1 : decode cX2_isOf 1 = .ok (.aload_n 0, 1) := by decide +kernel
theorem dX2_isOf_2 : decode cX2_isOf 2 = .ok (.getfield 24, 3) := by decide +kernel
theorem dX2_isOf_5 : decode cX2_isOf 5 = .ok (.if_icmp .eq 11, 3) := by decide +kernel
theorem dX2_isOf_8 : decode cX2_isOf 8 = .ok (.iload_n 1, 1) := by decide +kernel
theorem dX2_isOf_9 : decode cX2_isOf 9 = .ok (.aload_n 0, 1) := by decide +kernel
theorem dX2_isOf_10 : decode cX2_isOf 10 = .ok (.getfield 27, 3) := by decide +kernel
theorem dX2_isOf_13 : decode cX2_isOf 13 = .ok (.if_icmp .ne 7, 3) := by decide +kernel
theorem dX2_isOf_16 : decode cX2_isOf 16 = .ok (.iconst 1, 1) := by decide +kernel
theorem dX2_isOf_17 : decode cX2_isOf 17 = .ok (.goto 4, 3) := by decide +kernel
theorem dX2_isOf_20 : decode cX2_isOf 20 = .ok (.iconst 0, 1) := by decide +kernel
theorem dX2_isOf_21 : decode cX2_isOf 21 = .ok (.ireturn, 1) := by decide +kernel
theorem dX2_runTerm_0 : decode cX2_runTerm 0 = .ok (.aload_n 0, 1) := by decide +kernel
theorem dX2_runTerm_1 : decode cX2_runTerm 1 = .ok (.getfield 9, 3) := by decide +kernel
theorem dX2_runTerm_4 : decode cX2_runTerm 4 = .ok (.iconst 3, 1) := by decide +kernel
theorem dX2_runTerm_5 : decode cX2_runTerm 5 = .ok (.if_icmp .ne 16, 3) := by decide +kernel
theorem dX2_runTerm_8 : decode cX2_runTerm 8 = .ok (.aload_n 0, 1) := by decide +kernel
theorem dX2_runTerm_9 : decode cX2_runTerm 9 = .ok (.dup, 1) := by decide +kernel
theorem dX2_runTerm_10 : decode cX2_runTerm 10 = .ok (.getfield 33, 3) := by decide +kernel
theorem dX2_runTerm_13 : decode cX2_runTerm 13 = .ok (.iconst 1, 1) := by decide +kernel
theorem dX2_runTerm_14 : decode cX2_runTerm 14 = .ok (.iadd, 1) := by decide +kernel
theorem dX2_runTerm_15 : decode cX2_runTerm 15 = .ok (.putfield 33, 3) := by decide +kernel
theorem dX2_runTerm_18 : decode cX2_runTerm 18 = .ok (.goto 23, 3) := by decide +kernel
theorem dX2_runTerm_21 : decode cX2_runTerm 21 = .ok (.aload_n 0, 1) := by decide +kernel
theorem dX2_runTerm_22 : decode cX2_runTerm 22 = .ok (.invokevirtual 36, 3) := by decide +kernel
theorem dX2_runTerm_25 : decode cX2_runTerm 25 = .ok (.ifCond .eq 16, 3) := by decide +kernel
theorem dX2_runTerm_28 : decode cX2_runTerm 28 = .ok (.aload_n 0, 1) := by decide +kernel
theorem dX2_runTerm_29 : decode cX2_runTerm 29 = .ok (.getfield 33, 3) := by decide +kernel
theorem dX2_runTerm_32 : decode cX2_runTerm 32 = .ok (.iload_n 1, 1) := by decide +kernel
theorem dX2_runTerm_33 : decode cX2_runTerm 33 = .ok (.if_icmp .gt 8, 3) := by decide +kernel
theorem dX2_runTerm_36 : decode cX2_runTerm 36 = .ok (.aload_n 0, 1) := by decide +kernel
theorem dX2_runTerm_37 : decode cX2_runTerm 37 = .ok (.iconst 5, 1) := by decide +kernel
theorem dX2_runTerm_38 : decode cX2_runTerm 38 = .ok (.putfield 9, 3) := by decide +kernel
theorem dX2_runTerm_41 : decode cX2_runTerm 41 = .ok (.return_, 1) := by decide +kernel
theorem dX3_init_0 : decode cX3_init 0 = .ok (.aload_n 0, 1) := by decide +kernel
theorem dX3_init_1 : decode cX3_init 1 = .ok (.invokespecial 1, 3) := by decide +kernel
theorem dX3_init_4 : decode cX3_init 4 = .ok (.aload_n 0, 1) := by decide +kernel
theorem dX3_init_5 : decode cX3_init 5 = .ok (.iconst 4, 1) := by decide +kernel
theorem dX3_init_6 : decode cX3_init 6 = .ok (.anewarray 9, 3) := by decide +kernel
theorem dX3_init_9 : decode cX3_init 9 = .ok (.putfield 11, 3) := by decide +kernel
theorem dX3_init_12 : decode cX3_init 12 = .ok (.aload_n 0, 1) := by decide +kernel
theorem dX3_init_13 : decode cX3_init 13 = .ok (.bipush 6, 2) := by decide +kernel
theorem dX3_init_15 : decode cX3_init 15 = .ok (.newarray .boolean, 2) := by decide +kernel
theorem dX3_init_17 : decode cX3_init 17 = .ok (.putfield 15, 3) := by decide +kernel
theorem dX3_init_20 : decode cX3_init 20 = .ok (.aload_n 0, 1) := by decide +kernel
theorem dX3_init_21 : decode cX3_init 21 = .ok (.bipush 12, 2) := by decide +kernel
theorem dX3_init_23 : decode cX3_init 23 = .ok (.anewarray 19, 3) := by decide +kernel
theorem dX3_init_26 : decode cX3_init 26 = .ok (.putfield 21, 3) := by decide +kernel
theorem dX3_init_29 : decode cX3_init 29 = .ok (.aload_n 0, 1) := by decide +kernel
theorem dX3_init_30 : decode cX3_init 30 = .ok (.bipush 24, 2) := by decide +kernel
theorem dX3_init_32 : decode cX3_init 32 = .ok (.anewarray 25, 3) := by decide +kernel
theorem dX3_init_35 : decode cX3_init 35 = .ok (.putfield 27, 3) := by decide +kernel
theorem dX3_init_38 : decode cX3_init 38 = .ok (.aload_n 0, 1) := by decide +kernel
theorem dX3_init_39 : decode cX3_init 39 = .ok (.iconst 0, 1) := by decide +kernel
theorem dX3_init_40 : decode cX3_init 40 = .ok (.putfield 31, 3) := by decide +kernel
theorem dX3_init_43 : decode cX3_init 43 = .ok (.aload_n 0, 1) := by decide +kernel
theorem dX3_init_44 : decode cX3_init 44 = .ok (.iconst 0, 1) := by decide +kernel
theorem dX3_init_45 : decode cX3_init 45 = .ok (.putfield 35, 3) := by decide +kernel
theorem dX3_init_48 : decode cX3_init 48 = .ok (.aload_n 0, 1) := by decide +kernel
theorem dX3_init_49 : decode cX3_init 49 = .ok (.iconst 0, 1) := by decide +kernel
theorem dX3_init_50 : decode cX3_init 50 = .ok (.putfield 38, 3) := by decide +kernel
theorem dX3_init_53 : decode cX3_init 53 = .ok (.iconst 0, 1) := by decide +kernel
theorem dX3_init_54 : decode cX3_init 54 = .ok (.istore_n 1, 1) := by decide +kernel
theorem dX3_init_55 : decode cX3_init 55 = .ok (.iload_n 1, 1) := by decide +kernel
theorem dX3_init_56 : decode cX3_init 56 = .ok (.aload_n 0, 1) := by decide +kernel
theorem dX3_init_57 : decode cX3_init 57 = .ok (.getfield 11, 3) := by decide +kernel
theorem dX3_init_60 : decode cX3_init 60 = .ok (.arraylength, 1) := by decide +kernel
theorem dX3_init_61 : decode cX3_init 61 = .ok (.if_icmp .ge 22, 3) := by decide +kernel
theorem dX3_init_64 : decode cX3_init 64 = .ok (.aload_n 0, 1) := by decide +kernel
theorem dX3_init_65 : decode cX3_init 65 = .ok (.getfield 11, 3) := by decide +kernel
theorem dX3_init_68 : decode cX3_init 68 = .ok (.iload_n 1, 1) := by decide +kernel
theorem dX3_init_69 : decode cX3_init 69 = .ok (.new 9, 3) := by decide +kernel
theorem dX3_init_72 : decode cX3_init 72 = .ok (.dup, 1) := by decide +kernel
theorem dX3_init_73 : decode cX3_init 73 = .ok (.invokespecial 41, 3) := by decide +kernel
theorem dX3_init_76 : decode cX3_init 76 = .ok (.aastore, 1) := by decide +kernel
theorem dX3_init_77 : decode cX3_init 77 = .ok (.iinc 1 1, 3) := by decide +kernel
theorem dX3_init_80 : decode cX3_init 80 = .ok (.goto (-25), 3) := by decide +kernel
theorem dX3_init_83 : decode cX3_init 83 = .ok (.return_, 1) := by decide +kernel
theorem dX3_interpreter_0 : decode cX3_interpreter 0 = .ok (.aload_n 0, 1) := by decide +kernel
theorem dX3_interpreter_1 : decode cX3_interpreter 1 = .ok (.iload_n 1, 1) := by decide +kernel
theorem dX3_interpreter_2 : decode cX3_interpreter 2 = .ok (.invokevirtual 42, 3) := by decide +kernel
theorem dX3_interpreter_5 : decode cX3_interpreter 5 = .ok (.astore 4, 2) := by decide +kernel
theorem dX3_interpreter_7 : decode cX3_interpreter 7 = .ok (.aload 4, 2) := by decide +kernel
theorem dX3_interpreter_9 : decode cX3_interpreter 9 = .ok (.ifnonnull 13, 3) := by decide +kernel
theorem dX3_interpreter_12 : decode cX3_interpreter 12 = .ok (.new 46, 3) := by decide +kernel
theorem dX3_interpreter_15 : decode cX3_interpreter 15 = .ok (.dup, 1) := by decide +kernel
theorem dX3_interpreter_16 : decode cX3_interpreter 16 = .ok (.ldc 48, 2) := by decide +kernel
theorem dX3_interpreter_18 : decode cX3_interpreter 18 = .ok (.invokespecial 50, 3) := by decide +kernel
theorem dX3_interpreter_21 : decode cX3_interpreter 21 = .ok (.athrow, 1) := by decide +kernel
theorem dX3_interpreter_22 : decode cX3_interpreter 22 = .ok (.iload_n 2, 1) := by decide +kernel
theorem dX3_interpreter_23 : decode cX3_interpreter 23 = .ok (.ifCond .lt 20, 3) := by decide +kernel
theorem dX3_interpreter_26 : decode cX3_interpreter 26 = .ok (.iload_n 2, 1) := by decide +kernel
theorem dX3_interpreter_27 : decode cX3_interpreter 27 = .ok (.bipush 15, 2) := by decide +kernel
theorem dX3_interpreter_29 : decode cX3_interpreter 29 = .ok (.if_icmp .gt 14, 3) := by decide +kernel
theorem dX3_interpreter_32 : decode cX3_interpreter 32 = .ok (.iload_n 3, 1) := by decide +kernel
theorem dX3_interpreter_33 : decode cX3_interpreter 33 = .ok (.iconst 1, 1) := by decide +kernel
theorem dX3_interpreter_34 : decode cX3_interpreter 34 = .ok (.if_icmp .lt 9, 3) := by decide +kernel
theorem dX3_interpreter_37 : decode cX3_interpreter 37 = .ok (.iload_n 3, 1) := by decide +kernel
theorem dX3_interpreter_38 : decode cX3_interpreter 38 = .ok (.bipush 99, 2) := by decide +kernel
theorem dX3_interpreter_40 : decode cX3_interpreter 40 = .ok (.if_icmp .le 13, 3) := by decide +kernel
theorem dX3_interpreter_43 : decode cX3_interpreter 43 = .ok (.new 53, 3) := by decide +kernel
theorem dX3_interpreter_46 : decode cX3_interpreter 46 = .ok (.dup, 1) := by decide +kernel
theorem dX3_interpreter_47 : decode cX3_interpreter 47 = .ok (.ldc 55, 2) := by decide +kernel
theorem dX3_interpreter_49 : decode cX3_interpreter 49 = .ok (.invokespecial 57, 3) := by decide +kernel
theorem dX3_interpreter_52 : decode cX3_interpreter 52 = .ok (.athrow, 1) := by decide +kernel
theorem dX3_interpreter_53 : decode cX3_interpreter 53 = .ok (.aload 4, 2) := by decide +kernel
theorem dX3_interpreter_55 : decode cX3_interpreter 55 = .ok (.getfield 58, 3) := by decide +kernel
theorem dX3_interpreter_58 : decode cX3_interpreter 58 = .ok (.istore 5, 2) := by decide +kernel
theorem dX3_interpreter_60 : decode cX3_interpreter 60 = .ok (.aload 4, 2) := by decide +kernel
theorem dX3_interpreter_62 : decode cX3_interpreter 62 = .ok (.iload_n 2, 1) := by decide +kernel
theorem dX3_interpreter_63 : decode cX3_interpreter 63 = .ok (.putfield 61, 3) := by decide +kernel
theorem dX3_interpreter_66 : decode cX3_interpreter 66 = .ok (.aload 4, 2) := by decide +kernel
theorem dX3_interpreter_68 : decode cX3_interpreter 68 = .ok (.iload_n 3, 1) := by decide +kernel
theorem dX3_interpreter_69 : decode cX3_interpreter 69 = .ok (.putfield 58, 3) := by decide +kernel
theorem dX3_interpreter_72 : decode cX3_interpreter 72 = .ok (.iload 5, 2) := by decide +kernel
theorem dX3_interpreter_74 : decode cX3_interpreter 74 = .ok (.ireturn, 1) := by decide +kernel
theorem dX3_waive_0 : decode cX3_waive 0 = .ok (.iload_n 1, 1) := by decide +kernel
theorem dX3_waive_1 : decode cX3_waive 1 = .ok (.ifCond .lt 12, 3) := by decide +kernel
theorem dX3_waive_4 : decode cX3_waive 4 = .ok (.iload_n 1, 1) := by decide +kernel
theorem dX3_waive_5 : decode cX3_waive 5 = .ok (.aload_n 0, 1) := by decide +kernel
theorem dX3_waive_6 : decode cX3_waive 6 = .ok (.getfield 15, 3) := by decide +kernel
theorem dX3_waive_9 : decode cX3_waive 9 = .ok (.arraylength, 1) := by decide +kernel
theorem dX3_waive_10 : decode cX3_waive 10 = .ok (.if_icmp .lt 13, 3) := by decide +kernel
theorem dX3_waive_13 : decode cX3_waive 13 = .ok (.new 46, 3) := by decide +kernel
theorem dX3_waive_16 : decode cX3_waive 16 = .ok (.dup, 1) := by decide +kernel
theorem dX3_waive_17 : decode cX3_waive 17 = .ok (.ldc 64, 2) := by decide +kernel
theorem dX3_waive_19 : decode cX3_waive 19 = .ok (.invokespecial 50, 3) := by decide +kernel
theorem dX3_waive_22 : decode cX3_waive 22 = .ok (.athrow, 1) := by decide +kernel
theorem dX3_waive_23 : decode cX3_waive 23 = .ok (.aload_n 0, 1) := by decide +kernel
theorem dX3_waive_24 : decode cX3_waive 24 = .ok (.getfield 15, 3) := by decide +kernel
theorem dX3_waive_27 : decode cX3_waive 27 = .ok (.iload_n 1, 1) := by decide +kernel
theorem dX3_waive_28 : decode cX3_waive 28 = .ok (.baload, 1) := by decide +kernel
theorem dX3_waive_29 : decode cX3_waive 29 = .ok (.istore_n 3, 1) := by decide +kernel
theorem dX3_waive_30 : decode cX3_waive 30 = .ok (.aload_n 0, 1) := by decide +kernel
theorem dX3_waive_31 : decode cX3_waive 31 = .ok (.getfield 15, 3) := by decide +kernel
theorem dX3_waive_34 : decode cX3_waive 34 = .ok (.iload_n 1, 1) := by decide +kernel
theorem dX3_waive_35 : decode cX3_waive 35 = .ok (.iload_n 2, 1) := by decide +kernel
theorem dX3_waive_36 : decode cX3_waive 36 = .ok (.bastore, 1) := by decide +kernel
theorem dX3_waive_37 : decode cX3_waive 37 = .ok (.iload_n 3, 1) := by decide +kernel
theorem dX3_waive_38 : decode cX3_waive 38 = .ok (.ireturn, 1) := by decide +kernel
theorem dX3_file_0 : decode cX3_file 0 = .ok (.iload_n 1, 1) := by decide +kernel
theorem dX3_file_1 : decode cX3_file 1 = .ok (.iconst 4, 1) := by decide +kernel
theorem dX3_file_2 : decode cX3_file 2 = .ok (.invokestatic 66, 3) := by decide +kernel
theorem dX3_file_5 : decode cX3_file 5 = .ok (.ifCond .eq 30, 3) := by decide +kernel
theorem dX3_file_8 : decode cX3_file 8 = .ok (.iload_n 2, 1) := by decide +kernel
theorem dX3_file_9 : decode cX3_file 9 = .ok (.bipush 6, 2) := by decide +kernel
theorem dX3_file_11 : decode cX3_file 11 = .ok (.invokestatic 66, 3) := by decide +kernel
theorem dX3_file_14 : decode cX3_file 14 = .ok (.ifCond .eq 21, 3) := by decide +kernel
theorem dX3_file_17 : decode cX3_file 17 = .ok (.iload_n 3, 1) := by decide +kernel
theorem dX3_file_18 : decode cX3_file 18 = .ok (.bipush 6, 2) := by decide +kernel
theorem dX3_file_20 : decode cX3_file 20 = .ok (.invokestatic 66, 3) := by decide +kernel
theorem dX3_file_23 : decode cX3_file 23 = .ok (.ifCond .eq 12, 3) := by decide +kernel
theorem dX3_file_26 : decode cX3_file 26 = .ok (.iload 4, 2) := by decide +kernel
theorem dX3_file_28 : decode cX3_file 28 = .ok (.iconst 4, 1) := by decide +kernel
theorem dX3_file_29 : decode cX3_file 29 = .ok (.invokestatic 70, 3) := by decide +kernel
theorem dX3_file_32 : decode cX3_file 32 = .ok (.ifCond .ne 13, 3) := by decide +kernel
theorem dX3_file_35 : decode cX3_file 35 = .ok (.new 46, 3) := by decide +kernel
theorem dX3_file_38 : decode cX3_file 38 = .ok (.dup, 1) := by decide +kernel
theorem dX3_file_39 : decode cX3_file 39 = .ok (.ldc 73, 2) := by decide +kernel
theorem dX3_file_41 : decode cX3_file 41 = .ok (.invokespecial 50, 3) := by decide +kernel
theorem dX3_file_44 : decode cX3_file 44 = .ok (.athrow, 1) := by decide +kernel
theorem dX3_file_45 : decode cX3_file 45 = .ok (.iload_n 2, 1) := by decide +kernel
theorem dX3_file_46 : decode cX3_file 46 = .ok (.iload_n 3, 1) := by decide +kernel
theorem dX3_file_47 : decode cX3_file 47 = .ok (.if_icmp .ne 13, 3) := by decide +kernel
theorem dX3_file_50 : decode cX3_file 50 = .ok (.new 53, 3) := by decide +kernel
theorem dX3_file_53 : decode cX3_file 53 = .ok (.dup, 1) := by decide +kernel
theorem dX3_file_54 : decode cX3_file 54 = .ok (.ldc 75, 2) := by decide +kernel
theorem dX3_file_56 : decode cX3_file 56 = .ok (.invokespecial 57, 3) := by decide +kernel
theorem dX3_file_59 : decode cX3_file 59 = .ok (.athrow, 1) := by decide +kernel
theorem dX3_file_60 : decode cX3_file 60 = .ok (.aload_n 0, 1) := by decide +kernel
theorem dX3_file_61 : decode cX3_file 61 = .ok (.getfield 31, 3) := by decide +kernel
theorem dX3_file_64 : decode cX3_file 64 = .ok (.aload_n 0, 1) := by decide +kernel
theorem dX3_file_65 : decode cX3_file 65 = .ok (.getfield 21, 3) := by decide +kernel
theorem dX3_file_68 : decode cX3_file 68 = .ok (.arraylength, 1) := by decide +kernel
theorem dX3_file_69 : decode cX3_file 69 = .ok (.invokestatic 66, 3) := by decide +kernel
theorem dX3_file_72 : decode cX3_file 72 = .ok (.ifCond .ne 13, 3) := by decide +kernel
theorem dX3_file_75 : decode cX3_file 75 = .ok (.new 77, 3) := by decide +kernel
theorem dX3_file_78 : decode cX3_file 78 = .ok (.dup, 1) := by decide +kernel
theorem dX3_file_79 : decode cX3_file 79 = .ok (.ldc 79, 2) := by decide +kernel
theorem dX3_file_81 : decode cX3_file 81 = .ok (.invokespecial 81, 3) := by decide +kernel
theorem dX3_file_84 : decode cX3_file 84 = .ok (.athrow, 1) := by decide +kernel
theorem dX3_file_85 : decode cX3_file 85 = .ok (.new 19, 3) := by decide +kernel
theorem dX3_file_88 : decode cX3_file 88 = .ok (.dup, 1) := by decide +kernel
theorem dX3_file_89 : decode cX3_file 89 = .ok (.aload_n 0, 1) := by decide +kernel
theorem dX3_file_90 : decode cX3_file 90 = .ok (.getfield 31, 3) := by decide +kernel
theorem dX3_file_93 : decode cX3_file 93 = .ok (.iload_n 1, 1) := by decide +kernel
theorem dX3_file_94 : decode cX3_file 94 = .ok (.iload_n 2, 1) := by decide +kernel
theorem dX3_file_95 : decode cX3_file 95 = .ok (.iload_n 3, 1) := by decide +kernel
theorem dX3_file_96 : decode cX3_file 96 = .ok (.iload 4, 2) := by decide +kernel
theorem dX3_file_98 : decode cX3_file 98 = .ok (.aload_n 0, 1) := by decide +kernel
theorem dX3_file_99 : decode cX3_file 99 = .ok (.getfield 38, 3) := by decide +kernel
theorem dX3_file_102 : decode cX3_file 102 = .ok (.bipush 100, 2) := by decide +kernel
theorem dX3_file_104 : decode cX3_file 104 = .ok (.iadd, 1) := by decide +kernel
theorem dX3_file_105 : decode cX3_file 105 = .ok (.invokespecial 82, 3) := by decide +kernel
theorem dX3_file_108 : decode cX3_file 108 = .ok (.astore 5, 2) := by decide +kernel
theorem dX3_file_110 : decode cX3_file 110 = .ok (.aload 5, 2) := by decide +kernel
theorem dX3_file_112 : decode cX3_file 112 = .ok (.dup, 1) := by decide +kernel
theorem dX3_file_113 : decode cX3_file 113 = .ok (.getfield 85, 3) := by decide +kernel
theorem dX3_file_116 : decode cX3_file 116 = .ok (.aload_n 0, 1) := by decide +kernel
theorem dX3_file_117 : decode cX3_file 117 = .ok (.aload 5, 2) := by decide +kernel
theorem dX3_file_119 : decode cX3_file 119 = .ok (.bipush 50, 2) := by decide +kernel
theorem dX3_file_121 : decode cX3_file 121 = .ok (.invokevirtual 88, 3) := by decide +kernel
theorem dX3_file_124 : decode cX3_file 124 = .ok (.isub, 1) := by decide +kernel
theorem dX3_file_125 : decode cX3_file 125 = .ok (.putfield 85, 3) := by decide +kernel
theorem dX3_file_128 : decode cX3_file 128 = .ok (.aload_n 0, 1) := by decide +kernel
theorem dX3_file_129 : decode cX3_file 129 = .ok (.getfield 21, 3) := by decide +kernel
theorem dX3_file_132 : decode cX3_file 132 = .ok (.aload_n 0, 1) := by decide +kernel
theorem dX3_file_133 : decode cX3_file 133 = .ok (.getfield 31, 3) := by decide +kernel
theorem dX3_file_136 : decode cX3_file 136 = .ok (.aload 5, 2) := by decide +kernel
theorem dX3_file_138 : decode cX3_file 138 = .ok (.aastore, 1) := by decide +kernel
theorem dX3_file_139 : decode cX3_file 139 = .ok (.aload_n 0, 1) := by decide +kernel
theorem dX3_file_140 : decode cX3_file 140 = .ok (.dup, 1) := by decide +kernel
theorem dX3_file_141 : decode cX3_file 141 = .ok (.getfield 31, 3) := by decide +kernel
theorem dX3_file_144 : decode cX3_file 144 = .ok (.iconst 1, 1) := by decide +kernel
theorem dX3_file_145 : decode cX3_file 145 = .ok (.iadd, 1) := by decide +kernel
theorem dX3_file_146 : decode cX3_file 146 = .ok (.putfield 31, 3) := by decide +kernel
theorem dX3_file_149 : decode cX3_file 149 = .ok (.aload 5, 2) := by decide +kernel
theorem dX3_file_151 : decode cX3_file 151 = .ok (.getfield 92, 3) := by decide +kernel
theorem dX3_file_154 : decode cX3_file 154 = .ok (.ireturn, 1) := by decide +kernel
theorem dX3_pay_0 : decode cX3_pay 0 = .ok (.aload_n 0, 1) := by decide +kernel
theorem dX3_pay_1 : decode cX3_pay 1 = .ok (.iload_n 1, 1) := by decide +kernel
theorem dX3_pay_2 : decode cX3_pay 2 = .ok (.invokevirtual 95, 3) := by decide +kernel
theorem dX3_pay_5 : decode cX3_pay 5 = .ok (.astore_n 3, 1) := by decide +kernel
theorem dX3_pay_6 : decode cX3_pay 6 = .ok (.aload_n 3, 1) := by decide +kernel
theorem dX3_pay_7 : decode cX3_pay 7 = .ok (.ifnonnull 13, 3) := by decide +kernel
theorem dX3_pay_10 : decode cX3_pay 10 = .ok (.new 46, 3) := by decide +kernel
theorem dX3_pay_13 : decode cX3_pay 13 = .ok (.dup, 1) := by decide +kernel
theorem dX3_pay_14 : decode cX3_pay 14 = .ok (.ldc 99, 2) := by decide +kernel
theorem dX3_pay_16 : decode cX3_pay 16 = .ok (.invokespecial 50, 3) := by decide +kernel
theorem dX3_pay_19 : decode cX3_pay 19 = .ok (.athrow, 1) := by decide +kernel
theorem dX3_pay_20 : decode cX3_pay 20 = .ok (.iload_n 2, 1) := by decide +kernel
theorem dX3_pay_21 : decode cX3_pay 21 = .ok (.iconst 1, 1) := by decide +kernel
theorem dX3_pay_22 : decode cX3_pay 22 = .ok (.if_icmp .lt 10, 3) := by decide +kernel
theorem dX3_pay_25 : decode cX3_pay 25 = .ok (.iload_n 2, 1) := by decide +kernel
theorem dX3_pay_26 : decode cX3_pay 26 = .ok (.sipush 9999, 3) := by decide +kernel
theorem dX3_pay_29 : decode cX3_pay 29 = .ok (.if_icmp .le 13, 3) := by decide +kernel
theorem dX3_pay_32 : decode cX3_pay 32 = .ok (.new 53, 3) := by decide +kernel
theorem dX3_pay_35 : decode cX3_pay 35 = .ok (.dup, 1) := by decide +kernel
theorem dX3_pay_36 : decode cX3_pay 36 = .ok (.ldc 101, 2) := by decide +kernel
theorem dX3_pay_38 : decode cX3_pay 38 = .ok (.invokespecial 57, 3) := by decide +kernel
theorem dX3_pay_41 : decode cX3_pay 41 = .ok (.athrow, 1) := by decide +kernel
theorem dX3_pay_42 : decode cX3_pay 42 = .ok (.aload_n 3, 1) := by decide +kernel
theorem dX3_pay_43 : decode cX3_pay 43 = .ok (.dup, 1) := by decide +kernel
theorem dX3_pay_44 : decode cX3_pay 44 = .ok (.getfield 85, 3) := by decide +kernel
theorem dX3_pay_47 : decode cX3_pay 47 = .ok (.iload_n 2, 1) := by decide +kernel
theorem dX3_pay_48 : decode cX3_pay 48 = .ok (.iadd, 1) := by decide +kernel
theorem dX3_pay_49 : decode cX3_pay 49 = .ok (.putfield 85, 3) := by decide +kernel
theorem dX3_pay_52 : decode cX3_pay 52 = .ok (.aload_n 3, 1) := by decide +kernel
theorem dX3_pay_53 : decode cX3_pay 53 = .ok (.getfield 85, 3) := by decide +kernel
theorem dX3_pay_56 : decode cX3_pay 56 = .ok (.ireturn, 1) := by decide +kernel
theorem dX3_decide_0 : decode cX3_decide 0 = .ok (.aload_n 0, 1) := by decide +kernel
theorem dX3_decide_1 : decode cX3_decide 1 = .ok (.iload_n 1, 1) := by decide +kernel
theorem dX3_decide_2 : decode cX3_decide 2 = .ok (.invokevirtual 95, 3) := by decide +kernel
theorem dX3_decide_5 : decode cX3_decide 5 = .ok (.astore_n 2, 1) := by decide +kernel
theorem dX3_decide_6 : decode cX3_decide 6 = .ok (.aload_n 2, 1) := by decide +kernel
theorem dX3_decide_7 : decode cX3_decide 7 = .ok (.ifnonnull 13, 3) := by decide +kernel
theorem dX3_decide_10 : decode cX3_decide 10 = .ok (.new 46, 3) := by decide +kernel
theorem dX3_decide_13 : decode cX3_decide 13 = .ok (.dup, 1) := by decide +kernel
theorem dX3_decide_14 : decode cX3_decide 14 = .ok (.ldc 99, 2) := by decide +kernel
theorem dX3_decide_16 : decode cX3_decide 16 = .ok (.invokespecial 50, 3) := by decide +kernel
theorem dX3_decide_19 : decode cX3_decide 19 = .ok (.athrow, 1) := by decide +kernel
theorem dX3_decide_20 : decode cX3_decide 20 = .ok (.aload_n 2, 1) := by decide +kernel
theorem dX3_decide_21 : decode cX3_decide 21 = .ok (.getfield 103, 3) := by decide +kernel
theorem dX3_decide_24 : decode cX3_decide 24 = .ok (.iconst 1, 1) := by decide +kernel
theorem dX3_decide_25 : decode cX3_decide 25 = .ok (.if_icmp .eq 13, 3) := by decide +kernel
theorem dX3_decide_28 : decode cX3_decide 28 = .ok (.new 77, 3) := by decide +kernel
theorem dX3_decide_31 : decode cX3_decide 31 = .ok (.dup, 1) := by decide +kernel
theorem dX3_decide_32 : decode cX3_decide 32 = .ok (.ldc 106, 2) := by decide +kernel
theorem dX3_decide_34 : decode cX3_decide 34 = .ok (.invokespecial 81, 3) := by decide +kernel
theorem dX3_decide_37 : decode cX3_decide 37 = .ok (.athrow, 1) := by decide +kernel
theorem dX3_decide_38 : decode cX3_decide 38 = .ok (.aload_n 2, 1) := by decide +kernel
theorem dX3_decide_39 : decode cX3_decide 39 = .ok (.iconst 2, 1) := by decide +kernel
theorem dX3_decide_40 : decode cX3_decide 40 = .ok (.putfield 103, 3) := by decide +kernel
theorem dX3_decide_43 : decode cX3_decide 43 = .ok (.aload_n 0, 1) := by decide +kernel
theorem dX3_decide_44 : decode cX3_decide 44 = .ok (.aload_n 2, 1) := by decide +kernel
theorem dX3_decide_45 : decode cX3_decide 45 = .ok (.invokevirtual 108, 3) := by decide +kernel
theorem dX3_decide_48 : decode cX3_decide 48 = .ok (.ireturn, 1) := by decide +kernel
theorem dX3_appeal_0 : decode cX3_appeal 0 = .ok (.aload_n 0, 1) := by decide +kernel
theorem dX3_appeal_1 : decode cX3_appeal 1 = .ok (.iload_n 1, 1) := by decide +kernel
theorem dX3_appeal_2 : decode cX3_appeal 2 = .ok (.invokevirtual 95, 3) := by decide +kernel
theorem dX3_appeal_5 : decode cX3_appeal 5 = .ok (.astore_n 2, 1) := by decide +kernel
theorem dX3_appeal_6 : decode cX3_appeal 6 = .ok (.aload_n 2, 1) := by decide +kernel
theorem dX3_appeal_7 : decode cX3_appeal 7 = .ok (.ifnonnull 13, 3) := by decide +kernel
theorem dX3_appeal_10 : decode cX3_appeal 10 = .ok (.new 46, 3) := by decide +kernel
theorem dX3_appeal_13 : decode cX3_appeal 13 = .ok (.dup, 1) := by decide +kernel
theorem dX3_appeal_14 : decode cX3_appeal 14 = .ok (.ldc 99, 2) := by decide +kernel
theorem dX3_appeal_16 : decode cX3_appeal 16 = .ok (.invokespecial 50, 3) := by decide +kernel
theorem dX3_appeal_19 : decode cX3_appeal 19 = .ok (.athrow, 1) := by decide +kernel
theorem dX3_appeal_20 : decode cX3_appeal 20 = .ok (.aload_n 2, 1) := by decide +kernel
theorem dX3_appeal_21 : decode cX3_appeal 21 = .ok (.getfield 103, 3) := by decide +kernel
theorem dX3_appeal_24 : decode cX3_appeal 24 = .ok (.iconst 2, 1) := by decide +kernel
theorem dX3_appeal_25 : decode cX3_appeal 25 = .ok (.if_icmp .ne 10, 3) := by decide +kernel
theorem dX3_appeal_28 : decode cX3_appeal 28 = .ok (.aload_n 2, 1) := by decide +kernel
theorem dX3_appeal_29 : decode cX3_appeal 29 = .ok (.getfield 85, 3) := by decide +kernel
theorem dX3_appeal_32 : decode cX3_appeal 32 = .ok (.ifCond .ge 13, 3) := by decide +kernel
theorem dX3_appeal_35 : decode cX3_appeal 35 = .ok (.new 77, 3) := by decide +kernel
theorem dX3_appeal_38 : decode cX3_appeal 38 = .ok (.dup, 1) := by decide +kernel
theorem dX3_appeal_39 : decode cX3_appeal 39 = .ok (.ldc 112, 2) := by decide +kernel
theorem dX3_appeal_41 : decode cX3_appeal 41 = .ok (.invokespecial 81, 3) := by decide +kernel
theorem dX3_appeal_44 : decode cX3_appeal 44 = .ok (.athrow, 1) := by decide +kernel
theorem dX3_appeal_45 : decode cX3_appeal 45 = .ok (.aload_n 2, 1) := by decide +kernel
theorem dX3_appeal_46 : decode cX3_appeal 46 = .ok (.iconst 3, 1) := by decide +kernel
theorem dX3_appeal_47 : decode cX3_appeal 47 = .ok (.putfield 103, 3) := by decide +kernel
theorem dX3_appeal_50 : decode cX3_appeal 50 = .ok (.aload_n 2, 1) := by decide +kernel
theorem dX3_appeal_51 : decode cX3_appeal 51 = .ok (.dup, 1) := by decide +kernel
theorem dX3_appeal_52 : decode cX3_appeal 52 = .ok (.getfield 85, 3) := by decide +kernel
theorem dX3_appeal_55 : decode cX3_appeal 55 = .ok (.aload_n 0, 1) := by decide +kernel
theorem dX3_appeal_56 : decode cX3_appeal 56 = .ok (.aload_n 2, 1) := by decide +kernel
theorem dX3_appeal_57 : decode cX3_appeal 57 = .ok (.bipush 80, 2) := by decide +kernel
theorem dX3_appeal_59 : decode cX3_appeal 59 = .ok (.invokevirtual 88, 3) := by decide +kernel
theorem dX3_appeal_62 : decode cX3_appeal 62 = .ok (.isub, 1) := by decide +kernel
theorem dX3_appeal_63 : decode cX3_appeal 63 = .ok (.putfield 85, 3) := by decide +kernel
theorem dX3_appeal_66 : decode cX3_appeal 66 = .ok (.aload_n 2, 1) := by decide +kernel
theorem dX3_appeal_67 : decode cX3_appeal 67 = .ok (.getfield 85, 3) := by decide +kernel
theorem dX3_appeal_70 : decode cX3_appeal 70 = .ok (.ireturn, 1) := by decide +kernel
theorem dX3_settle_0 : decode cX3_settle 0 = .ok (.aload_n 0, 1) := by decide +kernel
theorem dX3_settle_1 : decode cX3_settle 1 = .ok (.iload_n 1, 1) := by decide +kernel
theorem dX3_settle_2 : decode cX3_settle 2 = .ok (.invokevirtual 95, 3) := by decide +kernel
theorem dX3_settle_5 : decode cX3_settle 5 = .ok (.astore_n 3, 1) := by decide +kernel
theorem dX3_settle_6 : decode cX3_settle 6 = .ok (.aload_n 3, 1) := by decide +kernel
theorem dX3_settle_7 : decode cX3_settle 7 = .ok (.ifnonnull 13, 3) := by decide +kernel
theorem dX3_settle_10 : decode cX3_settle 10 = .ok (.new 46, 3) := by decide +kernel
theorem dX3_settle_13 : decode cX3_settle 13 = .ok (.dup, 1) := by decide +kernel
theorem dX3_settle_14 : decode cX3_settle 14 = .ok (.ldc 99, 2) := by decide +kernel
theorem dX3_settle_16 : decode cX3_settle 16 = .ok (.invokespecial 50, 3) := by decide +kernel
theorem dX3_settle_19 : decode cX3_settle 19 = .ok (.athrow, 1) := by decide +kernel
theorem dX3_settle_20 : decode cX3_settle 20 = .ok (.aload_n 3, 1) := by decide +kernel
theorem dX3_settle_21 : decode cX3_settle 21 = .ok (.getfield 103, 3) := by decide +kernel
theorem dX3_settle_24 : decode cX3_settle 24 = .ok (.iconst 3, 1) := by decide +kernel
theorem dX3_settle_25 : decode cX3_settle 25 = .ok (.if_icmp .eq 13, 3) := by decide +kernel
theorem dX3_settle_28 : decode cX3_settle 28 = .ok (.new 77, 3) := by decide +kernel
theorem dX3_settle_31 : decode cX3_settle 31 = .ok (.dup, 1) := by decide +kernel
theorem dX3_settle_32 : decode cX3_settle 32 = .ok (.ldc 114, 2) := by decide +kernel
theorem dX3_settle_34 : decode cX3_settle 34 = .ok (.invokespecial 81, 3) := by decide +kernel
theorem dX3_settle_37 : decode cX3_settle 37 = .ok (.athrow, 1) := by decide +kernel
theorem dX3_settle_38 : decode cX3_settle 38 = .ok (.aload_n 3, 1) := by decide +kernel
theorem dX3_settle_39 : decode cX3_settle 39 = .ok (.iload_n 2, 1) := by decide +kernel
theorem dX3_settle_40 : decode cX3_settle 40 = .ok (.ifCond .eq 7, 3) := by decide +kernel
theorem dX3_settle_43 : decode cX3_settle 43 = .ok (.iconst 0, 1) := by decide +kernel
theorem dX3_settle_44 : decode cX3_settle 44 = .ok (.goto 4, 3) := by decide +kernel
theorem dX3_settle_47 : decode cX3_settle 47 = .ok (.iconst 2, 1) := by decide +kernel
theorem dX3_settle_48 : decode cX3_settle 48 = .ok (.putfield 103, 3) := by decide +kernel
theorem dX3_settle_51 : decode cX3_settle 51 = .ok (.aload_n 3, 1) := by decide +kernel
theorem dX3_settle_52 : decode cX3_settle 52 = .ok (.getfield 116, 3) := by decide +kernel
theorem dX3_settle_55 : decode cX3_settle 55 = .ok (.ireturn, 1) := by decide +kernel
theorem dX3_close_0 : decode cX3_close 0 = .ok (.aload_n 0, 1) := by decide +kernel
theorem dX3_close_1 : decode cX3_close 1 = .ok (.iload_n 1, 1) := by decide +kernel
theorem dX3_close_2 : decode cX3_close 2 = .ok (.invokevirtual 95, 3) := by decide +kernel
theorem dX3_close_5 : decode cX3_close 5 = .ok (.astore_n 2, 1) := by decide +kernel
theorem dX3_close_6 : decode cX3_close 6 = .ok (.aload_n 2, 1) := by decide +kernel
theorem dX3_close_7 : decode cX3_close 7 = .ok (.ifnonnull 13, 3) := by decide +kernel
theorem dX3_close_10 : decode cX3_close 10 = .ok (.new 46, 3) := by decide +kernel
theorem dX3_close_13 : decode cX3_close 13 = .ok (.dup, 1) := by decide +kernel
theorem dX3_close_14 : decode cX3_close 14 = .ok (.ldc 99, 2) := by decide +kernel
theorem dX3_close_16 : decode cX3_close 16 = .ok (.invokespecial 50, 3) := by decide +kernel
theorem dX3_close_19 : decode cX3_close 19 = .ok (.athrow, 1) := by decide +kernel
theorem dX3_close_20 : decode cX3_close 20 = .ok (.aload_n 2, 1) := by decide +kernel
theorem dX3_close_21 : decode cX3_close 21 = .ok (.getfield 103, 3) := by decide +kernel
theorem dX3_close_24 : decode cX3_close 24 = .ok (.iconst 2, 1) := by decide +kernel
theorem dX3_close_25 : decode cX3_close 25 = .ok (.if_icmp .eq 13, 3) := by decide +kernel
theorem dX3_close_28 : decode cX3_close 28 = .ok (.new 77, 3) := by decide +kernel
theorem dX3_close_31 : decode cX3_close 31 = .ok (.dup, 1) := by decide +kernel
theorem dX3_close_32 : decode cX3_close 32 = .ok (.ldc 119, 2) := by decide +kernel
theorem dX3_close_34 : decode cX3_close 34 = .ok (.invokespecial 81, 3) := by decide +kernel
theorem dX3_close_37 : decode cX3_close 37 = .ok (.athrow, 1) := by decide +kernel
theorem dX3_close_38 : decode cX3_close 38 = .ok (.aload_n 2, 1) := by decide +kernel
theorem dX3_close_39 : decode cX3_close 39 = .ok (.iconst 4, 1) := by decide +kernel
theorem dX3_close_40 : decode cX3_close 40 = .ok (.putfield 103, 3) := by decide +kernel
theorem dX3_close_43 : decode cX3_close 43 = .ok (.aload_n 2, 1) := by decide +kernel
theorem dX3_close_44 : decode cX3_close 44 = .ok (.getfield 85, 3) := by decide +kernel
theorem dX3_close_47 : decode cX3_close 47 = .ok (.ireturn, 1) := by decide +kernel
theorem dX3_plan_0 : decode cX3_plan 0 = .ok (.aload_n 0, 1) := by decide +kernel
theorem dX3_plan_1 : decode cX3_plan 1 = .ok (.iload_n 1, 1) := by decide +kernel
theorem dX3_plan_2 : decode cX3_plan 2 = .ok (.invokevirtual 95, 3) := by decide +kernel
theorem dX3_plan_5 : decode cX3_plan 5 = .ok (.astore 6, 2) := by decide +kernel
theorem dX3_plan_7 : decode cX3_plan 7 = .ok (.aload 6, 2) := by decide +kernel
theorem dX3_plan_9 : decode cX3_plan 9 = .ok (.ifnull 19, 3) := by decide +kernel
theorem dX3_plan_12 : decode cX3_plan 12 = .ok (.iload_n 2, 1) := by decide +kernel
theorem dX3_plan_13 : decode cX3_plan 13 = .ok (.iconst 4, 1) := by decide +kernel
theorem dX3_plan_14 : decode cX3_plan 14 = .ok (.invokestatic 66, 3) := by decide +kernel
theorem dX3_plan_17 : decode cX3_plan 17 = .ok (.ifCond .eq 11, 3) := by decide +kernel
theorem dX3_plan_20 : decode cX3_plan 20 = .ok (.iload_n 3, 1) := by decide +kernel
theorem dX3_plan_21 : decode cX3_plan 21 = .ok (.iconst 4, 1) := by decide +kernel
theorem dX3_plan_22 : decode cX3_plan 22 = .ok (.invokestatic 70, 3) := by decide +kernel
theorem dX3_plan_25 : decode cX3_plan 25 = .ok (.ifCond .ne 13, 3) := by decide +kernel
theorem dX3_plan_28 : decode cX3_plan 28 = .ok (.new 46, 3) := by decide +kernel
theorem dX3_plan_31 : decode cX3_plan 31 = .ok (.dup, 1) := by decide +kernel
theorem dX3_plan_32 : decode cX3_plan 32 = .ok (.ldc 121, 2) := by decide +kernel
theorem dX3_plan_34 : decode cX3_plan 34 = .ok (.invokespecial 50, 3) := by decide +kernel
theorem dX3_plan_37 : decode cX3_plan 37 = .ok (.athrow, 1) := by decide +kernel
theorem dX3_plan_38 : decode cX3_plan 38 = .ok (.iload 4, 2) := by decide +kernel
theorem dX3_plan_40 : decode cX3_plan 40 = .ok (.aload_n 0, 1) := by decide +kernel
theorem dX3_plan_41 : decode cX3_plan 41 = .ok (.getfield 38, 3) := by decide +kernel
theorem dX3_plan_44 : decode cX3_plan 44 = .ok (.if_icmp .le 23, 3) := by decide +kernel
theorem dX3_plan_47 : decode cX3_plan 47 = .ok (.iload 4, 2) := by decide +kernel
theorem dX3_plan_49 : decode cX3_plan 49 = .ok (.sipush 999, 3) := by decide +kernel
theorem dX3_plan_52 : decode cX3_plan 52 = .ok (.if_icmp .gt 15, 3) := by decide +kernel
theorem dX3_plan_55 : decode cX3_plan 55 = .ok (.iload 5, 2) := by decide +kernel
theorem dX3_plan_57 : decode cX3_plan 57 = .ok (.iconst 1, 1) := by decide +kernel
theorem dX3_plan_58 : decode cX3_plan 58 = .ok (.if_icmp .lt 9, 3) := by decide +kernel
theorem dX3_plan_61 : decode cX3_plan 61 = .ok (.iload 5, 2) := by decide +kernel
theorem dX3_plan_63 : decode cX3_plan 63 = .ok (.iconst 4, 1) := by decide +kernel
theorem dX3_plan_64 : decode cX3_plan 64 = .ok (.if_icmp .le 13, 3) := by decide +kernel
theorem dX3_plan_67 : decode cX3_plan 67 = .ok (.new 53, 3) := by decide +kernel
theorem dX3_plan_70 : decode cX3_plan 70 = .ok (.dup, 1) := by decide +kernel
theorem dX3_plan_71 : decode cX3_plan 71 = .ok (.ldc 123, 2) := by decide +kernel
theorem dX3_plan_73 : decode cX3_plan 73 = .ok (.invokespecial 57, 3) := by decide +kernel
theorem dX3_plan_76 : decode cX3_plan 76 = .ok (.athrow, 1) := by decide +kernel
theorem dX3_plan_77 : decode cX3_plan 77 = .ok (.aload 6, 2) := by decide +kernel
theorem dX3_plan_79 : decode cX3_plan 79 = .ok (.invokevirtual 125, 3) := by decide +kernel
theorem dX3_plan_82 : decode cX3_plan 82 = .ok (.ifCond .eq 28, 3) := by decide +kernel
theorem dX3_plan_85 : decode cX3_plan 85 = .ok (.aload_n 0, 1) := by decide +kernel
theorem dX3_plan_86 : decode cX3_plan 86 = .ok (.aload 6, 2) := by decide +kernel
theorem dX3_plan_88 : decode cX3_plan 88 = .ok (.iload_n 3, 1) := by decide +kernel
theorem dX3_plan_89 : decode cX3_plan 89 = .ok (.invokevirtual 129, 3) := by decide +kernel
theorem dX3_plan_92 : decode cX3_plan 92 = .ok (.ifCond .eq 18, 3) := by decide +kernel
theorem dX3_plan_95 : decode cX3_plan 95 = .ok (.aload_n 0, 1) := by decide +kernel
theorem dX3_plan_96 : decode cX3_plan 96 = .ok (.getfield 35, 3) := by decide +kernel
theorem dX3_plan_99 : decode cX3_plan 99 = .ok (.aload_n 0, 1) := by decide +kernel
theorem dX3_plan_100 : decode cX3_plan 100 = .ok (.getfield 27, 3) := by decide +kernel
theorem dX3_plan_103 : decode cX3_plan 103 = .ok (.arraylength, 1) := by decide +kernel
theorem dX3_plan_104 : decode cX3_plan 104 = .ok (.invokestatic 66, 3) := by decide +kernel
theorem dX3_plan_107 : decode cX3_plan 107 = .ok (.ifCond .ne 13, 3) := by decide +kernel
theorem dX3_plan_110 : decode cX3_plan 110 = .ok (.new 77, 3) := by decide +kernel
theorem dX3_plan_113 : decode cX3_plan 113 = .ok (.dup, 1) := by decide +kernel
theorem dX3_plan_114 : decode cX3_plan 114 = .ok (.ldc 133, 2) := by decide +kernel
theorem dX3_plan_116 : decode cX3_plan 116 = .ok (.invokespecial 81, 3) := by decide +kernel
theorem dX3_plan_119 : decode cX3_plan 119 = .ok (.athrow, 1) := by decide +kernel
theorem dX3_plan_120 : decode cX3_plan 120 = .ok (.aload_n 0, 1) := by decide +kernel
theorem dX3_plan_121 : decode cX3_plan 121 = .ok (.aconst_null, 1) := by decide +kernel
theorem dX3_plan_122 : decode cX3_plan 122 = .ok (.aload 6, 2) := by decide +kernel
theorem dX3_plan_124 : decode cX3_plan 124 = .ok (.iload_n 2, 1) := by decide +kernel
theorem dX3_plan_125 : decode cX3_plan 125 = .ok (.iload_n 3, 1) := by decide +kernel
theorem dX3_plan_126 : decode cX3_plan 126 = .ok (.iload 4, 2) := by decide +kernel
theorem dX3_plan_128 : decode cX3_plan 128 = .ok (.iload 5, 2) := by decide +kernel
theorem dX3_plan_130 : decode cX3_plan 130 = .ok (.invokevirtual 135, 3) := by decide +kernel
theorem dX3_plan_133 : decode cX3_plan 133 = .ok (.ifCond .eq 13, 3) := by decide +kernel
theorem dX3_plan_136 : decode cX3_plan 136 = .ok (.new 77, 3) := by decide +kernel
theorem dX3_plan_139 : decode cX3_plan 139 = .ok (.dup, 1) := by decide +kernel
theorem dX3_plan_140 : decode cX3_plan 140 = .ok (.ldc 139, 2) := by decide +kernel
theorem dX3_plan_142 : decode cX3_plan 142 = .ok (.invokespecial 81, 3) := by decide +kernel
theorem dX3_plan_145 : decode cX3_plan 145 = .ok (.athrow, 1) := by decide +kernel
theorem dX3_plan_146 : decode cX3_plan 146 = .ok (.new 25, 3) := by decide +kernel
theorem dX3_plan_149 : decode cX3_plan 149 = .ok (.dup, 1) := by decide +kernel
theorem dX3_plan_150 : decode cX3_plan 150 = .ok (.aload_n 0, 1) := by decide +kernel
theorem dX3_plan_151 : decode cX3_plan 151 = .ok (.getfield 35, 3) := by decide +kernel
theorem dX3_plan_154 : decode cX3_plan 154 = .ok (.aload 6, 2) := by decide +kernel
theorem dX3_plan_156 : decode cX3_plan 156 = .ok (.iload 5, 2) := by decide +kernel
theorem dX3_plan_158 : decode cX3_plan 158 = .ok (.invokespecial 141, 3) := by decide +kernel
theorem dX3_plan_161 : decode cX3_plan 161 = .ok (.astore 7, 2) := by decide +kernel
theorem dX3_plan_163 : decode cX3_plan 163 = .ok (.aload_n 0, 1) := by decide +kernel
theorem dX3_plan_164 : decode cX3_plan 164 = .ok (.getfield 27, 3) := by decide +kernel
theorem dX3_plan_167 : decode cX3_plan 167 = .ok (.aload_n 0, 1) := by decide +kernel
theorem dX3_plan_168 : decode cX3_plan 168 = .ok (.getfield 35, 3) := by decide +kernel
theorem dX3_plan_171 : decode cX3_plan 171 = .ok (.aload 7, 2) := by decide +kernel
theorem dX3_plan_173 : decode cX3_plan 173 = .ok (.aastore, 1) := by decide +kernel
theorem dX3_plan_174 : decode cX3_plan 174 = .ok (.aload_n 0, 1) := by decide +kernel
theorem dX3_plan_175 : decode cX3_plan 175 = .ok (.dup, 1) := by decide +kernel
theorem dX3_plan_176 : decode cX3_plan 176 = .ok (.getfield 35, 3) := by decide +kernel
theorem dX3_plan_179 : decode cX3_plan 179 = .ok (.iconst 1, 1) := by decide +kernel
theorem dX3_plan_180 : decode cX3_plan 180 = .ok (.iadd, 1) := by decide +kernel
theorem dX3_plan_181 : decode cX3_plan 181 = .ok (.putfield 35, 3) := by decide +kernel
theorem dX3_plan_184 : decode cX3_plan 184 = .ok (.aload_n 0, 1) := by decide +kernel
theorem dX3_plan_185 : decode cX3_plan 185 = .ok (.aload 7, 2) := by decide +kernel
theorem dX3_plan_187 : decode cX3_plan 187 = .ok (.iload_n 2, 1) := by decide +kernel
theorem dX3_plan_188 : decode cX3_plan 188 = .ok (.iload_n 3, 1) := by decide +kernel
theorem dX3_plan_189 : decode cX3_plan 189 = .ok (.iload 4, 2) := by decide +kernel
theorem dX3_plan_191 : decode cX3_plan 191 = .ok (.invokevirtual 144, 3) := by decide +kernel
theorem dX3_plan_194 : decode cX3_plan 194 = .ok (.aload 7, 2) := by decide +kernel
theorem dX3_plan_196 : decode cX3_plan 196 = .ok (.getfield 148, 3) := by decide +kernel
theorem dX3_plan_199 : decode cX3_plan 199 = .ok (.ireturn, 1) := by decide +kernel
theorem dX3_move_0 : decode cX3_move 0 = .ok (.aload_n 0, 1) := by decide +kernel
theorem dX3_move_1 : decode cX3_move 1 = .ok (.iload_n 1, 1) := by decide +kernel
theorem dX3_move_2 : decode cX3_move 2 = .ok (.invokevirtual 149, 3) := by decide +kernel
theorem dX3_move_5 : decode cX3_move 5 = .ok (.astore 5, 2) := by decide +kernel
theorem dX3_move_7 : decode cX3_move 7 = .ok (.aload 5, 2) := by decide +kernel
theorem dX3_move_9 : decode cX3_move 9 = .ok (.ifnull 19, 3) := by decide +kernel
theorem dX3_move_12 : decode cX3_move 12 = .ok (.iload_n 2, 1) := by decide +kernel
theorem dX3_move_13 : decode cX3_move 13 = .ok (.iconst 4, 1) := by decide +kernel
theorem dX3_move_14 : decode cX3_move 14 = .ok (.invokestatic 66, 3) := by decide +kernel
theorem dX3_move_17 : decode cX3_move 17 = .ok (.ifCond .eq 11, 3) := by decide +kernel
theorem dX3_move_20 : decode cX3_move 20 = .ok (.iload_n 3, 1) := by decide +kernel
theorem dX3_move_21 : decode cX3_move 21 = .ok (.iconst 4, 1) := by decide +kernel
theorem dX3_move_22 : decode cX3_move 22 = .ok (.invokestatic 70, 3) := by decide +kernel
theorem dX3_move_25 : decode cX3_move 25 = .ok (.ifCond .ne 13, 3) := by decide +kernel
theorem dX3_move_28 : decode cX3_move 28 = .ok (.new 46, 3) := by decide +kernel
theorem dX3_move_31 : decode cX3_move 31 = .ok (.dup, 1) := by decide +kernel
theorem dX3_move_32 : decode cX3_move 32 = .ok (.ldc 153, 2) := by decide +kernel
theorem dX3_move_34 : decode cX3_move 34 = .ok (.invokespecial 50, 3) := by decide +kernel
theorem dX3_move_37 : decode cX3_move 37 = .ok (.athrow, 1) := by decide +kernel
theorem dX3_move_38 : decode cX3_move 38 = .ok (.iload 4, 2) := by decide +kernel
theorem dX3_move_40 : decode cX3_move 40 = .ok (.aload_n 0, 1) := by decide +kernel
theorem dX3_move_41 : decode cX3_move 41 = .ok (.getfield 38, 3) := by decide +kernel
theorem dX3_move_44 : decode cX3_move 44 = .ok (.if_icmp .le 11, 3) := by decide +kernel
theorem dX3_move_47 : decode cX3_move 47 = .ok (.iload 4, 2) := by decide +kernel
theorem dX3_move_49 : decode cX3_move 49 = .ok (.sipush 999, 3) := by decide +kernel
theorem dX3_move_52 : decode cX3_move 52 = .ok (.if_icmp .le 13, 3) := by decide +kernel
theorem dX3_move_55 : decode cX3_move 55 = .ok (.new 53, 3) := by decide +kernel
theorem dX3_move_58 : decode cX3_move 58 = .ok (.dup, 1) := by decide +kernel
theorem dX3_move_59 : decode cX3_move 59 = .ok (.ldc 155, 2) := by decide +kernel
theorem dX3_move_61 : decode cX3_move 61 = .ok (.invokespecial 57, 3) := by decide +kernel
theorem dX3_move_64 : decode cX3_move 64 = .ok (.athrow, 1) := by decide +kernel
theorem dX3_move_65 : decode cX3_move 65 = .ok (.aload_n 0, 1) := by decide +kernel
theorem dX3_move_66 : decode cX3_move 66 = .ok (.aload 5, 2) := by decide +kernel
theorem dX3_move_68 : decode cX3_move 68 = .ok (.invokevirtual 157, 3) := by decide +kernel
theorem dX3_move_71 : decode cX3_move 71 = .ok (.ifCond .eq 16, 3) := by decide +kernel
theorem dX3_move_74 : decode cX3_move 74 = .ok (.aload_n 0, 1) := by decide +kernel
theorem dX3_move_75 : decode cX3_move 75 = .ok (.aload 5, 2) := by decide +kernel
theorem dX3_move_77 : decode cX3_move 77 = .ok (.getfield 161, 3) := by decide +kernel
theorem dX3_move_80 : decode cX3_move 80 = .ok (.iload_n 3, 1) := by decide +kernel
theorem dX3_move_81 : decode cX3_move 81 = .ok (.invokevirtual 129, 3) := by decide +kernel
theorem dX3_move_84 : decode cX3_move 84 = .ok (.ifCond .ne 13, 3) := by decide +kernel
theorem dX3_move_87 : decode cX3_move 87 = .ok (.new 77, 3) := by decide +kernel
theorem dX3_move_90 : decode cX3_move 90 = .ok (.dup, 1) := by decide +kernel
theorem dX3_move_91 : decode cX3_move 91 = .ok (.ldc 165, 2) := by decide +kernel
theorem dX3_move_93 : decode cX3_move 93 = .ok (.invokespecial 81, 3) := by decide +kernel
theorem dX3_move_96 : decode cX3_move 96 = .ok (.athrow, 1) := by decide +kernel
theorem dX3_move_97 : decode cX3_move 97 = .ok (.aload_n 0, 1) := by decide +kernel
theorem dX3_move_98 : decode cX3_move 98 = .ok (.aload 5, 2) := by decide +kernel
theorem dX3_move_100 : decode cX3_move 100 = .ok (.aload 5, 2) := by decide +kernel
theorem dX3_move_102 : decode cX3_move 102 = .ok (.getfield 161, 3) := by decide +kernel
theorem dX3_move_105 : decode cX3_move 105 = .ok (.iload_n 2, 1) := by decide +kernel
theorem dX3_move_106 : decode cX3_move 106 = .ok (.iload_n 3, 1) := by decide +kernel
theorem dX3_move_107 : decode cX3_move 107 = .ok (.iload 4, 2) := by decide +kernel
theorem dX3_move_109 : decode cX3_move 109 = .ok (.aload 5, 2) := by decide +kernel
theorem dX3_move_111 : decode cX3_move 111 = .ok (.getfield 167, 3) := by decide +kernel
theorem dX3_move_114 : decode cX3_move 114 = .ok (.invokevirtual 135, 3) := by decide +kernel
theorem dX3_move_117 : decode cX3_move 117 = .ok (.ifCond .eq 13, 3) := by decide +kernel
theorem dX3_move_120 : decode cX3_move 120 = .ok (.new 77, 3) := by decide +kernel
theorem dX3_move_123 : decode cX3_move 123 = .ok (.dup, 1) := by decide +kernel
theorem dX3_move_124 : decode cX3_move 124 = .ok (.ldc 139, 2) := by decide +kernel
theorem dX3_move_126 : decode cX3_move 126 = .ok (.invokespecial 81, 3) := by decide +kernel
theorem dX3_move_129 : decode cX3_move 129 = .ok (.athrow, 1) := by decide +kernel
theorem dX3_move_130 : decode cX3_move 130 = .ok (.aload_n 0, 1) := by decide +kernel
theorem dX3_move_131 : decode cX3_move 131 = .ok (.aload 5, 2) := by decide +kernel
theorem dX3_move_133 : decode cX3_move 133 = .ok (.invokevirtual 170, 3) := by decide +kernel
theorem dX3_move_136 : decode cX3_move 136 = .ok (.aload_n 0, 1) := by decide +kernel
theorem dX3_move_137 : decode cX3_move 137 = .ok (.aload 5, 2) := by decide +kernel
theorem dX3_move_139 : decode cX3_move 139 = .ok (.iload_n 2, 1) := by decide +kernel
theorem dX3_move_140 : decode cX3_move 140 = .ok (.iload_n 3, 1) := by decide +kernel
theorem dX3_move_141 : decode cX3_move 141 = .ok (.iload 4, 2) := by decide +kernel
theorem dX3_move_143 : decode cX3_move 143 = .ok (.invokevirtual 144, 3) := by decide +kernel
theorem dX3_move_146 : decode cX3_move 146 = .ok (.aload 5, 2) := by decide +kernel
theorem dX3_move_148 : decode cX3_move 148 = .ok (.getfield 161, 3) := by decide +kernel
theorem dX3_move_151 : decode cX3_move 151 = .ok (.getfield 85, 3) := by decide +kernel
theorem dX3_move_154 : decode cX3_move 154 = .ok (.ireturn, 1) := by decide +kernel
theorem dX3_drop_0 : decode cX3_drop 0 = .ok (.aload_n 0, 1) := by decide +kernel
theorem dX3_drop_1 : decode cX3_drop 1 = .ok (.iload_n 1, 1) := by decide +kernel
theorem dX3_drop_2 : decode cX3_drop 2 = .ok (.invokevirtual 149, 3) := by decide +kernel
theorem dX3_drop_5 : decode cX3_drop 5 = .ok (.astore_n 2, 1) := by decide +kernel
theorem dX3_drop_6 : decode cX3_drop 6 = .ok (.aload_n 2, 1) := by decide +kernel
theorem dX3_drop_7 : decode cX3_drop 7 = .ok (.ifnonnull 13, 3) := by decide +kernel
theorem dX3_drop_10 : decode cX3_drop 10 = .ok (.new 46, 3) := by decide +kernel
theorem dX3_drop_13 : decode cX3_drop 13 = .ok (.dup, 1) := by decide +kernel
theorem dX3_drop_14 : decode cX3_drop 14 = .ok (.ldc 174, 2) := by decide +kernel
theorem dX3_drop_16 : decode cX3_drop 16 = .ok (.invokespecial 50, 3) := by decide +kernel
theorem dX3_drop_19 : decode cX3_drop 19 = .ok (.athrow, 1) := by decide +kernel
theorem dX3_drop_20 : decode cX3_drop 20 = .ok (.aload_n 0, 1) := by decide +kernel
theorem dX3_drop_21 : decode cX3_drop 21 = .ok (.aload_n 2, 1) := by decide +kernel
theorem dX3_drop_22 : decode cX3_drop 22 = .ok (.invokevirtual 157, 3) := by decide +kernel
theorem dX3_drop_25 : decode cX3_drop 25 = .ok (.ifCond .ne 13, 3) := by decide +kernel
theorem dX3_drop_28 : decode cX3_drop 28 = .ok (.new 77, 3) := by decide +kernel
theorem dX3_drop_31 : decode cX3_drop 31 = .ok (.dup, 1) := by decide +kernel
theorem dX3_drop_32 : decode cX3_drop 32 = .ok (.ldc 176, 2) := by decide +kernel
theorem dX3_drop_34 : decode cX3_drop 34 = .ok (.invokespecial 81, 3) := by decide +kernel
theorem dX3_drop_37 : decode cX3_drop 37 = .ok (.athrow, 1) := by decide +kernel
theorem dX3_drop_38 : decode cX3_drop 38 = .ok (.aload_n 0, 1) := by decide +kernel
theorem dX3_drop_39 : decode cX3_drop 39 = .ok (.aload_n 2, 1) := by decide +kernel
theorem dX3_drop_40 : decode cX3_drop 40 = .ok (.invokevirtual 170, 3) := by decide +kernel
theorem dX3_drop_43 : decode cX3_drop 43 = .ok (.aload_n 2, 1) := by decide +kernel
theorem dX3_drop_44 : decode cX3_drop 44 = .ok (.iconst 3, 1) := by decide +kernel
theorem dX3_drop_45 : decode cX3_drop 45 = .ok (.putfield 178, 3) := by decide +kernel
theorem dX3_drop_48 : decode cX3_drop 48 = .ok (.aload_n 2, 1) := by decide +kernel
theorem dX3_drop_49 : decode cX3_drop 49 = .ok (.getfield 161, 3) := by decide +kernel
theorem dX3_drop_52 : decode cX3_drop 52 = .ok (.getfield 85, 3) := by decide +kernel
theorem dX3_drop_55 : decode cX3_drop 55 = .ok (.ireturn, 1) := by decide +kernel
theorem dX3_notice_0 : decode cX3_notice 0 = .ok (.aload_n 0, 1) := by decide +kernel
theorem dX3_notice_1 : decode cX3_notice 1 = .ok (.iload_n 1, 1) := by decide +kernel
theorem dX3_notice_2 : decode cX3_notice 2 = .ok (.invokevirtual 149, 3) := by decide +kernel
theorem dX3_notice_5 : decode cX3_notice 5 = .ok (.astore_n 3, 1) := by decide +kernel
theorem dX3_notice_6 : decode cX3_notice 6 = .ok (.aload_n 3, 1) := by decide +kernel
theorem dX3_notice_7 : decode cX3_notice 7 = .ok (.ifnull 12, 3) := by decide +kernel
theorem dX3_notice_10 : decode cX3_notice 10 = .ok (.iload_n 2, 1) := by decide +kernel
theorem dX3_notice_11 : decode cX3_notice 11 = .ok (.bipush 6, 2) := by decide +kernel
theorem dX3_notice_13 : decode cX3_notice 13 = .ok (.invokestatic 66, 3) := by decide +kernel
theorem dX3_notice_16 : decode cX3_notice 16 = .ok (.ifCond .ne 13, 3) := by decide +kernel
theorem dX3_notice_19 : decode cX3_notice 19 = .ok (.new 46, 3) := by decide +kernel
theorem dX3_notice_22 : decode cX3_notice 22 = .ok (.dup, 1) := by decide +kernel
theorem dX3_notice_23 : decode cX3_notice 23 = .ok (.ldc 179, 2) := by decide +kernel
theorem dX3_notice_25 : decode cX3_notice 25 = .ok (.invokespecial 50, 3) := by decide +kernel
theorem dX3_notice_28 : decode cX3_notice 28 = .ok (.athrow, 1) := by decide +kernel
theorem dX3_notice_29 : decode cX3_notice 29 = .ok (.aload_n 3, 1) := by decide +kernel
theorem dX3_notice_30 : decode cX3_notice 30 = .ok (.getfield 161, 3) := by decide +kernel
theorem dX3_notice_33 : decode cX3_notice 33 = .ok (.iload_n 2, 1) := by decide +kernel
theorem dX3_notice_34 : decode cX3_notice 34 = .ok (.invokevirtual 181, 3) := by decide +kernel
theorem dX3_notice_37 : decode cX3_notice 37 = .ok (.ifCond .ne 13, 3) := by decide +kernel
theorem dX3_notice_40 : decode cX3_notice 40 = .ok (.new 53, 3) := by decide +kernel
theorem dX3_notice_43 : decode cX3_notice 43 = .ok (.dup, 1) := by decide +kernel
theorem dX3_notice_44 : decode cX3_notice 44 = .ok (.ldc 185, 2) := by decide +kernel
theorem dX3_notice_46 : decode cX3_notice 46 = .ok (.invokespecial 57, 3) := by decide +kernel
theorem dX3_notice_49 : decode cX3_notice 49 = .ok (.athrow, 1) := by decide +kernel
theorem dX3_notice_50 : decode cX3_notice 50 = .ok (.aload_n 3, 1) := by decide +kernel
theorem dX3_notice_51 : decode cX3_notice 51 = .ok (.getfield 178, 3) := by decide +kernel
theorem dX3_notice_54 : decode cX3_notice 54 = .ok (.ifCond .eq 13, 3) := by decide +kernel
theorem dX3_notice_57 : decode cX3_notice 57 = .ok (.new 77, 3) := by decide +kernel
theorem dX3_notice_60 : decode cX3_notice 60 = .ok (.dup, 1) := by decide +kernel
theorem dX3_notice_61 : decode cX3_notice 61 = .ok (.ldc 187, 2) := by decide +kernel
theorem dX3_notice_63 : decode cX3_notice 63 = .ok (.invokespecial 81, 3) := by decide +kernel
theorem dX3_notice_66 : decode cX3_notice 66 = .ok (.athrow, 1) := by decide +kernel
theorem dX3_notice_67 : decode cX3_notice 67 = .ok (.aload_n 3, 1) := by decide +kernel
theorem dX3_notice_68 : decode cX3_notice 68 = .ok (.getfield 189, 3) := by decide +kernel
theorem dX3_notice_71 : decode cX3_notice 71 = .ok (.aload_n 0, 1) := by decide +kernel
theorem dX3_notice_72 : decode cX3_notice 72 = .ok (.getfield 38, 3) := by decide +kernel
theorem dX3_notice_75 : decode cX3_notice 75 = .ok (.isub, 1) := by decide +kernel
theorem dX3_notice_76 : decode cX3_notice 76 = .ok (.iconst 4, 1) := by decide +kernel
theorem dX3_notice_77 : decode cX3_notice 77 = .ok (.if_icmp .lt 7, 3) := by decide +kernel
theorem dX3_notice_80 : decode cX3_notice 80 = .ok (.iconst 1, 1) := by decide +kernel
theorem dX3_notice_81 : decode cX3_notice 81 = .ok (.goto 4, 3) := by decide +kernel
theorem dX3_notice_84 : decode cX3_notice 84 = .ok (.iconst 0, 1) := by decide +kernel
theorem dX3_notice_85 : decode cX3_notice 85 = .ok (.istore 4, 2) := by decide +kernel
theorem dX3_notice_87 : decode cX3_notice 87 = .ok (.iload 4, 2) := by decide +kernel
theorem dX3_notice_89 : decode cX3_notice 89 = .ok (.ifCond .eq 8, 3) := by decide +kernel
theorem dX3_notice_92 : decode cX3_notice 92 = .ok (.aload_n 3, 1) := by decide +kernel
theorem dX3_notice_93 : decode cX3_notice 93 = .ok (.iload_n 2, 1) := by decide +kernel
theorem dX3_notice_94 : decode cX3_notice 94 = .ok (.invokevirtual 192, 3) := by decide +kernel
theorem dX3_notice_97 : decode cX3_notice 97 = .ok (.iload 4, 2) := by decide +kernel
theorem dX3_notice_99 : decode cX3_notice 99 = .ok (.ireturn, 1) := by decide +kernel
theorem dX3_pass_0 : decode cX3_pass 0 = .ok (.iload_n 1, 1) := by decide +kernel
theorem dX3_pass_1 : decode cX3_pass 1 = .ok (.iconst 1, 1) := by decide +kernel
theorem dX3_pass_2 : decode cX3_pass 2 = .ok (.if_icmp .lt 9, 3) := by decide +kernel
theorem dX3_pass_5 : decode cX3_pass 5 = .ok (.iload_n 1, 1) := by decide +kernel
theorem dX3_pass_6 : decode cX3_pass 6 = .ok (.bipush 50, 2) := by decide +kernel
theorem dX3_pass_8 : decode cX3_pass 8 = .ok (.if_icmp .le 13, 3) := by decide +kernel
theorem dX3_pass_11 : decode cX3_pass 11 = .ok (.new 53, 3) := by decide +kernel
theorem dX3_pass_14 : decode cX3_pass 14 = .ok (.dup, 1) := by decide +kernel
theorem dX3_pass_15 : decode cX3_pass 15 = .ok (.ldc 196, 2) := by decide +kernel
theorem dX3_pass_17 : decode cX3_pass 17 = .ok (.invokespecial 57, 3) := by decide +kernel
theorem dX3_pass_20 : decode cX3_pass 20 = .ok (.athrow, 1) := by decide +kernel
theorem dX3_pass_21 : decode cX3_pass 21 = .ok (.aload_n 0, 1) := by decide +kernel
theorem dX3_pass_22 : decode cX3_pass 22 = .ok (.getfield 38, 3) := by decide +kernel
theorem dX3_pass_25 : decode cX3_pass 25 = .ok (.iload_n 1, 1) := by decide +kernel
theorem dX3_pass_26 : decode cX3_pass 26 = .ok (.iadd, 1) := by decide +kernel
theorem dX3_pass_27 : decode cX3_pass 27 = .ok (.sipush 1000, 3) := by decide +kernel
theorem dX3_pass_30 : decode cX3_pass 30 = .ok (.if_icmp .le 13, 3) := by decide +kernel
theorem dX3_pass_33 : decode cX3_pass 33 = .ok (.new 77, 3) := by decide +kernel
theorem dX3_pass_36 : decode cX3_pass 36 = .ok (.dup, 1) := by decide +kernel
theorem dX3_pass_37 : decode cX3_pass 37 = .ok (.ldc 198, 2) := by decide +kernel
theorem dX3_pass_39 : decode cX3_pass 39 = .ok (.invokespecial 81, 3) := by decide +kernel
theorem dX3_pass_42 : decode cX3_pass 42 = .ok (.athrow, 1) := by decide +kernel
theorem dX3_pass_43 : decode cX3_pass 43 = .ok (.iconst 0, 1) := by decide +kernel
theorem dX3_pass_44 : decode cX3_pass 44 = .ok (.istore_n 2, 1) := by decide +kernel
theorem dX3_pass_45 : decode cX3_pass 45 = .ok (.iconst 0, 1) := by decide +kernel
theorem dX3_pass_46 : decode cX3_pass 46 = .ok (.istore_n 3, 1) := by decide +kernel
theorem dX3_pass_47 : decode cX3_pass 47 = .ok (.iload_n 3, 1) := by decide +kernel
theorem dX3_pass_48 : decode cX3_pass 48 = .ok (.iload_n 1, 1) := by decide +kernel
theorem dX3_pass_49 : decode cX3_pass 49 = .ok (.if_icmp .ge 30, 3) := by decide +kernel
theorem dX3_pass_52 : decode cX3_pass 52 = .ok (.aload_n 0, 1) := by decide +kernel
theorem dX3_pass_53 : decode cX3_pass 53 = .ok (.dup, 1) := by decide +kernel
theorem dX3_pass_54 : decode cX3_pass 54 = .ok (.getfield 38, 3) := by decide +kernel
theorem dX3_pass_57 : decode cX3_pass 57 = .ok (.iconst 1, 1) := by decide +kernel
theorem dX3_pass_58 : decode cX3_pass 58 = .ok (.iadd, 1) := by decide +kernel
theorem dX3_pass_59 : decode cX3_pass 59 = .ok (.putfield 38, 3) := by decide +kernel
theorem dX3_pass_62 : decode cX3_pass 62 = .ok (.iload_n 2, 1) := by decide +kernel
theorem dX3_pass_63 : decode cX3_pass 63 = .ok (.aload_n 0, 1) := by decide +kernel
theorem dX3_pass_64 : decode cX3_pass 64 = .ok (.invokevirtual 200, 3) := by decide +kernel
theorem dX3_pass_67 : decode cX3_pass 67 = .ok (.iadd, 1) := by decide +kernel
theorem dX3_pass_68 : decode cX3_pass 68 = .ok (.istore_n 2, 1) := by decide +kernel
theorem dX3_pass_69 : decode cX3_pass 69 = .ok (.aload_n 0, 1) := by decide +kernel
theorem dX3_pass_70 : decode cX3_pass 70 = .ok (.invokevirtual 204, 3) := by decide +kernel
theorem dX3_pass_73 : decode cX3_pass 73 = .ok (.iinc 3 1, 3) := by decide +kernel
theorem dX3_pass_76 : decode cX3_pass 76 = .ok (.goto (-29), 3) := by decide +kernel
theorem dX3_pass_79 : decode cX3_pass 79 = .ok (.iload_n 2, 1) := by decide +kernel
theorem dX3_pass_80 : decode cX3_pass 80 = .ok (.ireturn, 1) := by decide +kernel
theorem dX3_clash_0 : decode cX3_clash 0 = .ok (.aload_n 0, 1) := by decide +kernel
theorem dX3_clash_1 : decode cX3_clash 1 = .ok (.iload_n 1, 1) := by decide +kernel
theorem dX3_clash_2 : decode cX3_clash 2 = .ok (.invokevirtual 95, 3) := by decide +kernel
theorem dX3_clash_5 : decode cX3_clash 5 = .ok (.astore 6, 2) := by decide +kernel
theorem dX3_clash_7 : decode cX3_clash 7 = .ok (.aload 6, 2) := by decide +kernel
theorem dX3_clash_9 : decode cX3_clash 9 = .ok (.ifnull 19, 3) := by decide +kernel
theorem dX3_clash_12 : decode cX3_clash 12 = .ok (.iload_n 2, 1) := by decide +kernel
theorem dX3_clash_13 : decode cX3_clash 13 = .ok (.iconst 4, 1) := by decide +kernel
theorem dX3_clash_14 : decode cX3_clash 14 = .ok (.invokestatic 66, 3) := by decide +kernel
theorem dX3_clash_17 : decode cX3_clash 17 = .ok (.ifCond .eq 11, 3) := by decide +kernel
theorem dX3_clash_20 : decode cX3_clash 20 = .ok (.iload_n 3, 1) := by decide +kernel
theorem dX3_clash_21 : decode cX3_clash 21 = .ok (.iconst 4, 1) := by decide +kernel
theorem dX3_clash_22 : decode cX3_clash 22 = .ok (.invokestatic 70, 3) := by decide +kernel
theorem dX3_clash_25 : decode cX3_clash 25 = .ok (.ifCond .ne 13, 3) := by decide +kernel
theorem dX3_clash_28 : decode cX3_clash 28 = .ok (.new 46, 3) := by decide +kernel
theorem dX3_clash_31 : decode cX3_clash 31 = .ok (.dup, 1) := by decide +kernel
theorem dX3_clash_32 : decode cX3_clash 32 = .ok (.ldc 121, 2) := by decide +kernel
theorem dX3_clash_34 : decode cX3_clash 34 = .ok (.invokespecial 50, 3) := by decide +kernel
theorem dX3_clash_37 : decode cX3_clash 37 = .ok (.athrow, 1) := by decide +kernel
theorem dX3_clash_38 : decode cX3_clash 38 = .ok (.iload 4, 2) := by decide +kernel
theorem dX3_clash_40 : decode cX3_clash 40 = .ok (.ifCond .lt 23, 3) := by decide +kernel
theorem dX3_clash_43 : decode cX3_clash 43 = .ok (.iload 4, 2) := by decide +kernel
theorem dX3_clash_45 : decode cX3_clash 45 = .ok (.sipush 999, 3) := by decide +kernel
theorem dX3_clash_48 : decode cX3_clash 48 = .ok (.if_icmp .gt 15, 3) := by decide +kernel
theorem dX3_clash_51 : decode cX3_clash 51 = .ok (.iload 5, 2) := by decide +kernel
theorem dX3_clash_53 : decode cX3_clash 53 = .ok (.iconst 1, 1) := by decide +kernel
theorem dX3_clash_54 : decode cX3_clash 54 = .ok (.if_icmp .lt 9, 3) := by decide +kernel
theorem dX3_clash_57 : decode cX3_clash 57 = .ok (.iload 5, 2) := by decide +kernel
theorem dX3_clash_59 : decode cX3_clash 59 = .ok (.iconst 4, 1) := by decide +kernel
theorem dX3_clash_60 : decode cX3_clash 60 = .ok (.if_icmp .le 13, 3) := by decide +kernel
theorem dX3_clash_63 : decode cX3_clash 63 = .ok (.new 53, 3) := by decide +kernel
theorem dX3_clash_66 : decode cX3_clash 66 = .ok (.dup, 1) := by decide +kernel
theorem dX3_clash_67 : decode cX3_clash 67 = .ok (.ldc 123, 2) := by decide +kernel
theorem dX3_clash_69 : decode cX3_clash 69 = .ok (.invokespecial 57, 3) := by decide +kernel
theorem dX3_clash_72 : decode cX3_clash 72 = .ok (.athrow, 1) := by decide +kernel
theorem dX3_clash_73 : decode cX3_clash 73 = .ok (.aload_n 0, 1) := by decide +kernel
theorem dX3_clash_74 : decode cX3_clash 74 = .ok (.aconst_null, 1) := by decide +kernel
theorem dX3_clash_75 : decode cX3_clash 75 = .ok (.aload 6, 2) := by decide +kernel
theorem dX3_clash_77 : decode cX3_clash 77 = .ok (.iload_n 2, 1) := by decide +kernel
theorem dX3_clash_78 : decode cX3_clash 78 = .ok (.iload_n 3, 1) := by decide +kernel
theorem dX3_clash_79 : decode cX3_clash 79 = .ok (.iload 4, 2) := by decide +kernel
theorem dX3_clash_81 : decode cX3_clash 81 = .ok (.iload 5, 2) := by decide +kernel
theorem dX3_clash_83 : decode cX3_clash 83 = .ok (.invokevirtual 135, 3) := by decide +kernel
theorem dX3_clash_86 : decode cX3_clash 86 = .ok (.ireturn, 1) := by decide +kernel
theorem dX3_at_0 : decode cX3_at 0 = .ok (.iload_n 1, 1) := by decide +kernel
theorem dX3_at_1 : decode cX3_at 1 = .ok (.iconst 4, 1) := by decide +kernel
theorem dX3_at_2 : decode cX3_at 2 = .ok (.invokestatic 66, 3) := by decide +kernel
theorem dX3_at_5 : decode cX3_at 5 = .ok (.ifCond .ne 13, 3) := by decide +kernel
theorem dX3_at_8 : decode cX3_at 8 = .ok (.new 53, 3) := by decide +kernel
theorem dX3_at_11 : decode cX3_at 11 = .ok (.dup, 1) := by decide +kernel
theorem dX3_at_12 : decode cX3_at 12 = .ok (.ldc 207, 2) := by decide +kernel
theorem dX3_at_14 : decode cX3_at 14 = .ok (.invokespecial 57, 3) := by decide +kernel
theorem dX3_at_17 : decode cX3_at 17 = .ok (.athrow, 1) := by decide +kernel
theorem dX3_at_18 : decode cX3_at 18 = .ok (.iload_n 2, 1) := by decide +kernel
theorem dX3_at_19 : decode cX3_at 19 = .ok (.iload_n 1, 1) := by decide +kernel
theorem dX3_at_20 : decode cX3_at 20 = .ok (.invokestatic 209, 3) := by decide +kernel
theorem dX3_at_23 : decode cX3_at 23 = .ok (.invokestatic 66, 3) := by decide +kernel
theorem dX3_at_26 : decode cX3_at 26 = .ok (.ifCond .eq 10, 3) := by decide +kernel
theorem dX3_at_29 : decode cX3_at 29 = .ok (.iload_n 3, 1) := by decide +kernel
theorem dX3_at_30 : decode cX3_at 30 = .ok (.invokestatic 213, 3) := by decide +kernel
theorem dX3_at_33 : decode cX3_at 33 = .ok (.ifCond .ne 13, 3) := by decide +kernel
theorem dX3_at_36 : decode cX3_at 36 = .ok (.new 46, 3) := by decide +kernel
theorem dX3_at_39 : decode cX3_at 39 = .ok (.dup, 1) := by decide +kernel
theorem dX3_at_40 : decode cX3_at 40 = .ok (.ldc 216, 2) := by decide +kernel
theorem dX3_at_42 : decode cX3_at 42 = .ok (.invokespecial 50, 3) := by decide +kernel
theorem dX3_at_45 : decode cX3_at 45 = .ok (.athrow, 1) := by decide +kernel
theorem dX3_at_46 : decode cX3_at 46 = .ok (.iconst 0, 1) := by decide +kernel
theorem dX3_at_47 : decode cX3_at 47 = .ok (.istore 4, 2) := by decide +kernel
theorem dX3_at_49 : decode cX3_at 49 = .ok (.iload 4, 2) := by decide +kernel
theorem dX3_at_51 : decode cX3_at 51 = .ok (.aload_n 0, 1) := by decide +kernel
theorem dX3_at_52 : decode cX3_at 52 = .ok (.getfield 35, 3) := by decide +kernel
theorem dX3_at_55 : decode cX3_at 55 = .ok (.if_icmp .ge 48, 3) := by decide +kernel
theorem dX3_at_58 : decode cX3_at 58 = .ok (.aload_n 0, 1) := by decide +kernel
theorem dX3_at_59 : decode cX3_at 59 = .ok (.iload 4, 2) := by decide +kernel
theorem dX3_at_61 : decode cX3_at 61 = .ok (.invokevirtual 149, 3) := by decide +kernel
theorem dX3_at_64 : decode cX3_at 64 = .ok (.astore 5, 2) := by decide +kernel
theorem dX3_at_66 : decode cX3_at 66 = .ok (.aload 5, 2) := by decide +kernel
theorem dX3_at_68 : decode cX3_at 68 = .ok (.ifnull 29, 3) := by decide +kernel
theorem dX3_at_71 : decode cX3_at 71 = .ok (.aload 5, 2) := by decide +kernel
theorem dX3_at_73 : decode cX3_at 73 = .ok (.iload_n 3, 1) := by decide +kernel
theorem dX3_at_74 : decode cX3_at 74 = .ok (.iconst 1, 1) := by decide +kernel
theorem dX3_at_75 : decode cX3_at 75 = .ok (.invokevirtual 218, 3) := by decide +kernel
theorem dX3_at_78 : decode cX3_at 78 = .ok (.ifCond .eq 19, 3) := by decide +kernel
theorem dX3_at_81 : decode cX3_at 81 = .ok (.aload 5, 2) := by decide +kernel
theorem dX3_at_83 : decode cX3_at 83 = .ok (.iload_n 1, 1) := by decide +kernel
theorem dX3_at_84 : decode cX3_at 84 = .ok (.iload_n 2, 1) := by decide +kernel
theorem dX3_at_85 : decode cX3_at 85 = .ok (.invokevirtual 221, 3) := by decide +kernel
theorem dX3_at_88 : decode cX3_at 88 = .ok (.ifCond .eq 9, 3) := by decide +kernel
theorem dX3_at_91 : decode cX3_at 91 = .ok (.aload 5, 2) := by decide +kernel
theorem dX3_at_93 : decode cX3_at 93 = .ok (.getfield 148, 3) := by decide +kernel
theorem dX3_at_96 : decode cX3_at 96 = .ok (.ireturn, 1) := by decide +kernel
theorem dX3_at_97 : decode cX3_at 97 = .ok (.iinc 4 1, 3) := by decide +kernel
theorem dX3_at_100 : decode cX3_at 100 = .ok (.goto (-51), 3) := by decide +kernel
theorem dX3_at_103 : decode cX3_at 103 = .ok (.iconst (-1), 1) := by decide +kernel
theorem dX3_at_104 : decode cX3_at 104 = .ok (.ireturn, 1) := by decide +kernel
theorem dX3_about_0 : decode cX3_about 0 = .ok (.aload_n 0, 1) := by decide +kernel
theorem dX3_about_1 : decode cX3_about 1 = .ok (.iload_n 1, 1) := by decide +kernel
theorem dX3_about_2 : decode cX3_about 2 = .ok (.invokevirtual 95, 3) := by decide +kernel
theorem dX3_about_5 : decode cX3_about 5 = .ok (.astore_n 3, 1) := by decide +kernel
theorem dX3_about_6 : decode cX3_about 6 = .ok (.aload_n 3, 1) := by decide +kernel
theorem dX3_about_7 : decode cX3_about 7 = .ok (.ifnonnull 13, 3) := by decide +kernel
theorem dX3_about_10 : decode cX3_about 10 = .ok (.new 46, 3) := by decide +kernel
theorem dX3_about_13 : decode cX3_about 13 = .ok (.dup, 1) := by decide +kernel
theorem dX3_about_14 : decode cX3_about 14 = .ok (.ldc 99, 2) := by decide +kernel
theorem dX3_about_16 : decode cX3_about 16 = .ok (.invokespecial 50, 3) := by decide +kernel
theorem dX3_about_19 : decode cX3_about 19 = .ok (.athrow, 1) := by decide +kernel
theorem dX3_about_20 : decode cX3_about 20 = .ok (.iload_n 2, 1) := by decide +kernel
theorem dX3_about_21 : decode cX3_about 21 = .ok (.bipush 8, 2) := by decide +kernel
theorem dX3_about_23 : decode cX3_about 23 = .ok (.invokestatic 66, 3) := by decide +kernel
theorem dX3_about_26 : decode cX3_about 26 = .ok (.ifCond .ne 13, 3) := by decide +kernel
theorem dX3_about_29 : decode cX3_about 29 = .ok (.new 53, 3) := by decide +kernel
theorem dX3_about_32 : decode cX3_about 32 = .ok (.dup, 1) := by decide +kernel
theorem dX3_about_33 : decode cX3_about 33 = .ok (.ldc 207, 2) := by decide +kernel
theorem dX3_about_35 : decode cX3_about 35 = .ok (.invokespecial 57, 3) := by decide +kernel
theorem dX3_about_38 : decode cX3_about 38 = .ok (.athrow, 1) := by decide +kernel
theorem dX3_about_39 : decode cX3_about 39 = .ok (.iload_n 2, 1) := by decide +kernel
theorem dX3_about_40 : decode cX3_about 40 = .ok (.tableswitch 79 0 6 #[44, 49, 54, 59, 64, 69, 74], 44) := by decide +kernel
theorem dX3_about_84 : decode cX3_about 84 = .ok (.aload_n 3, 1) := by decide +kernel
theorem dX3_about_85 : decode cX3_about 85 = .ok (.getfield 103, 3) := by decide +kernel
theorem dX3_about_88 : decode cX3_about 88 = .ok (.ireturn, 1) := by decide +kernel
theorem dX3_about_89 : decode cX3_about 89 = .ok (.aload_n 3, 1) := by decide +kernel
theorem dX3_about_90 : decode cX3_about 90 = .ok (.getfield 224, 3) := by decide +kernel
theorem dX3_about_93 : decode cX3_about 93 = .ok (.ireturn, 1) := by decide +kernel
theorem dX3_about_94 : decode cX3_about 94 = .ok (.aload_n 3, 1) := by decide +kernel
theorem dX3_about_95 : decode cX3_about 95 = .ok (.getfield 227, 3) := by decide +kernel
theorem dX3_about_98 : decode cX3_about 98 = .ok (.ireturn, 1) := by decide +kernel
theorem dX3_about_99 : decode cX3_about 99 = .ok (.aload_n 3, 1) := by decide +kernel
theorem dX3_about_100 : decode cX3_about 100 = .ok (.getfield 230, 3) := by decide +kernel
theorem dX3_about_103 : decode cX3_about 103 = .ok (.ireturn, 1) := by decide +kernel
theorem dX3_about_104 : decode cX3_about 104 = .ok (.aload_n 3, 1) := by decide +kernel
theorem dX3_about_105 : decode cX3_about 105 = .ok (.getfield 233, 3) := by decide +kernel
theorem dX3_about_108 : decode cX3_about 108 = .ok (.ireturn, 1) := by decide +kernel
theorem dX3_about_109 : decode cX3_about 109 = .ok (.aload_n 3, 1) := by decide +kernel
theorem dX3_about_110 : decode cX3_about 110 = .ok (.getfield 85, 3) := by decide +kernel
theorem dX3_about_113 : decode cX3_about 113 = .ok (.ireturn, 1) := by decide +kernel
theorem dX3_about_114 : decode cX3_about 114 = .ok (.aload_n 3, 1) := by decide +kernel
theorem dX3_about_115 : decode cX3_about 115 = .ok (.getfield 116, 3) := by decide +kernel
theorem dX3_about_118 : decode cX3_about 118 = .ok (.ireturn, 1) := by decide +kernel
theorem dX3_about_119 : decode cX3_about 119 = .ok (.aload_n 0, 1) := by decide +kernel
theorem dX3_about_120 : decode cX3_about 120 = .ok (.aload_n 3, 1) := by decide +kernel
theorem dX3_about_121 : decode cX3_about 121 = .ok (.invokevirtual 236, 3) := by decide +kernel
theorem dX3_about_124 : decode cX3_about 124 = .ok (.ireturn, 1) := by decide +kernel
theorem dX3_hearing_0 : decode cX3_hearing 0 = .ok (.aload_n 0, 1) := by decide +kernel
theorem dX3_hearing_1 : decode cX3_hearing 1 = .ok (.iload_n 1, 1) := by decide +kernel
theorem dX3_hearing_2 : decode cX3_hearing 2 = .ok (.invokevirtual 149, 3) := by decide +kernel
theorem dX3_hearing_5 : decode cX3_hearing 5 = .ok (.astore_n 3, 1) := by decide +kernel
theorem dX3_hearing_6 : decode cX3_hearing 6 = .ok (.aload_n 3, 1) := by decide +kernel
theorem dX3_hearing_7 : decode cX3_hearing 7 = .ok (.ifnonnull 13, 3) := by decide +kernel
theorem dX3_hearing_10 : decode cX3_hearing 10 = .ok (.new 46, 3) := by decide +kernel
theorem dX3_hearing_13 : decode cX3_hearing 13 = .ok (.dup, 1) := by decide +kernel
theorem dX3_hearing_14 : decode cX3_hearing 14 = .ok (.ldc 174, 2) := by decide +kernel
theorem dX3_hearing_16 : decode cX3_hearing 16 = .ok (.invokespecial 50, 3) := by decide +kernel
theorem dX3_hearing_19 : decode cX3_hearing 19 = .ok (.athrow, 1) := by decide +kernel
theorem dX3_hearing_20 : decode cX3_hearing 20 = .ok (.iload_n 2, 1) := by decide +kernel
theorem dX3_hearing_21 : decode cX3_hearing 21 = .ok (.bipush 8, 2) := by decide +kernel
theorem dX3_hearing_23 : decode cX3_hearing 23 = .ok (.invokestatic 66, 3) := by decide +kernel
theorem dX3_hearing_26 : decode cX3_hearing 26 = .ok (.ifCond .ne 13, 3) := by decide +kernel
theorem dX3_hearing_29 : decode cX3_hearing 29 = .ok (.new 53, 3) := by decide +kernel
theorem dX3_hearing_32 : decode cX3_hearing 32 = .ok (.dup, 1) := by decide +kernel
theorem dX3_hearing_33 : decode cX3_hearing 33 = .ok (.ldc 207, 2) := by decide +kernel
theorem dX3_hearing_35 : decode cX3_hearing 35 = .ok (.invokespecial 57, 3) := by decide +kernel
theorem dX3_hearing_38 : decode cX3_hearing 38 = .ok (.athrow, 1) := by decide +kernel
theorem dX3_hearing_39 : decode cX3_hearing 39 = .ok (.iload_n 2, 1) := by decide +kernel
theorem dX3_hearing_40 : decode cX3_hearing 40 = .ok (.tableswitch 82 0 6 #[44, 49, 57, 62, 67, 72, 77], 44) := by decide +kernel
theorem dX3_hearing_84 : decode cX3_hearing 84 = .ok (.aload_n 3, 1) := by decide +kernel
theorem dX3_hearing_85 : decode cX3_hearing 85 = .ok (.getfield 178, 3) := by decide +kernel
theorem dX3_hearing_88 : decode cX3_hearing 88 = .ok (.ireturn, 1) := by decide +kernel
theorem dX3_hearing_89 : decode cX3_hearing 89 = .ok (.aload_n 3, 1) := by decide +kernel
theorem dX3_hearing_90 : decode cX3_hearing 90 = .ok (.getfield 161, 3) := by decide +kernel
theorem dX3_hearing_93 : decode cX3_hearing 93 = .ok (.getfield 92, 3) := by decide +kernel
theorem dX3_hearing_96 : decode cX3_hearing 96 = .ok (.ireturn, 1) := by decide +kernel
theorem dX3_hearing_97 : decode cX3_hearing 97 = .ok (.aload_n 3, 1) := by decide +kernel
theorem dX3_hearing_98 : decode cX3_hearing 98 = .ok (.getfield 239, 3) := by decide +kernel
theorem dX3_hearing_101 : decode cX3_hearing 101 = .ok (.ireturn, 1) := by decide +kernel
theorem dX3_hearing_102 : decode cX3_hearing 102 = .ok (.aload_n 3, 1) := by decide +kernel
theorem dX3_hearing_103 : decode cX3_hearing 103 = .ok (.getfield 242, 3) := by decide +kernel
theorem dX3_hearing_106 : decode cX3_hearing 106 = .ok (.ireturn, 1) := by decide +kernel
theorem dX3_hearing_107 : decode cX3_hearing 107 = .ok (.aload_n 3, 1) := by decide +kernel
theorem dX3_hearing_108 : decode cX3_hearing 108 = .ok (.getfield 189, 3) := by decide +kernel
theorem dX3_hearing_111 : decode cX3_hearing 111 = .ok (.ireturn, 1) := by decide +kernel
theorem dX3_hearing_112 : decode cX3_hearing 112 = .ok (.aload_n 3, 1) := by decide +kernel
theorem dX3_hearing_113 : decode cX3_hearing 113 = .ok (.getfield 167, 3) := by decide +kernel
theorem dX3_hearing_116 : decode cX3_hearing 116 = .ok (.ireturn, 1) := by decide +kernel
theorem dX3_hearing_117 : decode cX3_hearing 117 = .ok (.aload_n 3, 1) := by decide +kernel
theorem dX3_hearing_118 : decode cX3_hearing 118 = .ok (.invokevirtual 245, 3) := by decide +kernel
theorem dX3_hearing_121 : decode cX3_hearing 121 = .ok (.ireturn, 1) := by decide +kernel
theorem dX3_hearing_122 : decode cX3_hearing 122 = .ok (.aload_n 3, 1) := by decide +kernel
theorem dX3_hearing_123 : decode cX3_hearing 123 = .ok (.invokevirtual 248, 3) := by decide +kernel
theorem dX3_hearing_126 : decode cX3_hearing 126 = .ok (.ireturn, 1) := by decide +kernel
theorem dX3_paidBy_0 : decode cX3_paidBy 0 = .ok (.aload_n 0, 1) := by decide +kernel
theorem dX3_paidBy_1 : decode cX3_paidBy 1 = .ok (.iload_n 1, 1) := by decide +kernel
theorem dX3_paidBy_2 : decode cX3_paidBy 2 = .ok (.invokevirtual 42, 3) := by decide +kernel
theorem dX3_paidBy_5 : decode cX3_paidBy 5 = .ok (.astore_n 3, 1) := by decide +kernel
theorem dX3_paidBy_6 : decode cX3_paidBy 6 = .ok (.aload_n 3, 1) := by decide +kernel
theorem dX3_paidBy_7 : decode cX3_paidBy 7 = .ok (.ifnull 10, 3) := by decide +kernel
theorem dX3_paidBy_10 : decode cX3_paidBy 10 = .ok (.iload_n 2, 1) := by decide +kernel
theorem dX3_paidBy_11 : decode cX3_paidBy 11 = .ok (.invokestatic 213, 3) := by decide +kernel
theorem dX3_paidBy_14 : decode cX3_paidBy 14 = .ok (.ifCond .ne 13, 3) := by decide +kernel
theorem dX3_paidBy_17 : decode cX3_paidBy 17 = .ok (.new 46, 3) := by decide +kernel
theorem dX3_paidBy_20 : decode cX3_paidBy 20 = .ok (.dup, 1) := by decide +kernel
theorem dX3_paidBy_21 : decode cX3_paidBy 21 = .ok (.ldc 251, 2) := by decide +kernel
theorem dX3_paidBy_23 : decode cX3_paidBy 23 = .ok (.invokespecial 50, 3) := by decide +kernel
theorem dX3_paidBy_26 : decode cX3_paidBy 26 = .ok (.athrow, 1) := by decide +kernel
theorem dX3_paidBy_27 : decode cX3_paidBy 27 = .ok (.aload_n 3, 1) := by decide +kernel
theorem dX3_paidBy_28 : decode cX3_paidBy 28 = .ok (.iload_n 2, 1) := by decide +kernel
theorem dX3_paidBy_29 : decode cX3_paidBy 29 = .ok (.aload_n 0, 1) := by decide +kernel
theorem dX3_paidBy_30 : decode cX3_paidBy 30 = .ok (.getfield 38, 3) := by decide +kernel
theorem dX3_paidBy_33 : decode cX3_paidBy 33 = .ok (.invokevirtual 253, 3) := by decide +kernel
theorem dX3_paidBy_36 : decode cX3_paidBy 36 = .ok (.astore 4, 2) := by decide +kernel
theorem dX3_paidBy_38 : decode cX3_paidBy 38 = .ok (.aload 4, 2) := by decide +kernel
theorem dX3_paidBy_40 : decode cX3_paidBy 40 = .ok (.ifnonnull 7, 3) := by decide +kernel
theorem dX3_paidBy_43 : decode cX3_paidBy 43 = .ok (.iconst (-1), 1) := by decide +kernel
theorem dX3_paidBy_44 : decode cX3_paidBy 44 = .ok (.goto 8, 3) := by decide +kernel
theorem dX3_paidBy_47 : decode cX3_paidBy 47 = .ok (.aload 4, 2) := by decide +kernel
theorem dX3_paidBy_49 : decode cX3_paidBy 49 = .ok (.getfield 92, 3) := by decide +kernel
theorem dX3_paidBy_52 : decode cX3_paidBy 52 = .ok (.ireturn, 1) := by decide +kernel
theorem dX3_balances_0 : decode cX3_balances 0 = .ok (.iconst 0, 1) := by decide +kernel
theorem dX3_balances_1 : decode cX3_balances 1 = .ok (.istore_n 1, 1) := by decide +kernel
theorem dX3_balances_2 : decode cX3_balances 2 = .ok (.iconst 0, 1) := by decide +kernel
theorem dX3_balances_3 : decode cX3_balances 3 = .ok (.istore_n 2, 1) := by decide +kernel
theorem dX3_balances_4 : decode cX3_balances 4 = .ok (.iload_n 2, 1) := by decide +kernel
theorem dX3_balances_5 : decode cX3_balances 5 = .ok (.aload_n 0, 1) := by decide +kernel
theorem dX3_balances_6 : decode cX3_balances 6 = .ok (.getfield 31, 3) := by decide +kernel
theorem dX3_balances_9 : decode cX3_balances 9 = .ok (.if_icmp .ge 26, 3) := by decide +kernel
theorem dX3_balances_12 : decode cX3_balances 12 = .ok (.aload_n 0, 1) := by decide +kernel
theorem dX3_balances_13 : decode cX3_balances 13 = .ok (.iload_n 2, 1) := by decide +kernel
theorem dX3_balances_14 : decode cX3_balances 14 = .ok (.invokevirtual 95, 3) := by decide +kernel
theorem dX3_balances_17 : decode cX3_balances 17 = .ok (.astore_n 3, 1) := by decide +kernel
theorem dX3_balances_18 : decode cX3_balances 18 = .ok (.aload_n 3, 1) := by decide +kernel
theorem dX3_balances_19 : decode cX3_balances 19 = .ok (.ifnull 10, 3) := by decide +kernel
theorem dX3_balances_22 : decode cX3_balances 22 = .ok (.iload_n 1, 1) := by decide +kernel
theorem dX3_balances_23 : decode cX3_balances 23 = .ok (.aload_n 3, 1) := by decide +kernel
theorem dX3_balances_24 : decode cX3_balances 24 = .ok (.getfield 85, 3) := by decide +kernel
theorem dX3_balances_27 : decode cX3_balances 27 = .ok (.iadd, 1) := by decide +kernel
theorem dX3_balances_28 : decode cX3_balances 28 = .ok (.istore_n 1, 1) := by decide +kernel
theorem dX3_balances_29 : decode cX3_balances 29 = .ok (.iinc 2 1, 3) := by decide +kernel
theorem dX3_balances_32 : decode cX3_balances 32 = .ok (.goto (-28), 3) := by decide +kernel
theorem dX3_balances_35 : decode cX3_balances 35 = .ok (.iload_n 1, 1) := by decide +kernel
theorem dX3_balances_36 : decode cX3_balances 36 = .ok (.ireturn, 1) := by decide +kernel
theorem dX3_hour_0 : decode cX3_hour 0 = .ok (.aload_n 0, 1) := by decide +kernel
theorem dX3_hour_1 : decode cX3_hour 1 = .ok (.getfield 38, 3) := by decide +kernel
theorem dX3_hour_4 : decode cX3_hour 4 = .ok (.ireturn, 1) := by decide +kernel
theorem dX3_isIn_0 : decode cX3_isIn 0 = .ok (.iload_n 0, 1) := by decide +kernel
theorem dX3_isIn_1 : decode cX3_isIn 1 = .ok (.ifCond .lt 12, 3) := by decide +kernel
theorem dX3_isIn_4 : decode cX3_isIn 4 = .ok (.iload_n 0, 1) := by decide +kernel
theorem dX3_isIn_5 : decode cX3_isIn 5 = .ok (.iload_n 1, 1) := by decide +kernel
theorem dX3_isIn_6 : decode cX3_isIn 6 = .ok (.if_icmp .ge 7, 3) := by decide +kernel
theorem dX3_isIn_9 : decode cX3_isIn 9 = .ok (.iconst 1, 1) := by decide +kernel
theorem dX3_isIn_10 : decode cX3_isIn 10 = .ok (.goto 4, 3) := by decide +kernel
theorem dX3_isIn_13 : decode cX3_isIn 13 = .ok (.iconst 0, 1) := by decide +kernel
theorem dX3_isIn_14 : decode cX3_isIn 14 = .ok (.ireturn, 1) := by decide +kernel
theorem dX3_isInOrNone_0 : decode cX3_isInOrNone 0 = .ok (.iload_n 0, 1) := by decide +kernel
theorem dX3_isInOrNone_1 : decode cX3_isInOrNone 1 = .ok (.iconst (-1), 1) := by decide +kernel
theorem dX3_isInOrNone_2 : decode cX3_isInOrNone 2 = .ok (.if_icmp .eq 11, 3) := by decide +kernel
theorem dX3_isInOrNone_5 : decode cX3_isInOrNone 5 = .ok (.iload_n 0, 1) := by decide +kernel
theorem dX3_isInOrNone_6 : decode cX3_isInOrNone 6 = .ok (.iload_n 1, 1) := by decide +kernel
theorem dX3_isInOrNone_7 : decode cX3_isInOrNone 7 = .ok (.invokestatic 66, 3) := by decide +kernel
theorem dX3_isInOrNone_10 : decode cX3_isInOrNone 10 = .ok (.ifCond .eq 7, 3) := by decide +kernel
theorem dX3_isInOrNone_13 : decode cX3_isInOrNone 13 = .ok (.iconst 1, 1) := by decide +kernel
theorem dX3_isInOrNone_14 : decode cX3_isInOrNone 14 = .ok (.goto 4, 3) := by decide +kernel
theorem dX3_isInOrNone_17 : decode cX3_isInOrNone 17 = .ok (.iconst 0, 1) := by decide +kernel
theorem dX3_isInOrNone_18 : decode cX3_isInOrNone 18 = .ok (.ireturn, 1) := by decide +kernel
theorem dX3_isCalendarHour_0 : decode cX3_isCalendarHour 0 = .ok (.iload_n 0, 1) := by decide +kernel
theorem dX3_isCalendarHour_1 : decode cX3_isCalendarHour 1 = .ok (.ifCond .lt 14, 3) := by decide +kernel
theorem dX3_isCalendarHour_4 : decode cX3_isCalendarHour 4 = .ok (.iload_n 0, 1) := by decide +kernel
theorem dX3_isCalendarHour_5 : decode cX3_isCalendarHour 5 = .ok (.sipush 1003, 3) := by decide +kernel
theorem dX3_isCalendarHour_8 : decode cX3_isCalendarHour 8 = .ok (.if_icmp .gt 7, 3) := by decide +kernel
theorem dX3_isCalendarHour_11 : decode cX3_isCalendarHour 11 = .ok (.iconst 1, 1) := by decide +kernel
theorem dX3_isCalendarHour_12 : decode cX3_isCalendarHour 12 = .ok (.goto 4, 3) := by decide +kernel
theorem dX3_isCalendarHour_15 : decode cX3_isCalendarHour 15 = .ok (.iconst 0, 1) := by decide +kernel
theorem dX3_isCalendarHour_16 : decode cX3_isCalendarHour 16 = .ok (.ireturn, 1) := by decide +kernel
theorem dX3_howMany_0 : decode cX3_howMany 0 = .ok (.iload_n 0, 1) := by decide +kernel
theorem dX3_howMany_1 : decode cX3_howMany 1 = .ok (.tableswitch 34 0 2 #[27, 29, 31], 27) := by decide +kernel
theorem dX3_howMany_28 : decode cX3_howMany 28 = .ok (.iconst 4, 1) := by decide +kernel
theorem dX3_howMany_29 : decode cX3_howMany 29 = .ok (.ireturn, 1) := by decide +kernel
theorem dX3_howMany_30 : decode cX3_howMany 30 = .ok (.iconst 4, 1) := by decide +kernel
theorem dX3_howMany_31 : decode cX3_howMany 31 = .ok (.ireturn, 1) := by decide +kernel
theorem dX3_howMany_32 : decode cX3_howMany 32 = .ok (.bipush 6, 2) := by decide +kernel
theorem dX3_howMany_34 : decode cX3_howMany 34 = .ok (.ireturn, 1) := by decide +kernel
theorem dX3_howMany_35 : decode cX3_howMany 35 = .ok (.iconst 4, 1) := by decide +kernel
theorem dX3_howMany_36 : decode cX3_howMany 36 = .ok (.ireturn, 1) := by decide +kernel
theorem dX3_interpreterAt_0 : decode cX3_interpreterAt 0 = .ok (.iload_n 1, 1) := by decide +kernel
theorem dX3_interpreterAt_1 : decode cX3_interpreterAt 1 = .ok (.ifCond .lt 21, 3) := by decide +kernel
theorem dX3_interpreterAt_4 : decode cX3_interpreterAt 4 = .ok (.iload_n 1, 1) := by decide +kernel
theorem dX3_interpreterAt_5 : decode cX3_interpreterAt 5 = .ok (.aload_n 0, 1) := by decide +kernel
theorem dX3_interpreterAt_6 : decode cX3_interpreterAt 6 = .ok (.getfield 11, 3) := by decide +kernel
theorem dX3_interpreterAt_9 : decode cX3_interpreterAt 9 = .ok (.arraylength, 1) := by decide +kernel
theorem dX3_interpreterAt_10 : decode cX3_interpreterAt 10 = .ok (.if_icmp .ge 12, 3) := by decide +kernel
theorem dX3_interpreterAt_13 : decode cX3_interpreterAt 13 = .ok (.aload_n 0, 1) := by decide +kernel
theorem dX3_interpreterAt_14 : decode cX3_interpreterAt 14 = .ok (.getfield 11, 3) := by decide +kernel
theorem dX3_interpreterAt_17 : decode cX3_interpreterAt 17 = .ok (.iload_n 1, 1) := by decide +kernel
theorem dX3_interpreterAt_18 : decode cX3_interpreterAt 18 = .ok (.aaload, 1) := by decide +kernel
theorem dX3_interpreterAt_19 : decode cX3_interpreterAt 19 = .ok (.goto 4, 3) := by decide +kernel
theorem dX3_interpreterAt_22 : decode cX3_interpreterAt 22 = .ok (.aconst_null, 1) := by decide +kernel
theorem dX3_interpreterAt_23 : decode cX3_interpreterAt 23 = .ok (.areturn, 1) := by decide +kernel
theorem dX3_matterAt_0 : decode cX3_matterAt 0 = .ok (.iload_n 1, 1) := by decide +kernel
theorem dX3_matterAt_1 : decode cX3_matterAt 1 = .ok (.ifCond .lt 29, 3) := by decide +kernel
theorem dX3_matterAt_4 : decode cX3_matterAt 4 = .ok (.iload_n 1, 1) := by decide +kernel
theorem dX3_matterAt_5 : decode cX3_matterAt 5 = .ok (.aload_n 0, 1) := by decide +kernel
theorem dX3_matterAt_6 : decode cX3_matterAt 6 = .ok (.getfield 31, 3) := by decide +kernel
theorem dX3_matterAt_9 : decode cX3_matterAt 9 = .ok (.if_icmp .ge 21, 3) := by decide +kernel
theorem dX3_matterAt_12 : decode cX3_matterAt 12 = .ok (.iload_n 1, 1) := by decide +kernel
theorem dX3_matterAt_13 : decode cX3_matterAt 13 = .ok (.aload_n 0, 1) := by decide +kernel
theorem dX3_matterAt_14 : decode cX3_matterAt 14 = .ok (.getfield 21, 3) := by decide +kernel
theorem dX3_matterAt_17 : decode cX3_matterAt 17 = .ok (.arraylength, 1) := by decide +kernel
theorem dX3_matterAt_18 : decode cX3_matterAt 18 = .ok (.if_icmp .ge 12, 3) := by decide +kernel
theorem dX3_matterAt_21 : decode cX3_matterAt 21 = .ok (.aload_n 0, 1) := by decide +kernel
theorem dX3_matterAt_22 : decode cX3_matterAt 22 = .ok (.getfield 21, 3) := by decide +kernel
theorem dX3_matterAt_25 : decode cX3_matterAt 25 = .ok (.iload_n 1, 1) := by decide +kernel
theorem dX3_matterAt_26 : decode cX3_matterAt 26 = .ok (.aaload, 1) := by decide +kernel
theorem dX3_matterAt_27 : decode cX3_matterAt 27 = .ok (.goto 4, 3) := by decide +kernel
theorem dX3_matterAt_30 : decode cX3_matterAt 30 = .ok (.aconst_null, 1) := by decide +kernel
theorem dX3_matterAt_31 : decode cX3_matterAt 31 = .ok (.areturn, 1) := by decide +kernel
theorem dX3_hearingAt_0 : decode cX3_hearingAt 0 = .ok (.iload_n 1, 1) := by decide +kernel
theorem dX3_hearingAt_1 : decode cX3_hearingAt 1 = .ok (.ifCond .lt 29, 3) := by decide +kernel
theorem dX3_hearingAt_4 : decode cX3_hearingAt 4 = .ok (.iload_n 1, 1) := by decide +kernel
theorem dX3_hearingAt_5 : decode cX3_hearingAt 5 = .ok (.aload_n 0, 1) := by decide +kernel
theorem dX3_hearingAt_6 : decode cX3_hearingAt 6 = .ok (.getfield 35, 3) := by decide +kernel
theorem dX3_hearingAt_9 : decode cX3_hearingAt 9 = .ok (.if_icmp .ge 21, 3) := by decide +kernel
theorem dX3_hearingAt_12 : decode cX3_hearingAt 12 = .ok (.iload_n 1, 1) := by decide +kernel
theorem dX3_hearingAt_13 : decode cX3_hearingAt 13 = .ok (.aload_n 0, 1) := by decide +kernel
theorem dX3_hearingAt_14 : decode cX3_hearingAt 14 = .ok (.getfield 27, 3) := by decide +kernel
theorem dX3_hearingAt_17 : decode cX3_hearingAt 17 = .ok (.arraylength, 1) := by decide +kernel
theorem dX3_hearingAt_18 : decode cX3_hearingAt 18 = .ok (.if_icmp .ge 12, 3) := by decide +kernel
theorem dX3_hearingAt_21 : decode cX3_hearingAt 21 = .ok (.aload_n 0, 1) := by decide +kernel
theorem dX3_hearingAt_22 : decode cX3_hearingAt 22 = .ok (.getfield 27, 3) := by decide +kernel
theorem dX3_hearingAt_25 : decode cX3_hearingAt 25 = .ok (.iload_n 1, 1) := by decide +kernel
theorem dX3_hearingAt_26 : decode cX3_hearingAt 26 = .ok (.aaload, 1) := by decide +kernel
theorem dX3_hearingAt_27 : decode cX3_hearingAt 27 = .ok (.goto 4, 3) := by decide +kernel
theorem dX3_hearingAt_30 : decode cX3_hearingAt 30 = .ok (.aconst_null, 1) := by decide +kernel
theorem dX3_hearingAt_31 : decode cX3_hearingAt 31 = .ok (.areturn, 1) := by decide +kernel
theorem dX3_isToBegin_0 : decode cX3_isToBegin 0 = .ok (.aload_n 1, 1) := by decide +kernel
theorem dX3_isToBegin_1 : decode cX3_isToBegin 1 = .ok (.getfield 178, 3) := by decide +kernel
theorem dX3_isToBegin_4 : decode cX3_isToBegin 4 = .ok (.ifCond .ne 18, 3) := by decide +kernel
theorem dX3_isToBegin_7 : decode cX3_isToBegin 7 = .ok (.aload_n 1, 1) := by decide +kernel
theorem dX3_isToBegin_8 : decode cX3_isToBegin 8 = .ok (.getfield 189, 3) := by decide +kernel
theorem dX3_isToBegin_11 : decode cX3_isToBegin 11 = .ok (.aload_n 0, 1) := by decide +kernel
theorem dX3_isToBegin_12 : decode cX3_isToBegin 12 = .ok (.getfield 38, 3) := by decide +kernel
theorem dX3_isToBegin_15 : decode cX3_isToBegin 15 = .ok (.if_icmp .le 7, 3) := by decide +kernel
theorem dX3_isToBegin_18 : decode cX3_isToBegin 18 = .ok (.iconst 1, 1) := by decide +kernel
theorem dX3_isToBegin_19 : decode cX3_isToBegin 19 = .ok (.goto 4, 3) := by decide +kernel
theorem dX3_isToBegin_22 : decode cX3_isToBegin 22 = .ok (.iconst 0, 1) := by decide +kernel
theorem dX3_isToBegin_23 : decode cX3_isToBegin 23 = .ok (.ireturn, 1) := by decide +kernel
theorem dX3_isAsNeeded_0 : decode cX3_isAsNeeded 0 = .ok (.aload_n 0, 1) := by decide +kernel
theorem dX3_isAsNeeded_1 : decode cX3_isAsNeeded 1 = .ok (.iload_n 2, 1) := by decide +kernel
theorem dX3_isAsNeeded_2 : decode cX3_isAsNeeded 2 = .ok (.invokevirtual 42, 3) := by decide +kernel
theorem dX3_isAsNeeded_5 : decode cX3_isAsNeeded 5 = .ok (.astore_n 3, 1) := by decide +kernel
theorem dX3_isAsNeeded_6 : decode cX3_isAsNeeded 6 = .ok (.aload_n 1, 1) := by decide +kernel
theorem dX3_isAsNeeded_7 : decode cX3_isAsNeeded 7 = .ok (.getfield 233, 3) := by decide +kernel
theorem dX3_isAsNeeded_10 : decode cX3_isAsNeeded 10 = .ok (.iconst (-1), 1) := by decide +kernel
theorem dX3_isAsNeeded_11 : decode cX3_isAsNeeded 11 = .ok (.if_icmp .eq 7, 3) := by decide +kernel
theorem dX3_isAsNeeded_14 : decode cX3_isAsNeeded 14 = .ok (.aload_n 3, 1) := by decide +kernel
theorem dX3_isAsNeeded_15 : decode cX3_isAsNeeded 15 = .ok (.ifnonnull 21, 3) := by decide +kernel
theorem dX3_isAsNeeded_18 : decode cX3_isAsNeeded 18 = .ok (.aload_n 1, 1) := by decide +kernel
theorem dX3_isAsNeeded_19 : decode cX3_isAsNeeded 19 = .ok (.getfield 233, 3) := by decide +kernel
theorem dX3_isAsNeeded_22 : decode cX3_isAsNeeded 22 = .ok (.iconst (-1), 1) := by decide +kernel
theorem dX3_isAsNeeded_23 : decode cX3_isAsNeeded 23 = .ok (.if_icmp .ne 11, 3) := by decide +kernel
theorem dX3_isAsNeeded_26 : decode cX3_isAsNeeded 26 = .ok (.aload_n 3, 1) := by decide +kernel
theorem dX3_isAsNeeded_27 : decode cX3_isAsNeeded 27 = .ok (.ifnonnull 7, 3) := by decide +kernel
theorem dX3_isAsNeeded_30 : decode cX3_isAsNeeded 30 = .ok (.iconst 1, 1) := by decide +kernel
theorem dX3_isAsNeeded_31 : decode cX3_isAsNeeded 31 = .ok (.goto 4, 3) := by decide +kernel
theorem dX3_isAsNeeded_34 : decode cX3_isAsNeeded 34 = .ok (.iconst 0, 1) := by decide +kernel
theorem dX3_isAsNeeded_35 : decode cX3_isAsNeeded 35 = .ok (.ireturn, 1) := by decide +kernel
theorem dX3_isAsNeeded_36 : decode cX3_isAsNeeded 36 = .ok (.aload_n 3, 1) := by decide +kernel
theorem dX3_isAsNeeded_37 : decode cX3_isAsNeeded 37 = .ok (.aload_n 1, 1) := by decide +kernel
theorem dX3_isAsNeeded_38 : decode cX3_isAsNeeded 38 = .ok (.getfield 233, 3) := by decide +kernel
theorem dX3_isAsNeeded_41 : decode cX3_isAsNeeded 41 = .ok (.invokevirtual 257, 3) := by decide +kernel
theorem dX3_isAsNeeded_44 : decode cX3_isAsNeeded 44 = .ok (.ireturn, 1) := by decide +kernel
theorem dX3_clashReason_0 : decode cX3_clashReason 0 = .ok (.iconst 0, 1) := by decide +kernel
theorem dX3_clashReason_1 : decode cX3_clashReason 1 = .ok (.istore 7, 2) := by decide +kernel
theorem dX3_clashReason_3 : decode cX3_clashReason 3 = .ok (.iconst 0, 1) := by decide +kernel
theorem dX3_clashReason_4 : decode cX3_clashReason 4 = .ok (.istore 8, 2) := by decide +kernel
theorem dX3_clashReason_6 : decode cX3_clashReason 6 = .ok (.iload 8, 2) := by decide +kernel
theorem dX3_clashReason_8 : decode cX3_clashReason 8 = .ok (.aload_n 0, 1) := by decide +kernel
theorem dX3_clashReason_9 : decode cX3_clashReason 9 = .ok (.getfield 35, 3) := by decide +kernel
theorem dX3_clashReason_12 : decode cX3_clashReason 12 = .ok (.if_icmp .ge 72, 3) := by decide +kernel
theorem dX3_clashReason_15 : decode cX3_clashReason 15 = .ok (.aload_n 0, 1) := by decide +kernel
theorem dX3_clashReason_16 : decode cX3_clashReason 16 = .ok (.iload 8, 2) := by decide +kernel
theorem dX3_clashReason_18 : decode cX3_clashReason 18 = .ok (.invokevirtual 149, 3) := by decide +kernel
theorem dX3_clashReason_21 : decode cX3_clashReason 21 = .ok (.astore 9, 2) := by decide +kernel
theorem dX3_clashReason_23 : decode cX3_clashReason 23 = .ok (.aload 9, 2) := by decide +kernel
theorem dX3_clashReason_25 : decode cX3_clashReason 25 = .ok (.ifnull 53, 3) := by decide +kernel
theorem dX3_clashReason_28 : decode cX3_clashReason 28 = .ok (.aload 9, 2) := by decide +kernel
theorem dX3_clashReason_30 : decode cX3_clashReason 30 = .ok (.aload_n 1, 1) := by decide +kernel
theorem dX3_clashReason_31 : decode cX3_clashReason 31 = .ok (.if_acmp .eq 47, 3) := by decide +kernel
theorem dX3_clashReason_34 : decode cX3_clashReason 34 = .ok (.aload 9, 2) := by decide +kernel
theorem dX3_clashReason_36 : decode cX3_clashReason 36 = .ok (.iload 5, 2) := by decide +kernel
theorem dX3_clashReason_38 : decode cX3_clashReason 38 = .ok (.iload 6, 2) := by decide +kernel
theorem dX3_clashReason_40 : decode cX3_clashReason 40 = .ok (.invokevirtual 218, 3) := by decide +kernel
theorem dX3_clashReason_43 : decode cX3_clashReason 43 = .ok (.ifCond .eq 35, 3) := by decide +kernel
theorem dX3_clashReason_46 : decode cX3_clashReason 46 = .ok (.aload 9, 2) := by decide +kernel
theorem dX3_clashReason_48 : decode cX3_clashReason 48 = .ok (.aload_n 2, 1) := by decide +kernel
theorem dX3_clashReason_49 : decode cX3_clashReason 49 = .ok (.iload_n 3, 1) := by decide +kernel
theorem dX3_clashReason_50 : decode cX3_clashReason 50 = .ok (.iload 4, 2) := by decide +kernel
theorem dX3_clashReason_52 : decode cX3_clashReason 52 = .ok (.invokevirtual 260, 3) := by decide +kernel
theorem dX3_clashReason_55 : decode cX3_clashReason 55 = .ok (.istore 10, 2) := by decide +kernel
theorem dX3_clashReason_57 : decode cX3_clashReason 57 = .ok (.iload 10, 2) := by decide +kernel
theorem dX3_clashReason_59 : decode cX3_clashReason 59 = .ok (.ifCond .eq 19, 3) := by decide +kernel
theorem dX3_clashReason_62 : decode cX3_clashReason 62 = .ok (.iload 7, 2) := by decide +kernel
theorem dX3_clashReason_64 : decode cX3_clashReason 64 = .ok (.ifCond .eq 10, 3) := by decide +kernel
theorem dX3_clashReason_67 : decode cX3_clashReason 67 = .ok (.iload 10, 2) := by decide +kernel
theorem dX3_clashReason_69 : decode cX3_clashReason 69 = .ok (.iload 7, 2) := by decide +kernel
theorem dX3_clashReason_71 : decode cX3_clashReason 71 = .ok (.if_icmp .ge 7, 3) := by decide +kernel
theorem dX3_clashReason_74 : decode cX3_clashReason 74 = .ok (.iload 10, 2) := by decide +kernel
theorem dX3_clashReason_76 : decode cX3_clashReason 76 = .ok (.istore 7, 2) := by decide +kernel
theorem dX3_clashReason_78 : decode cX3_clashReason 78 = .ok (.iinc 8 1, 3) := by decide +kernel
theorem dX3_clashReason_81 : decode cX3_clashReason 81 = .ok (.goto (-75), 3) := by decide +kernel
theorem dX3_clashReason_84 : decode cX3_clashReason 84 = .ok (.iload 7, 2) := by decide +kernel
theorem dX3_clashReason_86 : decode cX3_clashReason 86 = .ok (.ireturn, 1) := by decide +kernel
theorem dX3_put_0 : decode cX3_put 0 = .ok (.aload_n 1, 1) := by decide +kernel
theorem dX3_put_1 : decode cX3_put 1 = .ok (.iload_n 2, 1) := by decide +kernel
theorem dX3_put_2 : decode cX3_put 2 = .ok (.iload_n 3, 1) := by decide +kernel
theorem dX3_put_3 : decode cX3_put 3 = .ok (.iload 4, 2) := by decide +kernel
theorem dX3_put_5 : decode cX3_put 5 = .ok (.invokevirtual 264, 3) := by decide +kernel
theorem dX3_put_8 : decode cX3_put 8 = .ok (.aload_n 0, 1) := by decide +kernel
theorem dX3_put_9 : decode cX3_put 9 = .ok (.iload_n 3, 1) := by decide +kernel
theorem dX3_put_10 : decode cX3_put 10 = .ok (.invokevirtual 42, 3) := by decide +kernel
theorem dX3_put_13 : decode cX3_put 13 = .ok (.astore 5, 2) := by decide +kernel
theorem dX3_put_15 : decode cX3_put 15 = .ok (.iconst 0, 1) := by decide +kernel
theorem dX3_put_16 : decode cX3_put 16 = .ok (.istore 6, 2) := by decide +kernel
theorem dX3_put_18 : decode cX3_put 18 = .ok (.iload 6, 2) := by decide +kernel
theorem dX3_put_20 : decode cX3_put 20 = .ok (.aload_n 1, 1) := by decide +kernel
theorem dX3_put_21 : decode cX3_put 21 = .ok (.getfield 167, 3) := by decide +kernel
theorem dX3_put_24 : decode cX3_put 24 = .ok (.if_icmp .ge 53, 3) := by decide +kernel
theorem dX3_put_27 : decode cX3_put 27 = .ok (.iload 6, 2) := by decide +kernel
theorem dX3_put_29 : decode cX3_put 29 = .ok (.aload_n 1, 1) := by decide +kernel
theorem dX3_put_30 : decode cX3_put 30 = .ok (.getfield 268, 3) := by decide +kernel
theorem dX3_put_33 : decode cX3_put 33 = .ok (.arraylength, 1) := by decide +kernel
theorem dX3_put_34 : decode cX3_put 34 = .ok (.if_icmp .ge 43, 3) := by decide +kernel
theorem dX3_put_37 : decode cX3_put 37 = .ok (.aload_n 1, 1) := by decide +kernel
theorem dX3_put_38 : decode cX3_put 38 = .ok (.getfield 268, 3) := by decide +kernel
theorem dX3_put_41 : decode cX3_put 41 = .ok (.iload 6, 2) := by decide +kernel
theorem dX3_put_43 : decode cX3_put 43 = .ok (.aload 5, 2) := by decide +kernel
theorem dX3_put_45 : decode cX3_put 45 = .ok (.ifnonnull 7, 3) := by decide +kernel
theorem dX3_put_48 : decode cX3_put 48 = .ok (.iconst 0, 1) := by decide +kernel
theorem dX3_put_49 : decode cX3_put 49 = .ok (.goto 21, 3) := by decide +kernel
theorem dX3_put_52 : decode cX3_put 52 = .ok (.aload 5, 2) := by decide +kernel
theorem dX3_put_54 : decode cX3_put 54 = .ok (.iload 4, 2) := by decide +kernel
theorem dX3_put_56 : decode cX3_put 56 = .ok (.iload 6, 2) := by decide +kernel
theorem dX3_put_58 : decode cX3_put 58 = .ok (.iadd, 1) := by decide +kernel
theorem dX3_put_59 : decode cX3_put 59 = .ok (.aload_n 0, 1) := by decide +kernel
theorem dX3_put_60 : decode cX3_put 60 = .ok (.getfield 38, 3) := by decide +kernel
theorem dX3_put_63 : decode cX3_put 63 = .ok (.aload_n 1, 1) := by decide +kernel
theorem dX3_put_64 : decode cX3_put 64 = .ok (.getfield 161, 3) := by decide +kernel
theorem dX3_put_67 : decode cX3_put 67 = .ok (.invokevirtual 272, 3) := by decide +kernel
theorem dX3_put_70 : decode cX3_put 70 = .ok (.iastore, 1) := by decide +kernel
theorem dX3_put_71 : decode cX3_put 71 = .ok (.iinc 6 1, 3) := by decide +kernel
theorem dX3_put_74 : decode cX3_put 74 = .ok (.goto (-56), 3) := by decide +kernel
theorem dX3_put_77 : decode cX3_put 77 = .ok (.aload_n 1, 1) := by decide +kernel
theorem dX3_put_78 : decode cX3_put 78 = .ok (.getfield 161, 3) := by decide +kernel
theorem dX3_put_81 : decode cX3_put 81 = .ok (.dup, 1) := by decide +kernel
theorem dX3_put_82 : decode cX3_put 82 = .ok (.getfield 85, 3) := by decide +kernel
theorem dX3_put_85 : decode cX3_put 85 = .ok (.aload_n 1, 1) := by decide +kernel
theorem dX3_put_86 : decode cX3_put 86 = .ok (.invokevirtual 248, 3) := by decide +kernel
theorem dX3_put_89 : decode cX3_put 89 = .ok (.isub, 1) := by decide +kernel
theorem dX3_put_90 : decode cX3_put 90 = .ok (.putfield 85, 3) := by decide +kernel
theorem dX3_put_93 : decode cX3_put 93 = .ok (.return_, 1) := by decide +kernel
theorem dX3_leave_0 : decode cX3_leave 0 = .ok (.aload_n 1, 1) := by decide +kernel
theorem dX3_leave_1 : decode cX3_leave 1 = .ok (.getfield 189, 3) := by decide +kernel
theorem dX3_leave_4 : decode cX3_leave 4 = .ok (.aload_n 0, 1) := by decide +kernel
theorem dX3_leave_5 : decode cX3_leave 5 = .ok (.getfield 38, 3) := by decide +kernel
theorem dX3_leave_8 : decode cX3_leave 8 = .ok (.isub, 1) := by decide +kernel
theorem dX3_leave_9 : decode cX3_leave 9 = .ok (.bipush 8, 2) := by decide +kernel
theorem dX3_leave_11 : decode cX3_leave 11 = .ok (.if_icmp .lt 20, 3) := by decide +kernel
theorem dX3_leave_14 : decode cX3_leave 14 = .ok (.aload_n 1, 1) := by decide +kernel
theorem dX3_leave_15 : decode cX3_leave 15 = .ok (.getfield 161, 3) := by decide +kernel
theorem dX3_leave_18 : decode cX3_leave 18 = .ok (.dup, 1) := by decide +kernel
theorem dX3_leave_19 : decode cX3_leave 19 = .ok (.getfield 85, 3) := by decide +kernel
theorem dX3_leave_22 : decode cX3_leave 22 = .ok (.aload_n 1, 1) := by decide +kernel
theorem dX3_leave_23 : decode cX3_leave 23 = .ok (.invokevirtual 248, 3) := by decide +kernel
theorem dX3_leave_26 : decode cX3_leave 26 = .ok (.iadd, 1) := by decide +kernel
theorem dX3_leave_27 : decode cX3_leave 27 = .ok (.putfield 85, 3) := by decide +kernel
theorem dX3_leave_30 : decode cX3_leave 30 = .ok (.return_, 1) := by decide +kernel
theorem dX3_leave_31 : decode cX3_leave 31 = .ok (.aload_n 0, 1) := by decide +kernel
theorem dX3_leave_32 : decode cX3_leave 32 = .ok (.aload_n 1, 1) := by decide +kernel
theorem dX3_leave_33 : decode cX3_leave 33 = .ok (.getfield 242, 3) := by decide +kernel
theorem dX3_leave_36 : decode cX3_leave 36 = .ok (.invokevirtual 42, 3) := by decide +kernel
theorem dX3_leave_39 : decode cX3_leave 39 = .ok (.astore_n 2, 1) := by decide +kernel
theorem dX3_leave_40 : decode cX3_leave 40 = .ok (.iconst 0, 1) := by decide +kernel
theorem dX3_leave_41 : decode cX3_leave 41 = .ok (.istore_n 3, 1) := by decide +kernel
theorem dX3_leave_42 : decode cX3_leave 42 = .ok (.aload_n 2, 1) := by decide +kernel
theorem dX3_leave_43 : decode cX3_leave 43 = .ok (.ifnull 46, 3) := by decide +kernel
theorem dX3_leave_46 : decode cX3_leave 46 = .ok (.iload_n 3, 1) := by decide +kernel
theorem dX3_leave_47 : decode cX3_leave 47 = .ok (.aload_n 1, 1) := by decide +kernel
theorem dX3_leave_48 : decode cX3_leave 48 = .ok (.getfield 167, 3) := by decide +kernel
theorem dX3_leave_51 : decode cX3_leave 51 = .ok (.if_icmp .ge 38, 3) := by decide +kernel
theorem dX3_leave_54 : decode cX3_leave 54 = .ok (.iload_n 3, 1) := by decide +kernel
theorem dX3_leave_55 : decode cX3_leave 55 = .ok (.aload_n 1, 1) := by decide +kernel
theorem dX3_leave_56 : decode cX3_leave 56 = .ok (.getfield 268, 3) := by decide +kernel
theorem dX3_leave_59 : decode cX3_leave 59 = .ok (.arraylength, 1) := by decide +kernel
theorem dX3_leave_60 : decode cX3_leave 60 = .ok (.if_icmp .ge 29, 3) := by decide +kernel
theorem dX3_leave_63 : decode cX3_leave 63 = .ok (.aload_n 2, 1) := by decide +kernel
theorem dX3_leave_64 : decode cX3_leave 64 = .ok (.aload_n 1, 1) := by decide +kernel
theorem dX3_leave_65 : decode cX3_leave 65 = .ok (.getfield 189, 3) := by decide +kernel
theorem dX3_leave_68 : decode cX3_leave 68 = .ok (.iload_n 3, 1) := by decide +kernel
theorem dX3_leave_69 : decode cX3_leave 69 = .ok (.iadd, 1) := by decide +kernel
theorem dX3_leave_70 : decode cX3_leave 70 = .ok (.aload_n 1, 1) := by decide +kernel
theorem dX3_leave_71 : decode cX3_leave 71 = .ok (.getfield 161, 3) := by decide +kernel
theorem dX3_leave_74 : decode cX3_leave 74 = .ok (.aload_n 1, 1) := by decide +kernel
theorem dX3_leave_75 : decode cX3_leave 75 = .ok (.getfield 268, 3) := by decide +kernel
theorem dX3_leave_78 : decode cX3_leave 78 = .ok (.iload_n 3, 1) := by decide +kernel
theorem dX3_leave_79 : decode cX3_leave 79 = .ok (.iaload, 1) := by decide +kernel
theorem dX3_leave_80 : decode cX3_leave 80 = .ok (.invokevirtual 276, 3) := by decide +kernel
theorem dX3_leave_83 : decode cX3_leave 83 = .ok (.iinc 3 1, 3) := by decide +kernel
theorem dX3_leave_86 : decode cX3_leave 86 = .ok (.goto (-44), 3) := by decide +kernel
theorem dX3_leave_89 : decode cX3_leave 89 = .ok (.return_, 1) := by decide +kernel
theorem dX3_dropAllOf_0 : decode cX3_dropAllOf 0 = .ok (.iconst 0, 1) := by decide +kernel
theorem dX3_dropAllOf_1 : decode cX3_dropAllOf 1 = .ok (.istore_n 2, 1) := by decide +kernel
theorem dX3_dropAllOf_2 : decode cX3_dropAllOf 2 = .ok (.iconst 0, 1) := by decide +kernel
theorem dX3_dropAllOf_3 : decode cX3_dropAllOf 3 = .ok (.istore_n 3, 1) := by decide +kernel
theorem dX3_dropAllOf_4 : decode cX3_dropAllOf 4 = .ok (.iload_n 3, 1) := by decide +kernel
theorem dX3_dropAllOf_5 : decode cX3_dropAllOf 5 = .ok (.aload_n 0, 1) := by decide +kernel
theorem dX3_dropAllOf_6 : decode cX3_dropAllOf 6 = .ok (.getfield 35, 3) := by decide +kernel
theorem dX3_dropAllOf_9 : decode cX3_dropAllOf 9 = .ok (.if_icmp .ge 62, 3) := by decide +kernel
theorem dX3_dropAllOf_12 : decode cX3_dropAllOf 12 = .ok (.aload_n 0, 1) := by decide +kernel
theorem dX3_dropAllOf_13 : decode cX3_dropAllOf 13 = .ok (.iload_n 3, 1) := by decide +kernel
theorem dX3_dropAllOf_14 : decode cX3_dropAllOf 14 = .ok (.invokevirtual 149, 3) := by decide +kernel
theorem dX3_dropAllOf_17 : decode cX3_dropAllOf 17 = .ok (.astore 4, 2) := by decide +kernel
theorem dX3_dropAllOf_19 : decode cX3_dropAllOf 19 = .ok (.aload 4, 2) := by decide +kernel
theorem dX3_dropAllOf_21 : decode cX3_dropAllOf 21 = .ok (.ifnull 44, 3) := by decide +kernel
theorem dX3_dropAllOf_24 : decode cX3_dropAllOf 24 = .ok (.aload 4, 2) := by decide +kernel
theorem dX3_dropAllOf_26 : decode cX3_dropAllOf 26 = .ok (.getfield 161, 3) := by decide +kernel
theorem dX3_dropAllOf_29 : decode cX3_dropAllOf 29 = .ok (.aload_n 1, 1) := by decide +kernel
theorem dX3_dropAllOf_30 : decode cX3_dropAllOf 30 = .ok (.if_acmp .ne 35, 3) := by decide +kernel
theorem dX3_dropAllOf_33 : decode cX3_dropAllOf 33 = .ok (.aload 4, 2) := by decide +kernel
theorem dX3_dropAllOf_35 : decode cX3_dropAllOf 35 = .ok (.getfield 178, 3) := by decide +kernel
theorem dX3_dropAllOf_38 : decode cX3_dropAllOf 38 = .ok (.ifCond .ne 27, 3) := by decide +kernel
theorem dX3_dropAllOf_41 : decode cX3_dropAllOf 41 = .ok (.aload_n 0, 1) := by decide +kernel
theorem dX3_dropAllOf_42 : decode cX3_dropAllOf 42 = .ok (.aload 4, 2) := by decide +kernel
theorem dX3_dropAllOf_44 : decode cX3_dropAllOf 44 = .ok (.invokevirtual 157, 3) := by decide +kernel
theorem dX3_dropAllOf_47 : decode cX3_dropAllOf 47 = .ok (.ifCond .eq 9, 3) := by decide +kernel
theorem dX3_dropAllOf_50 : decode cX3_dropAllOf 50 = .ok (.aload_n 0, 1) := by decide +kernel
theorem dX3_dropAllOf_51 : decode cX3_dropAllOf 51 = .ok (.aload 4, 2) := by decide +kernel
theorem dX3_dropAllOf_53 : decode cX3_dropAllOf 53 = .ok (.invokevirtual 170, 3) := by decide +kernel
theorem dX3_dropAllOf_56 : decode cX3_dropAllOf 56 = .ok (.aload 4, 2) := by decide +kernel
theorem dX3_dropAllOf_58 : decode cX3_dropAllOf 58 = .ok (.iconst 3, 1) := by decide +kernel
theorem dX3_dropAllOf_59 : decode cX3_dropAllOf 59 = .ok (.putfield 178, 3) := by decide +kernel
theorem dX3_dropAllOf_62 : decode cX3_dropAllOf 62 = .ok (.iinc 2 1, 3) := by decide +kernel
theorem dX3_dropAllOf_65 : decode cX3_dropAllOf 65 = .ok (.iinc 3 1, 3) := by decide +kernel
theorem dX3_dropAllOf_68 : decode cX3_dropAllOf 68 = .ok (.goto (-64), 3) := by decide +kernel
theorem dX3_dropAllOf_71 : decode cX3_dropAllOf 71 = .ok (.iload_n 2, 1) := by decide +kernel
theorem dX3_dropAllOf_72 : decode cX3_dropAllOf 72 = .ok (.ireturn, 1) := by decide +kernel
theorem dX3_endHearings_0 : decode cX3_endHearings 0 = .ok (.iconst 0, 1) := by decide +kernel
theorem dX3_endHearings_1 : decode cX3_endHearings 1 = .ok (.istore_n 1, 1) := by decide +kernel
theorem dX3_endHearings_2 : decode cX3_endHearings 2 = .ok (.iconst 0, 1) := by decide +kernel
theorem dX3_endHearings_3 : decode cX3_endHearings 3 = .ok (.istore_n 2, 1) := by decide +kernel
theorem dX3_endHearings_4 : decode cX3_endHearings 4 = .ok (.iload_n 2, 1) := by decide +kernel
theorem dX3_endHearings_5 : decode cX3_endHearings 5 = .ok (.aload_n 0, 1) := by decide +kernel
theorem dX3_endHearings_6 : decode cX3_endHearings 6 = .ok (.getfield 35, 3) := by decide +kernel
theorem dX3_endHearings_9 : decode cX3_endHearings 9 = .ok (.if_icmp .ge 57, 3) := by decide +kernel
theorem dX3_endHearings_12 : decode cX3_endHearings 12 = .ok (.aload_n 0, 1) := by decide +kernel
theorem dX3_endHearings_13 : decode cX3_endHearings 13 = .ok (.iload_n 2, 1) := by decide +kernel
theorem dX3_endHearings_14 : decode cX3_endHearings 14 = .ok (.invokevirtual 149, 3) := by decide +kernel
theorem dX3_endHearings_17 : decode cX3_endHearings 17 = .ok (.astore_n 3, 1) := by decide +kernel
theorem dX3_endHearings_18 : decode cX3_endHearings 18 = .ok (.aload_n 3, 1) := by decide +kernel
theorem dX3_endHearings_19 : decode cX3_endHearings 19 = .ok (.ifnull 41, 3) := by decide +kernel
theorem dX3_endHearings_22 : decode cX3_endHearings 22 = .ok (.aload_n 3, 1) := by decide +kernel
theorem dX3_endHearings_23 : decode cX3_endHearings 23 = .ok (.getfield 178, 3) := by decide +kernel
theorem dX3_endHearings_26 : decode cX3_endHearings 26 = .ok (.ifCond .ne 34, 3) := by decide +kernel
theorem dX3_endHearings_29 : decode cX3_endHearings 29 = .ok (.aload_n 3, 1) := by decide +kernel
theorem dX3_endHearings_30 : decode cX3_endHearings 30 = .ok (.getfield 189, 3) := by decide +kernel
theorem dX3_endHearings_33 : decode cX3_endHearings 33 = .ok (.aload_n 3, 1) := by decide +kernel
theorem dX3_endHearings_34 : decode cX3_endHearings 34 = .ok (.getfield 167, 3) := by decide +kernel
theorem dX3_endHearings_37 : decode cX3_endHearings 37 = .ok (.iadd, 1) := by decide +kernel
theorem dX3_endHearings_38 : decode cX3_endHearings 38 = .ok (.aload_n 0, 1) := by decide +kernel
theorem dX3_endHearings_39 : decode cX3_endHearings 39 = .ok (.getfield 38, 3) := by decide +kernel
theorem dX3_endHearings_42 : decode cX3_endHearings 42 = .ok (.if_icmp .gt 18, 3) := by decide +kernel
theorem dX3_endHearings_45 : decode cX3_endHearings 45 = .ok (.aload_n 3, 1) := by decide +kernel
theorem dX3_endHearings_46 : decode cX3_endHearings 46 = .ok (.invokevirtual 279, 3) := by decide +kernel
theorem dX3_endHearings_49 : decode cX3_endHearings 49 = .ok (.aload_n 3, 1) := by decide +kernel
theorem dX3_endHearings_50 : decode cX3_endHearings 50 = .ok (.getfield 178, 3) := by decide +kernel
theorem dX3_endHearings_53 : decode cX3_endHearings 53 = .ok (.iconst 1, 1) := by decide +kernel
theorem dX3_endHearings_54 : decode cX3_endHearings 54 = .ok (.if_icmp .ne 6, 3) := by decide +kernel
theorem dX3_endHearings_57 : decode cX3_endHearings 57 = .ok (.iinc 1 1, 3) := by decide +kernel
theorem dX3_endHearings_60 : decode cX3_endHearings 60 = .ok (.iinc 2 1, 3) := by decide +kernel
theorem dX3_endHearings_63 : decode cX3_endHearings 63 = .ok (.goto (-59), 3) := by decide +kernel
theorem dX3_endHearings_66 : decode cX3_endHearings 66 = .ok (.iload_n 1, 1) := by decide +kernel
theorem dX3_endHearings_67 : decode cX3_endHearings 67 = .ok (.ireturn, 1) := by decide +kernel
theorem dX3_runTerms_0 : decode cX3_runTerms 0 = .ok (.iconst 0, 1) := by decide +kernel
theorem dX3_runTerms_1 : decode cX3_runTerms 1 = .ok (.istore_n 1, 1) := by decide +kernel
theorem dX3_runTerms_2 : decode cX3_runTerms 2 = .ok (.iload_n 1, 1) := by decide +kernel
theorem dX3_runTerms_3 : decode cX3_runTerms 3 = .ok (.aload_n 0, 1) := by decide +kernel
theorem dX3_runTerms_4 : decode cX3_runTerms 4 = .ok (.getfield 31, 3) := by decide +kernel
theorem dX3_runTerms_7 : decode cX3_runTerms 7 = .ok (.if_icmp .ge 27, 3) := by decide +kernel
theorem dX3_runTerms_10 : decode cX3_runTerms 10 = .ok (.aload_n 0, 1) := by decide +kernel
theorem dX3_runTerms_11 : decode cX3_runTerms 11 = .ok (.iload_n 1, 1) := by decide +kernel
theorem dX3_runTerms_12 : decode cX3_runTerms 12 = .ok (.invokevirtual 95, 3) := by decide +kernel
theorem dX3_runTerms_15 : decode cX3_runTerms 15 = .ok (.astore_n 2, 1) := by decide +kernel
theorem dX3_runTerms_16 : decode cX3_runTerms 16 = .ok (.aload_n 2, 1) := by decide +kernel
theorem dX3_runTerms_17 : decode cX3_runTerms 17 = .ok (.ifnull 11, 3) := by decide +kernel
theorem dX3_runTerms_20 : decode cX3_runTerms 20 = .ok (.aload_n 2, 1) := by decide +kernel
theorem dX3_runTerms_21 : decode cX3_runTerms 21 = .ok (.aload_n 0, 1) := by decide +kernel
theorem dX3_runTerms_22 : decode cX3_runTerms 22 = .ok (.getfield 38, 3) := by decide +kernel
theorem dX3_runTerms_25 : decode cX3_runTerms 25 = .ok (.invokevirtual 281, 3) := by decide +kernel
theorem dX3_runTerms_28 : decode cX3_runTerms 28 = .ok (.iinc 1 1, 3) := by decide +kernel
theorem dX3_runTerms_31 : decode cX3_runTerms 31 = .ok (.goto (-29), 3) := by decide +kernel
theorem dX3_runTerms_34 : decode cX3_runTerms 34 = .ok (.return_, 1) := by decide +kernel
theorem dX3_feeFor_0 : decode cX3_feeFor 0 = .ok (.aload_n 1, 1) := by decide +kernel
theorem dX3_feeFor_1 : decode cX3_feeFor 1 = .ok (.getfield 227, 3) := by decide +kernel
theorem dX3_feeFor_4 : decode cX3_feeFor 4 = .ok (.ifCond .lt 31, 3) := by decide +kernel
theorem dX3_feeFor_7 : decode cX3_feeFor 7 = .ok (.aload_n 1, 1) := by decide +kernel
theorem dX3_feeFor_8 : decode cX3_feeFor 8 = .ok (.getfield 227, 3) := by decide +kernel
theorem dX3_feeFor_11 : decode cX3_feeFor 11 = .ok (.aload_n 0, 1) := by decide +kernel
theorem dX3_feeFor_12 : decode cX3_feeFor 12 = .ok (.getfield 15, 3) := by decide +kernel
theorem dX3_feeFor_15 : decode cX3_feeFor 15 = .ok (.arraylength, 1) := by decide +kernel
theorem dX3_feeFor_16 : decode cX3_feeFor 16 = .ok (.if_icmp .ge 19, 3) := by decide +kernel
theorem dX3_feeFor_19 : decode cX3_feeFor 19 = .ok (.aload_n 0, 1) := by decide +kernel
theorem dX3_feeFor_20 : decode cX3_feeFor 20 = .ok (.getfield 15, 3) := by decide +kernel
theorem dX3_feeFor_23 : decode cX3_feeFor 23 = .ok (.aload_n 1, 1) := by decide +kernel
theorem dX3_feeFor_24 : decode cX3_feeFor 24 = .ok (.getfield 227, 3) := by decide +kernel
theorem dX3_feeFor_27 : decode cX3_feeFor 27 = .ok (.baload, 1) := by decide +kernel
theorem dX3_feeFor_28 : decode cX3_feeFor 28 = .ok (.ifCond .eq 7, 3) := by decide +kernel
theorem dX3_feeFor_31 : decode cX3_feeFor 31 = .ok (.iconst 1, 1) := by decide +kernel
theorem dX3_feeFor_32 : decode cX3_feeFor 32 = .ok (.goto 4, 3) := by decide +kernel
theorem dX3_feeFor_35 : decode cX3_feeFor 35 = .ok (.iconst 0, 1) := by decide +kernel
theorem dX3_feeFor_36 : decode cX3_feeFor 36 = .ok (.istore_n 3, 1) := by decide +kernel
theorem dX3_feeFor_37 : decode cX3_feeFor 37 = .ok (.iload_n 3, 1) := by decide +kernel
theorem dX3_feeFor_38 : decode cX3_feeFor 38 = .ok (.ifCond .eq 7, 3) := by decide +kernel
theorem dX3_feeFor_41 : decode cX3_feeFor 41 = .ok (.iconst 0, 1) := by decide +kernel
theorem dX3_feeFor_42 : decode cX3_feeFor 42 = .ok (.goto 4, 3) := by decide +kernel
theorem dX3_feeFor_45 : decode cX3_feeFor 45 = .ok (.iload_n 2, 1) := by decide +kernel
theorem dX3_feeFor_46 : decode cX3_feeFor 46 = .ok (.ireturn, 1) := by decide +kernel
theorem dX3_paidHoursOf_0 : decode cX3_paidHoursOf 0 = .ok (.iconst 0, 1) := by decide +kernel
theorem dX3_paidHoursOf_1 : decode cX3_paidHoursOf 1 = .ok (.istore_n 2, 1) := by decide +kernel
theorem dX3_paidHoursOf_2 : decode cX3_paidHoursOf 2 = .ok (.iconst 0, 1) := by decide +kernel
theorem dX3_paidHoursOf_3 : decode cX3_paidHoursOf 3 = .ok (.istore_n 3, 1) := by decide +kernel
theorem dX3_paidHoursOf_4 : decode cX3_paidHoursOf 4 = .ok (.iload_n 3, 1) := by decide +kernel
theorem dX3_paidHoursOf_5 : decode cX3_paidHoursOf 5 = .ok (.aload_n 0, 1) := by decide +kernel
theorem dX3_paidHoursOf_6 : decode cX3_paidHoursOf 6 = .ok (.getfield 11, 3) := by decide +kernel
theorem dX3_paidHoursOf_9 : decode cX3_paidHoursOf 9 = .ok (.arraylength, 1) := by decide +kernel
theorem dX3_paidHoursOf_10 : decode cX3_paidHoursOf 10 = .ok (.if_icmp .ge 34, 3) := by decide +kernel
theorem dX3_paidHoursOf_13 : decode cX3_paidHoursOf 13 = .ok (.aload_n 0, 1) := by decide +kernel
theorem dX3_paidHoursOf_14 : decode cX3_paidHoursOf 14 = .ok (.iload_n 3, 1) := by decide +kernel
theorem dX3_paidHoursOf_15 : decode cX3_paidHoursOf 15 = .ok (.invokevirtual 42, 3) := by decide +kernel
theorem dX3_paidHoursOf_18 : decode cX3_paidHoursOf 18 = .ok (.astore 4, 2) := by decide +kernel
theorem dX3_paidHoursOf_20 : decode cX3_paidHoursOf 20 = .ok (.aload 4, 2) := by decide +kernel
theorem dX3_paidHoursOf_22 : decode cX3_paidHoursOf 22 = .ok (.ifnull 16, 3) := by decide +kernel
theorem dX3_paidHoursOf_25 : decode cX3_paidHoursOf 25 = .ok (.iload_n 2, 1) := by decide +kernel
theorem dX3_paidHoursOf_26 : decode cX3_paidHoursOf 26 = .ok (.aload 4, 2) := by decide +kernel
theorem dX3_paidHoursOf_28 : decode cX3_paidHoursOf 28 = .ok (.aload_n 1, 1) := by decide +kernel
theorem dX3_paidHoursOf_29 : decode cX3_paidHoursOf 29 = .ok (.aload_n 0, 1) := by decide +kernel
theorem dX3_paidHoursOf_30 : decode cX3_paidHoursOf 30 = .ok (.getfield 38, 3) := by decide +kernel
theorem dX3_paidHoursOf_33 : decode cX3_paidHoursOf 33 = .ok (.invokevirtual 284, 3) := by decide +kernel
theorem dX3_paidHoursOf_36 : decode cX3_paidHoursOf 36 = .ok (.iadd, 1) := by decide +kernel
theorem dX3_paidHoursOf_37 : decode cX3_paidHoursOf 37 = .ok (.istore_n 2, 1) := by decide +kernel
theorem dX3_paidHoursOf_38 : decode cX3_paidHoursOf 38 = .ok (.iinc 3 1, 3) := by decide +kernel
theorem dX3_paidHoursOf_41 : decode cX3_paidHoursOf 41 = .ok (.goto (-37), 3) := by decide +kernel
theorem dX3_paidHoursOf_44 : decode cX3_paidHoursOf 44 = .ok (.iload_n 2, 1) := by decide +kernel
theorem dX3_paidHoursOf_45 : decode cX3_paidHoursOf 45 = .ok (.ireturn, 1) := by decide +kernel
theorem dX4_init_0 : decode cX4_init 0 = .ok (.aload_n 0, 1) := by decide +kernel
theorem dX4_init_1 : decode cX4_init 1 = .ok (.invokespecial 1, 3) := by decide +kernel
theorem dX4_init_4 : decode cX4_init 4 = .ok (.aload_n 0, 1) := by decide +kernel
theorem dX4_init_5 : decode cX4_init 5 = .ok (.iconst 4, 1) := by decide +kernel
theorem dX4_init_6 : decode cX4_init 6 = .ok (.newarray .int, 2) := by decide +kernel
theorem dX4_init_8 : decode cX4_init 8 = .ok (.putfield 7, 3) := by decide +kernel
theorem dX4_init_11 : decode cX4_init 11 = .ok (.aload_n 0, 1) := by decide +kernel
theorem dX4_init_12 : decode cX4_init 12 = .ok (.iconst 4, 1) := by decide +kernel
theorem dX4_init_13 : decode cX4_init 13 = .ok (.newarray .int, 2) := by decide +kernel
theorem dX4_init_15 : decode cX4_init 15 = .ok (.putfield 13, 3) := by decide +kernel
theorem dX4_init_18 : decode cX4_init 18 = .ok (.aload_n 0, 1) := by decide +kernel
theorem dX4_init_19 : decode cX4_init 19 = .ok (.bipush 6, 2) := by decide +kernel
theorem dX4_init_21 : decode cX4_init 21 = .ok (.newarray .boolean, 2) := by decide +kernel
theorem dX4_init_23 : decode cX4_init 23 = .ok (.putfield 16, 3) := by decide +kernel
theorem dX4_init_26 : decode cX4_init 26 = .ok (.aload_n 0, 1) := by decide +kernel
theorem dX4_init_27 : decode cX4_init 27 = .ok (.bipush 12, 2) := by decide +kernel
theorem dX4_init_29 : decode cX4_init 29 = .ok (.newarray .int, 2) := by decide +kernel
theorem dX4_init_31 : decode cX4_init 31 = .ok (.putfield 20, 3) := by decide +kernel
theorem dX4_init_34 : decode cX4_init 34 = .ok (.aload_n 0, 1) := by decide +kernel
theorem dX4_init_35 : decode cX4_init 35 = .ok (.bipush 12, 2) := by decide +kernel
theorem dX4_init_37 : decode cX4_init 37 = .ok (.newarray .int, 2) := by decide +kernel
theorem dX4_init_39 : decode cX4_init 39 = .ok (.putfield 23, 3) := by decide +kernel
theorem dX4_init_42 : decode cX4_init 42 = .ok (.aload_n 0, 1) := by decide +kernel
theorem dX4_init_43 : decode cX4_init 43 = .ok (.bipush 12, 2) := by decide +kernel
theorem dX4_init_45 : decode cX4_init 45 = .ok (.newarray .int, 2) := by decide +kernel
theorem dX4_init_47 : decode cX4_init 47 = .ok (.putfield 26, 3) := by decide +kernel
theorem dX4_init_50 : decode cX4_init 50 = .ok (.aload_n 0, 1) := by decide +kernel
theorem dX4_init_51 : decode cX4_init 51 = .ok (.bipush 12, 2) := by decide +kernel
theorem dX4_init_53 : decode cX4_init 53 = .ok (.newarray .int, 2) := by decide +kernel
theorem dX4_init_55 : decode cX4_init 55 = .ok (.putfield 29, 3) := by decide +kernel
theorem dX4_init_58 : decode cX4_init 58 = .ok (.aload_n 0, 1) := by decide +kernel
theorem dX4_init_59 : decode cX4_init 59 = .ok (.bipush 12, 2) := by decide +kernel
theorem dX4_init_61 : decode cX4_init 61 = .ok (.newarray .int, 2) := by decide +kernel
theorem dX4_init_63 : decode cX4_init 63 = .ok (.putfield 32, 3) := by decide +kernel
theorem dX4_init_66 : decode cX4_init 66 = .ok (.aload_n 0, 1) := by decide +kernel
theorem dX4_init_67 : decode cX4_init 67 = .ok (.bipush 12, 2) := by decide +kernel
theorem dX4_init_69 : decode cX4_init 69 = .ok (.newarray .int, 2) := by decide +kernel
theorem dX4_init_71 : decode cX4_init 71 = .ok (.putfield 35, 3) := by decide +kernel
theorem dX4_init_74 : decode cX4_init 74 = .ok (.aload_n 0, 1) := by decide +kernel
theorem dX4_init_75 : decode cX4_init 75 = .ok (.bipush 12, 2) := by decide +kernel
theorem dX4_init_77 : decode cX4_init 77 = .ok (.newarray .int, 2) := by decide +kernel
theorem dX4_init_79 : decode cX4_init 79 = .ok (.putfield 38, 3) := by decide +kernel
theorem dX4_init_82 : decode cX4_init 82 = .ok (.aload_n 0, 1) := by decide +kernel
theorem dX4_init_83 : decode cX4_init 83 = .ok (.bipush 24, 2) := by decide +kernel
theorem dX4_init_85 : decode cX4_init 85 = .ok (.newarray .int, 2) := by decide +kernel
theorem dX4_init_87 : decode cX4_init 87 = .ok (.putfield 41, 3) := by decide +kernel
theorem dX4_init_90 : decode cX4_init 90 = .ok (.aload_n 0, 1) := by decide +kernel
theorem dX4_init_91 : decode cX4_init 91 = .ok (.bipush 24, 2) := by decide +kernel
theorem dX4_init_93 : decode cX4_init 93 = .ok (.newarray .int, 2) := by decide +kernel
theorem dX4_init_95 : decode cX4_init 95 = .ok (.putfield 44, 3) := by decide +kernel
theorem dX4_init_98 : decode cX4_init 98 = .ok (.aload_n 0, 1) := by decide +kernel
theorem dX4_init_99 : decode cX4_init 99 = .ok (.bipush 24, 2) := by decide +kernel
theorem dX4_init_101 : decode cX4_init 101 = .ok (.newarray .int, 2) := by decide +kernel
theorem dX4_init_103 : decode cX4_init 103 = .ok (.putfield 47, 3) := by decide +kernel
theorem dX4_init_106 : decode cX4_init 106 = .ok (.aload_n 0, 1) := by decide +kernel
theorem dX4_init_107 : decode cX4_init 107 = .ok (.bipush 24, 2) := by decide +kernel
theorem dX4_init_109 : decode cX4_init 109 = .ok (.newarray .int, 2) := by decide +kernel
theorem dX4_init_111 : decode cX4_init 111 = .ok (.putfield 50, 3) := by decide +kernel
theorem dX4_init_114 : decode cX4_init 114 = .ok (.aload_n 0, 1) := by decide +kernel
theorem dX4_init_115 : decode cX4_init 115 = .ok (.bipush 24, 2) := by decide +kernel
theorem dX4_init_117 : decode cX4_init 117 = .ok (.newarray .int, 2) := by decide +kernel
theorem dX4_init_119 : decode cX4_init 119 = .ok (.putfield 53, 3) := by decide +kernel
theorem dX4_init_122 : decode cX4_init 122 = .ok (.aload_n 0, 1) := by decide +kernel
theorem dX4_init_123 : decode cX4_init 123 = .ok (.bipush 24, 2) := by decide +kernel
theorem dX4_init_125 : decode cX4_init 125 = .ok (.newarray .int, 2) := by decide +kernel
theorem dX4_init_127 : decode cX4_init 127 = .ok (.putfield 56, 3) := by decide +kernel
theorem dX4_init_130 : decode cX4_init 130 = .ok (.aload_n 0, 1) := by decide +kernel
theorem dX4_init_131 : decode cX4_init 131 = .ok (.bipush 24, 2) := by decide +kernel
theorem dX4_init_133 : decode cX4_init 133 = .ok (.newarray .int, 2) := by decide +kernel
theorem dX4_init_135 : decode cX4_init 135 = .ok (.putfield 59, 3) := by decide +kernel
theorem dX4_init_138 : decode cX4_init 138 = .ok (.aload_n 0, 1) := by decide +kernel
theorem dX4_init_139 : decode cX4_init 139 = .ok (.bipush 96, 2) := by decide +kernel
theorem dX4_init_141 : decode cX4_init 141 = .ok (.newarray .int, 2) := by decide +kernel
theorem dX4_init_143 : decode cX4_init 143 = .ok (.putfield 62, 3) := by decide +kernel
theorem dX4_init_146 : decode cX4_init 146 = .ok (.aload_n 0, 1) := by decide +kernel
theorem dX4_init_147 : decode cX4_init 147 = .ok (.sipush 4016, 3) := by decide +kernel
theorem dX4_init_150 : decode cX4_init 150 = .ok (.newarray .int, 2) := by decide +kernel
theorem dX4_init_152 : decode cX4_init 152 = .ok (.putfield 65, 3) := by decide +kernel
theorem dX4_init_155 : decode cX4_init 155 = .ok (.aload_n 0, 1) := by decide +kernel
theorem dX4_init_156 : decode cX4_init 156 = .ok (.sipush 4016, 3) := by decide +kernel
theorem dX4_init_159 : decode cX4_init 159 = .ok (.newarray .int, 2) := by decide +kernel
theorem dX4_init_161 : decode cX4_init 161 = .ok (.putfield 68, 3) := by decide +kernel
theorem dX4_init_164 : decode cX4_init 164 = .ok (.iconst 0, 1) := by decide +kernel
theorem dX4_init_165 : decode cX4_init 165 = .ok (.istore_n 1, 1) := by decide +kernel
theorem dX4_init_166 : decode cX4_init 166 = .ok (.iload_n 1, 1) := by decide +kernel
theorem dX4_init_167 : decode cX4_init 167 = .ok (.iconst 4, 1) := by decide +kernel
theorem dX4_init_168 : decode cX4_init 168 = .ok (.if_icmp .ge 17, 3) := by decide +kernel
theorem dX4_init_171 : decode cX4_init 171 = .ok (.aload_n 0, 1) := by decide +kernel
theorem dX4_init_172 : decode cX4_init 172 = .ok (.getfield 13, 3) := by decide +kernel
theorem dX4_init_175 : decode cX4_init 175 = .ok (.iload_n 1, 1) := by decide +kernel
theorem dX4_init_176 : decode cX4_init 176 = .ok (.bipush 10, 2) := by decide +kernel
theorem dX4_init_178 : decode cX4_init 178 = .ok (.iastore, 1) := by decide +kernel
theorem dX4_init_179 : decode cX4_init 179 = .ok (.iinc 1 1, 3) := by decide +kernel
theorem dX4_init_182 : decode cX4_init 182 = .ok (.goto (-16), 3) := by decide +kernel
theorem dX4_init_185 : decode cX4_init 185 = .ok (.return_, 1) := by decide +kernel
theorem dX4_thrown_0 : decode cX4_thrown 0 = .ok (.aload_n 0, 1) := by decide +kernel
theorem dX4_thrown_1 : decode cX4_thrown 1 = .ok (.getfield 71, 3) := by decide +kernel
theorem dX4_thrown_4 : decode cX4_thrown 4 = .ok (.ireturn, 1) := by decide +kernel
theorem dX4_in_0 : decode cX4_in 0 = .ok (.iload_n 0, 1) := by decide +kernel
theorem dX4_in_1 : decode cX4_in 1 = .ok (.iload_n 1, 1) := by decide +kernel
theorem dX4_in_2 : decode cX4_in 2 = .ok (.if_icmp .lt 12, 3) := by decide +kernel
theorem dX4_in_5 : decode cX4_in 5 = .ok (.iload_n 0, 1) := by decide +kernel
theorem dX4_in_6 : decode cX4_in 6 = .ok (.iload_n 2, 1) := by decide +kernel
theorem dX4_in_7 : decode cX4_in 7 = .ok (.if_icmp .gt 7, 3) := by decide +kernel
theorem dX4_in_10 : decode cX4_in 10 = .ok (.iconst 1, 1) := by decide +kernel
theorem dX4_in_11 : decode cX4_in 11 = .ok (.goto 4, 3) := by decide +kernel
theorem dX4_in_14 : decode cX4_in 14 = .ok (.iconst 0, 1) := by decide +kernel
theorem dX4_in_15 : decode cX4_in 15 = .ok (.ireturn, 1) := by decide +kernel
theorem dX4_isMatter_0 : decode cX4_isMatter 0 = .ok (.iload_n 1, 1) := by decide +kernel
theorem dX4_isMatter_1 : decode cX4_isMatter 1 = .ok (.iconst 0, 1) := by decide +kernel
theorem dX4_isMatter_2 : decode cX4_isMatter 2 = .ok (.aload_n 0, 1) := by decide +kernel
theorem dX4_isMatter_3 : decode cX4_isMatter 3 = .ok (.getfield 75, 3) := by decide +kernel
theorem dX4_isMatter_6 : decode cX4_isMatter 6 = .ok (.iconst 1, 1) := by decide +kernel
theorem dX4_isMatter_7 : decode cX4_isMatter 7 = .ok (.isub, 1) := by decide +kernel
theorem dX4_isMatter_8 : decode cX4_isMatter 8 = .ok (.invokestatic 78, 3) := by decide +kernel
theorem dX4_isMatter_11 : decode cX4_isMatter 11 = .ok (.ireturn, 1) := by decide +kernel
theorem dX4_isHearing_0 : decode cX4_isHearing 0 = .ok (.iload_n 1, 1) := by decide +kernel
theorem dX4_isHearing_1 : decode cX4_isHearing 1 = .ok (.iconst 0, 1) := by decide +kernel
theorem dX4_isHearing_2 : decode cX4_isHearing 2 = .ok (.aload_n 0, 1) := by decide +kernel
theorem dX4_isHearing_3 : decode cX4_isHearing 3 = .ok (.getfield 82, 3) := by decide +kernel
theorem dX4_isHearing_6 : decode cX4_isHearing 6 = .ok (.iconst 1, 1) := by decide +kernel
theorem dX4_isHearing_7 : decode cX4_isHearing 7 = .ok (.isub, 1) := by decide +kernel
theorem dX4_isHearing_8 : decode cX4_isHearing 8 = .ok (.invokestatic 78, 3) := by decide +kernel
theorem dX4_isHearing_11 : decode cX4_isHearing 11 = .ok (.ireturn, 1) := by decide +kernel
theorem dX4_isSpeaker_0 : decode cX4_isSpeaker 0 = .ok (.iload_n 0, 1) := by decide +kernel
theorem dX4_isSpeaker_1 : decode cX4_isSpeaker 1 = .ok (.iconst (-1), 1) := by decide +kernel
theorem dX4_isSpeaker_2 : decode cX4_isSpeaker 2 = .ok (.iconst 3, 1) := by decide +kernel
theorem dX4_isSpeaker_3 : decode cX4_isSpeaker 3 = .ok (.invokestatic 78, 3) := by decide +kernel
theorem dX4_isSpeaker_6 : decode cX4_isSpeaker 6 = .ok (.ireturn, 1) := by decide +kernel
theorem dX4_interpreter_0 : decode cX4_interpreter 0 = .ok (.aload_n 0, 1) := by decide +kernel
theorem dX4_interpreter_1 : decode cX4_interpreter 1 = .ok (.iload_n 1, 1) := by decide +kernel
theorem dX4_interpreter_2 : decode cX4_interpreter 2 = .ok (.iconst 0, 1) := by decide +kernel
theorem dX4_interpreter_3 : decode cX4_interpreter 3 = .ok (.iconst 3, 1) := by decide +kernel
theorem dX4_interpreter_4 : decode cX4_interpreter 4 = .ok (.invokestatic 78, 3) := by decide +kernel
theorem dX4_interpreter_7 : decode cX4_interpreter 7 = .ok (.ifCond .ne 7, 3) := by decide +kernel
theorem dX4_interpreter_10 : decode cX4_interpreter 10 = .ok (.iconst 1, 1) := by decide +kernel
theorem dX4_interpreter_11 : decode cX4_interpreter 11 = .ok (.goto 28, 3) := by decide +kernel
theorem dX4_interpreter_14 : decode cX4_interpreter 14 = .ok (.iload_n 2, 1) := by decide +kernel
theorem dX4_interpreter_15 : decode cX4_interpreter 15 = .ok (.iconst 0, 1) := by decide +kernel
theorem dX4_interpreter_16 : decode cX4_interpreter 16 = .ok (.bipush 15, 2) := by decide +kernel
theorem dX4_interpreter_18 : decode cX4_interpreter 18 = .ok (.invokestatic 78, 3) := by decide +kernel
theorem dX4_interpreter_21 : decode cX4_interpreter 21 = .ok (.ifCond .eq 13, 3) := by decide +kernel
theorem dX4_interpreter_24 : decode cX4_interpreter 24 = .ok (.iload_n 3, 1) := by decide +kernel
theorem dX4_interpreter_25 : decode cX4_interpreter 25 = .ok (.iconst 1, 1) := by decide +kernel
theorem dX4_interpreter_26 : decode cX4_interpreter 26 = .ok (.bipush 99, 2) := by decide +kernel
theorem dX4_interpreter_28 : decode cX4_interpreter 28 = .ok (.invokestatic 78, 3) := by decide +kernel
theorem dX4_interpreter_31 : decode cX4_interpreter 31 = .ok (.ifCond .ne 7, 3) := by decide +kernel
theorem dX4_interpreter_34 : decode cX4_interpreter 34 = .ok (.iconst 2, 1) := by decide +kernel
theorem dX4_interpreter_35 : decode cX4_interpreter 35 = .ok (.goto 4, 3) := by decide +kernel
theorem dX4_interpreter_38 : decode cX4_interpreter 38 = .ok (.iconst 0, 1) := by decide +kernel
theorem dX4_interpreter_39 : decode cX4_interpreter 39 = .ok (.putfield 71, 3) := by decide +kernel
theorem dX4_interpreter_42 : decode cX4_interpreter 42 = .ok (.aload_n 0, 1) := by decide +kernel
theorem dX4_interpreter_43 : decode cX4_interpreter 43 = .ok (.getfield 71, 3) := by decide +kernel
theorem dX4_interpreter_46 : decode cX4_interpreter 46 = .ok (.ifCond .le 5, 3) := by decide +kernel
theorem dX4_interpreter_49 : decode cX4_interpreter 49 = .ok (.iconst 0, 1) := by decide +kernel
theorem dX4_interpreter_50 : decode cX4_interpreter 50 = .ok (.ireturn, 1) := by decide +kernel
theorem dX4_interpreter_51 : decode cX4_interpreter 51 = .ok (.aload_n 0, 1) := by decide +kernel
theorem dX4_interpreter_52 : decode cX4_interpreter 52 = .ok (.getfield 13, 3) := by decide +kernel
theorem dX4_interpreter_55 : decode cX4_interpreter 55 = .ok (.iload_n 1, 1) := by decide +kernel
theorem dX4_interpreter_56 : decode cX4_interpreter 56 = .ok (.iaload, 1) := by decide +kernel
theorem dX4_interpreter_57 : decode cX4_interpreter 57 = .ok (.istore 4, 2) := by decide +kernel
theorem dX4_interpreter_59 : decode cX4_interpreter 59 = .ok (.aload_n 0, 1) := by decide +kernel
theorem dX4_interpreter_60 : decode cX4_interpreter 60 = .ok (.getfield 7, 3) := by decide +kernel
theorem dX4_interpreter_63 : decode cX4_interpreter 63 = .ok (.iload_n 1, 1) := by decide +kernel
theorem dX4_interpreter_64 : decode cX4_interpreter 64 = .ok (.iload_n 2, 1) := by decide +kernel
theorem dX4_interpreter_65 : decode cX4_interpreter 65 = .ok (.iastore, 1) := by decide +kernel
theorem dX4_interpreter_66 : decode cX4_interpreter 66 = .ok (.aload_n 0, 1) := by decide +kernel
theorem dX4_interpreter_67 : decode cX4_interpreter 67 = .ok (.getfield 13, 3) := by decide +kernel
theorem dX4_interpreter_70 : decode cX4_interpreter 70 = .ok (.iload_n 1, 1) := by decide +kernel
theorem dX4_interpreter_71 : decode cX4_interpreter 71 = .ok (.iload_n 3, 1) := by decide +kernel
theorem dX4_interpreter_72 : decode cX4_interpreter 72 = .ok (.iastore, 1) := by decide +kernel
theorem dX4_interpreter_73 : decode cX4_interpreter 73 = .ok (.iload 4, 2) := by decide +kernel
theorem dX4_interpreter_75 : decode cX4_interpreter 75 = .ok (.ireturn, 1) := by decide +kernel
theorem dX4_waive_0 : decode cX4_waive 0 = .ok (.aload_n 0, 1) := by decide +kernel
theorem dX4_waive_1 : decode cX4_waive 1 = .ok (.iload_n 1, 1) := by decide +kernel
theorem dX4_waive_2 : decode cX4_waive 2 = .ok (.iconst 0, 1) := by decide +kernel
theorem dX4_waive_3 : decode cX4_waive 3 = .ok (.iconst 5, 1) := by decide +kernel
theorem dX4_waive_4 : decode cX4_waive 4 = .ok (.invokestatic 78, 3) := by decide +kernel
theorem dX4_waive_7 : decode cX4_waive 7 = .ok (.ifCond .eq 7, 3) := by decide +kernel
theorem dX4_waive_10 : decode cX4_waive 10 = .ok (.iconst 0, 1) := by decide +kernel
theorem dX4_waive_11 : decode cX4_waive 11 = .ok (.goto 4, 3) := by decide +kernel
theorem dX4_waive_14 : decode cX4_waive 14 = .ok (.iconst 1, 1) := by decide +kernel
theorem dX4_waive_15 : decode cX4_waive 15 = .ok (.putfield 71, 3) := by decide +kernel
theorem dX4_waive_18 : decode cX4_waive 18 = .ok (.aload_n 0, 1) := by decide +kernel
theorem dX4_waive_19 : decode cX4_waive 19 = .ok (.getfield 71, 3) := by decide +kernel
theorem dX4_waive_22 : decode cX4_waive 22 = .ok (.ifCond .le 5, 3) := by decide +kernel
theorem dX4_waive_25 : decode cX4_waive 25 = .ok (.iconst 0, 1) := by decide +kernel
theorem dX4_waive_26 : decode cX4_waive 26 = .ok (.ireturn, 1) := by decide +kernel
theorem dX4_waive_27 : decode cX4_waive 27 = .ok (.aload_n 0, 1) := by decide +kernel
theorem dX4_waive_28 : decode cX4_waive 28 = .ok (.getfield 16, 3) := by decide +kernel
theorem dX4_waive_31 : decode cX4_waive 31 = .ok (.iload_n 1, 1) := by decide +kernel
theorem dX4_waive_32 : decode cX4_waive 32 = .ok (.baload, 1) := by decide +kernel
theorem dX4_waive_33 : decode cX4_waive 33 = .ok (.istore_n 3, 1) := by decide +kernel
theorem dX4_waive_34 : decode cX4_waive 34 = .ok (.aload_n 0, 1) := by decide +kernel
theorem dX4_waive_35 : decode cX4_waive 35 = .ok (.getfield 16, 3) := by decide +kernel
theorem dX4_waive_38 : decode cX4_waive 38 = .ok (.iload_n 1, 1) := by decide +kernel
theorem dX4_waive_39 : decode cX4_waive 39 = .ok (.iload_n 2, 1) := by decide +kernel
theorem dX4_waive_40 : decode cX4_waive 40 = .ok (.bastore, 1) := by decide +kernel
theorem dX4_waive_41 : decode cX4_waive 41 = .ok (.iload_n 3, 1) := by decide +kernel
theorem dX4_waive_42 : decode cX4_waive 42 = .ok (.ireturn, 1) := by decide +kernel
theorem dX4_file_0 : decode cX4_file 0 = .ok (.iload_n 1, 1) := by decide +kernel
theorem dX4_file_1 : decode cX4_file 1 = .ok (.iconst 0, 1) := by decide +kernel
theorem dX4_file_2 : decode cX4_file 2 = .ok (.iconst 3, 1) := by decide +kernel
theorem dX4_file_3 : decode cX4_file 3 = .ok (.invokestatic 78, 3) := by decide +kernel
theorem dX4_file_6 : decode cX4_file 6 = .ok (.ifCond .eq 35, 3) := by decide +kernel
theorem dX4_file_9 : decode cX4_file 9 = .ok (.iload_n 2, 1) := by decide +kernel
theorem dX4_file_10 : decode cX4_file 10 = .ok (.iconst 0, 1) := by decide +kernel
theorem dX4_file_11 : decode cX4_file 11 = .ok (.iconst 5, 1) := by decide +kernel
theorem dX4_file_12 : decode cX4_file 12 = .ok (.invokestatic 78, 3) := by decide +kernel
theorem dX4_file_15 : decode cX4_file 15 = .ok (.ifCond .eq 26, 3) := by decide +kernel
theorem dX4_file_18 : decode cX4_file 18 = .ok (.iload_n 3, 1) := by decide +kernel
theorem dX4_file_19 : decode cX4_file 19 = .ok (.iconst 0, 1) := by decide +kernel
theorem dX4_file_20 : decode cX4_file 20 = .ok (.iconst 5, 1) := by decide +kernel
theorem dX4_file_21 : decode cX4_file 21 = .ok (.invokestatic 78, 3) := by decide +kernel
theorem dX4_file_24 : decode cX4_file 24 = .ok (.ifCond .eq 17, 3) := by decide +kernel
theorem dX4_file_27 : decode cX4_file 27 = .ok (.iload 4, 2) := by decide +kernel
theorem dX4_file_29 : decode cX4_file 29 = .ok (.iconst (-1), 1) := by decide +kernel
theorem dX4_file_30 : decode cX4_file 30 = .ok (.iconst 3, 1) := by decide +kernel
theorem dX4_file_31 : decode cX4_file 31 = .ok (.invokestatic 78, 3) := by decide +kernel
theorem dX4_file_34 : decode cX4_file 34 = .ok (.ifCond .eq 7, 3) := by decide +kernel
theorem dX4_file_37 : decode cX4_file 37 = .ok (.iconst 1, 1) := by decide +kernel
theorem dX4_file_38 : decode cX4_file 38 = .ok (.goto 4, 3) := by decide +kernel
theorem dX4_file_41 : decode cX4_file 41 = .ok (.iconst 0, 1) := by decide +kernel
theorem dX4_file_42 : decode cX4_file 42 = .ok (.istore 5, 2) := by decide +kernel
theorem dX4_file_44 : decode cX4_file 44 = .ok (.aload_n 0, 1) := by decide +kernel
theorem dX4_file_45 : decode cX4_file 45 = .ok (.iload 5, 2) := by decide +kernel
theorem dX4_file_47 : decode cX4_file 47 = .ok (.ifCond .ne 7, 3) := by decide +kernel
theorem dX4_file_50 : decode cX4_file 50 = .ok (.iconst 1, 1) := by decide +kernel
theorem dX4_file_51 : decode cX4_file 51 = .ok (.goto 26, 3) := by decide +kernel
theorem dX4_file_54 : decode cX4_file 54 = .ok (.iload_n 2, 1) := by decide +kernel
theorem dX4_file_55 : decode cX4_file 55 = .ok (.iload_n 3, 1) := by decide +kernel
theorem dX4_file_56 : decode cX4_file 56 = .ok (.if_icmp .ne 7, 3) := by decide +kernel
theorem dX4_file_59 : decode cX4_file 59 = .ok (.iconst 2, 1) := by decide +kernel
theorem dX4_file_60 : decode cX4_file 60 = .ok (.goto 17, 3) := by decide +kernel
theorem dX4_file_63 : decode cX4_file 63 = .ok (.aload_n 0, 1) := by decide +kernel
theorem dX4_file_64 : decode cX4_file 64 = .ok (.getfield 75, 3) := by decide +kernel
theorem dX4_file_67 : decode cX4_file 67 = .ok (.bipush 12, 2) := by decide +kernel
theorem dX4_file_69 : decode cX4_file 69 = .ok (.if_icmp .ne 7, 3) := by decide +kernel
theorem dX4_file_72 : decode cX4_file 72 = .ok (.iconst 3, 1) := by decide +kernel
theorem dX4_file_73 : decode cX4_file 73 = .ok (.goto 4, 3) := by decide +kernel
theorem dX4_file_76 : decode cX4_file 76 = .ok (.iconst 0, 1) := by decide +kernel
theorem dX4_file_77 : decode cX4_file 77 = .ok (.putfield 71, 3) := by decide +kernel
theorem dX4_file_80 : decode cX4_file 80 = .ok (.aload_n 0, 1) := by decide +kernel
theorem dX4_file_81 : decode cX4_file 81 = .ok (.getfield 71, 3) := by decide +kernel
theorem dX4_file_84 : decode cX4_file 84 = .ok (.ifCond .le 5, 3) := by decide +kernel
theorem dX4_file_87 : decode cX4_file 87 = .ok (.iconst 0, 1) := by decide +kernel
theorem dX4_file_88 : decode cX4_file 88 = .ok (.ireturn, 1) := by decide +kernel
theorem dX4_file_89 : decode cX4_file 89 = .ok (.aload_n 0, 1) := by decide +kernel
theorem dX4_file_90 : decode cX4_file 90 = .ok (.getfield 23, 3) := by decide +kernel
theorem dX4_file_93 : decode cX4_file 93 = .ok (.aload_n 0, 1) := by decide +kernel
theorem dX4_file_94 : decode cX4_file 94 = .ok (.getfield 75, 3) := by decide +kernel
theorem dX4_file_97 : decode cX4_file 97 = .ok (.iload_n 1, 1) := by decide +kernel
theorem dX4_file_98 : decode cX4_file 98 = .ok (.iastore, 1) := by decide +kernel
theorem dX4_file_99 : decode cX4_file 99 = .ok (.aload_n 0, 1) := by decide +kernel
theorem dX4_file_100 : decode cX4_file 100 = .ok (.getfield 26, 3) := by decide +kernel
theorem dX4_file_103 : decode cX4_file 103 = .ok (.aload_n 0, 1) := by decide +kernel
theorem dX4_file_104 : decode cX4_file 104 = .ok (.getfield 75, 3) := by decide +kernel
theorem dX4_file_107 : decode cX4_file 107 = .ok (.iload_n 2, 1) := by decide +kernel
theorem dX4_file_108 : decode cX4_file 108 = .ok (.iastore, 1) := by decide +kernel
theorem dX4_file_109 : decode cX4_file 109 = .ok (.aload_n 0, 1) := by decide +kernel
theorem dX4_file_110 : decode cX4_file 110 = .ok (.getfield 29, 3) := by decide +kernel
theorem dX4_file_113 : decode cX4_file 113 = .ok (.aload_n 0, 1) := by decide +kernel
theorem dX4_file_114 : decode cX4_file 114 = .ok (.getfield 75, 3) := by decide +kernel
theorem dX4_file_117 : decode cX4_file 117 = .ok (.iload_n 3, 1) := by decide +kernel
theorem dX4_file_118 : decode cX4_file 118 = .ok (.iastore, 1) := by decide +kernel
theorem dX4_file_119 : decode cX4_file 119 = .ok (.aload_n 0, 1) := by decide +kernel
theorem dX4_file_120 : decode cX4_file 120 = .ok (.getfield 32, 3) := by decide +kernel
theorem dX4_file_123 : decode cX4_file 123 = .ok (.aload_n 0, 1) := by decide +kernel
theorem dX4_file_124 : decode cX4_file 124 = .ok (.getfield 75, 3) := by decide +kernel
theorem dX4_file_127 : decode cX4_file 127 = .ok (.iload 4, 2) := by decide +kernel
theorem dX4_file_129 : decode cX4_file 129 = .ok (.iastore, 1) := by decide +kernel
theorem dX4_file_130 : decode cX4_file 130 = .ok (.aload_n 0, 1) := by decide +kernel
theorem dX4_file_131 : decode cX4_file 131 = .ok (.getfield 35, 3) := by decide +kernel
theorem dX4_file_134 : decode cX4_file 134 = .ok (.aload_n 0, 1) := by decide +kernel
theorem dX4_file_135 : decode cX4_file 135 = .ok (.getfield 75, 3) := by decide +kernel
theorem dX4_file_138 : decode cX4_file 138 = .ok (.aload_n 0, 1) := by decide +kernel
theorem dX4_file_139 : decode cX4_file 139 = .ok (.getfield 16, 3) := by decide +kernel
theorem dX4_file_142 : decode cX4_file 142 = .ok (.iload_n 2, 1) := by decide +kernel
theorem dX4_file_143 : decode cX4_file 143 = .ok (.baload, 1) := by decide +kernel
theorem dX4_file_144 : decode cX4_file 144 = .ok (.ifCond .eq 7, 3) := by decide +kernel
theorem dX4_file_147 : decode cX4_file 147 = .ok (.iconst 0, 1) := by decide +kernel
theorem dX4_file_148 : decode cX4_file 148 = .ok (.goto 5, 3) := by decide +kernel
theorem dX4_file_151 : decode cX4_file 151 = .ok (.bipush (-50), 2) := by decide +kernel
theorem dX4_file_153 : decode cX4_file 153 = .ok (.iastore, 1) := by decide +kernel
theorem dX4_file_154 : decode cX4_file 154 = .ok (.aload_n 0, 1) := by decide +kernel
theorem dX4_file_155 : decode cX4_file 155 = .ok (.getfield 38, 3) := by decide +kernel
theorem dX4_file_158 : decode cX4_file 158 = .ok (.aload_n 0, 1) := by decide +kernel
theorem dX4_file_159 : decode cX4_file 159 = .ok (.getfield 75, 3) := by decide +kernel
theorem dX4_file_162 : decode cX4_file 162 = .ok (.aload_n 0, 1) := by decide +kernel
theorem dX4_file_163 : decode cX4_file 163 = .ok (.getfield 85, 3) := by decide +kernel
theorem dX4_file_166 : decode cX4_file 166 = .ok (.bipush 100, 2) := by decide +kernel
theorem dX4_file_168 : decode cX4_file 168 = .ok (.iadd, 1) := by decide +kernel
theorem dX4_file_169 : decode cX4_file 169 = .ok (.iastore, 1) := by decide +kernel
theorem dX4_file_170 : decode cX4_file 170 = .ok (.aload_n 0, 1) := by decide +kernel
theorem dX4_file_171 : decode cX4_file 171 = .ok (.dup, 1) := by decide +kernel
theorem dX4_file_172 : decode cX4_file 172 = .ok (.getfield 75, 3) := by decide +kernel
theorem dX4_file_175 : decode cX4_file 175 = .ok (.iconst 1, 1) := by decide +kernel
theorem dX4_file_176 : decode cX4_file 176 = .ok (.iadd, 1) := by decide +kernel
theorem dX4_file_177 : decode cX4_file 177 = .ok (.putfield 75, 3) := by decide +kernel
theorem dX4_file_180 : decode cX4_file 180 = .ok (.aload_n 0, 1) := by decide +kernel
theorem dX4_file_181 : decode cX4_file 181 = .ok (.getfield 75, 3) := by decide +kernel
theorem dX4_file_184 : decode cX4_file 184 = .ok (.iconst 1, 1) := by decide +kernel
theorem dX4_file_185 : decode cX4_file 185 = .ok (.isub, 1) := by decide +kernel
theorem dX4_file_186 : decode cX4_file 186 = .ok (.ireturn, 1) := by decide +kernel
theorem dX4_pay_0 : decode cX4_pay 0 = .ok (.aload_n 0, 1) := by decide +kernel
theorem dX4_pay_1 : decode cX4_pay 1 = .ok (.aload_n 0, 1) := by decide +kernel
theorem dX4_pay_2 : decode cX4_pay 2 = .ok (.iload_n 1, 1) := by decide +kernel
theorem dX4_pay_3 : decode cX4_pay 3 = .ok (.invokevirtual 88, 3) := by decide +kernel
theorem dX4_pay_6 : decode cX4_pay 6 = .ok (.ifCond .ne 7, 3) := by decide +kernel
theorem dX4_pay_9 : decode cX4_pay 9 = .ok (.iconst 1, 1) := by decide +kernel
theorem dX4_pay_10 : decode cX4_pay 10 = .ok (.goto 19, 3) := by decide +kernel
theorem dX4_pay_13 : decode cX4_pay 13 = .ok (.iload_n 2, 1) := by decide +kernel
theorem dX4_pay_14 : decode cX4_pay 14 = .ok (.iconst 1, 1) := by decide +kernel
theorem dX4_pay_15 : decode cX4_pay 15 = .ok (.sipush 9999, 3) := by decide +kernel
theorem dX4_pay_18 : decode cX4_pay 18 = .ok (.invokestatic 78, 3) := by decide +kernel
theorem dX4_pay_21 : decode cX4_pay 21 = .ok (.ifCond .ne 7, 3) := by decide +kernel
theorem dX4_pay_24 : decode cX4_pay 24 = .ok (.iconst 2, 1) := by decide +kernel
theorem dX4_pay_25 : decode cX4_pay 25 = .ok (.goto 4, 3) := by decide +kernel
theorem dX4_pay_28 : decode cX4_pay 28 = .ok (.iconst 0, 1) := by decide +kernel
theorem dX4_pay_29 : decode cX4_pay 29 = .ok (.putfield 71, 3) := by decide +kernel
theorem dX4_pay_32 : decode cX4_pay 32 = .ok (.aload_n 0, 1) := by decide +kernel
theorem dX4_pay_33 : decode cX4_pay 33 = .ok (.getfield 71, 3) := by decide +kernel
theorem dX4_pay_36 : decode cX4_pay 36 = .ok (.ifCond .le 5, 3) := by decide +kernel
theorem dX4_pay_39 : decode cX4_pay 39 = .ok (.iconst 0, 1) := by decide +kernel
theorem dX4_pay_40 : decode cX4_pay 40 = .ok (.ireturn, 1) := by decide +kernel
theorem dX4_pay_41 : decode cX4_pay 41 = .ok (.aload_n 0, 1) := by decide +kernel
theorem dX4_pay_42 : decode cX4_pay 42 = .ok (.getfield 35, 3) := by decide +kernel
theorem dX4_pay_45 : decode cX4_pay 45 = .ok (.iload_n 1, 1) := by decide +kernel
theorem dX4_pay_46 : decode cX4_pay 46 = .ok (.dup2, 1) := by decide +kernel
theorem dX4_pay_47 : decode cX4_pay 47 = .ok (.iaload, 1) := by decide +kernel
theorem dX4_pay_48 : decode cX4_pay 48 = .ok (.iload_n 2, 1) := by decide +kernel
theorem dX4_pay_49 : decode cX4_pay 49 = .ok (.iadd, 1) := by decide +kernel
theorem dX4_pay_50 : decode cX4_pay 50 = .ok (.iastore, 1) := by decide +kernel
theorem dX4_pay_51 : decode cX4_pay 51 = .ok (.aload_n 0, 1) := by decide +kernel
theorem dX4_pay_52 : decode cX4_pay 52 = .ok (.getfield 35, 3) := by decide +kernel
theorem dX4_pay_55 : decode cX4_pay 55 = .ok (.iload_n 1, 1) := by decide +kernel
theorem dX4_pay_56 : decode cX4_pay 56 = .ok (.iaload, 1) := by decide +kernel
theorem dX4_pay_57 : decode cX4_pay 57 = .ok (.ireturn, 1) := by decide +kernel
theorem dX4_leaves_0 : decode cX4_leaves 0 = .ok (.aload_n 0, 1) := by decide +kernel
theorem dX4_leaves_1 : decode cX4_leaves 1 = .ok (.getfield 44, 3) := by decide +kernel
theorem dX4_leaves_4 : decode cX4_leaves 4 = .ok (.iload_n 1, 1) := by decide +kernel
theorem dX4_leaves_5 : decode cX4_leaves 5 = .ok (.iaload, 1) := by decide +kernel
theorem dX4_leaves_6 : decode cX4_leaves 6 = .ok (.istore_n 2, 1) := by decide +kernel
theorem dX4_leaves_7 : decode cX4_leaves 7 = .ok (.iconst 0, 1) := by decide +kernel
theorem dX4_leaves_8 : decode cX4_leaves 8 = .ok (.istore_n 3, 1) := by decide +kernel
theorem dX4_leaves_9 : decode cX4_leaves 9 = .ok (.iload_n 3, 1) := by decide +kernel
theorem dX4_leaves_10 : decode cX4_leaves 10 = .ok (.aload_n 0, 1) := by decide +kernel
theorem dX4_leaves_11 : decode cX4_leaves 11 = .ok (.getfield 56, 3) := by decide +kernel
theorem dX4_leaves_14 : decode cX4_leaves 14 = .ok (.iload_n 1, 1) := by decide +kernel
theorem dX4_leaves_15 : decode cX4_leaves 15 = .ok (.iaload, 1) := by decide +kernel
theorem dX4_leaves_16 : decode cX4_leaves 16 = .ok (.if_icmp .ge 118, 3) := by decide +kernel
theorem dX4_leaves_19 : decode cX4_leaves 19 = .ok (.aload_n 0, 1) := by decide +kernel
theorem dX4_leaves_20 : decode cX4_leaves 20 = .ok (.getfield 50, 3) := by decide +kernel
theorem dX4_leaves_23 : decode cX4_leaves 23 = .ok (.iload_n 1, 1) := by decide +kernel
theorem dX4_leaves_24 : decode cX4_leaves 24 = .ok (.iaload, 1) := by decide +kernel
theorem dX4_leaves_25 : decode cX4_leaves 25 = .ok (.iconst (-1), 1) := by decide +kernel
theorem dX4_leaves_26 : decode cX4_leaves 26 = .ok (.if_icmp .eq 108, 3) := by decide +kernel
theorem dX4_leaves_29 : decode cX4_leaves 29 = .ok (.aload_n 0, 1) := by decide +kernel
theorem dX4_leaves_30 : decode cX4_leaves 30 = .ok (.getfield 53, 3) := by decide +kernel
theorem dX4_leaves_33 : decode cX4_leaves 33 = .ok (.iload_n 1, 1) := by decide +kernel
theorem dX4_leaves_34 : decode cX4_leaves 34 = .ok (.iaload, 1) := by decide +kernel
theorem dX4_leaves_35 : decode cX4_leaves 35 = .ok (.aload_n 0, 1) := by decide +kernel
theorem dX4_leaves_36 : decode cX4_leaves 36 = .ok (.getfield 85, 3) := by decide +kernel
theorem dX4_leaves_39 : decode cX4_leaves 39 = .ok (.if_icmp .le 95, 3) := by decide +kernel
theorem dX4_leaves_42 : decode cX4_leaves 42 = .ok (.sipush 1004, 3) := by decide +kernel
theorem dX4_leaves_45 : decode cX4_leaves 45 = .ok (.aload_n 0, 1) := by decide +kernel
theorem dX4_leaves_46 : decode cX4_leaves 46 = .ok (.getfield 50, 3) := by decide +kernel
theorem dX4_leaves_49 : decode cX4_leaves 49 = .ok (.iload_n 1, 1) := by decide +kernel
theorem dX4_leaves_50 : decode cX4_leaves 50 = .ok (.iaload, 1) := by decide +kernel
theorem dX4_leaves_51 : decode cX4_leaves 51 = .ok (.imul, 1) := by decide +kernel
theorem dX4_leaves_52 : decode cX4_leaves 52 = .ok (.aload_n 0, 1) := by decide +kernel
theorem dX4_leaves_53 : decode cX4_leaves 53 = .ok (.getfield 53, 3) := by decide +kernel
theorem dX4_leaves_56 : decode cX4_leaves 56 = .ok (.iload_n 1, 1) := by decide +kernel
theorem dX4_leaves_57 : decode cX4_leaves 57 = .ok (.iaload, 1) := by decide +kernel
theorem dX4_leaves_58 : decode cX4_leaves 58 = .ok (.iadd, 1) := by decide +kernel
theorem dX4_leaves_59 : decode cX4_leaves 59 = .ok (.iload_n 3, 1) := by decide +kernel
theorem dX4_leaves_60 : decode cX4_leaves 60 = .ok (.iadd, 1) := by decide +kernel
theorem dX4_leaves_61 : decode cX4_leaves 61 = .ok (.istore 4, 2) := by decide +kernel
theorem dX4_leaves_63 : decode cX4_leaves 63 = .ok (.aload_n 0, 1) := by decide +kernel
theorem dX4_leaves_64 : decode cX4_leaves 64 = .ok (.getfield 53, 3) := by decide +kernel
theorem dX4_leaves_67 : decode cX4_leaves 67 = .ok (.iload_n 1, 1) := by decide +kernel
theorem dX4_leaves_68 : decode cX4_leaves 68 = .ok (.iaload, 1) := by decide +kernel
theorem dX4_leaves_69 : decode cX4_leaves 69 = .ok (.aload_n 0, 1) := by decide +kernel
theorem dX4_leaves_70 : decode cX4_leaves 70 = .ok (.getfield 85, 3) := by decide +kernel
theorem dX4_leaves_73 : decode cX4_leaves 73 = .ok (.isub, 1) := by decide +kernel
theorem dX4_leaves_74 : decode cX4_leaves 74 = .ok (.bipush 8, 2) := by decide +kernel
theorem dX4_leaves_76 : decode cX4_leaves 76 = .ok (.if_icmp .lt 25, 3) := by decide +kernel
theorem dX4_leaves_79 : decode cX4_leaves 79 = .ok (.aload_n 0, 1) := by decide +kernel
theorem dX4_leaves_80 : decode cX4_leaves 80 = .ok (.getfield 35, 3) := by decide +kernel
theorem dX4_leaves_83 : decode cX4_leaves 83 = .ok (.iload_n 2, 1) := by decide +kernel
theorem dX4_leaves_84 : decode cX4_leaves 84 = .ok (.dup2, 1) := by decide +kernel
theorem dX4_leaves_85 : decode cX4_leaves 85 = .ok (.iaload, 1) := by decide +kernel
theorem dX4_leaves_86 : decode cX4_leaves 86 = .ok (.aload_n 0, 1) := by decide +kernel
theorem dX4_leaves_87 : decode cX4_leaves 87 = .ok (.getfield 62, 3) := by decide +kernel
theorem dX4_leaves_90 : decode cX4_leaves 90 = .ok (.iconst 4, 1) := by decide +kernel
theorem dX4_leaves_91 : decode cX4_leaves 91 = .ok (.iload_n 1, 1) := by decide +kernel
theorem dX4_leaves_92 : decode cX4_leaves 92 = .ok (.imul, 1) := by decide +kernel
theorem dX4_leaves_93 : decode cX4_leaves 93 = .ok (.iload_n 3, 1) := by decide +kernel
theorem dX4_leaves_94 : decode cX4_leaves 94 = .ok (.iadd, 1) := by decide +kernel
theorem dX4_leaves_95 : decode cX4_leaves 95 = .ok (.iaload, 1) := by decide +kernel
theorem dX4_leaves_96 : decode cX4_leaves 96 = .ok (.iadd, 1) := by decide +kernel
theorem dX4_leaves_97 : decode cX4_leaves 97 = .ok (.iastore, 1) := by decide +kernel
theorem dX4_leaves_98 : decode cX4_leaves 98 = .ok (.goto 30, 3) := by decide +kernel
theorem dX4_leaves_101 : decode cX4_leaves 101 = .ok (.aload_n 0, 1) := by decide +kernel
theorem dX4_leaves_102 : decode cX4_leaves 102 = .ok (.getfield 65, 3) := by decide +kernel
theorem dX4_leaves_105 : decode cX4_leaves 105 = .ok (.iload 4, 2) := by decide +kernel
theorem dX4_leaves_107 : decode cX4_leaves 107 = .ok (.iload_n 2, 1) := by decide +kernel
theorem dX4_leaves_108 : decode cX4_leaves 108 = .ok (.iconst 1, 1) := by decide +kernel
theorem dX4_leaves_109 : decode cX4_leaves 109 = .ok (.iadd, 1) := by decide +kernel
theorem dX4_leaves_110 : decode cX4_leaves 110 = .ok (.iastore, 1) := by decide +kernel
theorem dX4_leaves_111 : decode cX4_leaves 111 = .ok (.aload_n 0, 1) := by decide +kernel
theorem dX4_leaves_112 : decode cX4_leaves 112 = .ok (.getfield 68, 3) := by decide +kernel
theorem dX4_leaves_115 : decode cX4_leaves 115 = .ok (.iload 4, 2) := by decide +kernel
theorem dX4_leaves_117 : decode cX4_leaves 117 = .ok (.aload_n 0, 1) := by decide +kernel
theorem dX4_leaves_118 : decode cX4_leaves 118 = .ok (.getfield 62, 3) := by decide +kernel
theorem dX4_leaves_121 : decode cX4_leaves 121 = .ok (.iconst 4, 1) := by decide +kernel
theorem dX4_leaves_122 : decode cX4_leaves 122 = .ok (.iload_n 1, 1) := by decide +kernel
theorem dX4_leaves_123 : decode cX4_leaves 123 = .ok (.imul, 1) := by decide +kernel
theorem dX4_leaves_124 : decode cX4_leaves 124 = .ok (.iload_n 3, 1) := by decide +kernel
theorem dX4_leaves_125 : decode cX4_leaves 125 = .ok (.iadd, 1) := by decide +kernel
theorem dX4_leaves_126 : decode cX4_leaves 126 = .ok (.iaload, 1) := by decide +kernel
theorem dX4_leaves_127 : decode cX4_leaves 127 = .ok (.iastore, 1) := by decide +kernel
theorem dX4_leaves_128 : decode cX4_leaves 128 = .ok (.iinc 3 1, 3) := by decide +kernel
theorem dX4_leaves_131 : decode cX4_leaves 131 = .ok (.goto (-122), 3) := by decide +kernel
theorem dX4_leaves_134 : decode cX4_leaves 134 = .ok (.return_, 1) := by decide +kernel
theorem dX4_comes_0 : decode cX4_comes 0 = .ok (.aload_n 0, 1) := by decide +kernel
theorem dX4_comes_1 : decode cX4_comes 1 = .ok (.getfield 44, 3) := by decide +kernel
theorem dX4_comes_4 : decode cX4_comes 4 = .ok (.iload_n 1, 1) := by decide +kernel
theorem dX4_comes_5 : decode cX4_comes 5 = .ok (.iaload, 1) := by decide +kernel
theorem dX4_comes_6 : decode cX4_comes 6 = .ok (.istore_n 2, 1) := by decide +kernel
theorem dX4_comes_7 : decode cX4_comes 7 = .ok (.iconst 0, 1) := by decide +kernel
theorem dX4_comes_8 : decode cX4_comes 8 = .ok (.istore_n 3, 1) := by decide +kernel
theorem dX4_comes_9 : decode cX4_comes 9 = .ok (.iload_n 3, 1) := by decide +kernel
theorem dX4_comes_10 : decode cX4_comes 10 = .ok (.aload_n 0, 1) := by decide +kernel
theorem dX4_comes_11 : decode cX4_comes 11 = .ok (.getfield 56, 3) := by decide +kernel
theorem dX4_comes_14 : decode cX4_comes 14 = .ok (.iload_n 1, 1) := by decide +kernel
theorem dX4_comes_15 : decode cX4_comes 15 = .ok (.iaload, 1) := by decide +kernel
theorem dX4_comes_16 : decode cX4_comes 16 = .ok (.if_icmp .ge 158, 3) := by decide +kernel
theorem dX4_comes_19 : decode cX4_comes 19 = .ok (.iconst 0, 1) := by decide +kernel
theorem dX4_comes_20 : decode cX4_comes 20 = .ok (.istore 4, 2) := by decide +kernel
theorem dX4_comes_22 : decode cX4_comes 22 = .ok (.aload_n 0, 1) := by decide +kernel
theorem dX4_comes_23 : decode cX4_comes 23 = .ok (.getfield 50, 3) := by decide +kernel
theorem dX4_comes_26 : decode cX4_comes 26 = .ok (.iload_n 1, 1) := by decide +kernel
theorem dX4_comes_27 : decode cX4_comes 27 = .ok (.iaload, 1) := by decide +kernel
theorem dX4_comes_28 : decode cX4_comes 28 = .ok (.iconst (-1), 1) := by decide +kernel
theorem dX4_comes_29 : decode cX4_comes 29 = .ok (.if_icmp .eq 116, 3) := by decide +kernel
theorem dX4_comes_32 : decode cX4_comes 32 = .ok (.sipush 1004, 3) := by decide +kernel
theorem dX4_comes_35 : decode cX4_comes 35 = .ok (.aload_n 0, 1) := by decide +kernel
theorem dX4_comes_36 : decode cX4_comes 36 = .ok (.getfield 50, 3) := by decide +kernel
theorem dX4_comes_39 : decode cX4_comes 39 = .ok (.iload_n 1, 1) := by decide +kernel
theorem dX4_comes_40 : decode cX4_comes 40 = .ok (.iaload, 1) := by decide +kernel
theorem dX4_comes_41 : decode cX4_comes 41 = .ok (.imul, 1) := by decide +kernel
theorem dX4_comes_42 : decode cX4_comes 42 = .ok (.aload_n 0, 1) := by decide +kernel
theorem dX4_comes_43 : decode cX4_comes 43 = .ok (.getfield 53, 3) := by decide +kernel
theorem dX4_comes_46 : decode cX4_comes 46 = .ok (.iload_n 1, 1) := by decide +kernel
theorem dX4_comes_47 : decode cX4_comes 47 = .ok (.iaload, 1) := by decide +kernel
theorem dX4_comes_48 : decode cX4_comes 48 = .ok (.iadd, 1) := by decide +kernel
theorem dX4_comes_49 : decode cX4_comes 49 = .ok (.iload_n 3, 1) := by decide +kernel
theorem dX4_comes_50 : decode cX4_comes 50 = .ok (.iadd, 1) := by decide +kernel
theorem dX4_comes_51 : decode cX4_comes 51 = .ok (.istore 5, 2) := by decide +kernel
theorem dX4_comes_53 : decode cX4_comes 53 = .ok (.aload_n 0, 1) := by decide +kernel
theorem dX4_comes_54 : decode cX4_comes 54 = .ok (.getfield 65, 3) := by decide +kernel
theorem dX4_comes_57 : decode cX4_comes 57 = .ok (.iload 5, 2) := by decide +kernel
theorem dX4_comes_59 : decode cX4_comes 59 = .ok (.iaload, 1) := by decide +kernel
theorem dX4_comes_60 : decode cX4_comes 60 = .ok (.iconst 1, 1) := by decide +kernel
theorem dX4_comes_61 : decode cX4_comes 61 = .ok (.isub, 1) := by decide +kernel
theorem dX4_comes_62 : decode cX4_comes 62 = .ok (.istore 6, 2) := by decide +kernel
theorem dX4_comes_64 : decode cX4_comes 64 = .ok (.iload 6, 2) := by decide +kernel
theorem dX4_comes_66 : decode cX4_comes 66 = .ok (.iconst (-1), 1) := by decide +kernel
theorem dX4_comes_67 : decode cX4_comes 67 = .ok (.if_icmp .ne 17, 3) := by decide +kernel
theorem dX4_comes_70 : decode cX4_comes 70 = .ok (.aload_n 0, 1) := by decide +kernel
theorem dX4_comes_71 : decode cX4_comes 71 = .ok (.getfield 13, 3) := by decide +kernel
theorem dX4_comes_74 : decode cX4_comes 74 = .ok (.aload_n 0, 1) := by decide +kernel
theorem dX4_comes_75 : decode cX4_comes 75 = .ok (.getfield 50, 3) := by decide +kernel
theorem dX4_comes_78 : decode cX4_comes 78 = .ok (.iload_n 1, 1) := by decide +kernel
theorem dX4_comes_79 : decode cX4_comes 79 = .ok (.iaload, 1) := by decide +kernel
theorem dX4_comes_80 : decode cX4_comes 80 = .ok (.iaload, 1) := by decide +kernel
theorem dX4_comes_81 : decode cX4_comes 81 = .ok (.goto 22, 3) := by decide +kernel
theorem dX4_comes_84 : decode cX4_comes 84 = .ok (.iload 6, 2) := by decide +kernel
theorem dX4_comes_86 : decode cX4_comes 86 = .ok (.iload_n 2, 1) := by decide +kernel
theorem dX4_comes_87 : decode cX4_comes 87 = .ok (.if_icmp .ne 7, 3) := by decide +kernel
theorem dX4_comes_90 : decode cX4_comes 90 = .ok (.iconst 0, 1) := by decide +kernel
theorem dX4_comes_91 : decode cX4_comes 91 = .ok (.goto 12, 3) := by decide +kernel
theorem dX4_comes_94 : decode cX4_comes 94 = .ok (.aload_n 0, 1) := by decide +kernel
theorem dX4_comes_95 : decode cX4_comes 95 = .ok (.getfield 68, 3) := by decide +kernel
theorem dX4_comes_98 : decode cX4_comes 98 = .ok (.iload 5, 2) := by decide +kernel
theorem dX4_comes_100 : decode cX4_comes 100 = .ok (.iaload, 1) := by decide +kernel
theorem dX4_comes_101 : decode cX4_comes 101 = .ok (.iconst 2, 1) := by decide +kernel
theorem dX4_comes_102 : decode cX4_comes 102 = .ok (.idiv, 1) := by decide +kernel
theorem dX4_comes_103 : decode cX4_comes 103 = .ok (.istore 4, 2) := by decide +kernel
theorem dX4_comes_105 : decode cX4_comes 105 = .ok (.iload 6, 2) := by decide +kernel
theorem dX4_comes_107 : decode cX4_comes 107 = .ok (.iconst (-1), 1) := by decide +kernel
theorem dX4_comes_108 : decode cX4_comes 108 = .ok (.if_icmp .eq 21, 3) := by decide +kernel
theorem dX4_comes_111 : decode cX4_comes 111 = .ok (.iload 6, 2) := by decide +kernel
theorem dX4_comes_113 : decode cX4_comes 113 = .ok (.iload_n 2, 1) := by decide +kernel
theorem dX4_comes_114 : decode cX4_comes 114 = .ok (.if_icmp .eq 15, 3) := by decide +kernel
theorem dX4_comes_117 : decode cX4_comes 117 = .ok (.aload_n 0, 1) := by decide +kernel
theorem dX4_comes_118 : decode cX4_comes 118 = .ok (.getfield 35, 3) := by decide +kernel
theorem dX4_comes_121 : decode cX4_comes 121 = .ok (.iload 6, 2) := by decide +kernel
theorem dX4_comes_123 : decode cX4_comes 123 = .ok (.dup2, 1) := by decide +kernel
theorem dX4_comes_124 : decode cX4_comes 124 = .ok (.iaload, 1) := by decide +kernel
theorem dX4_comes_125 : decode cX4_comes 125 = .ok (.iload 4, 2) := by decide +kernel
theorem dX4_comes_127 : decode cX4_comes 127 = .ok (.iadd, 1) := by decide +kernel
theorem dX4_comes_128 : decode cX4_comes 128 = .ok (.iastore, 1) := by decide +kernel
theorem dX4_comes_129 : decode cX4_comes 129 = .ok (.aload_n 0, 1) := by decide +kernel
theorem dX4_comes_130 : decode cX4_comes 130 = .ok (.getfield 65, 3) := by decide +kernel
theorem dX4_comes_133 : decode cX4_comes 133 = .ok (.iload 5, 2) := by decide +kernel
theorem dX4_comes_135 : decode cX4_comes 135 = .ok (.iconst 0, 1) := by decide +kernel
theorem dX4_comes_136 : decode cX4_comes 136 = .ok (.iastore, 1) := by decide +kernel
theorem dX4_comes_137 : decode cX4_comes 137 = .ok (.aload_n 0, 1) := by decide +kernel
theorem dX4_comes_138 : decode cX4_comes 138 = .ok (.getfield 68, 3) := by decide +kernel
theorem dX4_comes_141 : decode cX4_comes 141 = .ok (.iload 5, 2) := by decide +kernel
theorem dX4_comes_143 : decode cX4_comes 143 = .ok (.iconst 0, 1) := by decide +kernel
theorem dX4_comes_144 : decode cX4_comes 144 = .ok (.iastore, 1) := by decide +kernel
theorem dX4_comes_145 : decode cX4_comes 145 = .ok (.aload_n 0, 1) := by decide +kernel
theorem dX4_comes_146 : decode cX4_comes 146 = .ok (.getfield 62, 3) := by decide +kernel
theorem dX4_comes_149 : decode cX4_comes 149 = .ok (.iconst 4, 1) := by decide +kernel
theorem dX4_comes_150 : decode cX4_comes 150 = .ok (.iload_n 1, 1) := by decide +kernel
theorem dX4_comes_151 : decode cX4_comes 151 = .ok (.imul, 1) := by decide +kernel
theorem dX4_comes_152 : decode cX4_comes 152 = .ok (.iload_n 3, 1) := by decide +kernel
theorem dX4_comes_153 : decode cX4_comes 153 = .ok (.iadd, 1) := by decide +kernel
theorem dX4_comes_154 : decode cX4_comes 154 = .ok (.iload 4, 2) := by decide +kernel
theorem dX4_comes_156 : decode cX4_comes 156 = .ok (.iastore, 1) := by decide +kernel
theorem dX4_comes_157 : decode cX4_comes 157 = .ok (.aload_n 0, 1) := by decide +kernel
theorem dX4_comes_158 : decode cX4_comes 158 = .ok (.getfield 35, 3) := by decide +kernel
theorem dX4_comes_161 : decode cX4_comes 161 = .ok (.iload_n 2, 1) := by decide +kernel
theorem dX4_comes_162 : decode cX4_comes 162 = .ok (.dup2, 1) := by decide +kernel
theorem dX4_comes_163 : decode cX4_comes 163 = .ok (.iaload, 1) := by decide +kernel
theorem dX4_comes_164 : decode cX4_comes 164 = .ok (.iload 4, 2) := by decide +kernel
theorem dX4_comes_166 : decode cX4_comes 166 = .ok (.isub, 1) := by decide +kernel
theorem dX4_comes_167 : decode cX4_comes 167 = .ok (.iastore, 1) := by decide +kernel
theorem dX4_comes_168 : decode cX4_comes 168 = .ok (.iinc 3 1, 3) := by decide +kernel
theorem dX4_comes_171 : decode cX4_comes 171 = .ok (.goto (-162), 3) := by decide +kernel
theorem dX4_comes_174 : decode cX4_comes 174 = .ok (.return_, 1) := by decide +kernel
theorem dX4_decide_0 : decode cX4_decide 0 = .ok (.aload_n 0, 1) := by decide +kernel
theorem dX4_decide_1 : decode cX4_decide 1 = .ok (.aload_n 0, 1) := by decide +kernel
theorem dX4_decide_2 : decode cX4_decide 2 = .ok (.iload_n 1, 1) := by decide +kernel
theorem dX4_decide_3 : decode cX4_decide 3 = .ok (.invokevirtual 88, 3) := by decide +kernel
theorem dX4_decide_6 : decode cX4_decide 6 = .ok (.ifCond .ne 7, 3) := by decide +kernel
theorem dX4_decide_9 : decode cX4_decide 9 = .ok (.iconst 1, 1) := by decide +kernel
theorem dX4_decide_10 : decode cX4_decide 10 = .ok (.goto 18, 3) := by decide +kernel
theorem dX4_decide_13 : decode cX4_decide 13 = .ok (.aload_n 0, 1) := by decide +kernel
theorem dX4_decide_14 : decode cX4_decide 14 = .ok (.getfield 20, 3) := by decide +kernel
theorem dX4_decide_17 : decode cX4_decide 17 = .ok (.iload_n 1, 1) := by decide +kernel
theorem dX4_decide_18 : decode cX4_decide 18 = .ok (.iaload, 1) := by decide +kernel
theorem dX4_decide_19 : decode cX4_decide 19 = .ok (.iconst 1, 1) := by decide +kernel
theorem dX4_decide_20 : decode cX4_decide 20 = .ok (.if_icmp .eq 7, 3) := by decide +kernel
theorem dX4_decide_23 : decode cX4_decide 23 = .ok (.iconst 2, 1) := by decide +kernel
theorem dX4_decide_24 : decode cX4_decide 24 = .ok (.goto 4, 3) := by decide +kernel
theorem dX4_decide_27 : decode cX4_decide 27 = .ok (.iconst 0, 1) := by decide +kernel
theorem dX4_decide_28 : decode cX4_decide 28 = .ok (.putfield 71, 3) := by decide +kernel
theorem dX4_decide_31 : decode cX4_decide 31 = .ok (.aload_n 0, 1) := by decide +kernel
theorem dX4_decide_32 : decode cX4_decide 32 = .ok (.getfield 71, 3) := by decide +kernel
theorem dX4_decide_35 : decode cX4_decide 35 = .ok (.ifCond .le 5, 3) := by decide +kernel
theorem dX4_decide_38 : decode cX4_decide 38 = .ok (.iconst 0, 1) := by decide +kernel
theorem dX4_decide_39 : decode cX4_decide 39 = .ok (.ireturn, 1) := by decide +kernel
theorem dX4_decide_40 : decode cX4_decide 40 = .ok (.aload_n 0, 1) := by decide +kernel
theorem dX4_decide_41 : decode cX4_decide 41 = .ok (.getfield 20, 3) := by decide +kernel
theorem dX4_decide_44 : decode cX4_decide 44 = .ok (.iload_n 1, 1) := by decide +kernel
theorem dX4_decide_45 : decode cX4_decide 45 = .ok (.iconst 2, 1) := by decide +kernel
theorem dX4_decide_46 : decode cX4_decide 46 = .ok (.iastore, 1) := by decide +kernel
theorem dX4_decide_47 : decode cX4_decide 47 = .ok (.iconst 0, 1) := by decide +kernel
theorem dX4_decide_48 : decode cX4_decide 48 = .ok (.istore_n 2, 1) := by decide +kernel
theorem dX4_decide_49 : decode cX4_decide 49 = .ok (.iconst 0, 1) := by decide +kernel
theorem dX4_decide_50 : decode cX4_decide 50 = .ok (.istore_n 3, 1) := by decide +kernel
theorem dX4_decide_51 : decode cX4_decide 51 = .ok (.iload_n 3, 1) := by decide +kernel
theorem dX4_decide_52 : decode cX4_decide 52 = .ok (.aload_n 0, 1) := by decide +kernel
theorem dX4_decide_53 : decode cX4_decide 53 = .ok (.getfield 82, 3) := by decide +kernel
theorem dX4_decide_56 : decode cX4_decide 56 = .ok (.if_icmp .ge 43, 3) := by decide +kernel
theorem dX4_decide_59 : decode cX4_decide 59 = .ok (.aload_n 0, 1) := by decide +kernel
theorem dX4_decide_60 : decode cX4_decide 60 = .ok (.getfield 44, 3) := by decide +kernel
theorem dX4_decide_63 : decode cX4_decide 63 = .ok (.iload_n 3, 1) := by decide +kernel
theorem dX4_decide_64 : decode cX4_decide 64 = .ok (.iaload, 1) := by decide +kernel
theorem dX4_decide_65 : decode cX4_decide 65 = .ok (.iload_n 1, 1) := by decide +kernel
theorem dX4_decide_66 : decode cX4_decide 66 = .ok (.if_icmp .ne 27, 3) := by decide +kernel
theorem dX4_decide_69 : decode cX4_decide 69 = .ok (.aload_n 0, 1) := by decide +kernel
theorem dX4_decide_70 : decode cX4_decide 70 = .ok (.getfield 41, 3) := by decide +kernel
theorem dX4_decide_73 : decode cX4_decide 73 = .ok (.iload_n 3, 1) := by decide +kernel
theorem dX4_decide_74 : decode cX4_decide 74 = .ok (.iaload, 1) := by decide +kernel
theorem dX4_decide_75 : decode cX4_decide 75 = .ok (.ifCond .ne 18, 3) := by decide +kernel
theorem dX4_decide_78 : decode cX4_decide 78 = .ok (.aload_n 0, 1) := by decide +kernel
theorem dX4_decide_79 : decode cX4_decide 79 = .ok (.iload_n 3, 1) := by decide +kernel
theorem dX4_decide_80 : decode cX4_decide 80 = .ok (.invokevirtual 92, 3) := by decide +kernel
theorem dX4_decide_83 : decode cX4_decide 83 = .ok (.aload_n 0, 1) := by decide +kernel
theorem dX4_decide_84 : decode cX4_decide 84 = .ok (.getfield 41, 3) := by decide +kernel
theorem dX4_decide_87 : decode cX4_decide 87 = .ok (.iload_n 3, 1) := by decide +kernel
theorem dX4_decide_88 : decode cX4_decide 88 = .ok (.iconst 3, 1) := by decide +kernel
theorem dX4_decide_89 : decode cX4_decide 89 = .ok (.iastore, 1) := by decide +kernel
theorem dX4_decide_90 : decode cX4_decide 90 = .ok (.iinc 2 1, 3) := by decide +kernel
theorem dX4_decide_93 : decode cX4_decide 93 = .ok (.iinc 3 1, 3) := by decide +kernel
theorem dX4_decide_96 : decode cX4_decide 96 = .ok (.goto (-45), 3) := by decide +kernel
theorem dX4_decide_99 : decode cX4_decide 99 = .ok (.iload_n 2, 1) := by decide +kernel
theorem dX4_decide_100 : decode cX4_decide 100 = .ok (.ireturn, 1) := by decide +kernel
theorem dX4_appeal_0 : decode cX4_appeal 0 = .ok (.aload_n 0, 1) := by decide +kernel
theorem dX4_appeal_1 : decode cX4_appeal 1 = .ok (.aload_n 0, 1) := by decide +kernel
theorem dX4_appeal_2 : decode cX4_appeal 2 = .ok (.iload_n 1, 1) := by decide +kernel
theorem dX4_appeal_3 : decode cX4_appeal 3 = .ok (.invokevirtual 88, 3) := by decide +kernel
theorem dX4_appeal_6 : decode cX4_appeal 6 = .ok (.ifCond .ne 7, 3) := by decide +kernel
theorem dX4_appeal_9 : decode cX4_appeal 9 = .ok (.iconst 1, 1) := by decide +kernel
theorem dX4_appeal_10 : decode cX4_appeal 10 = .ok (.goto 27, 3) := by decide +kernel
theorem dX4_appeal_13 : decode cX4_appeal 13 = .ok (.aload_n 0, 1) := by decide +kernel
theorem dX4_appeal_14 : decode cX4_appeal 14 = .ok (.getfield 20, 3) := by decide +kernel
theorem dX4_appeal_17 : decode cX4_appeal 17 = .ok (.iload_n 1, 1) := by decide +kernel
theorem dX4_appeal_18 : decode cX4_appeal 18 = .ok (.iaload, 1) := by decide +kernel
theorem dX4_appeal_19 : decode cX4_appeal 19 = .ok (.iconst 2, 1) := by decide +kernel
theorem dX4_appeal_20 : decode cX4_appeal 20 = .ok (.if_icmp .ne 12, 3) := by decide +kernel
theorem dX4_appeal_23 : decode cX4_appeal 23 = .ok (.aload_n 0, 1) := by decide +kernel
theorem dX4_appeal_24 : decode cX4_appeal 24 = .ok (.getfield 35, 3) := by decide +kernel
theorem dX4_appeal_27 : decode cX4_appeal 27 = .ok (.iload_n 1, 1) := by decide +kernel
theorem dX4_appeal_28 : decode cX4_appeal 28 = .ok (.iaload, 1) := by decide +kernel
theorem dX4_appeal_29 : decode cX4_appeal 29 = .ok (.ifCond .ge 7, 3) := by decide +kernel
theorem dX4_appeal_32 : decode cX4_appeal 32 = .ok (.iconst 2, 1) := by decide +kernel
theorem dX4_appeal_33 : decode cX4_appeal 33 = .ok (.goto 4, 3) := by decide +kernel
theorem dX4_appeal_36 : decode cX4_appeal 36 = .ok (.iconst 0, 1) := by decide +kernel
theorem dX4_appeal_37 : decode cX4_appeal 37 = .ok (.putfield 71, 3) := by decide +kernel
theorem dX4_appeal_40 : decode cX4_appeal 40 = .ok (.aload_n 0, 1) := by decide +kernel
theorem dX4_appeal_41 : decode cX4_appeal 41 = .ok (.getfield 71, 3) := by decide +kernel
theorem dX4_appeal_44 : decode cX4_appeal 44 = .ok (.ifCond .le 5, 3) := by decide +kernel
theorem dX4_appeal_47 : decode cX4_appeal 47 = .ok (.iconst 0, 1) := by decide +kernel
theorem dX4_appeal_48 : decode cX4_appeal 48 = .ok (.ireturn, 1) := by decide +kernel
theorem dX4_appeal_49 : decode cX4_appeal 49 = .ok (.aload_n 0, 1) := by decide +kernel
theorem dX4_appeal_50 : decode cX4_appeal 50 = .ok (.getfield 20, 3) := by decide +kernel
theorem dX4_appeal_53 : decode cX4_appeal 53 = .ok (.iload_n 1, 1) := by decide +kernel
theorem dX4_appeal_54 : decode cX4_appeal 54 = .ok (.iconst 3, 1) := by decide +kernel
theorem dX4_appeal_55 : decode cX4_appeal 55 = .ok (.iastore, 1) := by decide +kernel
theorem dX4_appeal_56 : decode cX4_appeal 56 = .ok (.aload_n 0, 1) := by decide +kernel
theorem dX4_appeal_57 : decode cX4_appeal 57 = .ok (.getfield 35, 3) := by decide +kernel
theorem dX4_appeal_60 : decode cX4_appeal 60 = .ok (.iload_n 1, 1) := by decide +kernel
theorem dX4_appeal_61 : decode cX4_appeal 61 = .ok (.dup2, 1) := by decide +kernel
theorem dX4_appeal_62 : decode cX4_appeal 62 = .ok (.iaload, 1) := by decide +kernel
theorem dX4_appeal_63 : decode cX4_appeal 63 = .ok (.aload_n 0, 1) := by decide +kernel
theorem dX4_appeal_64 : decode cX4_appeal 64 = .ok (.getfield 16, 3) := by decide +kernel
theorem dX4_appeal_67 : decode cX4_appeal 67 = .ok (.aload_n 0, 1) := by decide +kernel
theorem dX4_appeal_68 : decode cX4_appeal 68 = .ok (.getfield 26, 3) := by decide +kernel
theorem dX4_appeal_71 : decode cX4_appeal 71 = .ok (.iload_n 1, 1) := by decide +kernel
theorem dX4_appeal_72 : decode cX4_appeal 72 = .ok (.iaload, 1) := by decide +kernel
theorem dX4_appeal_73 : decode cX4_appeal 73 = .ok (.baload, 1) := by decide +kernel
theorem dX4_appeal_74 : decode cX4_appeal 74 = .ok (.ifCond .eq 7, 3) := by decide +kernel
theorem dX4_appeal_77 : decode cX4_appeal 77 = .ok (.iconst 0, 1) := by decide +kernel
theorem dX4_appeal_78 : decode cX4_appeal 78 = .ok (.goto 5, 3) := by decide +kernel
theorem dX4_appeal_81 : decode cX4_appeal 81 = .ok (.bipush 80, 2) := by decide +kernel
theorem dX4_appeal_83 : decode cX4_appeal 83 = .ok (.isub, 1) := by decide +kernel
theorem dX4_appeal_84 : decode cX4_appeal 84 = .ok (.iastore, 1) := by decide +kernel
theorem dX4_appeal_85 : decode cX4_appeal 85 = .ok (.aload_n 0, 1) := by decide +kernel
theorem dX4_appeal_86 : decode cX4_appeal 86 = .ok (.getfield 35, 3) := by decide +kernel
theorem dX4_appeal_89 : decode cX4_appeal 89 = .ok (.iload_n 1, 1) := by decide +kernel
theorem dX4_appeal_90 : decode cX4_appeal 90 = .ok (.iaload, 1) := by decide +kernel
theorem dX4_appeal_91 : decode cX4_appeal 91 = .ok (.ireturn, 1) := by decide +kernel
theorem dX4_settle_0 : decode cX4_settle 0 = .ok (.aload_n 0, 1) := by decide +kernel
theorem dX4_settle_1 : decode cX4_settle 1 = .ok (.aload_n 0, 1) := by decide +kernel
theorem dX4_settle_2 : decode cX4_settle 2 = .ok (.iload_n 1, 1) := by decide +kernel
theorem dX4_settle_3 : decode cX4_settle 3 = .ok (.invokevirtual 88, 3) := by decide +kernel
theorem dX4_settle_6 : decode cX4_settle 6 = .ok (.ifCond .ne 7, 3) := by decide +kernel
theorem dX4_settle_9 : decode cX4_settle 9 = .ok (.iconst 1, 1) := by decide +kernel
theorem dX4_settle_10 : decode cX4_settle 10 = .ok (.goto 18, 3) := by decide +kernel
theorem dX4_settle_13 : decode cX4_settle 13 = .ok (.aload_n 0, 1) := by decide +kernel
theorem dX4_settle_14 : decode cX4_settle 14 = .ok (.getfield 20, 3) := by decide +kernel
theorem dX4_settle_17 : decode cX4_settle 17 = .ok (.iload_n 1, 1) := by decide +kernel
theorem dX4_settle_18 : decode cX4_settle 18 = .ok (.iaload, 1) := by decide +kernel
theorem dX4_settle_19 : decode cX4_settle 19 = .ok (.iconst 3, 1) := by decide +kernel
theorem dX4_settle_20 : decode cX4_settle 20 = .ok (.if_icmp .eq 7, 3) := by decide +kernel
theorem dX4_settle_23 : decode cX4_settle 23 = .ok (.iconst 2, 1) := by decide +kernel
theorem dX4_settle_24 : decode cX4_settle 24 = .ok (.goto 4, 3) := by decide +kernel
theorem dX4_settle_27 : decode cX4_settle 27 = .ok (.iconst 0, 1) := by decide +kernel
theorem dX4_settle_28 : decode cX4_settle 28 = .ok (.putfield 71, 3) := by decide +kernel
theorem dX4_settle_31 : decode cX4_settle 31 = .ok (.aload_n 0, 1) := by decide +kernel
theorem dX4_settle_32 : decode cX4_settle 32 = .ok (.getfield 71, 3) := by decide +kernel
theorem dX4_settle_35 : decode cX4_settle 35 = .ok (.ifCond .le 5, 3) := by decide +kernel
theorem dX4_settle_38 : decode cX4_settle 38 = .ok (.iconst 0, 1) := by decide +kernel
theorem dX4_settle_39 : decode cX4_settle 39 = .ok (.ireturn, 1) := by decide +kernel
theorem dX4_settle_40 : decode cX4_settle 40 = .ok (.aload_n 0, 1) := by decide +kernel
theorem dX4_settle_41 : decode cX4_settle 41 = .ok (.getfield 20, 3) := by decide +kernel
theorem dX4_settle_44 : decode cX4_settle 44 = .ok (.iload_n 1, 1) := by decide +kernel
theorem dX4_settle_45 : decode cX4_settle 45 = .ok (.iload_n 2, 1) := by decide +kernel
theorem dX4_settle_46 : decode cX4_settle 46 = .ok (.ifCond .eq 7, 3) := by decide +kernel
theorem dX4_settle_49 : decode cX4_settle 49 = .ok (.iconst 0, 1) := by decide +kernel
theorem dX4_settle_50 : decode cX4_settle 50 = .ok (.goto 4, 3) := by decide +kernel
theorem dX4_settle_53 : decode cX4_settle 53 = .ok (.iconst 2, 1) := by decide +kernel
theorem dX4_settle_54 : decode cX4_settle 54 = .ok (.iastore, 1) := by decide +kernel
theorem dX4_settle_55 : decode cX4_settle 55 = .ok (.aload_n 0, 1) := by decide +kernel
theorem dX4_settle_56 : decode cX4_settle 56 = .ok (.getfield 38, 3) := by decide +kernel
theorem dX4_settle_59 : decode cX4_settle 59 = .ok (.iload_n 1, 1) := by decide +kernel
theorem dX4_settle_60 : decode cX4_settle 60 = .ok (.iaload, 1) := by decide +kernel
theorem dX4_settle_61 : decode cX4_settle 61 = .ok (.ireturn, 1) := by decide +kernel
theorem dX4_close_0 : decode cX4_close 0 = .ok (.aload_n 0, 1) := by decide +kernel
theorem dX4_close_1 : decode cX4_close 1 = .ok (.aload_n 0, 1) := by decide +kernel
theorem dX4_close_2 : decode cX4_close 2 = .ok (.iload_n 1, 1) := by decide +kernel
theorem dX4_close_3 : decode cX4_close 3 = .ok (.invokevirtual 88, 3) := by decide +kernel
theorem dX4_close_6 : decode cX4_close 6 = .ok (.ifCond .ne 7, 3) := by decide +kernel
theorem dX4_close_9 : decode cX4_close 9 = .ok (.iconst 1, 1) := by decide +kernel
theorem dX4_close_10 : decode cX4_close 10 = .ok (.goto 18, 3) := by decide +kernel
theorem dX4_close_13 : decode cX4_close 13 = .ok (.aload_n 0, 1) := by decide +kernel
theorem dX4_close_14 : decode cX4_close 14 = .ok (.getfield 20, 3) := by decide +kernel
theorem dX4_close_17 : decode cX4_close 17 = .ok (.iload_n 1, 1) := by decide +kernel
theorem dX4_close_18 : decode cX4_close 18 = .ok (.iaload, 1) := by decide +kernel
theorem dX4_close_19 : decode cX4_close 19 = .ok (.iconst 2, 1) := by decide +kernel
theorem dX4_close_20 : decode cX4_close 20 = .ok (.if_icmp .eq 7, 3) := by decide +kernel
theorem dX4_close_23 : decode cX4_close 23 = .ok (.iconst 2, 1) := by decide +kernel
theorem dX4_close_24 : decode cX4_close 24 = .ok (.goto 4, 3) := by decide +kernel
theorem dX4_close_27 : decode cX4_close 27 = .ok (.iconst 0, 1) := by decide +kernel
theorem dX4_close_28 : decode cX4_close 28 = .ok (.putfield 71, 3) := by decide +kernel
theorem dX4_close_31 : decode cX4_close 31 = .ok (.aload_n 0, 1) := by decide +kernel
theorem dX4_close_32 : decode cX4_close 32 = .ok (.getfield 71, 3) := by decide +kernel
theorem dX4_close_35 : decode cX4_close 35 = .ok (.ifCond .le 5, 3) := by decide +kernel
theorem dX4_close_38 : decode cX4_close 38 = .ok (.iconst 0, 1) := by decide +kernel
theorem dX4_close_39 : decode cX4_close 39 = .ok (.ireturn, 1) := by decide +kernel
theorem dX4_close_40 : decode cX4_close 40 = .ok (.aload_n 0, 1) := by decide +kernel
theorem dX4_close_41 : decode cX4_close 41 = .ok (.getfield 20, 3) := by decide +kernel
theorem dX4_close_44 : decode cX4_close 44 = .ok (.iload_n 1, 1) := by decide +kernel
theorem dX4_close_45 : decode cX4_close 45 = .ok (.iconst 4, 1) := by decide +kernel
theorem dX4_close_46 : decode cX4_close 46 = .ok (.iastore, 1) := by decide +kernel
theorem dX4_close_47 : decode cX4_close 47 = .ok (.aload_n 0, 1) := by decide +kernel
theorem dX4_close_48 : decode cX4_close 48 = .ok (.getfield 35, 3) := by decide +kernel
theorem dX4_close_51 : decode cX4_close 51 = .ok (.iload_n 1, 1) := by decide +kernel
theorem dX4_close_52 : decode cX4_close 52 = .ok (.iaload, 1) := by decide +kernel
theorem dX4_close_53 : decode cX4_close 53 = .ok (.ireturn, 1) := by decide +kernel
theorem dX4_meets_0 : decode cX4_meets 0 = .ok (.iload_n 0, 1) := by decide +kernel
theorem dX4_meets_1 : decode cX4_meets 1 = .ok (.iload_n 2, 1) := by decide +kernel
theorem dX4_meets_2 : decode cX4_meets 2 = .ok (.iload_n 3, 1) := by decide +kernel
theorem dX4_meets_3 : decode cX4_meets 3 = .ok (.iadd, 1) := by decide +kernel
theorem dX4_meets_4 : decode cX4_meets 4 = .ok (.if_icmp .ge 14, 3) := by decide +kernel
theorem dX4_meets_7 : decode cX4_meets 7 = .ok (.iload_n 2, 1) := by decide +kernel
theorem dX4_meets_8 : decode cX4_meets 8 = .ok (.iload_n 0, 1) := by decide +kernel
theorem dX4_meets_9 : decode cX4_meets 9 = .ok (.iload_n 1, 1) := by decide +kernel
theorem dX4_meets_10 : decode cX4_meets 10 = .ok (.iadd, 1) := by decide +kernel
theorem dX4_meets_11 : decode cX4_meets 11 = .ok (.if_icmp .ge 7, 3) := by decide +kernel
theorem dX4_meets_14 : decode cX4_meets 14 = .ok (.iconst 1, 1) := by decide +kernel
theorem dX4_meets_15 : decode cX4_meets 15 = .ok (.goto 4, 3) := by decide +kernel
theorem dX4_meets_18 : decode cX4_meets 18 = .ok (.iconst 0, 1) := by decide +kernel
theorem dX4_meets_19 : decode cX4_meets 19 = .ok (.ireturn, 1) := by decide +kernel
theorem dX4_clashes_0 : decode cX4_clashes 0 = .ok (.iconst 0, 1) := by decide +kernel
theorem dX4_clashes_1 : decode cX4_clashes 1 = .ok (.istore 8, 2) := by decide +kernel
theorem dX4_clashes_3 : decode cX4_clashes 3 = .ok (.iconst 0, 1) := by decide +kernel
theorem dX4_clashes_4 : decode cX4_clashes 4 = .ok (.istore 9, 2) := by decide +kernel
theorem dX4_clashes_6 : decode cX4_clashes 6 = .ok (.iload 9, 2) := by decide +kernel
theorem dX4_clashes_8 : decode cX4_clashes 8 = .ok (.aload_n 0, 1) := by decide +kernel
theorem dX4_clashes_9 : decode cX4_clashes 9 = .ok (.getfield 82, 3) := by decide +kernel
theorem dX4_clashes_12 : decode cX4_clashes 12 = .ok (.if_icmp .ge 231, 3) := by decide +kernel
theorem dX4_clashes_15 : decode cX4_clashes 15 = .ok (.aload_n 0, 1) := by decide +kernel
theorem dX4_clashes_16 : decode cX4_clashes 16 = .ok (.getfield 44, 3) := by decide +kernel
theorem dX4_clashes_19 : decode cX4_clashes 19 = .ok (.iload 9, 2) := by decide +kernel
theorem dX4_clashes_21 : decode cX4_clashes 21 = .ok (.iaload, 1) := by decide +kernel
theorem dX4_clashes_22 : decode cX4_clashes 22 = .ok (.istore 10, 2) := by decide +kernel
theorem dX4_clashes_24 : decode cX4_clashes 24 = .ok (.iload_n 1, 1) := by decide +kernel
theorem dX4_clashes_25 : decode cX4_clashes 25 = .ok (.iconst 1, 1) := by decide +kernel
theorem dX4_clashes_26 : decode cX4_clashes 26 = .ok (.if_icmp .ne 22, 3) := by decide +kernel
theorem dX4_clashes_29 : decode cX4_clashes 29 = .ok (.aload_n 0, 1) := by decide +kernel
theorem dX4_clashes_30 : decode cX4_clashes 30 = .ok (.getfield 47, 3) := by decide +kernel
theorem dX4_clashes_33 : decode cX4_clashes 33 = .ok (.iload 9, 2) := by decide +kernel
theorem dX4_clashes_35 : decode cX4_clashes 35 = .ok (.iaload, 1) := by decide +kernel
theorem dX4_clashes_36 : decode cX4_clashes 36 = .ok (.iload_n 3, 1) := by decide +kernel
theorem dX4_clashes_37 : decode cX4_clashes 37 = .ok (.if_icmp .ne 7, 3) := by decide +kernel
theorem dX4_clashes_40 : decode cX4_clashes 40 = .ok (.iconst 1, 1) := by decide +kernel
theorem dX4_clashes_41 : decode cX4_clashes 41 = .ok (.goto 136, 3) := by decide +kernel
theorem dX4_clashes_44 : decode cX4_clashes 44 = .ok (.iconst 0, 1) := by decide +kernel
theorem dX4_clashes_45 : decode cX4_clashes 45 = .ok (.goto 132, 3) := by decide +kernel
theorem dX4_clashes_48 : decode cX4_clashes 48 = .ok (.iload_n 1, 1) := by decide +kernel
theorem dX4_clashes_49 : decode cX4_clashes 49 = .ok (.iconst 2, 1) := by decide +kernel
theorem dX4_clashes_50 : decode cX4_clashes 50 = .ok (.if_icmp .ne 27, 3) := by decide +kernel
theorem dX4_clashes_53 : decode cX4_clashes 53 = .ok (.aload_n 0, 1) := by decide +kernel
theorem dX4_clashes_54 : decode cX4_clashes 54 = .ok (.getfield 23, 3) := by decide +kernel
theorem dX4_clashes_57 : decode cX4_clashes 57 = .ok (.iload 10, 2) := by decide +kernel
theorem dX4_clashes_59 : decode cX4_clashes 59 = .ok (.iaload, 1) := by decide +kernel
theorem dX4_clashes_60 : decode cX4_clashes 60 = .ok (.aload_n 0, 1) := by decide +kernel
theorem dX4_clashes_61 : decode cX4_clashes 61 = .ok (.getfield 23, 3) := by decide +kernel
theorem dX4_clashes_64 : decode cX4_clashes 64 = .ok (.iload_n 2, 1) := by decide +kernel
theorem dX4_clashes_65 : decode cX4_clashes 65 = .ok (.iaload, 1) := by decide +kernel
theorem dX4_clashes_66 : decode cX4_clashes 66 = .ok (.if_icmp .ne 7, 3) := by decide +kernel
theorem dX4_clashes_69 : decode cX4_clashes 69 = .ok (.iconst 1, 1) := by decide +kernel
theorem dX4_clashes_70 : decode cX4_clashes 70 = .ok (.goto 107, 3) := by decide +kernel
theorem dX4_clashes_73 : decode cX4_clashes 73 = .ok (.iconst 0, 1) := by decide +kernel
theorem dX4_clashes_74 : decode cX4_clashes 74 = .ok (.goto 103, 3) := by decide +kernel
theorem dX4_clashes_77 : decode cX4_clashes 77 = .ok (.iload_n 1, 1) := by decide +kernel
theorem dX4_clashes_78 : decode cX4_clashes 78 = .ok (.iconst 3, 1) := by decide +kernel
theorem dX4_clashes_79 : decode cX4_clashes 79 = .ok (.if_icmp .ne 75, 3) := by decide +kernel
theorem dX4_clashes_82 : decode cX4_clashes 82 = .ok (.aload_n 0, 1) := by decide +kernel
theorem dX4_clashes_83 : decode cX4_clashes 83 = .ok (.getfield 26, 3) := by decide +kernel
theorem dX4_clashes_86 : decode cX4_clashes 86 = .ok (.iload 10, 2) := by decide +kernel
theorem dX4_clashes_88 : decode cX4_clashes 88 = .ok (.iaload, 1) := by decide +kernel
theorem dX4_clashes_89 : decode cX4_clashes 89 = .ok (.aload_n 0, 1) := by decide +kernel
theorem dX4_clashes_90 : decode cX4_clashes 90 = .ok (.getfield 26, 3) := by decide +kernel
theorem dX4_clashes_93 : decode cX4_clashes 93 = .ok (.iload_n 2, 1) := by decide +kernel
theorem dX4_clashes_94 : decode cX4_clashes 94 = .ok (.iaload, 1) := by decide +kernel
theorem dX4_clashes_95 : decode cX4_clashes 95 = .ok (.if_icmp .eq 51, 3) := by decide +kernel
theorem dX4_clashes_98 : decode cX4_clashes 98 = .ok (.aload_n 0, 1) := by decide +kernel
theorem dX4_clashes_99 : decode cX4_clashes 99 = .ok (.getfield 26, 3) := by decide +kernel
theorem dX4_clashes_102 : decode cX4_clashes 102 = .ok (.iload 10, 2) := by decide +kernel
theorem dX4_clashes_104 : decode cX4_clashes 104 = .ok (.iaload, 1) := by decide +kernel
theorem dX4_clashes_105 : decode cX4_clashes 105 = .ok (.aload_n 0, 1) := by decide +kernel
theorem dX4_clashes_106 : decode cX4_clashes 106 = .ok (.getfield 29, 3) := by decide +kernel
theorem dX4_clashes_109 : decode cX4_clashes 109 = .ok (.iload_n 2, 1) := by decide +kernel
theorem dX4_clashes_110 : decode cX4_clashes 110 = .ok (.iaload, 1) := by decide +kernel
theorem dX4_clashes_111 : decode cX4_clashes 111 = .ok (.if_icmp .eq 35, 3) := by decide +kernel
theorem dX4_clashes_114 : decode cX4_clashes 114 = .ok (.aload_n 0, 1) := by decide +kernel
theorem dX4_clashes_115 : decode cX4_clashes 115 = .ok (.getfield 29, 3) := by decide +kernel
theorem dX4_clashes_118 : decode cX4_clashes 118 = .ok (.iload 10, 2) := by decide +kernel
theorem dX4_clashes_120 : decode cX4_clashes 120 = .ok (.iaload, 1) := by decide +kernel
theorem dX4_clashes_121 : decode cX4_clashes 121 = .ok (.aload_n 0, 1) := by decide +kernel
theorem dX4_clashes_122 : decode cX4_clashes 122 = .ok (.getfield 26, 3) := by decide +kernel
theorem dX4_clashes_125 : decode cX4_clashes 125 = .ok (.iload_n 2, 1) := by decide +kernel
theorem dX4_clashes_126 : decode cX4_clashes 126 = .ok (.iaload, 1) := by decide +kernel
theorem dX4_clashes_127 : decode cX4_clashes 127 = .ok (.if_icmp .eq 19, 3) := by decide +kernel
theorem dX4_clashes_130 : decode cX4_clashes 130 = .ok (.aload_n 0, 1) := by decide +kernel
theorem dX4_clashes_131 : decode cX4_clashes 131 = .ok (.getfield 29, 3) := by decide +kernel
theorem dX4_clashes_134 : decode cX4_clashes 134 = .ok (.iload 10, 2) := by decide +kernel
theorem dX4_clashes_136 : decode cX4_clashes 136 = .ok (.iaload, 1) := by decide +kernel
theorem dX4_clashes_137 : decode cX4_clashes 137 = .ok (.aload_n 0, 1) := by decide +kernel
theorem dX4_clashes_138 : decode cX4_clashes 138 = .ok (.getfield 29, 3) := by decide +kernel
theorem dX4_clashes_141 : decode cX4_clashes 141 = .ok (.iload_n 2, 1) := by decide +kernel
theorem dX4_clashes_142 : decode cX4_clashes 142 = .ok (.iaload, 1) := by decide +kernel
theorem dX4_clashes_143 : decode cX4_clashes 143 = .ok (.if_icmp .ne 7, 3) := by decide +kernel
theorem dX4_clashes_146 : decode cX4_clashes 146 = .ok (.iconst 1, 1) := by decide +kernel
theorem dX4_clashes_147 : decode cX4_clashes 147 = .ok (.goto 30, 3) := by decide +kernel
theorem dX4_clashes_150 : decode cX4_clashes 150 = .ok (.iconst 0, 1) := by decide +kernel
theorem dX4_clashes_151 : decode cX4_clashes 151 = .ok (.goto 26, 3) := by decide +kernel
theorem dX4_clashes_154 : decode cX4_clashes 154 = .ok (.iload 4, 2) := by decide +kernel
theorem dX4_clashes_156 : decode cX4_clashes 156 = .ok (.iconst (-1), 1) := by decide +kernel
theorem dX4_clashes_157 : decode cX4_clashes 157 = .ok (.if_icmp .eq 19, 3) := by decide +kernel
theorem dX4_clashes_160 : decode cX4_clashes 160 = .ok (.aload_n 0, 1) := by decide +kernel
theorem dX4_clashes_161 : decode cX4_clashes 161 = .ok (.getfield 50, 3) := by decide +kernel
theorem dX4_clashes_164 : decode cX4_clashes 164 = .ok (.iload 9, 2) := by decide +kernel
theorem dX4_clashes_166 : decode cX4_clashes 166 = .ok (.iaload, 1) := by decide +kernel
theorem dX4_clashes_167 : decode cX4_clashes 167 = .ok (.iload 4, 2) := by decide +kernel
theorem dX4_clashes_169 : decode cX4_clashes 169 = .ok (.if_icmp .ne 7, 3) := by decide +kernel
theorem dX4_clashes_172 : decode cX4_clashes 172 = .ok (.iconst 1, 1) := by decide +kernel
theorem dX4_clashes_173 : decode cX4_clashes 173 = .ok (.goto 4, 3) := by decide +kernel
theorem dX4_clashes_176 : decode cX4_clashes 176 = .ok (.iconst 0, 1) := by decide +kernel
theorem dX4_clashes_177 : decode cX4_clashes 177 = .ok (.istore 11, 2) := by decide +kernel
theorem dX4_clashes_179 : decode cX4_clashes 179 = .ok (.iload 8, 2) := by decide +kernel
theorem dX4_clashes_181 : decode cX4_clashes 181 = .ok (.ifCond .ne 49, 3) := by decide +kernel
theorem dX4_clashes_184 : decode cX4_clashes 184 = .ok (.iload 9, 2) := by decide +kernel
theorem dX4_clashes_186 : decode cX4_clashes 186 = .ok (.iload 7, 2) := by decide +kernel
theorem dX4_clashes_188 : decode cX4_clashes 188 = .ok (.if_icmp .eq 46, 3) := by decide +kernel
theorem dX4_clashes_191 : decode cX4_clashes 191 = .ok (.aload_n 0, 1) := by decide +kernel
theorem dX4_clashes_192 : decode cX4_clashes 192 = .ok (.getfield 41, 3) := by decide +kernel
theorem dX4_clashes_195 : decode cX4_clashes 195 = .ok (.iload 9, 2) := by decide +kernel
theorem dX4_clashes_197 : decode cX4_clashes 197 = .ok (.iaload, 1) := by decide +kernel
theorem dX4_clashes_198 : decode cX4_clashes 198 = .ok (.ifCond .ne 36, 3) := by decide +kernel
theorem dX4_clashes_201 : decode cX4_clashes 201 = .ok (.iload 11, 2) := by decide +kernel
theorem dX4_clashes_203 : decode cX4_clashes 203 = .ok (.ifCond .eq 31, 3) := by decide +kernel
theorem dX4_clashes_206 : decode cX4_clashes 206 = .ok (.aload_n 0, 1) := by decide +kernel
theorem dX4_clashes_207 : decode cX4_clashes 207 = .ok (.getfield 53, 3) := by decide +kernel
theorem dX4_clashes_210 : decode cX4_clashes 210 = .ok (.iload 9, 2) := by decide +kernel
theorem dX4_clashes_212 : decode cX4_clashes 212 = .ok (.iaload, 1) := by decide +kernel
theorem dX4_clashes_213 : decode cX4_clashes 213 = .ok (.aload_n 0, 1) := by decide +kernel
theorem dX4_clashes_214 : decode cX4_clashes 214 = .ok (.getfield 56, 3) := by decide +kernel
theorem dX4_clashes_217 : decode cX4_clashes 217 = .ok (.iload 9, 2) := by decide +kernel
theorem dX4_clashes_219 : decode cX4_clashes 219 = .ok (.iaload, 1) := by decide +kernel
theorem dX4_clashes_220 : decode cX4_clashes 220 = .ok (.iload 5, 2) := by decide +kernel
theorem dX4_clashes_222 : decode cX4_clashes 222 = .ok (.iload 6, 2) := by decide +kernel
theorem dX4_clashes_224 : decode cX4_clashes 224 = .ok (.invokestatic 96, 3) := by decide +kernel
theorem dX4_clashes_227 : decode cX4_clashes 227 = .ok (.ifCond .eq 7, 3) := by decide +kernel
theorem dX4_clashes_230 : decode cX4_clashes 230 = .ok (.iconst 1, 1) := by decide +kernel
theorem dX4_clashes_231 : decode cX4_clashes 231 = .ok (.goto 4, 3) := by decide +kernel
theorem dX4_clashes_234 : decode cX4_clashes 234 = .ok (.iconst 0, 1) := by decide +kernel
theorem dX4_clashes_235 : decode cX4_clashes 235 = .ok (.istore 8, 2) := by decide +kernel
theorem dX4_clashes_237 : decode cX4_clashes 237 = .ok (.iinc 9 1, 3) := by decide +kernel
theorem dX4_clashes_240 : decode cX4_clashes 240 = .ok (.goto (-234), 3) := by decide +kernel
theorem dX4_clashes_243 : decode cX4_clashes 243 = .ok (.iload 8, 2) := by decide +kernel
theorem dX4_clashes_245 : decode cX4_clashes 245 = .ok (.ireturn, 1) := by decide +kernel
theorem dX4_reason_0 : decode cX4_reason 0 = .ok (.iconst 1, 1) := by decide +kernel
theorem dX4_reason_1 : decode cX4_reason 1 = .ok (.istore 7, 2) := by decide +kernel
theorem dX4_reason_3 : decode cX4_reason 3 = .ok (.iload 7, 2) := by decide +kernel
theorem dX4_reason_5 : decode cX4_reason 5 = .ok (.iconst 5, 1) := by decide +kernel
theorem dX4_reason_6 : decode cX4_reason 6 = .ok (.if_icmp .ge 30, 3) := by decide +kernel
theorem dX4_reason_9 : decode cX4_reason 9 = .ok (.aload_n 0, 1) := by decide +kernel
theorem dX4_reason_10 : decode cX4_reason 10 = .ok (.iload 7, 2) := by decide +kernel
theorem dX4_reason_12 : decode cX4_reason 12 = .ok (.iload_n 1, 1) := by decide +kernel
theorem dX4_reason_13 : decode cX4_reason 13 = .ok (.iload_n 2, 1) := by decide +kernel
theorem dX4_reason_14 : decode cX4_reason 14 = .ok (.iload_n 3, 1) := by decide +kernel
theorem dX4_reason_15 : decode cX4_reason 15 = .ok (.iload 4, 2) := by decide +kernel
theorem dX4_reason_17 : decode cX4_reason 17 = .ok (.iload 5, 2) := by decide +kernel
theorem dX4_reason_19 : decode cX4_reason 19 = .ok (.iload 6, 2) := by decide +kernel
theorem dX4_reason_21 : decode cX4_reason 21 = .ok (.invokevirtual 100, 3) := by decide +kernel
theorem dX4_reason_24 : decode cX4_reason 24 = .ok (.ifCond .eq 6, 3) := by decide +kernel
theorem dX4_reason_27 : decode cX4_reason 27 = .ok (.iload 7, 2) := by decide +kernel
theorem dX4_reason_29 : decode cX4_reason 29 = .ok (.ireturn, 1) := by decide +kernel
theorem dX4_reason_30 : decode cX4_reason 30 = .ok (.iinc 7 1, 3) := by decide +kernel
theorem dX4_reason_33 : decode cX4_reason 33 = .ok (.goto (-30), 3) := by decide +kernel
theorem dX4_reason_36 : decode cX4_reason 36 = .ok (.iconst 0, 1) := by decide +kernel
theorem dX4_reason_37 : decode cX4_reason 37 = .ok (.ireturn, 1) := by decide +kernel
theorem dX4_fits_0 : decode cX4_fits 0 = .ok (.aload_n 0, 1) := by decide +kernel
theorem dX4_fits_1 : decode cX4_fits 1 = .ok (.getfield 32, 3) := by decide +kernel
theorem dX4_fits_4 : decode cX4_fits 4 = .ok (.iload_n 1, 1) := by decide +kernel
theorem dX4_fits_5 : decode cX4_fits 5 = .ok (.iaload, 1) := by decide +kernel
theorem dX4_fits_6 : decode cX4_fits 6 = .ok (.iconst (-1), 1) := by decide +kernel
theorem dX4_fits_7 : decode cX4_fits 7 = .ok (.if_icmp .ne 16, 3) := by decide +kernel
theorem dX4_fits_10 : decode cX4_fits 10 = .ok (.iload_n 2, 1) := by decide +kernel
theorem dX4_fits_11 : decode cX4_fits 11 = .ok (.iconst (-1), 1) := by decide +kernel
theorem dX4_fits_12 : decode cX4_fits 12 = .ok (.if_icmp .ne 7, 3) := by decide +kernel
theorem dX4_fits_15 : decode cX4_fits 15 = .ok (.iconst 1, 1) := by decide +kernel
theorem dX4_fits_16 : decode cX4_fits 16 = .ok (.goto 36, 3) := by decide +kernel
theorem dX4_fits_19 : decode cX4_fits 19 = .ok (.iconst 0, 1) := by decide +kernel
theorem dX4_fits_20 : decode cX4_fits 20 = .ok (.goto 32, 3) := by decide +kernel
theorem dX4_fits_23 : decode cX4_fits 23 = .ok (.iload_n 2, 1) := by decide +kernel
theorem dX4_fits_24 : decode cX4_fits 24 = .ok (.iconst (-1), 1) := by decide +kernel
theorem dX4_fits_25 : decode cX4_fits 25 = .ok (.if_icmp .eq 26, 3) := by decide +kernel
theorem dX4_fits_28 : decode cX4_fits 28 = .ok (.aload_n 0, 1) := by decide +kernel
theorem dX4_fits_29 : decode cX4_fits 29 = .ok (.getfield 7, 3) := by decide +kernel
theorem dX4_fits_32 : decode cX4_fits 32 = .ok (.iload_n 2, 1) := by decide +kernel
theorem dX4_fits_33 : decode cX4_fits 33 = .ok (.iaload, 1) := by decide +kernel
theorem dX4_fits_34 : decode cX4_fits 34 = .ok (.aload_n 0, 1) := by decide +kernel
theorem dX4_fits_35 : decode cX4_fits 35 = .ok (.getfield 32, 3) := by decide +kernel
theorem dX4_fits_38 : decode cX4_fits 38 = .ok (.iload_n 1, 1) := by decide +kernel
theorem dX4_fits_39 : decode cX4_fits 39 = .ok (.iaload, 1) := by decide +kernel
theorem dX4_fits_40 : decode cX4_fits 40 = .ok (.ishr, 1) := by decide +kernel
theorem dX4_fits_41 : decode cX4_fits 41 = .ok (.iconst 1, 1) := by decide +kernel
theorem dX4_fits_42 : decode cX4_fits 42 = .ok (.iand, 1) := by decide +kernel
theorem dX4_fits_43 : decode cX4_fits 43 = .ok (.iconst 1, 1) := by decide +kernel
theorem dX4_fits_44 : decode cX4_fits 44 = .ok (.if_icmp .ne 7, 3) := by decide +kernel
theorem dX4_fits_47 : decode cX4_fits 47 = .ok (.iconst 1, 1) := by decide +kernel
theorem dX4_fits_48 : decode cX4_fits 48 = .ok (.goto 4, 3) := by decide +kernel
theorem dX4_fits_51 : decode cX4_fits 51 = .ok (.iconst 0, 1) := by decide +kernel
theorem dX4_fits_52 : decode cX4_fits 52 = .ok (.ireturn, 1) := by decide +kernel
theorem dX4_isOpen_0 : decode cX4_isOpen 0 = .ok (.aload_n 0, 1) := by decide +kernel
theorem dX4_isOpen_1 : decode cX4_isOpen 1 = .ok (.getfield 20, 3) := by decide +kernel
theorem dX4_isOpen_4 : decode cX4_isOpen 4 = .ok (.iload_n 1, 1) := by decide +kernel
theorem dX4_isOpen_5 : decode cX4_isOpen 5 = .ok (.iaload, 1) := by decide +kernel
theorem dX4_isOpen_6 : decode cX4_isOpen 6 = .ok (.ifCond .eq 13, 3) := by decide +kernel
theorem dX4_isOpen_9 : decode cX4_isOpen 9 = .ok (.aload_n 0, 1) := by decide +kernel
theorem dX4_isOpen_10 : decode cX4_isOpen 10 = .ok (.getfield 20, 3) := by decide +kernel
theorem dX4_isOpen_13 : decode cX4_isOpen 13 = .ok (.iload_n 1, 1) := by decide +kernel
theorem dX4_isOpen_14 : decode cX4_isOpen 14 = .ok (.iaload, 1) := by decide +kernel
theorem dX4_isOpen_15 : decode cX4_isOpen 15 = .ok (.iconst 1, 1) := by decide +kernel
theorem dX4_isOpen_16 : decode cX4_isOpen 16 = .ok (.if_icmp .ne 7, 3) := by decide +kernel
theorem dX4_isOpen_19 : decode cX4_isOpen 19 = .ok (.iconst 1, 1) := by decide +kernel
theorem dX4_isOpen_20 : decode cX4_isOpen 20 = .ok (.goto 4, 3) := by decide +kernel
theorem dX4_isOpen_23 : decode cX4_isOpen 23 = .ok (.iconst 0, 1) := by decide +kernel
theorem dX4_isOpen_24 : decode cX4_isOpen 24 = .ok (.ireturn, 1) := by decide +kernel
theorem dX4_plan_0 : decode cX4_plan 0 = .ok (.aload_n 0, 1) := by decide +kernel
theorem dX4_plan_1 : decode cX4_plan 1 = .ok (.iload_n 1, 1) := by decide +kernel
theorem dX4_plan_2 : decode cX4_plan 2 = .ok (.invokevirtual 88, 3) := by decide +kernel
theorem dX4_plan_5 : decode cX4_plan 5 = .ok (.ifCond .eq 19, 3) := by decide +kernel
theorem dX4_plan_8 : decode cX4_plan 8 = .ok (.iload_n 2, 1) := by decide +kernel
theorem dX4_plan_9 : decode cX4_plan 9 = .ok (.iconst 0, 1) := by decide +kernel
theorem dX4_plan_10 : decode cX4_plan 10 = .ok (.iconst 3, 1) := by decide +kernel
theorem dX4_plan_11 : decode cX4_plan 11 = .ok (.invokestatic 78, 3) := by decide +kernel
theorem dX4_plan_14 : decode cX4_plan 14 = .ok (.ifCond .eq 10, 3) := by decide +kernel
theorem dX4_plan_17 : decode cX4_plan 17 = .ok (.iload_n 3, 1) := by decide +kernel
theorem dX4_plan_18 : decode cX4_plan 18 = .ok (.invokestatic 104, 3) := by decide +kernel
theorem dX4_plan_21 : decode cX4_plan 21 = .ok (.ifCond .ne 10, 3) := by decide +kernel
theorem dX4_plan_24 : decode cX4_plan 24 = .ok (.aload_n 0, 1) := by decide +kernel
theorem dX4_plan_25 : decode cX4_plan 25 = .ok (.iconst 1, 1) := by decide +kernel
theorem dX4_plan_26 : decode cX4_plan 26 = .ok (.putfield 71, 3) := by decide +kernel
theorem dX4_plan_29 : decode cX4_plan 29 = .ok (.iconst 0, 1) := by decide +kernel
theorem dX4_plan_30 : decode cX4_plan 30 = .ok (.ireturn, 1) := by decide +kernel
theorem dX4_plan_31 : decode cX4_plan 31 = .ok (.aload_n 0, 1) := by decide +kernel
theorem dX4_plan_32 : decode cX4_plan 32 = .ok (.iload 4, 2) := by decide +kernel
theorem dX4_plan_34 : decode cX4_plan 34 = .ok (.aload_n 0, 1) := by decide +kernel
theorem dX4_plan_35 : decode cX4_plan 35 = .ok (.getfield 85, 3) := by decide +kernel
theorem dX4_plan_38 : decode cX4_plan 38 = .ok (.iconst 1, 1) := by decide +kernel
theorem dX4_plan_39 : decode cX4_plan 39 = .ok (.iadd, 1) := by decide +kernel
theorem dX4_plan_40 : decode cX4_plan 40 = .ok (.sipush 999, 3) := by decide +kernel
theorem dX4_plan_43 : decode cX4_plan 43 = .ok (.invokestatic 78, 3) := by decide +kernel
theorem dX4_plan_46 : decode cX4_plan 46 = .ok (.ifCond .eq 13, 3) := by decide +kernel
theorem dX4_plan_49 : decode cX4_plan 49 = .ok (.iload 5, 2) := by decide +kernel
theorem dX4_plan_51 : decode cX4_plan 51 = .ok (.iconst 1, 1) := by decide +kernel
theorem dX4_plan_52 : decode cX4_plan 52 = .ok (.iconst 4, 1) := by decide +kernel
theorem dX4_plan_53 : decode cX4_plan 53 = .ok (.invokestatic 78, 3) := by decide +kernel
theorem dX4_plan_56 : decode cX4_plan 56 = .ok (.ifCond .ne 7, 3) := by decide +kernel
theorem dX4_plan_59 : decode cX4_plan 59 = .ok (.iconst 2, 1) := by decide +kernel
theorem dX4_plan_60 : decode cX4_plan 60 = .ok (.goto 49, 3) := by decide +kernel
theorem dX4_plan_63 : decode cX4_plan 63 = .ok (.aload_n 0, 1) := by decide +kernel
theorem dX4_plan_64 : decode cX4_plan 64 = .ok (.iload_n 1, 1) := by decide +kernel
theorem dX4_plan_65 : decode cX4_plan 65 = .ok (.invokevirtual 107, 3) := by decide +kernel
theorem dX4_plan_68 : decode cX4_plan 68 = .ok (.ifCond .eq 36, 3) := by decide +kernel
theorem dX4_plan_71 : decode cX4_plan 71 = .ok (.aload_n 0, 1) := by decide +kernel
theorem dX4_plan_72 : decode cX4_plan 72 = .ok (.iload_n 1, 1) := by decide +kernel
theorem dX4_plan_73 : decode cX4_plan 73 = .ok (.iload_n 3, 1) := by decide +kernel
theorem dX4_plan_74 : decode cX4_plan 74 = .ok (.invokevirtual 110, 3) := by decide +kernel
theorem dX4_plan_77 : decode cX4_plan 77 = .ok (.ifCond .eq 27, 3) := by decide +kernel
theorem dX4_plan_80 : decode cX4_plan 80 = .ok (.aload_n 0, 1) := by decide +kernel
theorem dX4_plan_81 : decode cX4_plan 81 = .ok (.getfield 82, 3) := by decide +kernel
theorem dX4_plan_84 : decode cX4_plan 84 = .ok (.bipush 24, 2) := by decide +kernel
theorem dX4_plan_86 : decode cX4_plan 86 = .ok (.if_icmp .eq 18, 3) := by decide +kernel
theorem dX4_plan_89 : decode cX4_plan 89 = .ok (.aload_n 0, 1) := by decide +kernel
theorem dX4_plan_90 : decode cX4_plan 90 = .ok (.iload_n 1, 1) := by decide +kernel
theorem dX4_plan_91 : decode cX4_plan 91 = .ok (.iload_n 2, 1) := by decide +kernel
theorem dX4_plan_92 : decode cX4_plan 92 = .ok (.iload_n 3, 1) := by decide +kernel
theorem dX4_plan_93 : decode cX4_plan 93 = .ok (.iload 4, 2) := by decide +kernel
theorem dX4_plan_95 : decode cX4_plan 95 = .ok (.iload 5, 2) := by decide +kernel
theorem dX4_plan_97 : decode cX4_plan 97 = .ok (.iconst (-1), 1) := by decide +kernel
theorem dX4_plan_98 : decode cX4_plan 98 = .ok (.invokevirtual 114, 3) := by decide +kernel
theorem dX4_plan_101 : decode cX4_plan 101 = .ok (.ifCond .le 7, 3) := by decide +kernel
theorem dX4_plan_104 : decode cX4_plan 104 = .ok (.iconst 3, 1) := by decide +kernel
theorem dX4_plan_105 : decode cX4_plan 105 = .ok (.goto 4, 3) := by decide +kernel
theorem dX4_plan_108 : decode cX4_plan 108 = .ok (.iconst 0, 1) := by decide +kernel
theorem dX4_plan_109 : decode cX4_plan 109 = .ok (.putfield 71, 3) := by decide +kernel
theorem dX4_plan_112 : decode cX4_plan 112 = .ok (.aload_n 0, 1) := by decide +kernel
theorem dX4_plan_113 : decode cX4_plan 113 = .ok (.getfield 71, 3) := by decide +kernel
theorem dX4_plan_116 : decode cX4_plan 116 = .ok (.ifCond .le 5, 3) := by decide +kernel
theorem dX4_plan_119 : decode cX4_plan 119 = .ok (.iconst 0, 1) := by decide +kernel
theorem dX4_plan_120 : decode cX4_plan 120 = .ok (.ireturn, 1) := by decide +kernel
theorem dX4_plan_121 : decode cX4_plan 121 = .ok (.aload_n 0, 1) := by decide +kernel
theorem dX4_plan_122 : decode cX4_plan 122 = .ok (.getfield 82, 3) := by decide +kernel
theorem dX4_plan_125 : decode cX4_plan 125 = .ok (.istore 6, 2) := by decide +kernel
theorem dX4_plan_127 : decode cX4_plan 127 = .ok (.aload_n 0, 1) := by decide +kernel
theorem dX4_plan_128 : decode cX4_plan 128 = .ok (.dup, 1) := by decide +kernel
theorem dX4_plan_129 : decode cX4_plan 129 = .ok (.getfield 82, 3) := by decide +kernel
theorem dX4_plan_132 : decode cX4_plan 132 = .ok (.iconst 1, 1) := by decide +kernel
theorem dX4_plan_133 : decode cX4_plan 133 = .ok (.iadd, 1) := by decide +kernel
theorem dX4_plan_134 : decode cX4_plan 134 = .ok (.putfield 82, 3) := by decide +kernel
theorem dX4_plan_137 : decode cX4_plan 137 = .ok (.aload_n 0, 1) := by decide +kernel
theorem dX4_plan_138 : decode cX4_plan 138 = .ok (.getfield 44, 3) := by decide +kernel
theorem dX4_plan_141 : decode cX4_plan 141 = .ok (.iload 6, 2) := by decide +kernel
theorem dX4_plan_143 : decode cX4_plan 143 = .ok (.iload_n 1, 1) := by decide +kernel
theorem dX4_plan_144 : decode cX4_plan 144 = .ok (.iastore, 1) := by decide +kernel
theorem dX4_plan_145 : decode cX4_plan 145 = .ok (.aload_n 0, 1) := by decide +kernel
theorem dX4_plan_146 : decode cX4_plan 146 = .ok (.getfield 47, 3) := by decide +kernel
theorem dX4_plan_149 : decode cX4_plan 149 = .ok (.iload 6, 2) := by decide +kernel
theorem dX4_plan_151 : decode cX4_plan 151 = .ok (.iload_n 2, 1) := by decide +kernel
theorem dX4_plan_152 : decode cX4_plan 152 = .ok (.iastore, 1) := by decide +kernel
theorem dX4_plan_153 : decode cX4_plan 153 = .ok (.aload_n 0, 1) := by decide +kernel
theorem dX4_plan_154 : decode cX4_plan 154 = .ok (.getfield 50, 3) := by decide +kernel
theorem dX4_plan_157 : decode cX4_plan 157 = .ok (.iload 6, 2) := by decide +kernel
theorem dX4_plan_159 : decode cX4_plan 159 = .ok (.iload_n 3, 1) := by decide +kernel
theorem dX4_plan_160 : decode cX4_plan 160 = .ok (.iastore, 1) := by decide +kernel
theorem dX4_plan_161 : decode cX4_plan 161 = .ok (.aload_n 0, 1) := by decide +kernel
theorem dX4_plan_162 : decode cX4_plan 162 = .ok (.getfield 53, 3) := by decide +kernel
theorem dX4_plan_165 : decode cX4_plan 165 = .ok (.iload 6, 2) := by decide +kernel
theorem dX4_plan_167 : decode cX4_plan 167 = .ok (.iload 4, 2) := by decide +kernel
theorem dX4_plan_169 : decode cX4_plan 169 = .ok (.iastore, 1) := by decide +kernel
theorem dX4_plan_170 : decode cX4_plan 170 = .ok (.aload_n 0, 1) := by decide +kernel
theorem dX4_plan_171 : decode cX4_plan 171 = .ok (.getfield 56, 3) := by decide +kernel
theorem dX4_plan_174 : decode cX4_plan 174 = .ok (.iload 6, 2) := by decide +kernel
theorem dX4_plan_176 : decode cX4_plan 176 = .ok (.iload 5, 2) := by decide +kernel
theorem dX4_plan_178 : decode cX4_plan 178 = .ok (.iastore, 1) := by decide +kernel
theorem dX4_plan_179 : decode cX4_plan 179 = .ok (.aload_n 0, 1) := by decide +kernel
theorem dX4_plan_180 : decode cX4_plan 180 = .ok (.iload 6, 2) := by decide +kernel
theorem dX4_plan_182 : decode cX4_plan 182 = .ok (.invokevirtual 118, 3) := by decide +kernel
theorem dX4_plan_185 : decode cX4_plan 185 = .ok (.iload 6, 2) := by decide +kernel
theorem dX4_plan_187 : decode cX4_plan 187 = .ok (.ireturn, 1) := by decide +kernel
theorem dX4_move_0 : decode cX4_move 0 = .ok (.aload_n 0, 1) := by decide +kernel
theorem dX4_move_1 : decode cX4_move 1 = .ok (.iload_n 1, 1) := by decide +kernel
theorem dX4_move_2 : decode cX4_move 2 = .ok (.invokevirtual 121, 3) := by decide +kernel
theorem dX4_move_5 : decode cX4_move 5 = .ok (.ifCond .eq 19, 3) := by decide +kernel
theorem dX4_move_8 : decode cX4_move 8 = .ok (.iload_n 2, 1) := by decide +kernel
theorem dX4_move_9 : decode cX4_move 9 = .ok (.iconst 0, 1) := by decide +kernel
theorem dX4_move_10 : decode cX4_move 10 = .ok (.iconst 3, 1) := by decide +kernel
theorem dX4_move_11 : decode cX4_move 11 = .ok (.invokestatic 78, 3) := by decide +kernel
theorem dX4_move_14 : decode cX4_move 14 = .ok (.ifCond .eq 10, 3) := by decide +kernel
theorem dX4_move_17 : decode cX4_move 17 = .ok (.iload_n 3, 1) := by decide +kernel
theorem dX4_move_18 : decode cX4_move 18 = .ok (.invokestatic 104, 3) := by decide +kernel
theorem dX4_move_21 : decode cX4_move 21 = .ok (.ifCond .ne 10, 3) := by decide +kernel
theorem dX4_move_24 : decode cX4_move 24 = .ok (.aload_n 0, 1) := by decide +kernel
theorem dX4_move_25 : decode cX4_move 25 = .ok (.iconst 1, 1) := by decide +kernel
theorem dX4_move_26 : decode cX4_move 26 = .ok (.putfield 71, 3) := by decide +kernel
theorem dX4_move_29 : decode cX4_move 29 = .ok (.iconst 0, 1) := by decide +kernel
theorem dX4_move_30 : decode cX4_move 30 = .ok (.ireturn, 1) := by decide +kernel
theorem dX4_move_31 : decode cX4_move 31 = .ok (.aload_n 0, 1) := by decide +kernel
theorem dX4_move_32 : decode cX4_move 32 = .ok (.getfield 44, 3) := by decide +kernel
theorem dX4_move_35 : decode cX4_move 35 = .ok (.iload_n 1, 1) := by decide +kernel
theorem dX4_move_36 : decode cX4_move 36 = .ok (.iaload, 1) := by decide +kernel
theorem dX4_move_37 : decode cX4_move 37 = .ok (.istore 5, 2) := by decide +kernel
theorem dX4_move_39 : decode cX4_move 39 = .ok (.aload_n 0, 1) := by decide +kernel
theorem dX4_move_40 : decode cX4_move 40 = .ok (.iload 4, 2) := by decide +kernel
theorem dX4_move_42 : decode cX4_move 42 = .ok (.aload_n 0, 1) := by decide +kernel
theorem dX4_move_43 : decode cX4_move 43 = .ok (.getfield 85, 3) := by decide +kernel
theorem dX4_move_46 : decode cX4_move 46 = .ok (.iconst 1, 1) := by decide +kernel
theorem dX4_move_47 : decode cX4_move 47 = .ok (.iadd, 1) := by decide +kernel
theorem dX4_move_48 : decode cX4_move 48 = .ok (.sipush 999, 3) := by decide +kernel
theorem dX4_move_51 : decode cX4_move 51 = .ok (.invokestatic 78, 3) := by decide +kernel
theorem dX4_move_54 : decode cX4_move 54 = .ok (.ifCond .ne 7, 3) := by decide +kernel
theorem dX4_move_57 : decode cX4_move 57 = .ok (.iconst 2, 1) := by decide +kernel
theorem dX4_move_58 : decode cX4_move 58 = .ok (.goto 60, 3) := by decide +kernel
theorem dX4_move_61 : decode cX4_move 61 = .ok (.aload_n 0, 1) := by decide +kernel
theorem dX4_move_62 : decode cX4_move 62 = .ok (.getfield 41, 3) := by decide +kernel
theorem dX4_move_65 : decode cX4_move 65 = .ok (.iload_n 1, 1) := by decide +kernel
theorem dX4_move_66 : decode cX4_move 66 = .ok (.iaload, 1) := by decide +kernel
theorem dX4_move_67 : decode cX4_move 67 = .ok (.ifCond .ne 46, 3) := by decide +kernel
theorem dX4_move_70 : decode cX4_move 70 = .ok (.aload_n 0, 1) := by decide +kernel
theorem dX4_move_71 : decode cX4_move 71 = .ok (.getfield 53, 3) := by decide +kernel
theorem dX4_move_74 : decode cX4_move 74 = .ok (.iload_n 1, 1) := by decide +kernel
theorem dX4_move_75 : decode cX4_move 75 = .ok (.iaload, 1) := by decide +kernel
theorem dX4_move_76 : decode cX4_move 76 = .ok (.aload_n 0, 1) := by decide +kernel
theorem dX4_move_77 : decode cX4_move 77 = .ok (.getfield 85, 3) := by decide +kernel
theorem dX4_move_80 : decode cX4_move 80 = .ok (.if_icmp .le 33, 3) := by decide +kernel
theorem dX4_move_83 : decode cX4_move 83 = .ok (.aload_n 0, 1) := by decide +kernel
theorem dX4_move_84 : decode cX4_move 84 = .ok (.iload 5, 2) := by decide +kernel
theorem dX4_move_86 : decode cX4_move 86 = .ok (.iload_n 3, 1) := by decide +kernel
theorem dX4_move_87 : decode cX4_move 87 = .ok (.invokevirtual 110, 3) := by decide +kernel
theorem dX4_move_90 : decode cX4_move 90 = .ok (.ifCond .eq 23, 3) := by decide +kernel
theorem dX4_move_93 : decode cX4_move 93 = .ok (.aload_n 0, 1) := by decide +kernel
theorem dX4_move_94 : decode cX4_move 94 = .ok (.iload 5, 2) := by decide +kernel
theorem dX4_move_96 : decode cX4_move 96 = .ok (.iload_n 2, 1) := by decide +kernel
theorem dX4_move_97 : decode cX4_move 97 = .ok (.iload_n 3, 1) := by decide +kernel
theorem dX4_move_98 : decode cX4_move 98 = .ok (.iload 4, 2) := by decide +kernel
theorem dX4_move_100 : decode cX4_move 100 = .ok (.aload_n 0, 1) := by decide +kernel
theorem dX4_move_101 : decode cX4_move 101 = .ok (.getfield 56, 3) := by decide +kernel
theorem dX4_move_104 : decode cX4_move 104 = .ok (.iload_n 1, 1) := by decide +kernel
theorem dX4_move_105 : decode cX4_move 105 = .ok (.iaload, 1) := by decide +kernel
theorem dX4_move_106 : decode cX4_move 106 = .ok (.iload_n 1, 1) := by decide +kernel
theorem dX4_move_107 : decode cX4_move 107 = .ok (.invokevirtual 114, 3) := by decide +kernel
theorem dX4_move_110 : decode cX4_move 110 = .ok (.ifCond .le 7, 3) := by decide +kernel
theorem dX4_move_113 : decode cX4_move 113 = .ok (.iconst 3, 1) := by decide +kernel
theorem dX4_move_114 : decode cX4_move 114 = .ok (.goto 4, 3) := by decide +kernel
theorem dX4_move_117 : decode cX4_move 117 = .ok (.iconst 0, 1) := by decide +kernel
theorem dX4_move_118 : decode cX4_move 118 = .ok (.putfield 71, 3) := by decide +kernel
theorem dX4_move_121 : decode cX4_move 121 = .ok (.aload_n 0, 1) := by decide +kernel
theorem dX4_move_122 : decode cX4_move 122 = .ok (.getfield 71, 3) := by decide +kernel
theorem dX4_move_125 : decode cX4_move 125 = .ok (.ifCond .le 5, 3) := by decide +kernel
theorem dX4_move_128 : decode cX4_move 128 = .ok (.iconst 0, 1) := by decide +kernel
theorem dX4_move_129 : decode cX4_move 129 = .ok (.ireturn, 1) := by decide +kernel
theorem dX4_move_130 : decode cX4_move 130 = .ok (.aload_n 0, 1) := by decide +kernel
theorem dX4_move_131 : decode cX4_move 131 = .ok (.iload_n 1, 1) := by decide +kernel
theorem dX4_move_132 : decode cX4_move 132 = .ok (.invokevirtual 92, 3) := by decide +kernel
theorem dX4_move_135 : decode cX4_move 135 = .ok (.aload_n 0, 1) := by decide +kernel
theorem dX4_move_136 : decode cX4_move 136 = .ok (.getfield 47, 3) := by decide +kernel
theorem dX4_move_139 : decode cX4_move 139 = .ok (.iload_n 1, 1) := by decide +kernel
theorem dX4_move_140 : decode cX4_move 140 = .ok (.iload_n 2, 1) := by decide +kernel
theorem dX4_move_141 : decode cX4_move 141 = .ok (.iastore, 1) := by decide +kernel
theorem dX4_move_142 : decode cX4_move 142 = .ok (.aload_n 0, 1) := by decide +kernel
theorem dX4_move_143 : decode cX4_move 143 = .ok (.getfield 50, 3) := by decide +kernel
theorem dX4_move_146 : decode cX4_move 146 = .ok (.iload_n 1, 1) := by decide +kernel
theorem dX4_move_147 : decode cX4_move 147 = .ok (.iload_n 3, 1) := by decide +kernel
theorem dX4_move_148 : decode cX4_move 148 = .ok (.iastore, 1) := by decide +kernel
theorem dX4_move_149 : decode cX4_move 149 = .ok (.aload_n 0, 1) := by decide +kernel
theorem dX4_move_150 : decode cX4_move 150 = .ok (.getfield 53, 3) := by decide +kernel
theorem dX4_move_153 : decode cX4_move 153 = .ok (.iload_n 1, 1) := by decide +kernel
theorem dX4_move_154 : decode cX4_move 154 = .ok (.iload 4, 2) := by decide +kernel
theorem dX4_move_156 : decode cX4_move 156 = .ok (.iastore, 1) := by decide +kernel
theorem dX4_move_157 : decode cX4_move 157 = .ok (.aload_n 0, 1) := by decide +kernel
theorem dX4_move_158 : decode cX4_move 158 = .ok (.getfield 59, 3) := by decide +kernel
theorem dX4_move_161 : decode cX4_move 161 = .ok (.iload_n 1, 1) := by decide +kernel
theorem dX4_move_162 : decode cX4_move 162 = .ok (.iconst 0, 1) := by decide +kernel
theorem dX4_move_163 : decode cX4_move 163 = .ok (.iastore, 1) := by decide +kernel
theorem dX4_move_164 : decode cX4_move 164 = .ok (.aload_n 0, 1) := by decide +kernel
theorem dX4_move_165 : decode cX4_move 165 = .ok (.iload_n 1, 1) := by decide +kernel
theorem dX4_move_166 : decode cX4_move 166 = .ok (.invokevirtual 118, 3) := by decide +kernel
theorem dX4_move_169 : decode cX4_move 169 = .ok (.aload_n 0, 1) := by decide +kernel
theorem dX4_move_170 : decode cX4_move 170 = .ok (.getfield 35, 3) := by decide +kernel
theorem dX4_move_173 : decode cX4_move 173 = .ok (.iload 5, 2) := by decide +kernel
theorem dX4_move_175 : decode cX4_move 175 = .ok (.iaload, 1) := by decide +kernel
theorem dX4_move_176 : decode cX4_move 176 = .ok (.ireturn, 1) := by decide +kernel
theorem dX4_drop_0 : decode cX4_drop 0 = .ok (.aload_n 0, 1) := by decide +kernel
theorem dX4_drop_1 : decode cX4_drop 1 = .ok (.aload_n 0, 1) := by decide +kernel
theorem dX4_drop_2 : decode cX4_drop 2 = .ok (.iload_n 1, 1) := by decide +kernel
theorem dX4_drop_3 : decode cX4_drop 3 = .ok (.invokevirtual 121, 3) := by decide +kernel
theorem dX4_drop_6 : decode cX4_drop 6 = .ok (.ifCond .ne 7, 3) := by decide +kernel
theorem dX4_drop_9 : decode cX4_drop 9 = .ok (.iconst 1, 1) := by decide +kernel
theorem dX4_drop_10 : decode cX4_drop 10 = .ok (.goto 30, 3) := by decide +kernel
theorem dX4_drop_13 : decode cX4_drop 13 = .ok (.aload_n 0, 1) := by decide +kernel
theorem dX4_drop_14 : decode cX4_drop 14 = .ok (.getfield 41, 3) := by decide +kernel
theorem dX4_drop_17 : decode cX4_drop 17 = .ok (.iload_n 1, 1) := by decide +kernel
theorem dX4_drop_18 : decode cX4_drop 18 = .ok (.iaload, 1) := by decide +kernel
theorem dX4_drop_19 : decode cX4_drop 19 = .ok (.ifCond .ne 16, 3) := by decide +kernel
theorem dX4_drop_22 : decode cX4_drop 22 = .ok (.aload_n 0, 1) := by decide +kernel
theorem dX4_drop_23 : decode cX4_drop 23 = .ok (.getfield 53, 3) := by decide +kernel
theorem dX4_drop_26 : decode cX4_drop 26 = .ok (.iload_n 1, 1) := by decide +kernel
theorem dX4_drop_27 : decode cX4_drop 27 = .ok (.iaload, 1) := by decide +kernel
theorem dX4_drop_28 : decode cX4_drop 28 = .ok (.aload_n 0, 1) := by decide +kernel
theorem dX4_drop_29 : decode cX4_drop 29 = .ok (.getfield 85, 3) := by decide +kernel
theorem dX4_drop_32 : decode cX4_drop 32 = .ok (.if_icmp .gt 7, 3) := by decide +kernel
theorem dX4_drop_35 : decode cX4_drop 35 = .ok (.iconst 2, 1) := by decide +kernel
theorem dX4_drop_36 : decode cX4_drop 36 = .ok (.goto 4, 3) := by decide +kernel
theorem dX4_drop_39 : decode cX4_drop 39 = .ok (.iconst 0, 1) := by decide +kernel
theorem dX4_drop_40 : decode cX4_drop 40 = .ok (.putfield 71, 3) := by decide +kernel
theorem dX4_drop_43 : decode cX4_drop 43 = .ok (.aload_n 0, 1) := by decide +kernel
theorem dX4_drop_44 : decode cX4_drop 44 = .ok (.getfield 71, 3) := by decide +kernel
theorem dX4_drop_47 : decode cX4_drop 47 = .ok (.ifCond .le 5, 3) := by decide +kernel
theorem dX4_drop_50 : decode cX4_drop 50 = .ok (.iconst 0, 1) := by decide +kernel
theorem dX4_drop_51 : decode cX4_drop 51 = .ok (.ireturn, 1) := by decide +kernel
theorem dX4_drop_52 : decode cX4_drop 52 = .ok (.aload_n 0, 1) := by decide +kernel
theorem dX4_drop_53 : decode cX4_drop 53 = .ok (.iload_n 1, 1) := by decide +kernel
theorem dX4_drop_54 : decode cX4_drop 54 = .ok (.invokevirtual 92, 3) := by decide +kernel
theorem dX4_drop_57 : decode cX4_drop 57 = .ok (.aload_n 0, 1) := by decide +kernel
theorem dX4_drop_58 : decode cX4_drop 58 = .ok (.getfield 41, 3) := by decide +kernel
theorem dX4_drop_61 : decode cX4_drop 61 = .ok (.iload_n 1, 1) := by decide +kernel
theorem dX4_drop_62 : decode cX4_drop 62 = .ok (.iconst 3, 1) := by decide +kernel
theorem dX4_drop_63 : decode cX4_drop 63 = .ok (.iastore, 1) := by decide +kernel
theorem dX4_drop_64 : decode cX4_drop 64 = .ok (.aload_n 0, 1) := by decide +kernel
theorem dX4_drop_65 : decode cX4_drop 65 = .ok (.getfield 35, 3) := by decide +kernel
theorem dX4_drop_68 : decode cX4_drop 68 = .ok (.aload_n 0, 1) := by decide +kernel
theorem dX4_drop_69 : decode cX4_drop 69 = .ok (.getfield 44, 3) := by decide +kernel
theorem dX4_drop_72 : decode cX4_drop 72 = .ok (.iload_n 1, 1) := by decide +kernel
theorem dX4_drop_73 : decode cX4_drop 73 = .ok (.iaload, 1) := by decide +kernel
theorem dX4_drop_74 : decode cX4_drop 74 = .ok (.iaload, 1) := by decide +kernel
theorem dX4_drop_75 : decode cX4_drop 75 = .ok (.ireturn, 1) := by decide +kernel
theorem dX4_notice_0 : decode cX4_notice 0 = .ok (.aload_n 0, 1) := by decide +kernel
theorem dX4_notice_1 : decode cX4_notice 1 = .ok (.iload_n 1, 1) := by decide +kernel
theorem dX4_notice_2 : decode cX4_notice 2 = .ok (.invokevirtual 121, 3) := by decide +kernel
theorem dX4_notice_5 : decode cX4_notice 5 = .ok (.ifCond .eq 12, 3) := by decide +kernel
theorem dX4_notice_8 : decode cX4_notice 8 = .ok (.iload_n 2, 1) := by decide +kernel
theorem dX4_notice_9 : decode cX4_notice 9 = .ok (.iconst 0, 1) := by decide +kernel
theorem dX4_notice_10 : decode cX4_notice 10 = .ok (.iconst 5, 1) := by decide +kernel
theorem dX4_notice_11 : decode cX4_notice 11 = .ok (.invokestatic 78, 3) := by decide +kernel
theorem dX4_notice_14 : decode cX4_notice 14 = .ok (.ifCond .ne 10, 3) := by decide +kernel
theorem dX4_notice_17 : decode cX4_notice 17 = .ok (.aload_n 0, 1) := by decide +kernel
theorem dX4_notice_18 : decode cX4_notice 18 = .ok (.iconst 1, 1) := by decide +kernel
theorem dX4_notice_19 : decode cX4_notice 19 = .ok (.putfield 71, 3) := by decide +kernel
theorem dX4_notice_22 : decode cX4_notice 22 = .ok (.iconst 0, 1) := by decide +kernel
theorem dX4_notice_23 : decode cX4_notice 23 = .ok (.ireturn, 1) := by decide +kernel
theorem dX4_notice_24 : decode cX4_notice 24 = .ok (.aload_n 0, 1) := by decide +kernel
theorem dX4_notice_25 : decode cX4_notice 25 = .ok (.getfield 26, 3) := by decide +kernel
theorem dX4_notice_28 : decode cX4_notice 28 = .ok (.aload_n 0, 1) := by decide +kernel
theorem dX4_notice_29 : decode cX4_notice 29 = .ok (.getfield 44, 3) := by decide +kernel
theorem dX4_notice_32 : decode cX4_notice 32 = .ok (.iload_n 1, 1) := by decide +kernel
theorem dX4_notice_33 : decode cX4_notice 33 = .ok (.iaload, 1) := by decide +kernel
theorem dX4_notice_34 : decode cX4_notice 34 = .ok (.iaload, 1) := by decide +kernel
theorem dX4_notice_35 : decode cX4_notice 35 = .ok (.iload_n 2, 1) := by decide +kernel
theorem dX4_notice_36 : decode cX4_notice 36 = .ok (.if_icmp .ne 7, 3) := by decide +kernel
theorem dX4_notice_39 : decode cX4_notice 39 = .ok (.iconst 1, 1) := by decide +kernel
theorem dX4_notice_40 : decode cX4_notice 40 = .ok (.goto 4, 3) := by decide +kernel
theorem dX4_notice_43 : decode cX4_notice 43 = .ok (.iconst 0, 1) := by decide +kernel
theorem dX4_notice_44 : decode cX4_notice 44 = .ok (.istore_n 3, 1) := by decide +kernel
theorem dX4_notice_45 : decode cX4_notice 45 = .ok (.aload_n 0, 1) := by decide +kernel
theorem dX4_notice_46 : decode cX4_notice 46 = .ok (.iload_n 3, 1) := by decide +kernel
theorem dX4_notice_47 : decode cX4_notice 47 = .ok (.ifCond .ne 22, 3) := by decide +kernel
theorem dX4_notice_50 : decode cX4_notice 50 = .ok (.aload_n 0, 1) := by decide +kernel
theorem dX4_notice_51 : decode cX4_notice 51 = .ok (.getfield 29, 3) := by decide +kernel
theorem dX4_notice_54 : decode cX4_notice 54 = .ok (.aload_n 0, 1) := by decide +kernel
theorem dX4_notice_55 : decode cX4_notice 55 = .ok (.getfield 44, 3) := by decide +kernel
theorem dX4_notice_58 : decode cX4_notice 58 = .ok (.iload_n 1, 1) := by decide +kernel
theorem dX4_notice_59 : decode cX4_notice 59 = .ok (.iaload, 1) := by decide +kernel
theorem dX4_notice_60 : decode cX4_notice 60 = .ok (.iaload, 1) := by decide +kernel
theorem dX4_notice_61 : decode cX4_notice 61 = .ok (.iload_n 2, 1) := by decide +kernel
theorem dX4_notice_62 : decode cX4_notice 62 = .ok (.if_icmp .eq 7, 3) := by decide +kernel
theorem dX4_notice_65 : decode cX4_notice 65 = .ok (.iconst 2, 1) := by decide +kernel
theorem dX4_notice_66 : decode cX4_notice 66 = .ok (.goto 17, 3) := by decide +kernel
theorem dX4_notice_69 : decode cX4_notice 69 = .ok (.aload_n 0, 1) := by decide +kernel
theorem dX4_notice_70 : decode cX4_notice 70 = .ok (.getfield 41, 3) := by decide +kernel
theorem dX4_notice_73 : decode cX4_notice 73 = .ok (.iload_n 1, 1) := by decide +kernel
theorem dX4_notice_74 : decode cX4_notice 74 = .ok (.iaload, 1) := by decide +kernel
theorem dX4_notice_75 : decode cX4_notice 75 = .ok (.ifCond .eq 7, 3) := by decide +kernel
theorem dX4_notice_78 : decode cX4_notice 78 = .ok (.iconst 3, 1) := by decide +kernel
theorem dX4_notice_79 : decode cX4_notice 79 = .ok (.goto 4, 3) := by decide +kernel
theorem dX4_notice_82 : decode cX4_notice 82 = .ok (.iconst 0, 1) := by decide +kernel
theorem dX4_notice_83 : decode cX4_notice 83 = .ok (.putfield 71, 3) := by decide +kernel
theorem dX4_notice_86 : decode cX4_notice 86 = .ok (.aload_n 0, 1) := by decide +kernel
theorem dX4_notice_87 : decode cX4_notice 87 = .ok (.getfield 71, 3) := by decide +kernel
theorem dX4_notice_90 : decode cX4_notice 90 = .ok (.ifCond .le 5, 3) := by decide +kernel
theorem dX4_notice_93 : decode cX4_notice 93 = .ok (.iconst 0, 1) := by decide +kernel
theorem dX4_notice_94 : decode cX4_notice 94 = .ok (.ireturn, 1) := by decide +kernel
theorem dX4_notice_95 : decode cX4_notice 95 = .ok (.aload_n 0, 1) := by decide +kernel
theorem dX4_notice_96 : decode cX4_notice 96 = .ok (.getfield 53, 3) := by decide +kernel
theorem dX4_notice_99 : decode cX4_notice 99 = .ok (.iload_n 1, 1) := by decide +kernel
theorem dX4_notice_100 : decode cX4_notice 100 = .ok (.iaload, 1) := by decide +kernel
theorem dX4_notice_101 : decode cX4_notice 101 = .ok (.aload_n 0, 1) := by decide +kernel
theorem dX4_notice_102 : decode cX4_notice 102 = .ok (.getfield 85, 3) := by decide +kernel
theorem dX4_notice_105 : decode cX4_notice 105 = .ok (.isub, 1) := by decide +kernel
theorem dX4_notice_106 : decode cX4_notice 106 = .ok (.iconst 4, 1) := by decide +kernel
theorem dX4_notice_107 : decode cX4_notice 107 = .ok (.if_icmp .lt 7, 3) := by decide +kernel
theorem dX4_notice_110 : decode cX4_notice 110 = .ok (.iconst 1, 1) := by decide +kernel
theorem dX4_notice_111 : decode cX4_notice 111 = .ok (.goto 4, 3) := by decide +kernel
theorem dX4_notice_114 : decode cX4_notice 114 = .ok (.iconst 0, 1) := by decide +kernel
theorem dX4_notice_115 : decode cX4_notice 115 = .ok (.istore 4, 2) := by decide +kernel
theorem dX4_notice_117 : decode cX4_notice 117 = .ok (.aload_n 0, 1) := by decide +kernel
theorem dX4_notice_118 : decode cX4_notice 118 = .ok (.getfield 59, 3) := by decide +kernel
theorem dX4_notice_121 : decode cX4_notice 121 = .ok (.iload_n 1, 1) := by decide +kernel
theorem dX4_notice_122 : decode cX4_notice 122 = .ok (.dup2, 1) := by decide +kernel
theorem dX4_notice_123 : decode cX4_notice 123 = .ok (.iaload, 1) := by decide +kernel
theorem dX4_notice_124 : decode cX4_notice 124 = .ok (.iload 4, 2) := by decide +kernel
theorem dX4_notice_126 : decode cX4_notice 126 = .ok (.ifCond .eq 15, 3) := by decide +kernel
theorem dX4_notice_129 : decode cX4_notice 129 = .ok (.iload_n 3, 1) := by decide +kernel
theorem dX4_notice_130 : decode cX4_notice 130 = .ok (.ifCond .eq 7, 3) := by decide +kernel
theorem dX4_notice_133 : decode cX4_notice 133 = .ok (.iconst 1, 1) := by decide +kernel
theorem dX4_notice_134 : decode cX4_notice 134 = .ok (.goto 8, 3) := by decide +kernel
theorem dX4_notice_137 : decode cX4_notice 137 = .ok (.iconst 2, 1) := by decide +kernel
theorem dX4_notice_138 : decode cX4_notice 138 = .ok (.goto 4, 3) := by decide +kernel
theorem dX4_notice_141 : decode cX4_notice 141 = .ok (.iconst 0, 1) := by decide +kernel
theorem dX4_notice_142 : decode cX4_notice 142 = .ok (.ior, 1) := by decide +kernel
theorem dX4_notice_143 : decode cX4_notice 143 = .ok (.iastore, 1) := by decide +kernel
theorem dX4_notice_144 : decode cX4_notice 144 = .ok (.iload 4, 2) := by decide +kernel
theorem dX4_notice_146 : decode cX4_notice 146 = .ok (.ireturn, 1) := by decide +kernel
theorem dX4_ends_0 : decode cX4_ends 0 = .ok (.iconst 0, 1) := by decide +kernel
theorem dX4_ends_1 : decode cX4_ends 1 = .ok (.istore_n 1, 1) := by decide +kernel
theorem dX4_ends_2 : decode cX4_ends 2 = .ok (.iconst 0, 1) := by decide +kernel
theorem dX4_ends_3 : decode cX4_ends 3 = .ok (.istore_n 2, 1) := by decide +kernel
theorem dX4_ends_4 : decode cX4_ends 4 = .ok (.iload_n 2, 1) := by decide +kernel
theorem dX4_ends_5 : decode cX4_ends 5 = .ok (.aload_n 0, 1) := by decide +kernel
theorem dX4_ends_6 : decode cX4_ends 6 = .ok (.getfield 75, 3) := by decide +kernel
theorem dX4_ends_9 : decode cX4_ends 9 = .ok (.if_icmp .ge 33, 3) := by decide +kernel
theorem dX4_ends_12 : decode cX4_ends 12 = .ok (.aload_n 0, 1) := by decide +kernel
theorem dX4_ends_13 : decode cX4_ends 13 = .ok (.getfield 38, 3) := by decide +kernel
theorem dX4_ends_16 : decode cX4_ends 16 = .ok (.iload_n 2, 1) := by decide +kernel
theorem dX4_ends_17 : decode cX4_ends 17 = .ok (.dup2, 1) := by decide +kernel
theorem dX4_ends_18 : decode cX4_ends 18 = .ok (.iaload, 1) := by decide +kernel
theorem dX4_ends_19 : decode cX4_ends 19 = .ok (.aload_n 0, 1) := by decide +kernel
theorem dX4_ends_20 : decode cX4_ends 20 = .ok (.getfield 20, 3) := by decide +kernel
theorem dX4_ends_23 : decode cX4_ends 23 = .ok (.iload_n 2, 1) := by decide +kernel
theorem dX4_ends_24 : decode cX4_ends 24 = .ok (.iaload, 1) := by decide +kernel
theorem dX4_ends_25 : decode cX4_ends 25 = .ok (.iconst 3, 1) := by decide +kernel
theorem dX4_ends_26 : decode cX4_ends 26 = .ok (.if_icmp .ne 7, 3) := by decide +kernel
theorem dX4_ends_29 : decode cX4_ends 29 = .ok (.iconst 1, 1) := by decide +kernel
theorem dX4_ends_30 : decode cX4_ends 30 = .ok (.goto 4, 3) := by decide +kernel
theorem dX4_ends_33 : decode cX4_ends 33 = .ok (.iconst 0, 1) := by decide +kernel
theorem dX4_ends_34 : decode cX4_ends 34 = .ok (.iadd, 1) := by decide +kernel
theorem dX4_ends_35 : decode cX4_ends 35 = .ok (.iastore, 1) := by decide +kernel
theorem dX4_ends_36 : decode cX4_ends 36 = .ok (.iinc 2 1, 3) := by decide +kernel
theorem dX4_ends_39 : decode cX4_ends 39 = .ok (.goto (-35), 3) := by decide +kernel
theorem dX4_ends_42 : decode cX4_ends 42 = .ok (.aload_n 0, 1) := by decide +kernel
theorem dX4_ends_43 : decode cX4_ends 43 = .ok (.dup, 1) := by decide +kernel
theorem dX4_ends_44 : decode cX4_ends 44 = .ok (.getfield 85, 3) := by decide +kernel
theorem dX4_ends_47 : decode cX4_ends 47 = .ok (.iconst 1, 1) := by decide +kernel
theorem dX4_ends_48 : decode cX4_ends 48 = .ok (.iadd, 1) := by decide +kernel
theorem dX4_ends_49 : decode cX4_ends 49 = .ok (.putfield 85, 3) := by decide +kernel
theorem dX4_ends_52 : decode cX4_ends 52 = .ok (.iconst 0, 1) := by decide +kernel
theorem dX4_ends_53 : decode cX4_ends 53 = .ok (.istore_n 2, 1) := by decide +kernel
theorem dX4_ends_54 : decode cX4_ends 54 = .ok (.iload_n 2, 1) := by decide +kernel
theorem dX4_ends_55 : decode cX4_ends 55 = .ok (.aload_n 0, 1) := by decide +kernel
theorem dX4_ends_56 : decode cX4_ends 56 = .ok (.getfield 82, 3) := by decide +kernel
theorem dX4_ends_59 : decode cX4_ends 59 = .ok (.if_icmp .ge 124, 3) := by decide +kernel
theorem dX4_ends_62 : decode cX4_ends 62 = .ok (.aload_n 0, 1) := by decide +kernel
theorem dX4_ends_63 : decode cX4_ends 63 = .ok (.getfield 41, 3) := by decide +kernel
theorem dX4_ends_66 : decode cX4_ends 66 = .ok (.iload_n 2, 1) := by decide +kernel
theorem dX4_ends_67 : decode cX4_ends 67 = .ok (.iaload, 1) := by decide +kernel
theorem dX4_ends_68 : decode cX4_ends 68 = .ok (.ifCond .ne 109, 3) := by decide +kernel
theorem dX4_ends_71 : decode cX4_ends 71 = .ok (.aload_n 0, 1) := by decide +kernel
theorem dX4_ends_72 : decode cX4_ends 72 = .ok (.getfield 53, 3) := by decide +kernel
theorem dX4_ends_75 : decode cX4_ends 75 = .ok (.iload_n 2, 1) := by decide +kernel
theorem dX4_ends_76 : decode cX4_ends 76 = .ok (.iaload, 1) := by decide +kernel
theorem dX4_ends_77 : decode cX4_ends 77 = .ok (.aload_n 0, 1) := by decide +kernel
theorem dX4_ends_78 : decode cX4_ends 78 = .ok (.getfield 56, 3) := by decide +kernel
theorem dX4_ends_81 : decode cX4_ends 81 = .ok (.iload_n 2, 1) := by decide +kernel
theorem dX4_ends_82 : decode cX4_ends 82 = .ok (.iaload, 1) := by decide +kernel
theorem dX4_ends_83 : decode cX4_ends 83 = .ok (.iadd, 1) := by decide +kernel
theorem dX4_ends_84 : decode cX4_ends 84 = .ok (.aload_n 0, 1) := by decide +kernel
theorem dX4_ends_85 : decode cX4_ends 85 = .ok (.getfield 85, 3) := by decide +kernel
theorem dX4_ends_88 : decode cX4_ends 88 = .ok (.if_icmp .ne 89, 3) := by decide +kernel
theorem dX4_ends_91 : decode cX4_ends 91 = .ok (.aload_n 0, 1) := by decide +kernel
theorem dX4_ends_92 : decode cX4_ends 92 = .ok (.aload_n 0, 1) := by decide +kernel
theorem dX4_ends_93 : decode cX4_ends 93 = .ok (.getfield 44, 3) := by decide +kernel
theorem dX4_ends_96 : decode cX4_ends 96 = .ok (.iload_n 2, 1) := by decide +kernel
theorem dX4_ends_97 : decode cX4_ends 97 = .ok (.iaload, 1) := by decide +kernel
theorem dX4_ends_98 : decode cX4_ends 98 = .ok (.invokevirtual 107, 3) := by decide +kernel
theorem dX4_ends_101 : decode cX4_ends 101 = .ok (.ifCond .eq 17, 3) := by decide +kernel
theorem dX4_ends_104 : decode cX4_ends 104 = .ok (.aload_n 0, 1) := by decide +kernel
theorem dX4_ends_105 : decode cX4_ends 105 = .ok (.getfield 59, 3) := by decide +kernel
theorem dX4_ends_108 : decode cX4_ends 108 = .ok (.iload_n 2, 1) := by decide +kernel
theorem dX4_ends_109 : decode cX4_ends 109 = .ok (.iaload, 1) := by decide +kernel
theorem dX4_ends_110 : decode cX4_ends 110 = .ok (.iconst 3, 1) := by decide +kernel
theorem dX4_ends_111 : decode cX4_ends 111 = .ok (.if_icmp .ne 7, 3) := by decide +kernel
theorem dX4_ends_114 : decode cX4_ends 114 = .ok (.iconst 1, 1) := by decide +kernel
theorem dX4_ends_115 : decode cX4_ends 115 = .ok (.goto 4, 3) := by decide +kernel
theorem dX4_ends_118 : decode cX4_ends 118 = .ok (.iconst 0, 1) := by decide +kernel
theorem dX4_ends_119 : decode cX4_ends 119 = .ok (.istore_n 3, 1) := by decide +kernel
theorem dX4_ends_120 : decode cX4_ends 120 = .ok (.aload_n 0, 1) := by decide +kernel
theorem dX4_ends_121 : decode cX4_ends 121 = .ok (.getfield 41, 3) := by decide +kernel
theorem dX4_ends_124 : decode cX4_ends 124 = .ok (.iload_n 2, 1) := by decide +kernel
theorem dX4_ends_125 : decode cX4_ends 125 = .ok (.iload_n 3, 1) := by decide +kernel
theorem dX4_ends_126 : decode cX4_ends 126 = .ok (.ifCond .eq 7, 3) := by decide +kernel
theorem dX4_ends_129 : decode cX4_ends 129 = .ok (.iconst 1, 1) := by decide +kernel
theorem dX4_ends_130 : decode cX4_ends 130 = .ok (.goto 4, 3) := by decide +kernel
theorem dX4_ends_133 : decode cX4_ends 133 = .ok (.iconst 2, 1) := by decide +kernel
theorem dX4_ends_134 : decode cX4_ends 134 = .ok (.iastore, 1) := by decide +kernel
theorem dX4_ends_135 : decode cX4_ends 135 = .ok (.aload_n 0, 1) := by decide +kernel
theorem dX4_ends_136 : decode cX4_ends 136 = .ok (.getfield 20, 3) := by decide +kernel
theorem dX4_ends_139 : decode cX4_ends 139 = .ok (.aload_n 0, 1) := by decide +kernel
theorem dX4_ends_140 : decode cX4_ends 140 = .ok (.getfield 44, 3) := by decide +kernel
theorem dX4_ends_143 : decode cX4_ends 143 = .ok (.iload_n 2, 1) := by decide +kernel
theorem dX4_ends_144 : decode cX4_ends 144 = .ok (.iaload, 1) := by decide +kernel
theorem dX4_ends_145 : decode cX4_ends 145 = .ok (.iload_n 3, 1) := by decide +kernel
theorem dX4_ends_146 : decode cX4_ends 146 = .ok (.ifCond .eq 7, 3) := by decide +kernel
theorem dX4_ends_149 : decode cX4_ends 149 = .ok (.iconst 1, 1) := by decide +kernel
theorem dX4_ends_150 : decode cX4_ends 150 = .ok (.goto 14, 3) := by decide +kernel
theorem dX4_ends_153 : decode cX4_ends 153 = .ok (.aload_n 0, 1) := by decide +kernel
theorem dX4_ends_154 : decode cX4_ends 154 = .ok (.getfield 20, 3) := by decide +kernel
theorem dX4_ends_157 : decode cX4_ends 157 = .ok (.aload_n 0, 1) := by decide +kernel
theorem dX4_ends_158 : decode cX4_ends 158 = .ok (.getfield 44, 3) := by decide +kernel
theorem dX4_ends_161 : decode cX4_ends 161 = .ok (.iload_n 2, 1) := by decide +kernel
theorem dX4_ends_162 : decode cX4_ends 162 = .ok (.iaload, 1) := by decide +kernel
theorem dX4_ends_163 : decode cX4_ends 163 = .ok (.iaload, 1) := by decide +kernel
theorem dX4_ends_164 : decode cX4_ends 164 = .ok (.iastore, 1) := by decide +kernel
theorem dX4_ends_165 : decode cX4_ends 165 = .ok (.iload_n 1, 1) := by decide +kernel
theorem dX4_ends_166 : decode cX4_ends 166 = .ok (.iload_n 3, 1) := by decide +kernel
theorem dX4_ends_167 : decode cX4_ends 167 = .ok (.ifCond .eq 7, 3) := by decide +kernel
theorem dX4_ends_170 : decode cX4_ends 170 = .ok (.iconst 1, 1) := by decide +kernel
theorem dX4_ends_171 : decode cX4_ends 171 = .ok (.goto 4, 3) := by decide +kernel
theorem dX4_ends_174 : decode cX4_ends 174 = .ok (.iconst 0, 1) := by decide +kernel
theorem dX4_ends_175 : decode cX4_ends 175 = .ok (.iadd, 1) := by decide +kernel
theorem dX4_ends_176 : decode cX4_ends 176 = .ok (.istore_n 1, 1) := by decide +kernel
theorem dX4_ends_177 : decode cX4_ends 177 = .ok (.iinc 2 1, 3) := by decide +kernel
theorem dX4_ends_180 : decode cX4_ends 180 = .ok (.goto (-126), 3) := by decide +kernel
theorem dX4_ends_183 : decode cX4_ends 183 = .ok (.iconst 0, 1) := by decide +kernel
theorem dX4_ends_184 : decode cX4_ends 184 = .ok (.istore_n 2, 1) := by decide +kernel
theorem dX4_ends_185 : decode cX4_ends 185 = .ok (.iload_n 2, 1) := by decide +kernel
theorem dX4_ends_186 : decode cX4_ends 186 = .ok (.aload_n 0, 1) := by decide +kernel
theorem dX4_ends_187 : decode cX4_ends 187 = .ok (.getfield 75, 3) := by decide +kernel
theorem dX4_ends_190 : decode cX4_ends 190 = .ok (.if_icmp .ge 46, 3) := by decide +kernel
theorem dX4_ends_193 : decode cX4_ends 193 = .ok (.aload_n 0, 1) := by decide +kernel
theorem dX4_ends_194 : decode cX4_ends 194 = .ok (.getfield 20, 3) := by decide +kernel
theorem dX4_ends_197 : decode cX4_ends 197 = .ok (.iload_n 2, 1) := by decide +kernel
theorem dX4_ends_198 : decode cX4_ends 198 = .ok (.aload_n 0, 1) := by decide +kernel
theorem dX4_ends_199 : decode cX4_ends 199 = .ok (.iload_n 2, 1) := by decide +kernel
theorem dX4_ends_200 : decode cX4_ends 200 = .ok (.invokevirtual 107, 3) := by decide +kernel
theorem dX4_ends_203 : decode cX4_ends 203 = .ok (.ifCond .eq 20, 3) := by decide +kernel
theorem dX4_ends_206 : decode cX4_ends 206 = .ok (.aload_n 0, 1) := by decide +kernel
theorem dX4_ends_207 : decode cX4_ends 207 = .ok (.getfield 38, 3) := by decide +kernel
theorem dX4_ends_210 : decode cX4_ends 210 = .ok (.iload_n 2, 1) := by decide +kernel
theorem dX4_ends_211 : decode cX4_ends 211 = .ok (.iaload, 1) := by decide +kernel
theorem dX4_ends_212 : decode cX4_ends 212 = .ok (.aload_n 0, 1) := by decide +kernel
theorem dX4_ends_213 : decode cX4_ends 213 = .ok (.getfield 85, 3) := by decide +kernel
theorem dX4_ends_216 : decode cX4_ends 216 = .ok (.if_icmp .gt 7, 3) := by decide +kernel
theorem dX4_ends_219 : decode cX4_ends 219 = .ok (.iconst 5, 1) := by decide +kernel
theorem dX4_ends_220 : decode cX4_ends 220 = .ok (.goto 9, 3) := by decide +kernel
theorem dX4_ends_223 : decode cX4_ends 223 = .ok (.aload_n 0, 1) := by decide +kernel
theorem dX4_ends_224 : decode cX4_ends 224 = .ok (.getfield 20, 3) := by decide +kernel
theorem dX4_ends_227 : decode cX4_ends 227 = .ok (.iload_n 2, 1) := by decide +kernel
theorem dX4_ends_228 : decode cX4_ends 228 = .ok (.iaload, 1) := by decide +kernel
theorem dX4_ends_229 : decode cX4_ends 229 = .ok (.iastore, 1) := by decide +kernel
theorem dX4_ends_230 : decode cX4_ends 230 = .ok (.iinc 2 1, 3) := by decide +kernel
theorem dX4_ends_233 : decode cX4_ends 233 = .ok (.goto (-48), 3) := by decide +kernel
theorem dX4_ends_236 : decode cX4_ends 236 = .ok (.iload_n 1, 1) := by decide +kernel
theorem dX4_ends_237 : decode cX4_ends 237 = .ok (.ireturn, 1) := by decide +kernel
theorem dX4_pass_0 : decode cX4_pass 0 = .ok (.aload_n 0, 1) := by decide +kernel
theorem dX4_pass_1 : decode cX4_pass 1 = .ok (.iload_n 1, 1) := by decide +kernel
theorem dX4_pass_2 : decode cX4_pass 2 = .ok (.iconst 1, 1) := by decide +kernel
theorem dX4_pass_3 : decode cX4_pass 3 = .ok (.bipush 50, 2) := by decide +kernel
theorem dX4_pass_5 : decode cX4_pass 5 = .ok (.invokestatic 78, 3) := by decide +kernel
theorem dX4_pass_8 : decode cX4_pass 8 = .ok (.ifCond .ne 7, 3) := by decide +kernel
theorem dX4_pass_11 : decode cX4_pass 11 = .ok (.iconst 1, 1) := by decide +kernel
theorem dX4_pass_12 : decode cX4_pass 12 = .ok (.goto 20, 3) := by decide +kernel
theorem dX4_pass_15 : decode cX4_pass 15 = .ok (.aload_n 0, 1) := by decide +kernel
theorem dX4_pass_16 : decode cX4_pass 16 = .ok (.getfield 85, 3) := by decide +kernel
theorem dX4_pass_19 : decode cX4_pass 19 = .ok (.iload_n 1, 1) := by decide +kernel
theorem dX4_pass_20 : decode cX4_pass 20 = .ok (.iadd, 1) := by decide +kernel
theorem dX4_pass_21 : decode cX4_pass 21 = .ok (.sipush 1000, 3) := by decide +kernel
theorem dX4_pass_24 : decode cX4_pass 24 = .ok (.if_icmp .le 7, 3) := by decide +kernel
theorem dX4_pass_27 : decode cX4_pass 27 = .ok (.iconst 2, 1) := by decide +kernel
theorem dX4_pass_28 : decode cX4_pass 28 = .ok (.goto 4, 3) := by decide +kernel
theorem dX4_pass_31 : decode cX4_pass 31 = .ok (.iconst 0, 1) := by decide +kernel
theorem dX4_pass_32 : decode cX4_pass 32 = .ok (.putfield 71, 3) := by decide +kernel
theorem dX4_pass_35 : decode cX4_pass 35 = .ok (.iconst 0, 1) := by decide +kernel
theorem dX4_pass_36 : decode cX4_pass 36 = .ok (.istore_n 2, 1) := by decide +kernel
theorem dX4_pass_37 : decode cX4_pass 37 = .ok (.iconst 0, 1) := by decide +kernel
theorem dX4_pass_38 : decode cX4_pass 38 = .ok (.istore_n 3, 1) := by decide +kernel
theorem dX4_pass_39 : decode cX4_pass 39 = .ok (.iload_n 3, 1) := by decide +kernel
theorem dX4_pass_40 : decode cX4_pass 40 = .ok (.iload_n 1, 1) := by decide +kernel
theorem dX4_pass_41 : decode cX4_pass 41 = .ok (.if_icmp .ge 23, 3) := by decide +kernel
theorem dX4_pass_44 : decode cX4_pass 44 = .ok (.aload_n 0, 1) := by decide +kernel
theorem dX4_pass_45 : decode cX4_pass 45 = .ok (.getfield 71, 3) := by decide +kernel
theorem dX4_pass_48 : decode cX4_pass 48 = .ok (.ifCond .ne 16, 3) := by decide +kernel
theorem dX4_pass_51 : decode cX4_pass 51 = .ok (.iload_n 2, 1) := by decide +kernel
theorem dX4_pass_52 : decode cX4_pass 52 = .ok (.aload_n 0, 1) := by decide +kernel
theorem dX4_pass_53 : decode cX4_pass 53 = .ok (.invokevirtual 124, 3) := by decide +kernel
theorem dX4_pass_56 : decode cX4_pass 56 = .ok (.iadd, 1) := by decide +kernel
theorem dX4_pass_57 : decode cX4_pass 57 = .ok (.istore_n 2, 1) := by decide +kernel
theorem dX4_pass_58 : decode cX4_pass 58 = .ok (.iinc 3 1, 3) := by decide +kernel
theorem dX4_pass_61 : decode cX4_pass 61 = .ok (.goto (-22), 3) := by decide +kernel
theorem dX4_pass_64 : decode cX4_pass 64 = .ok (.iload_n 2, 1) := by decide +kernel
theorem dX4_pass_65 : decode cX4_pass 65 = .ok (.ireturn, 1) := by decide +kernel
theorem dX4_clash_0 : decode cX4_clash 0 = .ok (.aload_n 0, 1) := by decide +kernel
theorem dX4_clash_1 : decode cX4_clash 1 = .ok (.aload_n 0, 1) := by decide +kernel
theorem dX4_clash_2 : decode cX4_clash 2 = .ok (.iload_n 1, 1) := by decide +kernel
theorem dX4_clash_3 : decode cX4_clash 3 = .ok (.invokevirtual 88, 3) := by decide +kernel
theorem dX4_clash_6 : decode cX4_clash 6 = .ok (.ifCond .eq 19, 3) := by decide +kernel
theorem dX4_clash_9 : decode cX4_clash 9 = .ok (.iload_n 2, 1) := by decide +kernel
theorem dX4_clash_10 : decode cX4_clash 10 = .ok (.iconst 0, 1) := by decide +kernel
theorem dX4_clash_11 : decode cX4_clash 11 = .ok (.iconst 3, 1) := by decide +kernel
theorem dX4_clash_12 : decode cX4_clash 12 = .ok (.invokestatic 78, 3) := by decide +kernel
theorem dX4_clash_15 : decode cX4_clash 15 = .ok (.ifCond .eq 10, 3) := by decide +kernel
theorem dX4_clash_18 : decode cX4_clash 18 = .ok (.iload_n 3, 1) := by decide +kernel
theorem dX4_clash_19 : decode cX4_clash 19 = .ok (.invokestatic 104, 3) := by decide +kernel
theorem dX4_clash_22 : decode cX4_clash 22 = .ok (.ifCond .ne 7, 3) := by decide +kernel
theorem dX4_clash_25 : decode cX4_clash 25 = .ok (.iconst 1, 1) := by decide +kernel
theorem dX4_clash_26 : decode cX4_clash 26 = .ok (.goto 30, 3) := by decide +kernel
theorem dX4_clash_29 : decode cX4_clash 29 = .ok (.iload 4, 2) := by decide +kernel
theorem dX4_clash_31 : decode cX4_clash 31 = .ok (.iconst 0, 1) := by decide +kernel
theorem dX4_clash_32 : decode cX4_clash 32 = .ok (.sipush 999, 3) := by decide +kernel
theorem dX4_clash_35 : decode cX4_clash 35 = .ok (.invokestatic 78, 3) := by decide +kernel
theorem dX4_clash_38 : decode cX4_clash 38 = .ok (.ifCond .eq 13, 3) := by decide +kernel
theorem dX4_clash_41 : decode cX4_clash 41 = .ok (.iload 5, 2) := by decide +kernel
theorem dX4_clash_43 : decode cX4_clash 43 = .ok (.iconst 1, 1) := by decide +kernel
theorem dX4_clash_44 : decode cX4_clash 44 = .ok (.iconst 4, 1) := by decide +kernel
theorem dX4_clash_45 : decode cX4_clash 45 = .ok (.invokestatic 78, 3) := by decide +kernel
theorem dX4_clash_48 : decode cX4_clash 48 = .ok (.ifCond .ne 7, 3) := by decide +kernel
theorem dX4_clash_51 : decode cX4_clash 51 = .ok (.iconst 2, 1) := by decide +kernel
theorem dX4_clash_52 : decode cX4_clash 52 = .ok (.goto 4, 3) := by decide +kernel
theorem dX4_clash_55 : decode cX4_clash 55 = .ok (.iconst 0, 1) := by decide +kernel
theorem dX4_clash_56 : decode cX4_clash 56 = .ok (.putfield 71, 3) := by decide +kernel
theorem dX4_clash_59 : decode cX4_clash 59 = .ok (.aload_n 0, 1) := by decide +kernel
theorem dX4_clash_60 : decode cX4_clash 60 = .ok (.getfield 71, 3) := by decide +kernel
theorem dX4_clash_63 : decode cX4_clash 63 = .ok (.ifCond .le 7, 3) := by decide +kernel
theorem dX4_clash_66 : decode cX4_clash 66 = .ok (.iconst 0, 1) := by decide +kernel
theorem dX4_clash_67 : decode cX4_clash 67 = .ok (.goto 15, 3) := by decide +kernel
theorem dX4_clash_70 : decode cX4_clash 70 = .ok (.aload_n 0, 1) := by decide +kernel
theorem dX4_clash_71 : decode cX4_clash 71 = .ok (.iload_n 1, 1) := by decide +kernel
theorem dX4_clash_72 : decode cX4_clash 72 = .ok (.iload_n 2, 1) := by decide +kernel
theorem dX4_clash_73 : decode cX4_clash 73 = .ok (.iload_n 3, 1) := by decide +kernel
theorem dX4_clash_74 : decode cX4_clash 74 = .ok (.iload 4, 2) := by decide +kernel
theorem dX4_clash_76 : decode cX4_clash 76 = .ok (.iload 5, 2) := by decide +kernel
theorem dX4_clash_78 : decode cX4_clash 78 = .ok (.iconst (-1), 1) := by decide +kernel
theorem dX4_clash_79 : decode cX4_clash 79 = .ok (.invokevirtual 114, 3) := by decide +kernel
theorem dX4_clash_82 : decode cX4_clash 82 = .ok (.ireturn, 1) := by decide +kernel
theorem dX4_at_0 : decode cX4_at 0 = .ok (.aload_n 0, 1) := by decide +kernel
theorem dX4_at_1 : decode cX4_at 1 = .ok (.iload_n 1, 1) := by decide +kernel
theorem dX4_at_2 : decode cX4_at 2 = .ok (.iconst 0, 1) := by decide +kernel
theorem dX4_at_3 : decode cX4_at 3 = .ok (.iconst 3, 1) := by decide +kernel
theorem dX4_at_4 : decode cX4_at 4 = .ok (.invokestatic 78, 3) := by decide +kernel
theorem dX4_at_7 : decode cX4_at 7 = .ok (.ifCond .ne 7, 3) := by decide +kernel
theorem dX4_at_10 : decode cX4_at 10 = .ok (.iconst 1, 1) := by decide +kernel
theorem dX4_at_11 : decode cX4_at 11 = .ok (.goto 37, 3) := by decide +kernel
theorem dX4_at_14 : decode cX4_at 14 = .ok (.iload_n 2, 1) := by decide +kernel
theorem dX4_at_15 : decode cX4_at 15 = .ok (.iconst 0, 1) := by decide +kernel
theorem dX4_at_16 : decode cX4_at 16 = .ok (.iload_n 1, 1) := by decide +kernel
theorem dX4_at_17 : decode cX4_at 17 = .ok (.iconst 2, 1) := by decide +kernel
theorem dX4_at_18 : decode cX4_at 18 = .ok (.if_icmp .ne 7, 3) := by decide +kernel
theorem dX4_at_21 : decode cX4_at 21 = .ok (.iconst 5, 1) := by decide +kernel
theorem dX4_at_22 : decode cX4_at 22 = .ok (.goto 4, 3) := by decide +kernel
theorem dX4_at_25 : decode cX4_at 25 = .ok (.iconst 3, 1) := by decide +kernel
theorem dX4_at_26 : decode cX4_at 26 = .ok (.invokestatic 78, 3) := by decide +kernel
theorem dX4_at_29 : decode cX4_at 29 = .ok (.ifCond .eq 14, 3) := by decide +kernel
theorem dX4_at_32 : decode cX4_at 32 = .ok (.iload_n 3, 1) := by decide +kernel
theorem dX4_at_33 : decode cX4_at 33 = .ok (.iconst 0, 1) := by decide +kernel
theorem dX4_at_34 : decode cX4_at 34 = .ok (.sipush 1003, 3) := by decide +kernel
theorem dX4_at_37 : decode cX4_at 37 = .ok (.invokestatic 78, 3) := by decide +kernel
theorem dX4_at_40 : decode cX4_at 40 = .ok (.ifCond .ne 7, 3) := by decide +kernel
theorem dX4_at_43 : decode cX4_at 43 = .ok (.iconst 2, 1) := by decide +kernel
theorem dX4_at_44 : decode cX4_at 44 = .ok (.goto 4, 3) := by decide +kernel
theorem dX4_at_47 : decode cX4_at 47 = .ok (.iconst 0, 1) := by decide +kernel
theorem dX4_at_48 : decode cX4_at 48 = .ok (.putfield 71, 3) := by decide +kernel
theorem dX4_at_51 : decode cX4_at 51 = .ok (.iconst (-1), 1) := by decide +kernel
theorem dX4_at_52 : decode cX4_at 52 = .ok (.istore 4, 2) := by decide +kernel
theorem dX4_at_54 : decode cX4_at 54 = .ok (.iconst 0, 1) := by decide +kernel
theorem dX4_at_55 : decode cX4_at 55 = .ok (.istore 5, 2) := by decide +kernel
theorem dX4_at_57 : decode cX4_at 57 = .ok (.iload 5, 2) := by decide +kernel
theorem dX4_at_59 : decode cX4_at 59 = .ok (.aload_n 0, 1) := by decide +kernel
theorem dX4_at_60 : decode cX4_at 60 = .ok (.getfield 82, 3) := by decide +kernel
theorem dX4_at_63 : decode cX4_at 63 = .ok (.if_icmp .ge 171, 3) := by decide +kernel
theorem dX4_at_66 : decode cX4_at 66 = .ok (.aload_n 0, 1) := by decide +kernel
theorem dX4_at_67 : decode cX4_at 67 = .ok (.getfield 71, 3) := by decide +kernel
theorem dX4_at_70 : decode cX4_at 70 = .ok (.ifCond .ne 164, 3) := by decide +kernel
theorem dX4_at_73 : decode cX4_at 73 = .ok (.aload_n 0, 1) := by decide +kernel
theorem dX4_at_74 : decode cX4_at 74 = .ok (.getfield 44, 3) := by decide +kernel
theorem dX4_at_77 : decode cX4_at 77 = .ok (.iload 5, 2) := by decide +kernel
theorem dX4_at_79 : decode cX4_at 79 = .ok (.iaload, 1) := by decide +kernel
theorem dX4_at_80 : decode cX4_at 80 = .ok (.istore 6, 2) := by decide +kernel
theorem dX4_at_82 : decode cX4_at 82 = .ok (.iload_n 1, 1) := by decide +kernel
theorem dX4_at_83 : decode cX4_at 83 = .ok (.ifCond .ne 22, 3) := by decide +kernel
theorem dX4_at_86 : decode cX4_at 86 = .ok (.aload_n 0, 1) := by decide +kernel
theorem dX4_at_87 : decode cX4_at 87 = .ok (.getfield 47, 3) := by decide +kernel
theorem dX4_at_90 : decode cX4_at 90 = .ok (.iload 5, 2) := by decide +kernel
theorem dX4_at_92 : decode cX4_at 92 = .ok (.iaload, 1) := by decide +kernel
theorem dX4_at_93 : decode cX4_at 93 = .ok (.iload_n 2, 1) := by decide +kernel
theorem dX4_at_94 : decode cX4_at 94 = .ok (.if_icmp .ne 7, 3) := by decide +kernel
theorem dX4_at_97 : decode cX4_at 97 = .ok (.iconst 1, 1) := by decide +kernel
theorem dX4_at_98 : decode cX4_at 98 = .ok (.goto 82, 3) := by decide +kernel
theorem dX4_at_101 : decode cX4_at 101 = .ok (.iconst 0, 1) := by decide +kernel
theorem dX4_at_102 : decode cX4_at 102 = .ok (.goto 78, 3) := by decide +kernel
theorem dX4_at_105 : decode cX4_at 105 = .ok (.iload_n 1, 1) := by decide +kernel
theorem dX4_at_106 : decode cX4_at 106 = .ok (.iconst 1, 1) := by decide +kernel
theorem dX4_at_107 : decode cX4_at 107 = .ok (.if_icmp .ne 22, 3) := by decide +kernel
theorem dX4_at_110 : decode cX4_at 110 = .ok (.aload_n 0, 1) := by decide +kernel
theorem dX4_at_111 : decode cX4_at 111 = .ok (.getfield 23, 3) := by decide +kernel
theorem dX4_at_114 : decode cX4_at 114 = .ok (.iload 6, 2) := by decide +kernel
theorem dX4_at_116 : decode cX4_at 116 = .ok (.iaload, 1) := by decide +kernel
theorem dX4_at_117 : decode cX4_at 117 = .ok (.iload_n 2, 1) := by decide +kernel
theorem dX4_at_118 : decode cX4_at 118 = .ok (.if_icmp .ne 7, 3) := by decide +kernel
theorem dX4_at_121 : decode cX4_at 121 = .ok (.iconst 1, 1) := by decide +kernel
theorem dX4_at_122 : decode cX4_at 122 = .ok (.goto 58, 3) := by decide +kernel
theorem dX4_at_125 : decode cX4_at 125 = .ok (.iconst 0, 1) := by decide +kernel
theorem dX4_at_126 : decode cX4_at 126 = .ok (.goto 54, 3) := by decide +kernel
theorem dX4_at_129 : decode cX4_at 129 = .ok (.iload_n 1, 1) := by decide +kernel
theorem dX4_at_130 : decode cX4_at 130 = .ok (.iconst 2, 1) := by decide +kernel
theorem dX4_at_131 : decode cX4_at 131 = .ok (.if_icmp .ne 33, 3) := by decide +kernel
theorem dX4_at_134 : decode cX4_at 134 = .ok (.aload_n 0, 1) := by decide +kernel
theorem dX4_at_135 : decode cX4_at 135 = .ok (.getfield 26, 3) := by decide +kernel
theorem dX4_at_138 : decode cX4_at 138 = .ok (.iload 6, 2) := by decide +kernel
theorem dX4_at_140 : decode cX4_at 140 = .ok (.iaload, 1) := by decide +kernel
theorem dX4_at_141 : decode cX4_at 141 = .ok (.iload_n 2, 1) := by decide +kernel
theorem dX4_at_142 : decode cX4_at 142 = .ok (.if_icmp .eq 14, 3) := by decide +kernel
theorem dX4_at_145 : decode cX4_at 145 = .ok (.aload_n 0, 1) := by decide +kernel
theorem dX4_at_146 : decode cX4_at 146 = .ok (.getfield 29, 3) := by decide +kernel
theorem dX4_at_149 : decode cX4_at 149 = .ok (.iload 6, 2) := by decide +kernel
theorem dX4_at_151 : decode cX4_at 151 = .ok (.iaload, 1) := by decide +kernel
theorem dX4_at_152 : decode cX4_at 152 = .ok (.iload_n 2, 1) := by decide +kernel
theorem dX4_at_153 : decode cX4_at 153 = .ok (.if_icmp .ne 7, 3) := by decide +kernel
theorem dX4_at_156 : decode cX4_at 156 = .ok (.iconst 1, 1) := by decide +kernel
theorem dX4_at_157 : decode cX4_at 157 = .ok (.goto 23, 3) := by decide +kernel
theorem dX4_at_160 : decode cX4_at 160 = .ok (.iconst 0, 1) := by decide +kernel
theorem dX4_at_161 : decode cX4_at 161 = .ok (.goto 19, 3) := by decide +kernel
theorem dX4_at_164 : decode cX4_at 164 = .ok (.aload_n 0, 1) := by decide +kernel
theorem dX4_at_165 : decode cX4_at 165 = .ok (.getfield 50, 3) := by decide +kernel
theorem dX4_at_168 : decode cX4_at 168 = .ok (.iload 5, 2) := by decide +kernel
theorem dX4_at_170 : decode cX4_at 170 = .ok (.iaload, 1) := by decide +kernel
theorem dX4_at_171 : decode cX4_at 171 = .ok (.iload_n 2, 1) := by decide +kernel
theorem dX4_at_172 : decode cX4_at 172 = .ok (.if_icmp .ne 7, 3) := by decide +kernel
theorem dX4_at_175 : decode cX4_at 175 = .ok (.iconst 1, 1) := by decide +kernel
theorem dX4_at_176 : decode cX4_at 176 = .ok (.goto 4, 3) := by decide +kernel
theorem dX4_at_179 : decode cX4_at 179 = .ok (.iconst 0, 1) := by decide +kernel
theorem dX4_at_180 : decode cX4_at 180 = .ok (.istore 7, 2) := by decide +kernel
theorem dX4_at_182 : decode cX4_at 182 = .ok (.iload 7, 2) := by decide +kernel
theorem dX4_at_184 : decode cX4_at 184 = .ok (.ifCond .eq 40, 3) := by decide +kernel
theorem dX4_at_187 : decode cX4_at 187 = .ok (.aload_n 0, 1) := by decide +kernel
theorem dX4_at_188 : decode cX4_at 188 = .ok (.getfield 41, 3) := by decide +kernel
theorem dX4_at_191 : decode cX4_at 191 = .ok (.iload 5, 2) := by decide +kernel
theorem dX4_at_193 : decode cX4_at 193 = .ok (.iaload, 1) := by decide +kernel
theorem dX4_at_194 : decode cX4_at 194 = .ok (.ifCond .ne 30, 3) := by decide +kernel
theorem dX4_at_197 : decode cX4_at 197 = .ok (.aload_n 0, 1) := by decide +kernel
theorem dX4_at_198 : decode cX4_at 198 = .ok (.getfield 53, 3) := by decide +kernel
theorem dX4_at_201 : decode cX4_at 201 = .ok (.iload 5, 2) := by decide +kernel
theorem dX4_at_203 : decode cX4_at 203 = .ok (.iaload, 1) := by decide +kernel
theorem dX4_at_204 : decode cX4_at 204 = .ok (.aload_n 0, 1) := by decide +kernel
theorem dX4_at_205 : decode cX4_at 205 = .ok (.getfield 56, 3) := by decide +kernel
theorem dX4_at_208 : decode cX4_at 208 = .ok (.iload 5, 2) := by decide +kernel
theorem dX4_at_210 : decode cX4_at 210 = .ok (.iaload, 1) := by decide +kernel
theorem dX4_at_211 : decode cX4_at 211 = .ok (.iload_n 3, 1) := by decide +kernel
theorem dX4_at_212 : decode cX4_at 212 = .ok (.iconst 1, 1) := by decide +kernel
theorem dX4_at_213 : decode cX4_at 213 = .ok (.invokestatic 96, 3) := by decide +kernel
theorem dX4_at_216 : decode cX4_at 216 = .ok (.ifCond .eq 8, 3) := by decide +kernel
theorem dX4_at_219 : decode cX4_at 219 = .ok (.iload 5, 2) := by decide +kernel
theorem dX4_at_221 : decode cX4_at 221 = .ok (.goto 5, 3) := by decide +kernel
theorem dX4_at_224 : decode cX4_at 224 = .ok (.iload 4, 2) := by decide +kernel
theorem dX4_at_226 : decode cX4_at 226 = .ok (.istore 4, 2) := by decide +kernel
theorem dX4_at_228 : decode cX4_at 228 = .ok (.iinc 5 1, 3) := by decide +kernel
theorem dX4_at_231 : decode cX4_at 231 = .ok (.goto (-174), 3) := by decide +kernel
theorem dX4_at_234 : decode cX4_at 234 = .ok (.aload_n 0, 1) := by decide +kernel
theorem dX4_at_235 : decode cX4_at 235 = .ok (.getfield 71, 3) := by decide +kernel
theorem dX4_at_238 : decode cX4_at 238 = .ok (.ifCond .le 7, 3) := by decide +kernel
theorem dX4_at_241 : decode cX4_at 241 = .ok (.iconst 0, 1) := by decide +kernel
theorem dX4_at_242 : decode cX4_at 242 = .ok (.goto 5, 3) := by decide +kernel
theorem dX4_at_245 : decode cX4_at 245 = .ok (.iload 4, 2) := by decide +kernel
theorem dX4_at_247 : decode cX4_at 247 = .ok (.ireturn, 1) := by decide +kernel
theorem dX4_toCome_0 : decode cX4_toCome 0 = .ok (.iconst 0, 1) := by decide +kernel
theorem dX4_toCome_1 : decode cX4_toCome 1 = .ok (.istore_n 2, 1) := by decide +kernel
theorem dX4_toCome_2 : decode cX4_toCome 2 = .ok (.iconst 0, 1) := by decide +kernel
theorem dX4_toCome_3 : decode cX4_toCome 3 = .ok (.istore_n 3, 1) := by decide +kernel
theorem dX4_toCome_4 : decode cX4_toCome 4 = .ok (.iload_n 3, 1) := by decide +kernel
theorem dX4_toCome_5 : decode cX4_toCome 5 = .ok (.iconst 4, 1) := by decide +kernel
theorem dX4_toCome_6 : decode cX4_toCome 6 = .ok (.if_icmp .ge 58, 3) := by decide +kernel
theorem dX4_toCome_9 : decode cX4_toCome 9 = .ok (.aload_n 0, 1) := by decide +kernel
theorem dX4_toCome_10 : decode cX4_toCome 10 = .ok (.getfield 85, 3) := by decide +kernel
theorem dX4_toCome_13 : decode cX4_toCome 13 = .ok (.iconst 1, 1) := by decide +kernel
theorem dX4_toCome_14 : decode cX4_toCome 14 = .ok (.iadd, 1) := by decide +kernel
theorem dX4_toCome_15 : decode cX4_toCome 15 = .ok (.istore 4, 2) := by decide +kernel
theorem dX4_toCome_17 : decode cX4_toCome 17 = .ok (.iload 4, 2) := by decide +kernel
theorem dX4_toCome_19 : decode cX4_toCome 19 = .ok (.sipush 1004, 3) := by decide +kernel
theorem dX4_toCome_22 : decode cX4_toCome 22 = .ok (.if_icmp .ge 36, 3) := by decide +kernel
theorem dX4_toCome_25 : decode cX4_toCome 25 = .ok (.iload_n 2, 1) := by decide +kernel
theorem dX4_toCome_26 : decode cX4_toCome 26 = .ok (.aload_n 0, 1) := by decide +kernel
theorem dX4_toCome_27 : decode cX4_toCome 27 = .ok (.getfield 65, 3) := by decide +kernel
theorem dX4_toCome_30 : decode cX4_toCome 30 = .ok (.sipush 1004, 3) := by decide +kernel
theorem dX4_toCome_33 : decode cX4_toCome 33 = .ok (.iload_n 3, 1) := by decide +kernel
theorem dX4_toCome_34 : decode cX4_toCome 34 = .ok (.imul, 1) := by decide +kernel
theorem dX4_toCome_35 : decode cX4_toCome 35 = .ok (.iload 4, 2) := by decide +kernel
theorem dX4_toCome_37 : decode cX4_toCome 37 = .ok (.iadd, 1) := by decide +kernel
theorem dX4_toCome_38 : decode cX4_toCome 38 = .ok (.iaload, 1) := by decide +kernel
theorem dX4_toCome_39 : decode cX4_toCome 39 = .ok (.iload_n 1, 1) := by decide +kernel
theorem dX4_toCome_40 : decode cX4_toCome 40 = .ok (.iconst 1, 1) := by decide +kernel
theorem dX4_toCome_41 : decode cX4_toCome 41 = .ok (.iadd, 1) := by decide +kernel
theorem dX4_toCome_42 : decode cX4_toCome 42 = .ok (.if_icmp .ne 7, 3) := by decide +kernel
theorem dX4_toCome_45 : decode cX4_toCome 45 = .ok (.iconst 1, 1) := by decide +kernel
theorem dX4_toCome_46 : decode cX4_toCome 46 = .ok (.goto 4, 3) := by decide +kernel
theorem dX4_toCome_49 : decode cX4_toCome 49 = .ok (.iconst 0, 1) := by decide +kernel
theorem dX4_toCome_50 : decode cX4_toCome 50 = .ok (.iadd, 1) := by decide +kernel
theorem dX4_toCome_51 : decode cX4_toCome 51 = .ok (.istore_n 2, 1) := by decide +kernel
theorem dX4_toCome_52 : decode cX4_toCome 52 = .ok (.iinc 4 1, 3) := by decide +kernel
theorem dX4_toCome_55 : decode cX4_toCome 55 = .ok (.goto (-38), 3) := by decide +kernel
theorem dX4_toCome_58 : decode cX4_toCome 58 = .ok (.iinc 3 1, 3) := by decide +kernel
theorem dX4_toCome_61 : decode cX4_toCome 61 = .ok (.goto (-57), 3) := by decide +kernel
theorem dX4_toCome_64 : decode cX4_toCome 64 = .ok (.iload_n 2, 1) := by decide +kernel
theorem dX4_toCome_65 : decode cX4_toCome 65 = .ok (.ireturn, 1) := by decide +kernel
theorem dX4_about_0 : decode cX4_about 0 = .ok (.aload_n 0, 1) := by decide +kernel
theorem dX4_about_1 : decode cX4_about 1 = .ok (.aload_n 0, 1) := by decide +kernel
theorem dX4_about_2 : decode cX4_about 2 = .ok (.iload_n 1, 1) := by decide +kernel
theorem dX4_about_3 : decode cX4_about 3 = .ok (.invokevirtual 88, 3) := by decide +kernel
theorem dX4_about_6 : decode cX4_about 6 = .ok (.ifCond .ne 7, 3) := by decide +kernel
theorem dX4_about_9 : decode cX4_about 9 = .ok (.iconst 1, 1) := by decide +kernel
theorem dX4_about_10 : decode cX4_about 10 = .ok (.goto 18, 3) := by decide +kernel
theorem dX4_about_13 : decode cX4_about 13 = .ok (.iload_n 2, 1) := by decide +kernel
theorem dX4_about_14 : decode cX4_about 14 = .ok (.iconst 0, 1) := by decide +kernel
theorem dX4_about_15 : decode cX4_about 15 = .ok (.bipush 7, 2) := by decide +kernel
theorem dX4_about_17 : decode cX4_about 17 = .ok (.invokestatic 78, 3) := by decide +kernel
theorem dX4_about_20 : decode cX4_about 20 = .ok (.ifCond .ne 7, 3) := by decide +kernel
theorem dX4_about_23 : decode cX4_about 23 = .ok (.iconst 2, 1) := by decide +kernel
theorem dX4_about_24 : decode cX4_about 24 = .ok (.goto 4, 3) := by decide +kernel
theorem dX4_about_27 : decode cX4_about 27 = .ok (.iconst 0, 1) := by decide +kernel
theorem dX4_about_28 : decode cX4_about 28 = .ok (.putfield 71, 3) := by decide +kernel
theorem dX4_about_31 : decode cX4_about 31 = .ok (.aload_n 0, 1) := by decide +kernel
theorem dX4_about_32 : decode cX4_about 32 = .ok (.getfield 71, 3) := by decide +kernel
theorem dX4_about_35 : decode cX4_about 35 = .ok (.ifCond .le 5, 3) := by decide +kernel
theorem dX4_about_38 : decode cX4_about 38 = .ok (.iconst 0, 1) := by decide +kernel
theorem dX4_about_39 : decode cX4_about 39 = .ok (.ireturn, 1) := by decide +kernel
theorem dX4_about_40 : decode cX4_about 40 = .ok (.iload_n 2, 1) := by decide +kernel
theorem dX4_about_41 : decode cX4_about 41 = .ok (.tableswitch 92 0 6 #[43, 50, 57, 64, 71, 78, 85], 43) := by decide +kernel
theorem dX4_about_84 : decode cX4_about 84 = .ok (.aload_n 0, 1) := by decide +kernel
theorem dX4_about_85 : decode cX4_about 85 = .ok (.getfield 20, 3) := by decide +kernel
theorem dX4_about_88 : decode cX4_about 88 = .ok (.iload_n 1, 1) := by decide +kernel
theorem dX4_about_89 : decode cX4_about 89 = .ok (.iaload, 1) := by decide +kernel
theorem dX4_about_90 : decode cX4_about 90 = .ok (.ireturn, 1) := by decide +kernel
theorem dX4_about_91 : decode cX4_about 91 = .ok (.aload_n 0, 1) := by decide +kernel
theorem dX4_about_92 : decode cX4_about 92 = .ok (.getfield 23, 3) := by decide +kernel
theorem dX4_about_95 : decode cX4_about 95 = .ok (.iload_n 1, 1) := by decide +kernel
theorem dX4_about_96 : decode cX4_about 96 = .ok (.iaload, 1) := by decide +kernel
theorem dX4_about_97 : decode cX4_about 97 = .ok (.ireturn, 1) := by decide +kernel
theorem dX4_about_98 : decode cX4_about 98 = .ok (.aload_n 0, 1) := by decide +kernel
theorem dX4_about_99 : decode cX4_about 99 = .ok (.getfield 26, 3) := by decide +kernel
theorem dX4_about_102 : decode cX4_about 102 = .ok (.iload_n 1, 1) := by decide +kernel
theorem dX4_about_103 : decode cX4_about 103 = .ok (.iaload, 1) := by decide +kernel
theorem dX4_about_104 : decode cX4_about 104 = .ok (.ireturn, 1) := by decide +kernel
theorem dX4_about_105 : decode cX4_about 105 = .ok (.aload_n 0, 1) := by decide +kernel
theorem dX4_about_106 : decode cX4_about 106 = .ok (.getfield 29, 3) := by decide +kernel
theorem dX4_about_109 : decode cX4_about 109 = .ok (.iload_n 1, 1) := by decide +kernel
theorem dX4_about_110 : decode cX4_about 110 = .ok (.iaload, 1) := by decide +kernel
theorem dX4_about_111 : decode cX4_about 111 = .ok (.ireturn, 1) := by decide +kernel
theorem dX4_about_112 : decode cX4_about 112 = .ok (.aload_n 0, 1) := by decide +kernel
theorem dX4_about_113 : decode cX4_about 113 = .ok (.getfield 32, 3) := by decide +kernel
theorem dX4_about_116 : decode cX4_about 116 = .ok (.iload_n 1, 1) := by decide +kernel
theorem dX4_about_117 : decode cX4_about 117 = .ok (.iaload, 1) := by decide +kernel
theorem dX4_about_118 : decode cX4_about 118 = .ok (.ireturn, 1) := by decide +kernel
theorem dX4_about_119 : decode cX4_about 119 = .ok (.aload_n 0, 1) := by decide +kernel
theorem dX4_about_120 : decode cX4_about 120 = .ok (.getfield 35, 3) := by decide +kernel
theorem dX4_about_123 : decode cX4_about 123 = .ok (.iload_n 1, 1) := by decide +kernel
theorem dX4_about_124 : decode cX4_about 124 = .ok (.iaload, 1) := by decide +kernel
theorem dX4_about_125 : decode cX4_about 125 = .ok (.ireturn, 1) := by decide +kernel
theorem dX4_about_126 : decode cX4_about 126 = .ok (.aload_n 0, 1) := by decide +kernel
theorem dX4_about_127 : decode cX4_about 127 = .ok (.getfield 38, 3) := by decide +kernel
theorem dX4_about_130 : decode cX4_about 130 = .ok (.iload_n 1, 1) := by decide +kernel
theorem dX4_about_131 : decode cX4_about 131 = .ok (.iaload, 1) := by decide +kernel
theorem dX4_about_132 : decode cX4_about 132 = .ok (.ireturn, 1) := by decide +kernel
theorem dX4_about_133 : decode cX4_about 133 = .ok (.aload_n 0, 1) := by decide +kernel
theorem dX4_about_134 : decode cX4_about 134 = .ok (.iload_n 1, 1) := by decide +kernel
theorem dX4_about_135 : decode cX4_about 135 = .ok (.invokevirtual 128, 3) := by decide +kernel
theorem dX4_about_138 : decode cX4_about 138 = .ok (.ireturn, 1) := by decide +kernel
theorem dX4_hearing_0 : decode cX4_hearing 0 = .ok (.aload_n 0, 1) := by decide +kernel
theorem dX4_hearing_1 : decode cX4_hearing 1 = .ok (.aload_n 0, 1) := by decide +kernel
theorem dX4_hearing_2 : decode cX4_hearing 2 = .ok (.iload_n 1, 1) := by decide +kernel
theorem dX4_hearing_3 : decode cX4_hearing 3 = .ok (.invokevirtual 121, 3) := by decide +kernel
theorem dX4_hearing_6 : decode cX4_hearing 6 = .ok (.ifCond .ne 7, 3) := by decide +kernel
theorem dX4_hearing_9 : decode cX4_hearing 9 = .ok (.iconst 1, 1) := by decide +kernel
theorem dX4_hearing_10 : decode cX4_hearing 10 = .ok (.goto 18, 3) := by decide +kernel
theorem dX4_hearing_13 : decode cX4_hearing 13 = .ok (.iload_n 2, 1) := by decide +kernel
theorem dX4_hearing_14 : decode cX4_hearing 14 = .ok (.iconst 0, 1) := by decide +kernel
theorem dX4_hearing_15 : decode cX4_hearing 15 = .ok (.bipush 7, 2) := by decide +kernel
theorem dX4_hearing_17 : decode cX4_hearing 17 = .ok (.invokestatic 78, 3) := by decide +kernel
theorem dX4_hearing_20 : decode cX4_hearing 20 = .ok (.ifCond .ne 7, 3) := by decide +kernel
theorem dX4_hearing_23 : decode cX4_hearing 23 = .ok (.iconst 2, 1) := by decide +kernel
theorem dX4_hearing_24 : decode cX4_hearing 24 = .ok (.goto 4, 3) := by decide +kernel
theorem dX4_hearing_27 : decode cX4_hearing 27 = .ok (.iconst 0, 1) := by decide +kernel
theorem dX4_hearing_28 : decode cX4_hearing 28 = .ok (.putfield 71, 3) := by decide +kernel
theorem dX4_hearing_31 : decode cX4_hearing 31 = .ok (.aload_n 0, 1) := by decide +kernel
theorem dX4_hearing_32 : decode cX4_hearing 32 = .ok (.getfield 71, 3) := by decide +kernel
theorem dX4_hearing_35 : decode cX4_hearing 35 = .ok (.ifCond .le 5, 3) := by decide +kernel
theorem dX4_hearing_38 : decode cX4_hearing 38 = .ok (.iconst 0, 1) := by decide +kernel
theorem dX4_hearing_39 : decode cX4_hearing 39 = .ok (.ireturn, 1) := by decide +kernel
theorem dX4_hearing_40 : decode cX4_hearing 40 = .ok (.iload_n 2, 1) := by decide +kernel
theorem dX4_hearing_41 : decode cX4_hearing 41 = .ok (.tableswitch 103 0 6 #[43, 50, 57, 64, 71, 78, 85], 43) := by decide +kernel
theorem dX4_hearing_84 : decode cX4_hearing 84 = .ok (.aload_n 0, 1) := by decide +kernel
theorem dX4_hearing_85 : decode cX4_hearing 85 = .ok (.getfield 41, 3) := by decide +kernel
theorem dX4_hearing_88 : decode cX4_hearing 88 = .ok (.iload_n 1, 1) := by decide +kernel
theorem dX4_hearing_89 : decode cX4_hearing 89 = .ok (.iaload, 1) := by decide +kernel
theorem dX4_hearing_90 : decode cX4_hearing 90 = .ok (.ireturn, 1) := by decide +kernel
theorem dX4_hearing_91 : decode cX4_hearing 91 = .ok (.aload_n 0, 1) := by decide +kernel
theorem dX4_hearing_92 : decode cX4_hearing 92 = .ok (.getfield 44, 3) := by decide +kernel
theorem dX4_hearing_95 : decode cX4_hearing 95 = .ok (.iload_n 1, 1) := by decide +kernel
theorem dX4_hearing_96 : decode cX4_hearing 96 = .ok (.iaload, 1) := by decide +kernel
theorem dX4_hearing_97 : decode cX4_hearing 97 = .ok (.ireturn, 1) := by decide +kernel
theorem dX4_hearing_98 : decode cX4_hearing 98 = .ok (.aload_n 0, 1) := by decide +kernel
theorem dX4_hearing_99 : decode cX4_hearing 99 = .ok (.getfield 47, 3) := by decide +kernel
theorem dX4_hearing_102 : decode cX4_hearing 102 = .ok (.iload_n 1, 1) := by decide +kernel
theorem dX4_hearing_103 : decode cX4_hearing 103 = .ok (.iaload, 1) := by decide +kernel
theorem dX4_hearing_104 : decode cX4_hearing 104 = .ok (.ireturn, 1) := by decide +kernel
theorem dX4_hearing_105 : decode cX4_hearing 105 = .ok (.aload_n 0, 1) := by decide +kernel
theorem dX4_hearing_106 : decode cX4_hearing 106 = .ok (.getfield 50, 3) := by decide +kernel
theorem dX4_hearing_109 : decode cX4_hearing 109 = .ok (.iload_n 1, 1) := by decide +kernel
theorem dX4_hearing_110 : decode cX4_hearing 110 = .ok (.iaload, 1) := by decide +kernel
theorem dX4_hearing_111 : decode cX4_hearing 111 = .ok (.ireturn, 1) := by decide +kernel
theorem dX4_hearing_112 : decode cX4_hearing 112 = .ok (.aload_n 0, 1) := by decide +kernel
theorem dX4_hearing_113 : decode cX4_hearing 113 = .ok (.getfield 53, 3) := by decide +kernel
theorem dX4_hearing_116 : decode cX4_hearing 116 = .ok (.iload_n 1, 1) := by decide +kernel
theorem dX4_hearing_117 : decode cX4_hearing 117 = .ok (.iaload, 1) := by decide +kernel
theorem dX4_hearing_118 : decode cX4_hearing 118 = .ok (.ireturn, 1) := by decide +kernel
theorem dX4_hearing_119 : decode cX4_hearing 119 = .ok (.aload_n 0, 1) := by decide +kernel
theorem dX4_hearing_120 : decode cX4_hearing 120 = .ok (.getfield 56, 3) := by decide +kernel
theorem dX4_hearing_123 : decode cX4_hearing 123 = .ok (.iload_n 1, 1) := by decide +kernel
theorem dX4_hearing_124 : decode cX4_hearing 124 = .ok (.iaload, 1) := by decide +kernel
theorem dX4_hearing_125 : decode cX4_hearing 125 = .ok (.ireturn, 1) := by decide +kernel
theorem dX4_hearing_126 : decode cX4_hearing 126 = .ok (.aload_n 0, 1) := by decide +kernel
theorem dX4_hearing_127 : decode cX4_hearing 127 = .ok (.getfield 59, 3) := by decide +kernel
theorem dX4_hearing_130 : decode cX4_hearing 130 = .ok (.iload_n 1, 1) := by decide +kernel
theorem dX4_hearing_131 : decode cX4_hearing 131 = .ok (.iaload, 1) := by decide +kernel
theorem dX4_hearing_132 : decode cX4_hearing 132 = .ok (.iconst 1, 1) := by decide +kernel
theorem dX4_hearing_133 : decode cX4_hearing 133 = .ok (.iand, 1) := by decide +kernel
theorem dX4_hearing_134 : decode cX4_hearing 134 = .ok (.aload_n 0, 1) := by decide +kernel
theorem dX4_hearing_135 : decode cX4_hearing 135 = .ok (.getfield 59, 3) := by decide +kernel
theorem dX4_hearing_138 : decode cX4_hearing 138 = .ok (.iload_n 1, 1) := by decide +kernel
theorem dX4_hearing_139 : decode cX4_hearing 139 = .ok (.iaload, 1) := by decide +kernel
theorem dX4_hearing_140 : decode cX4_hearing 140 = .ok (.iconst 1, 1) := by decide +kernel
theorem dX4_hearing_141 : decode cX4_hearing 141 = .ok (.ishr, 1) := by decide +kernel
theorem dX4_hearing_142 : decode cX4_hearing 142 = .ok (.iadd, 1) := by decide +kernel
theorem dX4_hearing_143 : decode cX4_hearing 143 = .ok (.ireturn, 1) := by decide +kernel
theorem dX4_hearing_144 : decode cX4_hearing 144 = .ok (.aload_n 0, 1) := by decide +kernel
theorem dX4_hearing_145 : decode cX4_hearing 145 = .ok (.getfield 62, 3) := by decide +kernel
theorem dX4_hearing_148 : decode cX4_hearing 148 = .ok (.iconst 4, 1) := by decide +kernel
theorem dX4_hearing_149 : decode cX4_hearing 149 = .ok (.iload_n 1, 1) := by decide +kernel
theorem dX4_hearing_150 : decode cX4_hearing 150 = .ok (.imul, 1) := by decide +kernel
theorem dX4_hearing_151 : decode cX4_hearing 151 = .ok (.iaload, 1) := by decide +kernel
theorem dX4_hearing_152 : decode cX4_hearing 152 = .ok (.aload_n 0, 1) := by decide +kernel
theorem dX4_hearing_153 : decode cX4_hearing 153 = .ok (.getfield 62, 3) := by decide +kernel
theorem dX4_hearing_156 : decode cX4_hearing 156 = .ok (.iconst 4, 1) := by decide +kernel
theorem dX4_hearing_157 : decode cX4_hearing 157 = .ok (.iload_n 1, 1) := by decide +kernel
theorem dX4_hearing_158 : decode cX4_hearing 158 = .ok (.imul, 1) := by decide +kernel
theorem dX4_hearing_159 : decode cX4_hearing 159 = .ok (.iconst 1, 1) := by decide +kernel
theorem dX4_hearing_160 : decode cX4_hearing 160 = .ok (.iadd, 1) := by decide +kernel
theorem dX4_hearing_161 : decode cX4_hearing 161 = .ok (.iaload, 1) := by decide +kernel
theorem dX4_hearing_162 : decode cX4_hearing 162 = .ok (.iadd, 1) := by decide +kernel
theorem dX4_hearing_163 : decode cX4_hearing 163 = .ok (.aload_n 0, 1) := by decide +kernel
theorem dX4_hearing_164 : decode cX4_hearing 164 = .ok (.getfield 62, 3) := by decide +kernel
theorem dX4_hearing_167 : decode cX4_hearing 167 = .ok (.iconst 4, 1) := by decide +kernel
theorem dX4_hearing_168 : decode cX4_hearing 168 = .ok (.iload_n 1, 1) := by decide +kernel
theorem dX4_hearing_169 : decode cX4_hearing 169 = .ok (.imul, 1) := by decide +kernel
theorem dX4_hearing_170 : decode cX4_hearing 170 = .ok (.iconst 2, 1) := by decide +kernel
theorem dX4_hearing_171 : decode cX4_hearing 171 = .ok (.iadd, 1) := by decide +kernel
theorem dX4_hearing_172 : decode cX4_hearing 172 = .ok (.iaload, 1) := by decide +kernel
theorem dX4_hearing_173 : decode cX4_hearing 173 = .ok (.iadd, 1) := by decide +kernel
theorem dX4_hearing_174 : decode cX4_hearing 174 = .ok (.aload_n 0, 1) := by decide +kernel
theorem dX4_hearing_175 : decode cX4_hearing 175 = .ok (.getfield 62, 3) := by decide +kernel
theorem dX4_hearing_178 : decode cX4_hearing 178 = .ok (.iconst 4, 1) := by decide +kernel
theorem dX4_hearing_179 : decode cX4_hearing 179 = .ok (.iload_n 1, 1) := by decide +kernel
theorem dX4_hearing_180 : decode cX4_hearing 180 = .ok (.imul, 1) := by decide +kernel
theorem dX4_hearing_181 : decode cX4_hearing 181 = .ok (.iconst 3, 1) := by decide +kernel
theorem dX4_hearing_182 : decode cX4_hearing 182 = .ok (.iadd, 1) := by decide +kernel
theorem dX4_hearing_183 : decode cX4_hearing 183 = .ok (.iaload, 1) := by decide +kernel
theorem dX4_hearing_184 : decode cX4_hearing 184 = .ok (.iadd, 1) := by decide +kernel
theorem dX4_hearing_185 : decode cX4_hearing 185 = .ok (.ireturn, 1) := by decide +kernel
theorem dX4_paidBy_0 : decode cX4_paidBy 0 = .ok (.aload_n 0, 1) := by decide +kernel
theorem dX4_paidBy_1 : decode cX4_paidBy 1 = .ok (.iload_n 1, 1) := by decide +kernel
theorem dX4_paidBy_2 : decode cX4_paidBy 2 = .ok (.iconst 0, 1) := by decide +kernel
theorem dX4_paidBy_3 : decode cX4_paidBy 3 = .ok (.iconst 3, 1) := by decide +kernel
theorem dX4_paidBy_4 : decode cX4_paidBy 4 = .ok (.invokestatic 78, 3) := by decide +kernel
theorem dX4_paidBy_7 : decode cX4_paidBy 7 = .ok (.ifCond .eq 18, 3) := by decide +kernel
theorem dX4_paidBy_10 : decode cX4_paidBy 10 = .ok (.iload_n 2, 1) := by decide +kernel
theorem dX4_paidBy_11 : decode cX4_paidBy 11 = .ok (.iconst 0, 1) := by decide +kernel
theorem dX4_paidBy_12 : decode cX4_paidBy 12 = .ok (.sipush 1003, 3) := by decide +kernel
theorem dX4_paidBy_15 : decode cX4_paidBy 15 = .ok (.invokestatic 78, 3) := by decide +kernel
theorem dX4_paidBy_18 : decode cX4_paidBy 18 = .ok (.ifCond .eq 7, 3) := by decide +kernel
theorem dX4_paidBy_21 : decode cX4_paidBy 21 = .ok (.iconst 0, 1) := by decide +kernel
theorem dX4_paidBy_22 : decode cX4_paidBy 22 = .ok (.goto 4, 3) := by decide +kernel
theorem dX4_paidBy_25 : decode cX4_paidBy 25 = .ok (.iconst 1, 1) := by decide +kernel
theorem dX4_paidBy_26 : decode cX4_paidBy 26 = .ok (.putfield 71, 3) := by decide +kernel
theorem dX4_paidBy_29 : decode cX4_paidBy 29 = .ok (.aload_n 0, 1) := by decide +kernel
theorem dX4_paidBy_30 : decode cX4_paidBy 30 = .ok (.getfield 71, 3) := by decide +kernel
theorem dX4_paidBy_33 : decode cX4_paidBy 33 = .ok (.ifCond .le 5, 3) := by decide +kernel
theorem dX4_paidBy_36 : decode cX4_paidBy 36 = .ok (.iconst 0, 1) := by decide +kernel
theorem dX4_paidBy_37 : decode cX4_paidBy 37 = .ok (.ireturn, 1) := by decide +kernel
theorem dX4_paidBy_38 : decode cX4_paidBy 38 = .ok (.iload_n 2, 1) := by decide +kernel
theorem dX4_paidBy_39 : decode cX4_paidBy 39 = .ok (.aload_n 0, 1) := by decide +kernel
theorem dX4_paidBy_40 : decode cX4_paidBy 40 = .ok (.getfield 85, 3) := by decide +kernel
theorem dX4_paidBy_43 : decode cX4_paidBy 43 = .ok (.if_icmp .le 20, 3) := by decide +kernel
theorem dX4_paidBy_46 : decode cX4_paidBy 46 = .ok (.aload_n 0, 1) := by decide +kernel
theorem dX4_paidBy_47 : decode cX4_paidBy 47 = .ok (.getfield 65, 3) := by decide +kernel
theorem dX4_paidBy_50 : decode cX4_paidBy 50 = .ok (.sipush 1004, 3) := by decide +kernel
theorem dX4_paidBy_53 : decode cX4_paidBy 53 = .ok (.iload_n 1, 1) := by decide +kernel
theorem dX4_paidBy_54 : decode cX4_paidBy 54 = .ok (.imul, 1) := by decide +kernel
theorem dX4_paidBy_55 : decode cX4_paidBy 55 = .ok (.iload_n 2, 1) := by decide +kernel
theorem dX4_paidBy_56 : decode cX4_paidBy 56 = .ok (.iadd, 1) := by decide +kernel
theorem dX4_paidBy_57 : decode cX4_paidBy 57 = .ok (.iaload, 1) := by decide +kernel
theorem dX4_paidBy_58 : decode cX4_paidBy 58 = .ok (.iconst 1, 1) := by decide +kernel
theorem dX4_paidBy_59 : decode cX4_paidBy 59 = .ok (.isub, 1) := by decide +kernel
theorem dX4_paidBy_60 : decode cX4_paidBy 60 = .ok (.goto 4, 3) := by decide +kernel
theorem dX4_paidBy_63 : decode cX4_paidBy 63 = .ok (.iconst (-1), 1) := by decide +kernel
theorem dX4_paidBy_64 : decode cX4_paidBy 64 = .ok (.ireturn, 1) := by decide +kernel
theorem dX4_balances_0 : decode cX4_balances 0 = .ok (.aload_n 0, 1) := by decide +kernel
theorem dX4_balances_1 : decode cX4_balances 1 = .ok (.iconst 0, 1) := by decide +kernel
theorem dX4_balances_2 : decode cX4_balances 2 = .ok (.putfield 71, 3) := by decide +kernel
theorem dX4_balances_5 : decode cX4_balances 5 = .ok (.iconst 0, 1) := by decide +kernel
theorem dX4_balances_6 : decode cX4_balances 6 = .ok (.istore_n 1, 1) := by decide +kernel
theorem dX4_balances_7 : decode cX4_balances 7 = .ok (.iconst 0, 1) := by decide +kernel
theorem dX4_balances_8 : decode cX4_balances 8 = .ok (.istore_n 2, 1) := by decide +kernel
theorem dX4_balances_9 : decode cX4_balances 9 = .ok (.iload_n 2, 1) := by decide +kernel
theorem dX4_balances_10 : decode cX4_balances 10 = .ok (.aload_n 0, 1) := by decide +kernel
theorem dX4_balances_11 : decode cX4_balances 11 = .ok (.getfield 75, 3) := by decide +kernel
theorem dX4_balances_14 : decode cX4_balances 14 = .ok (.if_icmp .ge 18, 3) := by decide +kernel
theorem dX4_balances_17 : decode cX4_balances 17 = .ok (.iload_n 1, 1) := by decide +kernel
theorem dX4_balances_18 : decode cX4_balances 18 = .ok (.aload_n 0, 1) := by decide +kernel
theorem dX4_balances_19 : decode cX4_balances 19 = .ok (.getfield 35, 3) := by decide +kernel
theorem dX4_balances_22 : decode cX4_balances 22 = .ok (.iload_n 2, 1) := by decide +kernel
theorem dX4_balances_23 : decode cX4_balances 23 = .ok (.iaload, 1) := by decide +kernel
theorem dX4_balances_24 : decode cX4_balances 24 = .ok (.iadd, 1) := by decide +kernel
theorem dX4_balances_25 : decode cX4_balances 25 = .ok (.istore_n 1, 1) := by decide +kernel
theorem dX4_balances_26 : decode cX4_balances 26 = .ok (.iinc 2 1, 3) := by decide +kernel
theorem dX4_balances_29 : decode cX4_balances 29 = .ok (.goto (-20), 3) := by decide +kernel
theorem dX4_balances_32 : decode cX4_balances 32 = .ok (.iload_n 1, 1) := by decide +kernel
theorem dX4_balances_33 : decode cX4_balances 33 = .ok (.ireturn, 1) := by decide +kernel
theorem dX4_hour_0 : decode cX4_hour 0 = .ok (.aload_n 0, 1) := by decide +kernel
theorem dX4_hour_1 : decode cX4_hour 1 = .ok (.iconst 0, 1) := by decide +kernel
theorem dX4_hour_2 : decode cX4_hour 2 = .ok (.putfield 71, 3) := by decide +kernel
theorem dX4_hour_5 : decode cX4_hour 5 = .ok (.aload_n 0, 1) := by decide +kernel
theorem dX4_hour_6 : decode cX4_hour 6 = .ok (.getfield 85, 3) := by decide +kernel
theorem dX4_hour_9 : decode cX4_hour 9 = .ok (.ireturn, 1) := by decide +kernel
theorem dL_interpreter_0 : decode cL_interpreter 0 = .ok (.aload 4, 2) := by decide +kernel
theorem dL_interpreter_2 : decode cL_interpreter 2 = .ok (.iconst 0, 1) := by decide +kernel
theorem dL_interpreter_3 : decode cL_interpreter 3 = .ok (.aload_n 0, 1) := by decide +kernel
theorem dL_interpreter_4 : decode cL_interpreter 4 = .ok (.iload_n 1, 1) := by decide +kernel
theorem dL_interpreter_5 : decode cL_interpreter 5 = .ok (.iload_n 2, 1) := by decide +kernel
theorem dL_interpreter_6 : decode cL_interpreter 6 = .ok (.iload_n 3, 1) := by decide +kernel
theorem dL_interpreter_7 : decode cL_interpreter 7 = .ok (.invokevirtual 7, 3) := by decide +kernel
theorem dL_interpreter_10 : decode cL_interpreter 10 = .ok (.i2l, 1) := by decide +kernel
theorem dL_interpreter_11 : decode cL_interpreter 11 = .ok (.lastore, 1) := by decide +kernel
theorem dL_interpreter_12 : decode cL_interpreter 12 = .ok (.goto 11, 3) := by decide +kernel
theorem dL_interpreter_15 : decode cL_interpreter 15 = .ok (.astore 5, 2) := by decide +kernel
theorem dL_interpreter_17 : decode cL_interpreter 17 = .ok (.iconst 1, 1) := by decide +kernel
theorem dL_interpreter_18 : decode cL_interpreter 18 = .ok (.ireturn, 1) := by decide +kernel
theorem dL_interpreter_19 : decode cL_interpreter 19 = .ok (.astore 5, 2) := by decide +kernel
theorem dL_interpreter_21 : decode cL_interpreter 21 = .ok (.iconst 2, 1) := by decide +kernel
theorem dL_interpreter_22 : decode cL_interpreter 22 = .ok (.ireturn, 1) := by decide +kernel
theorem dL_interpreter_23 : decode cL_interpreter 23 = .ok (.iconst 0, 1) := by decide +kernel
theorem dL_interpreter_24 : decode cL_interpreter 24 = .ok (.ireturn, 1) := by decide +kernel
theorem dL_waive_0 : decode cL_waive 0 = .ok (.aload_n 3, 1) := by decide +kernel
theorem dL_waive_1 : decode cL_waive 1 = .ok (.iconst 0, 1) := by decide +kernel
theorem dL_waive_2 : decode cL_waive 2 = .ok (.aload_n 0, 1) := by decide +kernel
theorem dL_waive_3 : decode cL_waive 3 = .ok (.iload_n 1, 1) := by decide +kernel
theorem dL_waive_4 : decode cL_waive 4 = .ok (.iload_n 2, 1) := by decide +kernel
theorem dL_waive_5 : decode cL_waive 5 = .ok (.invokevirtual 17, 3) := by decide +kernel
theorem dL_waive_8 : decode cL_waive 8 = .ok (.ifCond .eq 7, 3) := by decide +kernel
theorem dL_waive_11 : decode cL_waive 11 = .ok (.lconst 1, 1) := by decide +kernel
theorem dL_waive_12 : decode cL_waive 12 = .ok (.goto 4, 3) := by decide +kernel
theorem dL_waive_15 : decode cL_waive 15 = .ok (.lconst 0, 1) := by decide +kernel
theorem dL_waive_16 : decode cL_waive 16 = .ok (.lastore, 1) := by decide +kernel
theorem dL_waive_17 : decode cL_waive 17 = .ok (.goto 7, 3) := by decide +kernel
theorem dL_waive_20 : decode cL_waive 20 = .ok (.astore 4, 2) := by decide +kernel
theorem dL_waive_22 : decode cL_waive 22 = .ok (.iconst 1, 1) := by decide +kernel
theorem dL_waive_23 : decode cL_waive 23 = .ok (.ireturn, 1) := by decide +kernel
theorem dL_waive_24 : decode cL_waive 24 = .ok (.iconst 0, 1) := by decide +kernel
theorem dL_waive_25 : decode cL_waive 25 = .ok (.ireturn, 1) := by decide +kernel
theorem dL_file_0 : decode cL_file 0 = .ok (.aload 5, 2) := by decide +kernel
theorem dL_file_2 : decode cL_file 2 = .ok (.iconst 0, 1) := by decide +kernel
theorem dL_file_3 : decode cL_file 3 = .ok (.aload_n 0, 1) := by decide +kernel
theorem dL_file_4 : decode cL_file 4 = .ok (.iload_n 1, 1) := by decide +kernel
theorem dL_file_5 : decode cL_file 5 = .ok (.iload_n 2, 1) := by decide +kernel
theorem dL_file_6 : decode cL_file 6 = .ok (.iload_n 3, 1) := by decide +kernel
theorem dL_file_7 : decode cL_file 7 = .ok (.iload 4, 2) := by decide +kernel
theorem dL_file_9 : decode cL_file 9 = .ok (.invokevirtual 21, 3) := by decide +kernel
theorem dL_file_12 : decode cL_file 12 = .ok (.i2l, 1) := by decide +kernel
theorem dL_file_13 : decode cL_file 13 = .ok (.lastore, 1) := by decide +kernel
theorem dL_file_14 : decode cL_file 14 = .ok (.goto 15, 3) := by decide +kernel
theorem dL_file_17 : decode cL_file 17 = .ok (.astore 6, 2) := by decide +kernel
theorem dL_file_19 : decode cL_file 19 = .ok (.iconst 1, 1) := by decide +kernel
theorem dL_file_20 : decode cL_file 20 = .ok (.ireturn, 1) := by decide +kernel
theorem dL_file_21 : decode cL_file 21 = .ok (.astore 6, 2) := by decide +kernel
theorem dL_file_23 : decode cL_file 23 = .ok (.iconst 2, 1) := by decide +kernel
theorem dL_file_24 : decode cL_file 24 = .ok (.ireturn, 1) := by decide +kernel
theorem dL_file_25 : decode cL_file 25 = .ok (.astore 6, 2) := by decide +kernel
theorem dL_file_27 : decode cL_file 27 = .ok (.iconst 3, 1) := by decide +kernel
theorem dL_file_28 : decode cL_file 28 = .ok (.ireturn, 1) := by decide +kernel
theorem dL_file_29 : decode cL_file 29 = .ok (.iconst 0, 1) := by decide +kernel
theorem dL_file_30 : decode cL_file 30 = .ok (.ireturn, 1) := by decide +kernel
theorem dL_pay_0 : decode cL_pay 0 = .ok (.aload_n 3, 1) := by decide +kernel
theorem dL_pay_1 : decode cL_pay 1 = .ok (.iconst 0, 1) := by decide +kernel
theorem dL_pay_2 : decode cL_pay 2 = .ok (.aload_n 0, 1) := by decide +kernel
theorem dL_pay_3 : decode cL_pay 3 = .ok (.iload_n 1, 1) := by decide +kernel
theorem dL_pay_4 : decode cL_pay 4 = .ok (.iload_n 2, 1) := by decide +kernel
theorem dL_pay_5 : decode cL_pay 5 = .ok (.invokevirtual 27, 3) := by decide +kernel
theorem dL_pay_8 : decode cL_pay 8 = .ok (.i2l, 1) := by decide +kernel
theorem dL_pay_9 : decode cL_pay 9 = .ok (.lastore, 1) := by decide +kernel
theorem dL_pay_10 : decode cL_pay 10 = .ok (.goto 11, 3) := by decide +kernel
theorem dL_pay_13 : decode cL_pay 13 = .ok (.astore 4, 2) := by decide +kernel
theorem dL_pay_15 : decode cL_pay 15 = .ok (.iconst 1, 1) := by decide +kernel
theorem dL_pay_16 : decode cL_pay 16 = .ok (.ireturn, 1) := by decide +kernel
theorem dL_pay_17 : decode cL_pay 17 = .ok (.astore 4, 2) := by decide +kernel
theorem dL_pay_19 : decode cL_pay 19 = .ok (.iconst 2, 1) := by decide +kernel
theorem dL_pay_20 : decode cL_pay 20 = .ok (.ireturn, 1) := by decide +kernel
theorem dL_pay_21 : decode cL_pay 21 = .ok (.iconst 0, 1) := by decide +kernel
theorem dL_pay_22 : decode cL_pay 22 = .ok (.ireturn, 1) := by decide +kernel
theorem dL_decide_0 : decode cL_decide 0 = .ok (.aload_n 2, 1) := by decide +kernel
theorem dL_decide_1 : decode cL_decide 1 = .ok (.iconst 0, 1) := by decide +kernel
theorem dL_decide_2 : decode cL_decide 2 = .ok (.aload_n 0, 1) := by decide +kernel
theorem dL_decide_3 : decode cL_decide 3 = .ok (.iload_n 1, 1) := by decide +kernel
theorem dL_decide_4 : decode cL_decide 4 = .ok (.invokevirtual 31, 3) := by decide +kernel
theorem dL_decide_7 : decode cL_decide 7 = .ok (.i2l, 1) := by decide +kernel
theorem dL_decide_8 : decode cL_decide 8 = .ok (.lastore, 1) := by decide +kernel
theorem dL_decide_9 : decode cL_decide 9 = .ok (.goto 9, 3) := by decide +kernel
theorem dL_decide_12 : decode cL_decide 12 = .ok (.astore_n 3, 1) := by decide +kernel
theorem dL_decide_13 : decode cL_decide 13 = .ok (.iconst 1, 1) := by decide +kernel
theorem dL_decide_14 : decode cL_decide 14 = .ok (.ireturn, 1) := by decide +kernel
theorem dL_decide_15 : decode cL_decide 15 = .ok (.astore_n 3, 1) := by decide +kernel
theorem dL_decide_16 : decode cL_decide 16 = .ok (.iconst 2, 1) := by decide +kernel
theorem dL_decide_17 : decode cL_decide 17 = .ok (.ireturn, 1) := by decide +kernel
theorem dL_decide_18 : decode cL_decide 18 = .ok (.iconst 0, 1) := by decide +kernel
theorem dL_decide_19 : decode cL_decide 19 = .ok (.ireturn, 1) := by decide +kernel
theorem dL_appeal_0 : decode cL_appeal 0 = .ok (.aload_n 2, 1) := by decide +kernel
theorem dL_appeal_1 : decode cL_appeal 1 = .ok (.iconst 0, 1) := by decide +kernel
theorem dL_appeal_2 : decode cL_appeal 2 = .ok (.aload_n 0, 1) := by decide +kernel
theorem dL_appeal_3 : decode cL_appeal 3 = .ok (.iload_n 1, 1) := by decide +kernel
theorem dL_appeal_4 : decode cL_appeal 4 = .ok (.invokevirtual 35, 3) := by decide +kernel
theorem dL_appeal_7 : decode cL_appeal 7 = .ok (.i2l, 1) := by decide +kernel
theorem dL_appeal_8 : decode cL_appeal 8 = .ok (.lastore, 1) := by decide +kernel
theorem dL_appeal_9 : decode cL_appeal 9 = .ok (.goto 9, 3) := by decide +kernel
theorem dL_appeal_12 : decode cL_appeal 12 = .ok (.astore_n 3, 1) := by decide +kernel
theorem dL_appeal_13 : decode cL_appeal 13 = .ok (.iconst 1, 1) := by decide +kernel
theorem dL_appeal_14 : decode cL_appeal 14 = .ok (.ireturn, 1) := by decide +kernel
theorem dL_appeal_15 : decode cL_appeal 15 = .ok (.astore_n 3, 1) := by decide +kernel
theorem dL_appeal_16 : decode cL_appeal 16 = .ok (.iconst 2, 1) := by decide +kernel
theorem dL_appeal_17 : decode cL_appeal 17 = .ok (.ireturn, 1) := by decide +kernel
theorem dL_appeal_18 : decode cL_appeal 18 = .ok (.iconst 0, 1) := by decide +kernel
theorem dL_appeal_19 : decode cL_appeal 19 = .ok (.ireturn, 1) := by decide +kernel
theorem dL_settle_0 : decode cL_settle 0 = .ok (.aload_n 3, 1) := by decide +kernel
theorem dL_settle_1 : decode cL_settle 1 = .ok (.iconst 0, 1) := by decide +kernel
theorem dL_settle_2 : decode cL_settle 2 = .ok (.aload_n 0, 1) := by decide +kernel
theorem dL_settle_3 : decode cL_settle 3 = .ok (.iload_n 1, 1) := by decide +kernel
theorem dL_settle_4 : decode cL_settle 4 = .ok (.iload_n 2, 1) := by decide +kernel
theorem dL_settle_5 : decode cL_settle 5 = .ok (.invokevirtual 38, 3) := by decide +kernel
theorem dL_settle_8 : decode cL_settle 8 = .ok (.i2l, 1) := by decide +kernel
theorem dL_settle_9 : decode cL_settle 9 = .ok (.lastore, 1) := by decide +kernel
theorem dL_settle_10 : decode cL_settle 10 = .ok (.goto 11, 3) := by decide +kernel
theorem dL_settle_13 : decode cL_settle 13 = .ok (.astore 4, 2) := by decide +kernel
theorem dL_settle_15 : decode cL_settle 15 = .ok (.iconst 1, 1) := by decide +kernel
theorem dL_settle_16 : decode cL_settle 16 = .ok (.ireturn, 1) := by decide +kernel
theorem dL_settle_17 : decode cL_settle 17 = .ok (.astore 4, 2) := by decide +kernel
theorem dL_settle_19 : decode cL_settle 19 = .ok (.iconst 2, 1) := by decide +kernel
theorem dL_settle_20 : decode cL_settle 20 = .ok (.ireturn, 1) := by decide +kernel
theorem dL_settle_21 : decode cL_settle 21 = .ok (.iconst 0, 1) := by decide +kernel
theorem dL_settle_22 : decode cL_settle 22 = .ok (.ireturn, 1) := by decide +kernel
theorem dL_close_0 : decode cL_close 0 = .ok (.aload_n 2, 1) := by decide +kernel
theorem dL_close_1 : decode cL_close 1 = .ok (.iconst 0, 1) := by decide +kernel
theorem dL_close_2 : decode cL_close 2 = .ok (.aload_n 0, 1) := by decide +kernel
theorem dL_close_3 : decode cL_close 3 = .ok (.iload_n 1, 1) := by decide +kernel
theorem dL_close_4 : decode cL_close 4 = .ok (.invokevirtual 42, 3) := by decide +kernel
theorem dL_close_7 : decode cL_close 7 = .ok (.i2l, 1) := by decide +kernel
theorem dL_close_8 : decode cL_close 8 = .ok (.lastore, 1) := by decide +kernel
theorem dL_close_9 : decode cL_close 9 = .ok (.goto 9, 3) := by decide +kernel
theorem dL_close_12 : decode cL_close 12 = .ok (.astore_n 3, 1) := by decide +kernel
theorem dL_close_13 : decode cL_close 13 = .ok (.iconst 1, 1) := by decide +kernel
theorem dL_close_14 : decode cL_close 14 = .ok (.ireturn, 1) := by decide +kernel
theorem dL_close_15 : decode cL_close 15 = .ok (.astore_n 3, 1) := by decide +kernel
theorem dL_close_16 : decode cL_close 16 = .ok (.iconst 2, 1) := by decide +kernel
theorem dL_close_17 : decode cL_close 17 = .ok (.ireturn, 1) := by decide +kernel
theorem dL_close_18 : decode cL_close 18 = .ok (.iconst 0, 1) := by decide +kernel
theorem dL_close_19 : decode cL_close 19 = .ok (.ireturn, 1) := by decide +kernel
theorem dL_plan_0 : decode cL_plan 0 = .ok (.aload 6, 2) := by decide +kernel
theorem dL_plan_2 : decode cL_plan 2 = .ok (.iconst 0, 1) := by decide +kernel
theorem dL_plan_3 : decode cL_plan 3 = .ok (.aload_n 0, 1) := by decide +kernel
theorem dL_plan_4 : decode cL_plan 4 = .ok (.iload_n 1, 1) := by decide +kernel
theorem dL_plan_5 : decode cL_plan 5 = .ok (.iload_n 2, 1) := by decide +kernel
theorem dL_plan_6 : decode cL_plan 6 = .ok (.iload_n 3, 1) := by decide +kernel
theorem dL_plan_7 : decode cL_plan 7 = .ok (.iload 4, 2) := by decide +kernel
theorem dL_plan_9 : decode cL_plan 9 = .ok (.iload 5, 2) := by decide +kernel
theorem dL_plan_11 : decode cL_plan 11 = .ok (.invokevirtual 45, 3) := by decide +kernel
theorem dL_plan_14 : decode cL_plan 14 = .ok (.i2l, 1) := by decide +kernel
theorem dL_plan_15 : decode cL_plan 15 = .ok (.lastore, 1) := by decide +kernel
theorem dL_plan_16 : decode cL_plan 16 = .ok (.goto 15, 3) := by decide +kernel
theorem dL_plan_19 : decode cL_plan 19 = .ok (.astore 7, 2) := by decide +kernel
theorem dL_plan_21 : decode cL_plan 21 = .ok (.iconst 1, 1) := by decide +kernel
theorem dL_plan_22 : decode cL_plan 22 = .ok (.ireturn, 1) := by decide +kernel
theorem dL_plan_23 : decode cL_plan 23 = .ok (.astore 7, 2) := by decide +kernel
theorem dL_plan_25 : decode cL_plan 25 = .ok (.iconst 2, 1) := by decide +kernel
theorem dL_plan_26 : decode cL_plan 26 = .ok (.ireturn, 1) := by decide +kernel
theorem dL_plan_27 : decode cL_plan 27 = .ok (.astore 7, 2) := by decide +kernel
theorem dL_plan_29 : decode cL_plan 29 = .ok (.iconst 3, 1) := by decide +kernel
theorem dL_plan_30 : decode cL_plan 30 = .ok (.ireturn, 1) := by decide +kernel
theorem dL_plan_31 : decode cL_plan 31 = .ok (.iconst 0, 1) := by decide +kernel
theorem dL_plan_32 : decode cL_plan 32 = .ok (.ireturn, 1) := by decide +kernel
theorem dL_move_0 : decode cL_move 0 = .ok (.aload 5, 2) := by decide +kernel
theorem dL_move_2 : decode cL_move 2 = .ok (.iconst 0, 1) := by decide +kernel
theorem dL_move_3 : decode cL_move 3 = .ok (.aload_n 0, 1) := by decide +kernel
theorem dL_move_4 : decode cL_move 4 = .ok (.iload_n 1, 1) := by decide +kernel
theorem dL_move_5 : decode cL_move 5 = .ok (.iload_n 2, 1) := by decide +kernel
theorem dL_move_6 : decode cL_move 6 = .ok (.iload_n 3, 1) := by decide +kernel
theorem dL_move_7 : decode cL_move 7 = .ok (.iload 4, 2) := by decide +kernel
theorem dL_move_9 : decode cL_move 9 = .ok (.invokevirtual 49, 3) := by decide +kernel
theorem dL_move_12 : decode cL_move 12 = .ok (.i2l, 1) := by decide +kernel
theorem dL_move_13 : decode cL_move 13 = .ok (.lastore, 1) := by decide +kernel
theorem dL_move_14 : decode cL_move 14 = .ok (.goto 15, 3) := by decide +kernel
theorem dL_move_17 : decode cL_move 17 = .ok (.astore 6, 2) := by decide +kernel
theorem dL_move_19 : decode cL_move 19 = .ok (.iconst 1, 1) := by decide +kernel
theorem dL_move_20 : decode cL_move 20 = .ok (.ireturn, 1) := by decide +kernel
theorem dL_move_21 : decode cL_move 21 = .ok (.astore 6, 2) := by decide +kernel
theorem dL_move_23 : decode cL_move 23 = .ok (.iconst 2, 1) := by decide +kernel
theorem dL_move_24 : decode cL_move 24 = .ok (.ireturn, 1) := by decide +kernel
theorem dL_move_25 : decode cL_move 25 = .ok (.astore 6, 2) := by decide +kernel
theorem dL_move_27 : decode cL_move 27 = .ok (.iconst 3, 1) := by decide +kernel
theorem dL_move_28 : decode cL_move 28 = .ok (.ireturn, 1) := by decide +kernel
theorem dL_move_29 : decode cL_move 29 = .ok (.iconst 0, 1) := by decide +kernel
theorem dL_move_30 : decode cL_move 30 = .ok (.ireturn, 1) := by decide +kernel
theorem dL_drop_0 : decode cL_drop 0 = .ok (.aload_n 2, 1) := by decide +kernel
theorem dL_drop_1 : decode cL_drop 1 = .ok (.iconst 0, 1) := by decide +kernel
theorem dL_drop_2 : decode cL_drop 2 = .ok (.aload_n 0, 1) := by decide +kernel
theorem dL_drop_3 : decode cL_drop 3 = .ok (.iload_n 1, 1) := by decide +kernel
theorem dL_drop_4 : decode cL_drop 4 = .ok (.invokevirtual 52, 3) := by decide +kernel
theorem dL_drop_7 : decode cL_drop 7 = .ok (.i2l, 1) := by decide +kernel
theorem dL_drop_8 : decode cL_drop 8 = .ok (.lastore, 1) := by decide +kernel
theorem dL_drop_9 : decode cL_drop 9 = .ok (.goto 9, 3) := by decide +kernel
theorem dL_drop_12 : decode cL_drop 12 = .ok (.astore_n 3, 1) := by decide +kernel
theorem dL_drop_13 : decode cL_drop 13 = .ok (.iconst 1, 1) := by decide +kernel
theorem dL_drop_14 : decode cL_drop 14 = .ok (.ireturn, 1) := by decide +kernel
theorem dL_drop_15 : decode cL_drop 15 = .ok (.astore_n 3, 1) := by decide +kernel
theorem dL_drop_16 : decode cL_drop 16 = .ok (.iconst 2, 1) := by decide +kernel
theorem dL_drop_17 : decode cL_drop 17 = .ok (.ireturn, 1) := by decide +kernel
theorem dL_drop_18 : decode cL_drop 18 = .ok (.iconst 0, 1) := by decide +kernel
theorem dL_drop_19 : decode cL_drop 19 = .ok (.ireturn, 1) := by decide +kernel
theorem dL_notice_0 : decode cL_notice 0 = .ok (.aload_n 3, 1) := by decide +kernel
theorem dL_notice_1 : decode cL_notice 1 = .ok (.iconst 0, 1) := by decide +kernel
theorem dL_notice_2 : decode cL_notice 2 = .ok (.aload_n 0, 1) := by decide +kernel
theorem dL_notice_3 : decode cL_notice 3 = .ok (.iload_n 1, 1) := by decide +kernel
theorem dL_notice_4 : decode cL_notice 4 = .ok (.iload_n 2, 1) := by decide +kernel
theorem dL_notice_5 : decode cL_notice 5 = .ok (.invokevirtual 55, 3) := by decide +kernel
theorem dL_notice_8 : decode cL_notice 8 = .ok (.ifCond .eq 7, 3) := by decide +kernel
theorem dL_notice_11 : decode cL_notice 11 = .ok (.lconst 1, 1) := by decide +kernel
theorem dL_notice_12 : decode cL_notice 12 = .ok (.goto 4, 3) := by decide +kernel
theorem dL_notice_15 : decode cL_notice 15 = .ok (.lconst 0, 1) := by decide +kernel
theorem dL_notice_16 : decode cL_notice 16 = .ok (.lastore, 1) := by decide +kernel
theorem dL_notice_17 : decode cL_notice 17 = .ok (.goto 15, 3) := by decide +kernel
theorem dL_notice_20 : decode cL_notice 20 = .ok (.astore 4, 2) := by decide +kernel
theorem dL_notice_22 : decode cL_notice 22 = .ok (.iconst 1, 1) := by decide +kernel
theorem dL_notice_23 : decode cL_notice 23 = .ok (.ireturn, 1) := by decide +kernel
theorem dL_notice_24 : decode cL_notice 24 = .ok (.astore 4, 2) := by decide +kernel
theorem dL_notice_26 : decode cL_notice 26 = .ok (.iconst 2, 1) := by decide +kernel
theorem dL_notice_27 : decode cL_notice 27 = .ok (.ireturn, 1) := by decide +kernel
theorem dL_notice_28 : decode cL_notice 28 = .ok (.astore 4, 2) := by decide +kernel
theorem dL_notice_30 : decode cL_notice 30 = .ok (.iconst 3, 1) := by decide +kernel
theorem dL_notice_31 : decode cL_notice 31 = .ok (.ireturn, 1) := by decide +kernel
theorem dL_notice_32 : decode cL_notice 32 = .ok (.iconst 0, 1) := by decide +kernel
theorem dL_notice_33 : decode cL_notice 33 = .ok (.ireturn, 1) := by decide +kernel
theorem dL_pass_0 : decode cL_pass 0 = .ok (.aload_n 2, 1) := by decide +kernel
theorem dL_pass_1 : decode cL_pass 1 = .ok (.iconst 0, 1) := by decide +kernel
theorem dL_pass_2 : decode cL_pass 2 = .ok (.aload_n 0, 1) := by decide +kernel
theorem dL_pass_3 : decode cL_pass 3 = .ok (.iload_n 1, 1) := by decide +kernel
theorem dL_pass_4 : decode cL_pass 4 = .ok (.invokevirtual 59, 3) := by decide +kernel
theorem dL_pass_7 : decode cL_pass 7 = .ok (.i2l, 1) := by decide +kernel
theorem dL_pass_8 : decode cL_pass 8 = .ok (.lastore, 1) := by decide +kernel
theorem dL_pass_9 : decode cL_pass 9 = .ok (.goto 9, 3) := by decide +kernel
theorem dL_pass_12 : decode cL_pass 12 = .ok (.astore_n 3, 1) := by decide +kernel
theorem dL_pass_13 : decode cL_pass 13 = .ok (.iconst 1, 1) := by decide +kernel
theorem dL_pass_14 : decode cL_pass 14 = .ok (.ireturn, 1) := by decide +kernel
theorem dL_pass_15 : decode cL_pass 15 = .ok (.astore_n 3, 1) := by decide +kernel
theorem dL_pass_16 : decode cL_pass 16 = .ok (.iconst 2, 1) := by decide +kernel
theorem dL_pass_17 : decode cL_pass 17 = .ok (.ireturn, 1) := by decide +kernel
theorem dL_pass_18 : decode cL_pass 18 = .ok (.iconst 0, 1) := by decide +kernel
theorem dL_pass_19 : decode cL_pass 19 = .ok (.ireturn, 1) := by decide +kernel
theorem dL_clash_0 : decode cL_clash 0 = .ok (.aload 6, 2) := by decide +kernel
theorem dL_clash_2 : decode cL_clash 2 = .ok (.iconst 0, 1) := by decide +kernel
theorem dL_clash_3 : decode cL_clash 3 = .ok (.aload_n 0, 1) := by decide +kernel
theorem dL_clash_4 : decode cL_clash 4 = .ok (.iload_n 1, 1) := by decide +kernel
theorem dL_clash_5 : decode cL_clash 5 = .ok (.iload_n 2, 1) := by decide +kernel
theorem dL_clash_6 : decode cL_clash 6 = .ok (.iload_n 3, 1) := by decide +kernel
theorem dL_clash_7 : decode cL_clash 7 = .ok (.iload 4, 2) := by decide +kernel
theorem dL_clash_9 : decode cL_clash 9 = .ok (.iload 5, 2) := by decide +kernel
theorem dL_clash_11 : decode cL_clash 11 = .ok (.invokevirtual 62, 3) := by decide +kernel
theorem dL_clash_14 : decode cL_clash 14 = .ok (.i2l, 1) := by decide +kernel
theorem dL_clash_15 : decode cL_clash 15 = .ok (.lastore, 1) := by decide +kernel
theorem dL_clash_16 : decode cL_clash 16 = .ok (.goto 11, 3) := by decide +kernel
theorem dL_clash_19 : decode cL_clash 19 = .ok (.astore 7, 2) := by decide +kernel
theorem dL_clash_21 : decode cL_clash 21 = .ok (.iconst 1, 1) := by decide +kernel
theorem dL_clash_22 : decode cL_clash 22 = .ok (.ireturn, 1) := by decide +kernel
theorem dL_clash_23 : decode cL_clash 23 = .ok (.astore 7, 2) := by decide +kernel
theorem dL_clash_25 : decode cL_clash 25 = .ok (.iconst 2, 1) := by decide +kernel
theorem dL_clash_26 : decode cL_clash 26 = .ok (.ireturn, 1) := by decide +kernel
theorem dL_clash_27 : decode cL_clash 27 = .ok (.iconst 0, 1) := by decide +kernel
theorem dL_clash_28 : decode cL_clash 28 = .ok (.ireturn, 1) := by decide +kernel
theorem dL_at_0 : decode cL_at 0 = .ok (.aload 4, 2) := by decide +kernel
theorem dL_at_2 : decode cL_at 2 = .ok (.iconst 0, 1) := by decide +kernel
theorem dL_at_3 : decode cL_at 3 = .ok (.aload_n 0, 1) := by decide +kernel
theorem dL_at_4 : decode cL_at 4 = .ok (.iload_n 1, 1) := by decide +kernel
theorem dL_at_5 : decode cL_at 5 = .ok (.iload_n 2, 1) := by decide +kernel
theorem dL_at_6 : decode cL_at 6 = .ok (.iload_n 3, 1) := by decide +kernel
theorem dL_at_7 : decode cL_at 7 = .ok (.invokevirtual 65, 3) := by decide +kernel
theorem dL_at_10 : decode cL_at 10 = .ok (.i2l, 1) := by decide +kernel
theorem dL_at_11 : decode cL_at 11 = .ok (.lastore, 1) := by decide +kernel
theorem dL_at_12 : decode cL_at 12 = .ok (.goto 11, 3) := by decide +kernel
theorem dL_at_15 : decode cL_at 15 = .ok (.astore 5, 2) := by decide +kernel
theorem dL_at_17 : decode cL_at 17 = .ok (.iconst 1, 1) := by decide +kernel
theorem dL_at_18 : decode cL_at 18 = .ok (.ireturn, 1) := by decide +kernel
theorem dL_at_19 : decode cL_at 19 = .ok (.astore 5, 2) := by decide +kernel
theorem dL_at_21 : decode cL_at 21 = .ok (.iconst 2, 1) := by decide +kernel
theorem dL_at_22 : decode cL_at 22 = .ok (.ireturn, 1) := by decide +kernel
theorem dL_at_23 : decode cL_at 23 = .ok (.iconst 0, 1) := by decide +kernel
theorem dL_at_24 : decode cL_at 24 = .ok (.ireturn, 1) := by decide +kernel
theorem dL_about_0 : decode cL_about 0 = .ok (.aload_n 3, 1) := by decide +kernel
theorem dL_about_1 : decode cL_about 1 = .ok (.iconst 0, 1) := by decide +kernel
theorem dL_about_2 : decode cL_about 2 = .ok (.aload_n 0, 1) := by decide +kernel
theorem dL_about_3 : decode cL_about 3 = .ok (.iload_n 1, 1) := by decide +kernel
theorem dL_about_4 : decode cL_about 4 = .ok (.iload_n 2, 1) := by decide +kernel
theorem dL_about_5 : decode cL_about 5 = .ok (.invokevirtual 68, 3) := by decide +kernel
theorem dL_about_8 : decode cL_about 8 = .ok (.i2l, 1) := by decide +kernel
theorem dL_about_9 : decode cL_about 9 = .ok (.lastore, 1) := by decide +kernel
theorem dL_about_10 : decode cL_about 10 = .ok (.goto 11, 3) := by decide +kernel
theorem dL_about_13 : decode cL_about 13 = .ok (.astore 4, 2) := by decide +kernel
theorem dL_about_15 : decode cL_about 15 = .ok (.iconst 1, 1) := by decide +kernel
theorem dL_about_16 : decode cL_about 16 = .ok (.ireturn, 1) := by decide +kernel
theorem dL_about_17 : decode cL_about 17 = .ok (.astore 4, 2) := by decide +kernel
theorem dL_about_19 : decode cL_about 19 = .ok (.iconst 2, 1) := by decide +kernel
theorem dL_about_20 : decode cL_about 20 = .ok (.ireturn, 1) := by decide +kernel
theorem dL_about_21 : decode cL_about 21 = .ok (.iconst 0, 1) := by decide +kernel
theorem dL_about_22 : decode cL_about 22 = .ok (.ireturn, 1) := by decide +kernel
theorem dL_hearing_0 : decode cL_hearing 0 = .ok (.aload_n 3, 1) := by decide +kernel
theorem dL_hearing_1 : decode cL_hearing 1 = .ok (.iconst 0, 1) := by decide +kernel
theorem dL_hearing_2 : decode cL_hearing 2 = .ok (.aload_n 0, 1) := by decide +kernel
theorem dL_hearing_3 : decode cL_hearing 3 = .ok (.iload_n 1, 1) := by decide +kernel
theorem dL_hearing_4 : decode cL_hearing 4 = .ok (.iload_n 2, 1) := by decide +kernel
theorem dL_hearing_5 : decode cL_hearing 5 = .ok (.invokevirtual 71, 3) := by decide +kernel
theorem dL_hearing_8 : decode cL_hearing 8 = .ok (.i2l, 1) := by decide +kernel
theorem dL_hearing_9 : decode cL_hearing 9 = .ok (.lastore, 1) := by decide +kernel
theorem dL_hearing_10 : decode cL_hearing 10 = .ok (.goto 11, 3) := by decide +kernel
theorem dL_hearing_13 : decode cL_hearing 13 = .ok (.astore 4, 2) := by decide +kernel
theorem dL_hearing_15 : decode cL_hearing 15 = .ok (.iconst 1, 1) := by decide +kernel
theorem dL_hearing_16 : decode cL_hearing 16 = .ok (.ireturn, 1) := by decide +kernel
theorem dL_hearing_17 : decode cL_hearing 17 = .ok (.astore 4, 2) := by decide +kernel
theorem dL_hearing_19 : decode cL_hearing 19 = .ok (.iconst 2, 1) := by decide +kernel
theorem dL_hearing_20 : decode cL_hearing 20 = .ok (.ireturn, 1) := by decide +kernel
theorem dL_hearing_21 : decode cL_hearing 21 = .ok (.iconst 0, 1) := by decide +kernel
theorem dL_hearing_22 : decode cL_hearing 22 = .ok (.ireturn, 1) := by decide +kernel
theorem dL_paidBy_0 : decode cL_paidBy 0 = .ok (.aload_n 3, 1) := by decide +kernel
theorem dL_paidBy_1 : decode cL_paidBy 1 = .ok (.iconst 0, 1) := by decide +kernel
theorem dL_paidBy_2 : decode cL_paidBy 2 = .ok (.aload_n 0, 1) := by decide +kernel
theorem dL_paidBy_3 : decode cL_paidBy 3 = .ok (.iload_n 1, 1) := by decide +kernel
theorem dL_paidBy_4 : decode cL_paidBy 4 = .ok (.iload_n 2, 1) := by decide +kernel
theorem dL_paidBy_5 : decode cL_paidBy 5 = .ok (.invokevirtual 74, 3) := by decide +kernel
theorem dL_paidBy_8 : decode cL_paidBy 8 = .ok (.i2l, 1) := by decide +kernel
theorem dL_paidBy_9 : decode cL_paidBy 9 = .ok (.lastore, 1) := by decide +kernel
theorem dL_paidBy_10 : decode cL_paidBy 10 = .ok (.goto 7, 3) := by decide +kernel
theorem dL_paidBy_13 : decode cL_paidBy 13 = .ok (.astore 4, 2) := by decide +kernel
theorem dL_paidBy_15 : decode cL_paidBy 15 = .ok (.iconst 1, 1) := by decide +kernel
theorem dL_paidBy_16 : decode cL_paidBy 16 = .ok (.ireturn, 1) := by decide +kernel
theorem dL_paidBy_17 : decode cL_paidBy 17 = .ok (.iconst 0, 1) := by decide +kernel
theorem dL_paidBy_18 : decode cL_paidBy 18 = .ok (.ireturn, 1) := by decide +kernel
theorem dL_law_0 : decode cL_law 0 = .ok (.new 8, 3) := by decide +kernel
theorem dL_law_3 : decode cL_law 3 = .ok (.dup, 1) := by decide +kernel
theorem dL_law_4 : decode cL_law 4 = .ok (.invokespecial 77, 3) := by decide +kernel
theorem dL_law_7 : decode cL_law 7 = .ok (.astore_n 1, 1) := by decide +kernel
theorem dL_law_8 : decode cL_law 8 = .ok (.new 78, 3) := by decide +kernel
theorem dL_law_11 : decode cL_law 11 = .ok (.dup, 1) := by decide +kernel
theorem dL_law_12 : decode cL_law 12 = .ok (.invokespecial 80, 3) := by decide +kernel
theorem dL_law_15 : decode cL_law 15 = .ok (.astore_n 2, 1) := by decide +kernel
theorem dL_law_16 : decode cL_law 16 = .ok (.iconst 1, 1) := by decide +kernel
theorem dL_law_17 : decode cL_law 17 = .ok (.newarray .long, 2) := by decide +kernel
theorem dL_law_19 : decode cL_law 19 = .ok (.astore_n 3, 1) := by decide +kernel
theorem dL_law_20 : decode cL_law 20 = .ok (.iconst 0, 1) := by decide +kernel
theorem dL_law_21 : decode cL_law 21 = .ok (.istore 4, 2) := by decide +kernel
theorem dL_law_23 : decode cL_law 23 = .ok (.iload 4, 2) := by decide +kernel
theorem dL_law_25 : decode cL_law 25 = .ok (.aload_n 0, 1) := by decide +kernel
theorem dL_law_26 : decode cL_law 26 = .ok (.arraylength, 1) := by decide +kernel
theorem dL_law_27 : decode cL_law 27 = .ok (.bipush 6, 2) := by decide +kernel
theorem dL_law_29 : decode cL_law 29 = .ok (.isub, 1) := by decide +kernel
theorem dL_law_30 : decode cL_law 30 = .ok (.if_icmp .gt 1492, 3) := by decide +kernel
theorem dL_law_33 : decode cL_law 33 = .ok (.aload_n 0, 1) := by decide +kernel
theorem dL_law_34 : decode cL_law 34 = .ok (.iload 4, 2) := by decide +kernel
theorem dL_law_36 : decode cL_law 36 = .ok (.iaload, 1) := by decide +kernel
theorem dL_law_37 : decode cL_law 37 = .ok (.bipush 31, 2) := by decide +kernel
theorem dL_law_39 : decode cL_law 39 = .ok (.iand, 1) := by decide +kernel
theorem dL_law_40 : decode cL_law 40 = .ok (.tableswitch 1476 0 19 #[96, 176, 267, 359, 427, 483, 539, 623, 679, 783, 875, 931, 1006, 1062, 1166, 1246, 1314, 1382, 1450, 1463], 96) := by decide +kernel
theorem dL_law_136 : decode cL_law 136 = .ok (.aload_n 1, 1) := by decide +kernel
theorem dL_law_137 : decode cL_law 137 = .ok (.aload_n 0, 1) := by decide +kernel
theorem dL_law_138 : decode cL_law 138 = .ok (.iload 4, 2) := by decide +kernel
theorem dL_law_140 : decode cL_law 140 = .ok (.iconst 1, 1) := by decide +kernel
theorem dL_law_141 : decode cL_law 141 = .ok (.iadd, 1) := by decide +kernel
theorem dL_law_142 : decode cL_law 142 = .ok (.iaload, 1) := by decide +kernel
theorem dL_law_143 : decode cL_law 143 = .ok (.aload_n 0, 1) := by decide +kernel
theorem dL_law_144 : decode cL_law 144 = .ok (.iload 4, 2) := by decide +kernel
theorem dL_law_146 : decode cL_law 146 = .ok (.iconst 2, 1) := by decide +kernel
theorem dL_law_147 : decode cL_law 147 = .ok (.iadd, 1) := by decide +kernel
theorem dL_law_148 : decode cL_law 148 = .ok (.iaload, 1) := by decide +kernel
theorem dL_law_149 : decode cL_law 149 = .ok (.aload_n 0, 1) := by decide +kernel
theorem dL_law_150 : decode cL_law 150 = .ok (.iload 4, 2) := by decide +kernel
theorem dL_law_152 : decode cL_law 152 = .ok (.iconst 3, 1) := by decide +kernel
theorem dL_law_153 : decode cL_law 153 = .ok (.iadd, 1) := by decide +kernel
theorem dL_law_154 : decode cL_law 154 = .ok (.iaload, 1) := by decide +kernel
theorem dL_law_155 : decode cL_law 155 = .ok (.aload_n 3, 1) := by decide +kernel
theorem dL_law_156 : decode cL_law 156 = .ok (.invokestatic 81, 3) := by decide +kernel
theorem dL_law_159 : decode cL_law 159 = .ok (.istore 5, 2) := by decide +kernel
theorem dL_law_161 : decode cL_law 161 = .ok (.aload_n 2, 1) := by decide +kernel
theorem dL_law_162 : decode cL_law 162 = .ok (.aload_n 0, 1) := by decide +kernel
theorem dL_law_163 : decode cL_law 163 = .ok (.iload 4, 2) := by decide +kernel
theorem dL_law_165 : decode cL_law 165 = .ok (.iconst 1, 1) := by decide +kernel
theorem dL_law_166 : decode cL_law 166 = .ok (.iadd, 1) := by decide +kernel
theorem dL_law_167 : decode cL_law 167 = .ok (.iaload, 1) := by decide +kernel
theorem dL_law_168 : decode cL_law 168 = .ok (.aload_n 0, 1) := by decide +kernel
theorem dL_law_169 : decode cL_law 169 = .ok (.iload 4, 2) := by decide +kernel
theorem dL_law_171 : decode cL_law 171 = .ok (.iconst 2, 1) := by decide +kernel
theorem dL_law_172 : decode cL_law 172 = .ok (.iadd, 1) := by decide +kernel
theorem dL_law_173 : decode cL_law 173 = .ok (.iaload, 1) := by decide +kernel
theorem dL_law_174 : decode cL_law 174 = .ok (.aload_n 0, 1) := by decide +kernel
theorem dL_law_175 : decode cL_law 175 = .ok (.iload 4, 2) := by decide +kernel
theorem dL_law_177 : decode cL_law 177 = .ok (.iconst 3, 1) := by decide +kernel
theorem dL_law_178 : decode cL_law 178 = .ok (.iadd, 1) := by decide +kernel
theorem dL_law_179 : decode cL_law 179 = .ok (.iaload, 1) := by decide +kernel
theorem dL_law_180 : decode cL_law 180 = .ok (.invokevirtual 86, 3) := by decide +kernel
theorem dL_law_183 : decode cL_law 183 = .ok (.istore 6, 2) := by decide +kernel
theorem dL_law_185 : decode cL_law 185 = .ok (.aload_n 2, 1) := by decide +kernel
theorem dL_law_186 : decode cL_law 186 = .ok (.invokevirtual 87, 3) := by decide +kernel
theorem dL_law_189 : decode cL_law 189 = .ok (.iload 5, 2) := by decide +kernel
theorem dL_law_191 : decode cL_law 191 = .ok (.if_icmp .eq 5, 3) := by decide +kernel
theorem dL_law_194 : decode cL_law 194 = .ok (.iconst 0, 1) := by decide +kernel
theorem dL_law_195 : decode cL_law 195 = .ok (.ireturn, 1) := by decide +kernel
theorem dL_law_196 : decode cL_law 196 = .ok (.iload 5, 2) := by decide +kernel
theorem dL_law_198 : decode cL_law 198 = .ok (.ifCond .ne 15, 3) := by decide +kernel
theorem dL_law_201 : decode cL_law 201 = .ok (.aload_n 3, 1) := by decide +kernel
theorem dL_law_202 : decode cL_law 202 = .ok (.iconst 0, 1) := by decide +kernel
theorem dL_law_203 : decode cL_law 203 = .ok (.laload, 1) := by decide +kernel
theorem dL_law_204 : decode cL_law 204 = .ok (.iload 6, 2) := by decide +kernel
theorem dL_law_206 : decode cL_law 206 = .ok (.i2l, 1) := by decide +kernel
theorem dL_law_207 : decode cL_law 207 = .ok (.lcmp, 1) := by decide +kernel
theorem dL_law_208 : decode cL_law 208 = .ok (.ifCond .eq 5, 3) := by decide +kernel
theorem dL_law_211 : decode cL_law 211 = .ok (.iconst 0, 1) := by decide +kernel
theorem dL_law_212 : decode cL_law 212 = .ok (.ireturn, 1) := by decide +kernel
theorem dL_law_213 : decode cL_law 213 = .ok (.goto 1303, 3) := by decide +kernel
theorem dL_law_216 : decode cL_law 216 = .ok (.aload_n 1, 1) := by decide +kernel
theorem dL_law_217 : decode cL_law 217 = .ok (.aload_n 0, 1) := by decide +kernel
theorem dL_law_218 : decode cL_law 218 = .ok (.iload 4, 2) := by decide +kernel
theorem dL_law_220 : decode cL_law 220 = .ok (.iconst 1, 1) := by decide +kernel
theorem dL_law_221 : decode cL_law 221 = .ok (.iadd, 1) := by decide +kernel
theorem dL_law_222 : decode cL_law 222 = .ok (.iaload, 1) := by decide +kernel
theorem dL_law_223 : decode cL_law 223 = .ok (.aload_n 0, 1) := by decide +kernel
theorem dL_law_224 : decode cL_law 224 = .ok (.iload 4, 2) := by decide +kernel
theorem dL_law_226 : decode cL_law 226 = .ok (.iconst 2, 1) := by decide +kernel
theorem dL_law_227 : decode cL_law 227 = .ok (.iadd, 1) := by decide +kernel
theorem dL_law_228 : decode cL_law 228 = .ok (.iaload, 1) := by decide +kernel
theorem dL_law_229 : decode cL_law 229 = .ok (.ifCond .eq 7, 3) := by decide +kernel
theorem dL_law_232 : decode cL_law 232 = .ok (.iconst 1, 1) := by decide +kernel
theorem dL_law_233 : decode cL_law 233 = .ok (.goto 4, 3) := by decide +kernel
theorem dL_law_236 : decode cL_law 236 = .ok (.iconst 0, 1) := by decide +kernel
theorem dL_law_237 : decode cL_law 237 = .ok (.aload_n 3, 1) := by decide +kernel
theorem dL_law_238 : decode cL_law 238 = .ok (.invokestatic 91, 3) := by decide +kernel
theorem dL_law_241 : decode cL_law 241 = .ok (.istore 5, 2) := by decide +kernel
theorem dL_law_243 : decode cL_law 243 = .ok (.aload_n 2, 1) := by decide +kernel
theorem dL_law_244 : decode cL_law 244 = .ok (.aload_n 0, 1) := by decide +kernel
theorem dL_law_245 : decode cL_law 245 = .ok (.iload 4, 2) := by decide +kernel
theorem dL_law_247 : decode cL_law 247 = .ok (.iconst 1, 1) := by decide +kernel
theorem dL_law_248 : decode cL_law 248 = .ok (.iadd, 1) := by decide +kernel
theorem dL_law_249 : decode cL_law 249 = .ok (.iaload, 1) := by decide +kernel
theorem dL_law_250 : decode cL_law 250 = .ok (.aload_n 0, 1) := by decide +kernel
theorem dL_law_251 : decode cL_law 251 = .ok (.iload 4, 2) := by decide +kernel
theorem dL_law_253 : decode cL_law 253 = .ok (.iconst 2, 1) := by decide +kernel
theorem dL_law_254 : decode cL_law 254 = .ok (.iadd, 1) := by decide +kernel
theorem dL_law_255 : decode cL_law 255 = .ok (.iaload, 1) := by decide +kernel
theorem dL_law_256 : decode cL_law 256 = .ok (.ifCond .eq 7, 3) := by decide +kernel
theorem dL_law_259 : decode cL_law 259 = .ok (.iconst 1, 1) := by decide +kernel
theorem dL_law_260 : decode cL_law 260 = .ok (.goto 4, 3) := by decide +kernel
theorem dL_law_263 : decode cL_law 263 = .ok (.iconst 0, 1) := by decide +kernel
theorem dL_law_264 : decode cL_law 264 = .ok (.invokevirtual 94, 3) := by decide +kernel
theorem dL_law_267 : decode cL_law 267 = .ok (.istore 6, 2) := by decide +kernel
theorem dL_law_269 : decode cL_law 269 = .ok (.aload_n 2, 1) := by decide +kernel
theorem dL_law_270 : decode cL_law 270 = .ok (.invokevirtual 87, 3) := by decide +kernel
theorem dL_law_273 : decode cL_law 273 = .ok (.iload 5, 2) := by decide +kernel
theorem dL_law_275 : decode cL_law 275 = .ok (.if_icmp .eq 5, 3) := by decide +kernel
theorem dL_law_278 : decode cL_law 278 = .ok (.iconst 0, 1) := by decide +kernel
theorem dL_law_279 : decode cL_law 279 = .ok (.ireturn, 1) := by decide +kernel
theorem dL_law_280 : decode cL_law 280 = .ok (.iload 5, 2) := by decide +kernel
theorem dL_law_282 : decode cL_law 282 = .ok (.ifCond .ne 22, 3) := by decide +kernel
theorem dL_law_285 : decode cL_law 285 = .ok (.aload_n 3, 1) := by decide +kernel
theorem dL_law_286 : decode cL_law 286 = .ok (.iconst 0, 1) := by decide +kernel
theorem dL_law_287 : decode cL_law 287 = .ok (.laload, 1) := by decide +kernel
theorem dL_law_288 : decode cL_law 288 = .ok (.iload 6, 2) := by decide +kernel
theorem dL_law_290 : decode cL_law 290 = .ok (.ifCond .eq 7, 3) := by decide +kernel
theorem dL_law_293 : decode cL_law 293 = .ok (.lconst 1, 1) := by decide +kernel
theorem dL_law_294 : decode cL_law 294 = .ok (.goto 4, 3) := by decide +kernel
theorem dL_law_297 : decode cL_law 297 = .ok (.lconst 0, 1) := by decide +kernel
theorem dL_law_298 : decode cL_law 298 = .ok (.lcmp, 1) := by decide +kernel
theorem dL_law_299 : decode cL_law 299 = .ok (.ifCond .eq 5, 3) := by decide +kernel
theorem dL_law_302 : decode cL_law 302 = .ok (.iconst 0, 1) := by decide +kernel
theorem dL_law_303 : decode cL_law 303 = .ok (.ireturn, 1) := by decide +kernel
theorem dL_law_304 : decode cL_law 304 = .ok (.goto 1212, 3) := by decide +kernel
theorem dL_law_307 : decode cL_law 307 = .ok (.aload_n 1, 1) := by decide +kernel
theorem dL_law_308 : decode cL_law 308 = .ok (.aload_n 0, 1) := by decide +kernel
theorem dL_law_309 : decode cL_law 309 = .ok (.iload 4, 2) := by decide +kernel
theorem dL_law_311 : decode cL_law 311 = .ok (.iconst 1, 1) := by decide +kernel
theorem dL_law_312 : decode cL_law 312 = .ok (.iadd, 1) := by decide +kernel
theorem dL_law_313 : decode cL_law 313 = .ok (.iaload, 1) := by decide +kernel
theorem dL_law_314 : decode cL_law 314 = .ok (.aload_n 0, 1) := by decide +kernel
theorem dL_law_315 : decode cL_law 315 = .ok (.iload 4, 2) := by decide +kernel
theorem dL_law_317 : decode cL_law 317 = .ok (.iconst 2, 1) := by decide +kernel
theorem dL_law_318 : decode cL_law 318 = .ok (.iadd, 1) := by decide +kernel
theorem dL_law_319 : decode cL_law 319 = .ok (.iaload, 1) := by decide +kernel
theorem dL_law_320 : decode cL_law 320 = .ok (.aload_n 0, 1) := by decide +kernel
theorem dL_law_321 : decode cL_law 321 = .ok (.iload 4, 2) := by decide +kernel
theorem dL_law_323 : decode cL_law 323 = .ok (.iconst 3, 1) := by decide +kernel
theorem dL_law_324 : decode cL_law 324 = .ok (.iadd, 1) := by decide +kernel
theorem dL_law_325 : decode cL_law 325 = .ok (.iaload, 1) := by decide +kernel
theorem dL_law_326 : decode cL_law 326 = .ok (.aload_n 0, 1) := by decide +kernel
theorem dL_law_327 : decode cL_law 327 = .ok (.iload 4, 2) := by decide +kernel
theorem dL_law_329 : decode cL_law 329 = .ok (.iconst 4, 1) := by decide +kernel
theorem dL_law_330 : decode cL_law 330 = .ok (.iadd, 1) := by decide +kernel
theorem dL_law_331 : decode cL_law 331 = .ok (.iaload, 1) := by decide +kernel
theorem dL_law_332 : decode cL_law 332 = .ok (.aload_n 3, 1) := by decide +kernel
theorem dL_law_333 : decode cL_law 333 = .ok (.invokestatic 95, 3) := by decide +kernel
theorem dL_law_336 : decode cL_law 336 = .ok (.istore 5, 2) := by decide +kernel
theorem dL_law_338 : decode cL_law 338 = .ok (.aload_n 2, 1) := by decide +kernel
theorem dL_law_339 : decode cL_law 339 = .ok (.aload_n 0, 1) := by decide +kernel
theorem dL_law_340 : decode cL_law 340 = .ok (.iload 4, 2) := by decide +kernel
theorem dL_law_342 : decode cL_law 342 = .ok (.iconst 1, 1) := by decide +kernel
theorem dL_law_343 : decode cL_law 343 = .ok (.iadd, 1) := by decide +kernel
theorem dL_law_344 : decode cL_law 344 = .ok (.iaload, 1) := by decide +kernel
theorem dL_law_345 : decode cL_law 345 = .ok (.aload_n 0, 1) := by decide +kernel
theorem dL_law_346 : decode cL_law 346 = .ok (.iload 4, 2) := by decide +kernel
theorem dL_law_348 : decode cL_law 348 = .ok (.iconst 2, 1) := by decide +kernel
theorem dL_law_349 : decode cL_law 349 = .ok (.iadd, 1) := by decide +kernel
theorem dL_law_350 : decode cL_law 350 = .ok (.iaload, 1) := by decide +kernel
theorem dL_law_351 : decode cL_law 351 = .ok (.aload_n 0, 1) := by decide +kernel
theorem dL_law_352 : decode cL_law 352 = .ok (.iload 4, 2) := by decide +kernel
theorem dL_law_354 : decode cL_law 354 = .ok (.iconst 3, 1) := by decide +kernel
theorem dL_law_355 : decode cL_law 355 = .ok (.iadd, 1) := by decide +kernel
theorem dL_law_356 : decode cL_law 356 = .ok (.iaload, 1) := by decide +kernel
theorem dL_law_357 : decode cL_law 357 = .ok (.aload_n 0, 1) := by decide +kernel
theorem dL_law_358 : decode cL_law 358 = .ok (.iload 4, 2) := by decide +kernel
theorem dL_law_360 : decode cL_law 360 = .ok (.iconst 4, 1) := by decide +kernel
theorem dL_law_361 : decode cL_law 361 = .ok (.iadd, 1) := by decide +kernel
theorem dL_law_362 : decode cL_law 362 = .ok (.iaload, 1) := by decide +kernel
theorem dL_law_363 : decode cL_law 363 = .ok (.invokevirtual 98, 3) := by decide +kernel
theorem dL_law_366 : decode cL_law 366 = .ok (.istore 6, 2) := by decide +kernel
theorem dL_law_368 : decode cL_law 368 = .ok (.aload_n 2, 1) := by decide +kernel
theorem dL_law_369 : decode cL_law 369 = .ok (.invokevirtual 87, 3) := by decide +kernel
theorem dL_law_372 : decode cL_law 372 = .ok (.iload 5, 2) := by decide +kernel
theorem dL_law_374 : decode cL_law 374 = .ok (.if_icmp .eq 5, 3) := by decide +kernel
theorem dL_law_377 : decode cL_law 377 = .ok (.iconst 0, 1) := by decide +kernel
theorem dL_law_378 : decode cL_law 378 = .ok (.ireturn, 1) := by decide +kernel
theorem dL_law_379 : decode cL_law 379 = .ok (.iload 5, 2) := by decide +kernel
theorem dL_law_381 : decode cL_law 381 = .ok (.ifCond .ne 15, 3) := by decide +kernel
theorem dL_law_384 : decode cL_law 384 = .ok (.aload_n 3, 1) := by decide +kernel
theorem dL_law_385 : decode cL_law 385 = .ok (.iconst 0, 1) := by decide +kernel
theorem dL_law_386 : decode cL_law 386 = .ok (.laload, 1) := by decide +kernel
theorem dL_law_387 : decode cL_law 387 = .ok (.iload 6, 2) := by decide +kernel
theorem dL_law_389 : decode cL_law 389 = .ok (.i2l, 1) := by decide +kernel
theorem dL_law_390 : decode cL_law 390 = .ok (.lcmp, 1) := by decide +kernel
theorem dL_law_391 : decode cL_law 391 = .ok (.ifCond .eq 5, 3) := by decide +kernel
theorem dL_law_394 : decode cL_law 394 = .ok (.iconst 0, 1) := by decide +kernel
theorem dL_law_395 : decode cL_law 395 = .ok (.ireturn, 1) := by decide +kernel
theorem dL_law_396 : decode cL_law 396 = .ok (.goto 1120, 3) := by decide +kernel
theorem dL_law_399 : decode cL_law 399 = .ok (.aload_n 1, 1) := by decide +kernel
theorem dL_law_400 : decode cL_law 400 = .ok (.aload_n 0, 1) := by decide +kernel
theorem dL_law_401 : decode cL_law 401 = .ok (.iload 4, 2) := by decide +kernel
theorem dL_law_403 : decode cL_law 403 = .ok (.iconst 1, 1) := by decide +kernel
theorem dL_law_404 : decode cL_law 404 = .ok (.iadd, 1) := by decide +kernel
theorem dL_law_405 : decode cL_law 405 = .ok (.iaload, 1) := by decide +kernel
theorem dL_law_406 : decode cL_law 406 = .ok (.aload_n 0, 1) := by decide +kernel
theorem dL_law_407 : decode cL_law 407 = .ok (.iload 4, 2) := by decide +kernel
theorem dL_law_409 : decode cL_law 409 = .ok (.iconst 2, 1) := by decide +kernel
theorem dL_law_410 : decode cL_law 410 = .ok (.iadd, 1) := by decide +kernel
theorem dL_law_411 : decode cL_law 411 = .ok (.iaload, 1) := by decide +kernel
theorem dL_law_412 : decode cL_law 412 = .ok (.aload_n 3, 1) := by decide +kernel
theorem dL_law_413 : decode cL_law 413 = .ok (.invokestatic 99, 3) := by decide +kernel
theorem dL_law_416 : decode cL_law 416 = .ok (.istore 5, 2) := by decide +kernel
theorem dL_law_418 : decode cL_law 418 = .ok (.aload_n 2, 1) := by decide +kernel
theorem dL_law_419 : decode cL_law 419 = .ok (.aload_n 0, 1) := by decide +kernel
theorem dL_law_420 : decode cL_law 420 = .ok (.iload 4, 2) := by decide +kernel
theorem dL_law_422 : decode cL_law 422 = .ok (.iconst 1, 1) := by decide +kernel
theorem dL_law_423 : decode cL_law 423 = .ok (.iadd, 1) := by decide +kernel
theorem dL_law_424 : decode cL_law 424 = .ok (.iaload, 1) := by decide +kernel
theorem dL_law_425 : decode cL_law 425 = .ok (.aload_n 0, 1) := by decide +kernel
theorem dL_law_426 : decode cL_law 426 = .ok (.iload 4, 2) := by decide +kernel
theorem dL_law_428 : decode cL_law 428 = .ok (.iconst 2, 1) := by decide +kernel
theorem dL_law_429 : decode cL_law 429 = .ok (.iadd, 1) := by decide +kernel
theorem dL_law_430 : decode cL_law 430 = .ok (.iaload, 1) := by decide +kernel
theorem dL_law_431 : decode cL_law 431 = .ok (.invokevirtual 102, 3) := by decide +kernel
theorem dL_law_434 : decode cL_law 434 = .ok (.istore 6, 2) := by decide +kernel
theorem dL_law_436 : decode cL_law 436 = .ok (.aload_n 2, 1) := by decide +kernel
theorem dL_law_437 : decode cL_law 437 = .ok (.invokevirtual 87, 3) := by decide +kernel
theorem dL_law_440 : decode cL_law 440 = .ok (.iload 5, 2) := by decide +kernel
theorem dL_law_442 : decode cL_law 442 = .ok (.if_icmp .eq 5, 3) := by decide +kernel
theorem dL_law_445 : decode cL_law 445 = .ok (.iconst 0, 1) := by decide +kernel
theorem dL_law_446 : decode cL_law 446 = .ok (.ireturn, 1) := by decide +kernel
theorem dL_law_447 : decode cL_law 447 = .ok (.iload 5, 2) := by decide +kernel
theorem dL_law_449 : decode cL_law 449 = .ok (.ifCond .ne 15, 3) := by decide +kernel
theorem dL_law_452 : decode cL_law 452 = .ok (.aload_n 3, 1) := by decide +kernel
theorem dL_law_453 : decode cL_law 453 = .ok (.iconst 0, 1) := by decide +kernel
theorem dL_law_454 : decode cL_law 454 = .ok (.laload, 1) := by decide +kernel
theorem dL_law_455 : decode cL_law 455 = .ok (.iload 6, 2) := by decide +kernel
theorem dL_law_457 : decode cL_law 457 = .ok (.i2l, 1) := by decide +kernel
theorem dL_law_458 : decode cL_law 458 = .ok (.lcmp, 1) := by decide +kernel
theorem dL_law_459 : decode cL_law 459 = .ok (.ifCond .eq 5, 3) := by decide +kernel
theorem dL_law_462 : decode cL_law 462 = .ok (.iconst 0, 1) := by decide +kernel
theorem dL_law_463 : decode cL_law 463 = .ok (.ireturn, 1) := by decide +kernel
theorem dL_law_464 : decode cL_law 464 = .ok (.goto 1052, 3) := by decide +kernel
theorem dL_law_467 : decode cL_law 467 = .ok (.aload_n 1, 1) := by decide +kernel
theorem dL_law_468 : decode cL_law 468 = .ok (.aload_n 0, 1) := by decide +kernel
theorem dL_law_469 : decode cL_law 469 = .ok (.iload 4, 2) := by decide +kernel
theorem dL_law_471 : decode cL_law 471 = .ok (.iconst 1, 1) := by decide +kernel
theorem dL_law_472 : decode cL_law 472 = .ok (.iadd, 1) := by decide +kernel
theorem dL_law_473 : decode cL_law 473 = .ok (.iaload, 1) := by decide +kernel
theorem dL_law_474 : decode cL_law 474 = .ok (.aload_n 3, 1) := by decide +kernel
theorem dL_law_475 : decode cL_law 475 = .ok (.invokestatic 103, 3) := by decide +kernel
theorem dL_law_478 : decode cL_law 478 = .ok (.istore 5, 2) := by decide +kernel
theorem dL_law_480 : decode cL_law 480 = .ok (.aload_n 2, 1) := by decide +kernel
theorem dL_law_481 : decode cL_law 481 = .ok (.aload_n 0, 1) := by decide +kernel
theorem dL_law_482 : decode cL_law 482 = .ok (.iload 4, 2) := by decide +kernel
theorem dL_law_484 : decode cL_law 484 = .ok (.iconst 1, 1) := by decide +kernel
theorem dL_law_485 : decode cL_law 485 = .ok (.iadd, 1) := by decide +kernel
theorem dL_law_486 : decode cL_law 486 = .ok (.iaload, 1) := by decide +kernel
theorem dL_law_487 : decode cL_law 487 = .ok (.invokevirtual 106, 3) := by decide +kernel
theorem dL_law_490 : decode cL_law 490 = .ok (.istore 6, 2) := by decide +kernel
theorem dL_law_492 : decode cL_law 492 = .ok (.aload_n 2, 1) := by decide +kernel
theorem dL_law_493 : decode cL_law 493 = .ok (.invokevirtual 87, 3) := by decide +kernel
theorem dL_law_496 : decode cL_law 496 = .ok (.iload 5, 2) := by decide +kernel
theorem dL_law_498 : decode cL_law 498 = .ok (.if_icmp .eq 5, 3) := by decide +kernel
theorem dL_law_501 : decode cL_law 501 = .ok (.iconst 0, 1) := by decide +kernel
theorem dL_law_502 : decode cL_law 502 = .ok (.ireturn, 1) := by decide +kernel
theorem dL_law_503 : decode cL_law 503 = .ok (.iload 5, 2) := by decide +kernel
theorem dL_law_505 : decode cL_law 505 = .ok (.ifCond .ne 15, 3) := by decide +kernel
theorem dL_law_508 : decode cL_law 508 = .ok (.aload_n 3, 1) := by decide +kernel
theorem dL_law_509 : decode cL_law 509 = .ok (.iconst 0, 1) := by decide +kernel
theorem dL_law_510 : decode cL_law 510 = .ok (.laload, 1) := by decide +kernel
theorem dL_law_511 : decode cL_law 511 = .ok (.iload 6, 2) := by decide +kernel
theorem dL_law_513 : decode cL_law 513 = .ok (.i2l, 1) := by decide +kernel
theorem dL_law_514 : decode cL_law 514 = .ok (.lcmp, 1) := by decide +kernel
theorem dL_law_515 : decode cL_law 515 = .ok (.ifCond .eq 5, 3) := by decide +kernel
theorem dL_law_518 : decode cL_law 518 = .ok (.iconst 0, 1) := by decide +kernel
theorem dL_law_519 : decode cL_law 519 = .ok (.ireturn, 1) := by decide +kernel
theorem dL_law_520 : decode cL_law 520 = .ok (.goto 996, 3) := by decide +kernel
theorem dL_law_523 : decode cL_law 523 = .ok (.aload_n 1, 1) := by decide +kernel
theorem dL_law_524 : decode cL_law 524 = .ok (.aload_n 0, 1) := by decide +kernel
theorem dL_law_525 : decode cL_law 525 = .ok (.iload 4, 2) := by decide +kernel
theorem dL_law_527 : decode cL_law 527 = .ok (.iconst 1, 1) := by decide +kernel
theorem dL_law_528 : decode cL_law 528 = .ok (.iadd, 1) := by decide +kernel
theorem dL_law_529 : decode cL_law 529 = .ok (.iaload, 1) := by decide +kernel
theorem dL_law_530 : decode cL_law 530 = .ok (.aload_n 3, 1) := by decide +kernel
theorem dL_law_531 : decode cL_law 531 = .ok (.invokestatic 107, 3) := by decide +kernel
theorem dL_law_534 : decode cL_law 534 = .ok (.istore 5, 2) := by decide +kernel
theorem dL_law_536 : decode cL_law 536 = .ok (.aload_n 2, 1) := by decide +kernel
theorem dL_law_537 : decode cL_law 537 = .ok (.aload_n 0, 1) := by decide +kernel
theorem dL_law_538 : decode cL_law 538 = .ok (.iload 4, 2) := by decide +kernel
theorem dL_law_540 : decode cL_law 540 = .ok (.iconst 1, 1) := by decide +kernel
theorem dL_law_541 : decode cL_law 541 = .ok (.iadd, 1) := by decide +kernel
theorem dL_law_542 : decode cL_law 542 = .ok (.iaload, 1) := by decide +kernel
theorem dL_law_543 : decode cL_law 543 = .ok (.invokevirtual 109, 3) := by decide +kernel
theorem dL_law_546 : decode cL_law 546 = .ok (.istore 6, 2) := by decide +kernel
theorem dL_law_548 : decode cL_law 548 = .ok (.aload_n 2, 1) := by decide +kernel
theorem dL_law_549 : decode cL_law 549 = .ok (.invokevirtual 87, 3) := by decide +kernel
theorem dL_law_552 : decode cL_law 552 = .ok (.iload 5, 2) := by decide +kernel
theorem dL_law_554 : decode cL_law 554 = .ok (.if_icmp .eq 5, 3) := by decide +kernel
theorem dL_law_557 : decode cL_law 557 = .ok (.iconst 0, 1) := by decide +kernel
theorem dL_law_558 : decode cL_law 558 = .ok (.ireturn, 1) := by decide +kernel
theorem dL_law_559 : decode cL_law 559 = .ok (.iload 5, 2) := by decide +kernel
theorem dL_law_561 : decode cL_law 561 = .ok (.ifCond .ne 15, 3) := by decide +kernel
theorem dL_law_564 : decode cL_law 564 = .ok (.aload_n 3, 1) := by decide +kernel
theorem dL_law_565 : decode cL_law 565 = .ok (.iconst 0, 1) := by decide +kernel
theorem dL_law_566 : decode cL_law 566 = .ok (.laload, 1) := by decide +kernel
theorem dL_law_567 : decode cL_law 567 = .ok (.iload 6, 2) := by decide +kernel
theorem dL_law_569 : decode cL_law 569 = .ok (.i2l, 1) := by decide +kernel
theorem dL_law_570 : decode cL_law 570 = .ok (.lcmp, 1) := by decide +kernel
theorem dL_law_571 : decode cL_law 571 = .ok (.ifCond .eq 5, 3) := by decide +kernel
theorem dL_law_574 : decode cL_law 574 = .ok (.iconst 0, 1) := by decide +kernel
theorem dL_law_575 : decode cL_law 575 = .ok (.ireturn, 1) := by decide +kernel
theorem dL_law_576 : decode cL_law 576 = .ok (.goto 940, 3) := by decide +kernel
theorem dL_law_579 : decode cL_law 579 = .ok (.aload_n 1, 1) := by decide +kernel
theorem dL_law_580 : decode cL_law 580 = .ok (.aload_n 0, 1) := by decide +kernel
theorem dL_law_581 : decode cL_law 581 = .ok (.iload 4, 2) := by decide +kernel
theorem dL_law_583 : decode cL_law 583 = .ok (.iconst 1, 1) := by decide +kernel
theorem dL_law_584 : decode cL_law 584 = .ok (.iadd, 1) := by decide +kernel
theorem dL_law_585 : decode cL_law 585 = .ok (.iaload, 1) := by decide +kernel
theorem dL_law_586 : decode cL_law 586 = .ok (.aload_n 0, 1) := by decide +kernel
theorem dL_law_587 : decode cL_law 587 = .ok (.iload 4, 2) := by decide +kernel
theorem dL_law_589 : decode cL_law 589 = .ok (.iconst 2, 1) := by decide +kernel
theorem dL_law_590 : decode cL_law 590 = .ok (.iadd, 1) := by decide +kernel
theorem dL_law_591 : decode cL_law 591 = .ok (.iaload, 1) := by decide +kernel
theorem dL_law_592 : decode cL_law 592 = .ok (.ifCond .eq 7, 3) := by decide +kernel
theorem dL_law_595 : decode cL_law 595 = .ok (.iconst 1, 1) := by decide +kernel
theorem dL_law_596 : decode cL_law 596 = .ok (.goto 4, 3) := by decide +kernel
theorem dL_law_599 : decode cL_law 599 = .ok (.iconst 0, 1) := by decide +kernel
theorem dL_law_600 : decode cL_law 600 = .ok (.aload_n 3, 1) := by decide +kernel
theorem dL_law_601 : decode cL_law 601 = .ok (.invokestatic 110, 3) := by decide +kernel
theorem dL_law_604 : decode cL_law 604 = .ok (.istore 5, 2) := by decide +kernel
theorem dL_law_606 : decode cL_law 606 = .ok (.aload_n 2, 1) := by decide +kernel
theorem dL_law_607 : decode cL_law 607 = .ok (.aload_n 0, 1) := by decide +kernel
theorem dL_law_608 : decode cL_law 608 = .ok (.iload 4, 2) := by decide +kernel
theorem dL_law_610 : decode cL_law 610 = .ok (.iconst 1, 1) := by decide +kernel
theorem dL_law_611 : decode cL_law 611 = .ok (.iadd, 1) := by decide +kernel
theorem dL_law_612 : decode cL_law 612 = .ok (.iaload, 1) := by decide +kernel
theorem dL_law_613 : decode cL_law 613 = .ok (.aload_n 0, 1) := by decide +kernel
theorem dL_law_614 : decode cL_law 614 = .ok (.iload 4, 2) := by decide +kernel
theorem dL_law_616 : decode cL_law 616 = .ok (.iconst 2, 1) := by decide +kernel
theorem dL_law_617 : decode cL_law 617 = .ok (.iadd, 1) := by decide +kernel
theorem dL_law_618 : decode cL_law 618 = .ok (.iaload, 1) := by decide +kernel
theorem dL_law_619 : decode cL_law 619 = .ok (.ifCond .eq 7, 3) := by decide +kernel
theorem dL_law_622 : decode cL_law 622 = .ok (.iconst 1, 1) := by decide +kernel
theorem dL_law_623 : decode cL_law 623 = .ok (.goto 4, 3) := by decide +kernel
theorem dL_law_626 : decode cL_law 626 = .ok (.iconst 0, 1) := by decide +kernel
theorem dL_law_627 : decode cL_law 627 = .ok (.invokevirtual 112, 3) := by decide +kernel
theorem dL_law_630 : decode cL_law 630 = .ok (.istore 6, 2) := by decide +kernel
theorem dL_law_632 : decode cL_law 632 = .ok (.aload_n 2, 1) := by decide +kernel
theorem dL_law_633 : decode cL_law 633 = .ok (.invokevirtual 87, 3) := by decide +kernel
theorem dL_law_636 : decode cL_law 636 = .ok (.iload 5, 2) := by decide +kernel
theorem dL_law_638 : decode cL_law 638 = .ok (.if_icmp .eq 5, 3) := by decide +kernel
theorem dL_law_641 : decode cL_law 641 = .ok (.iconst 0, 1) := by decide +kernel
theorem dL_law_642 : decode cL_law 642 = .ok (.ireturn, 1) := by decide +kernel
theorem dL_law_643 : decode cL_law 643 = .ok (.iload 5, 2) := by decide +kernel
theorem dL_law_645 : decode cL_law 645 = .ok (.ifCond .ne 15, 3) := by decide +kernel
theorem dL_law_648 : decode cL_law 648 = .ok (.aload_n 3, 1) := by decide +kernel
theorem dL_law_649 : decode cL_law 649 = .ok (.iconst 0, 1) := by decide +kernel
theorem dL_law_650 : decode cL_law 650 = .ok (.laload, 1) := by decide +kernel
theorem dL_law_651 : decode cL_law 651 = .ok (.iload 6, 2) := by decide +kernel
theorem dL_law_653 : decode cL_law 653 = .ok (.i2l, 1) := by decide +kernel
theorem dL_law_654 : decode cL_law 654 = .ok (.lcmp, 1) := by decide +kernel
theorem dL_law_655 : decode cL_law 655 = .ok (.ifCond .eq 5, 3) := by decide +kernel
theorem dL_law_658 : decode cL_law 658 = .ok (.iconst 0, 1) := by decide +kernel
theorem dL_law_659 : decode cL_law 659 = .ok (.ireturn, 1) := by decide +kernel
theorem dL_law_660 : decode cL_law 660 = .ok (.goto 856, 3) := by decide +kernel
theorem dL_law_663 : decode cL_law 663 = .ok (.aload_n 1, 1) := by decide +kernel
theorem dL_law_664 : decode cL_law 664 = .ok (.aload_n 0, 1) := by decide +kernel
theorem dL_law_665 : decode cL_law 665 = .ok (.iload 4, 2) := by decide +kernel
theorem dL_law_667 : decode cL_law 667 = .ok (.iconst 1, 1) := by decide +kernel
theorem dL_law_668 : decode cL_law 668 = .ok (.iadd, 1) := by decide +kernel
theorem dL_law_669 : decode cL_law 669 = .ok (.iaload, 1) := by decide +kernel
theorem dL_law_670 : decode cL_law 670 = .ok (.aload_n 3, 1) := by decide +kernel
theorem dL_law_671 : decode cL_law 671 = .ok (.invokestatic 113, 3) := by decide +kernel
theorem dL_law_674 : decode cL_law 674 = .ok (.istore 5, 2) := by decide +kernel
theorem dL_law_676 : decode cL_law 676 = .ok (.aload_n 2, 1) := by decide +kernel
theorem dL_law_677 : decode cL_law 677 = .ok (.aload_n 0, 1) := by decide +kernel
theorem dL_law_678 : decode cL_law 678 = .ok (.iload 4, 2) := by decide +kernel
theorem dL_law_680 : decode cL_law 680 = .ok (.iconst 1, 1) := by decide +kernel
theorem dL_law_681 : decode cL_law 681 = .ok (.iadd, 1) := by decide +kernel
theorem dL_law_682 : decode cL_law 682 = .ok (.iaload, 1) := by decide +kernel
theorem dL_law_683 : decode cL_law 683 = .ok (.invokevirtual 115, 3) := by decide +kernel
theorem dL_law_686 : decode cL_law 686 = .ok (.istore 6, 2) := by decide +kernel
theorem dL_law_688 : decode cL_law 688 = .ok (.aload_n 2, 1) := by decide +kernel
theorem dL_law_689 : decode cL_law 689 = .ok (.invokevirtual 87, 3) := by decide +kernel
theorem dL_law_692 : decode cL_law 692 = .ok (.iload 5, 2) := by decide +kernel
theorem dL_law_694 : decode cL_law 694 = .ok (.if_icmp .eq 5, 3) := by decide +kernel
theorem dL_law_697 : decode cL_law 697 = .ok (.iconst 0, 1) := by decide +kernel
theorem dL_law_698 : decode cL_law 698 = .ok (.ireturn, 1) := by decide +kernel
theorem dL_law_699 : decode cL_law 699 = .ok (.iload 5, 2) := by decide +kernel
theorem dL_law_701 : decode cL_law 701 = .ok (.ifCond .ne 15, 3) := by decide +kernel
theorem dL_law_704 : decode cL_law 704 = .ok (.aload_n 3, 1) := by decide +kernel
theorem dL_law_705 : decode cL_law 705 = .ok (.iconst 0, 1) := by decide +kernel
theorem dL_law_706 : decode cL_law 706 = .ok (.laload, 1) := by decide +kernel
theorem dL_law_707 : decode cL_law 707 = .ok (.iload 6, 2) := by decide +kernel
theorem dL_law_709 : decode cL_law 709 = .ok (.i2l, 1) := by decide +kernel
theorem dL_law_710 : decode cL_law 710 = .ok (.lcmp, 1) := by decide +kernel
theorem dL_law_711 : decode cL_law 711 = .ok (.ifCond .eq 5, 3) := by decide +kernel
theorem dL_law_714 : decode cL_law 714 = .ok (.iconst 0, 1) := by decide +kernel
theorem dL_law_715 : decode cL_law 715 = .ok (.ireturn, 1) := by decide +kernel
theorem dL_law_716 : decode cL_law 716 = .ok (.goto 800, 3) := by decide +kernel
theorem dL_law_719 : decode cL_law 719 = .ok (.aload_n 1, 1) := by decide +kernel
theorem dL_law_720 : decode cL_law 720 = .ok (.aload_n 0, 1) := by decide +kernel
theorem dL_law_721 : decode cL_law 721 = .ok (.iload 4, 2) := by decide +kernel
theorem dL_law_723 : decode cL_law 723 = .ok (.iconst 1, 1) := by decide +kernel
theorem dL_law_724 : decode cL_law 724 = .ok (.iadd, 1) := by decide +kernel
theorem dL_law_725 : decode cL_law 725 = .ok (.iaload, 1) := by decide +kernel
theorem dL_law_726 : decode cL_law 726 = .ok (.aload_n 0, 1) := by decide +kernel
theorem dL_law_727 : decode cL_law 727 = .ok (.iload 4, 2) := by decide +kernel
theorem dL_law_729 : decode cL_law 729 = .ok (.iconst 2, 1) := by decide +kernel
theorem dL_law_730 : decode cL_law 730 = .ok (.iadd, 1) := by decide +kernel
theorem dL_law_731 : decode cL_law 731 = .ok (.iaload, 1) := by decide +kernel
theorem dL_law_732 : decode cL_law 732 = .ok (.aload_n 0, 1) := by decide +kernel
theorem dL_law_733 : decode cL_law 733 = .ok (.iload 4, 2) := by decide +kernel
theorem dL_law_735 : decode cL_law 735 = .ok (.iconst 3, 1) := by decide +kernel
theorem dL_law_736 : decode cL_law 736 = .ok (.iadd, 1) := by decide +kernel
theorem dL_law_737 : decode cL_law 737 = .ok (.iaload, 1) := by decide +kernel
theorem dL_law_738 : decode cL_law 738 = .ok (.aload_n 0, 1) := by decide +kernel
theorem dL_law_739 : decode cL_law 739 = .ok (.iload 4, 2) := by decide +kernel
theorem dL_law_741 : decode cL_law 741 = .ok (.iconst 4, 1) := by decide +kernel
theorem dL_law_742 : decode cL_law 742 = .ok (.iadd, 1) := by decide +kernel
theorem dL_law_743 : decode cL_law 743 = .ok (.iaload, 1) := by decide +kernel
theorem dL_law_744 : decode cL_law 744 = .ok (.aload_n 0, 1) := by decide +kernel
theorem dL_law_745 : decode cL_law 745 = .ok (.iload 4, 2) := by decide +kernel
theorem dL_law_747 : decode cL_law 747 = .ok (.iconst 5, 1) := by decide +kernel
theorem dL_law_748 : decode cL_law 748 = .ok (.iadd, 1) := by decide +kernel
theorem dL_law_749 : decode cL_law 749 = .ok (.iaload, 1) := by decide +kernel
theorem dL_law_750 : decode cL_law 750 = .ok (.aload_n 3, 1) := by decide +kernel
theorem dL_law_751 : decode cL_law 751 = .ok (.invokestatic 116, 3) := by decide +kernel
theorem dL_law_754 : decode cL_law 754 = .ok (.istore 5, 2) := by decide +kernel
theorem dL_law_756 : decode cL_law 756 = .ok (.aload_n 2, 1) := by decide +kernel
theorem dL_law_757 : decode cL_law 757 = .ok (.aload_n 0, 1) := by decide +kernel
theorem dL_law_758 : decode cL_law 758 = .ok (.iload 4, 2) := by decide +kernel
theorem dL_law_760 : decode cL_law 760 = .ok (.iconst 1, 1) := by decide +kernel
theorem dL_law_761 : decode cL_law 761 = .ok (.iadd, 1) := by decide +kernel
theorem dL_law_762 : decode cL_law 762 = .ok (.iaload, 1) := by decide +kernel
theorem dL_law_763 : decode cL_law 763 = .ok (.aload_n 0, 1) := by decide +kernel
theorem dL_law_764 : decode cL_law 764 = .ok (.iload 4, 2) := by decide +kernel
theorem dL_law_766 : decode cL_law 766 = .ok (.iconst 2, 1) := by decide +kernel
theorem dL_law_767 : decode cL_law 767 = .ok (.iadd, 1) := by decide +kernel
theorem dL_law_768 : decode cL_law 768 = .ok (.iaload, 1) := by decide +kernel
theorem dL_law_769 : decode cL_law 769 = .ok (.aload_n 0, 1) := by decide +kernel
theorem dL_law_770 : decode cL_law 770 = .ok (.iload 4, 2) := by decide +kernel
theorem dL_law_772 : decode cL_law 772 = .ok (.iconst 3, 1) := by decide +kernel
theorem dL_law_773 : decode cL_law 773 = .ok (.iadd, 1) := by decide +kernel
theorem dL_law_774 : decode cL_law 774 = .ok (.iaload, 1) := by decide +kernel
theorem dL_law_775 : decode cL_law 775 = .ok (.aload_n 0, 1) := by decide +kernel
theorem dL_law_776 : decode cL_law 776 = .ok (.iload 4, 2) := by decide +kernel
theorem dL_law_778 : decode cL_law 778 = .ok (.iconst 4, 1) := by decide +kernel
theorem dL_law_779 : decode cL_law 779 = .ok (.iadd, 1) := by decide +kernel
theorem dL_law_780 : decode cL_law 780 = .ok (.iaload, 1) := by decide +kernel
theorem dL_law_781 : decode cL_law 781 = .ok (.aload_n 0, 1) := by decide +kernel
theorem dL_law_782 : decode cL_law 782 = .ok (.iload 4, 2) := by decide +kernel
theorem dL_law_784 : decode cL_law 784 = .ok (.iconst 5, 1) := by decide +kernel
theorem dL_law_785 : decode cL_law 785 = .ok (.iadd, 1) := by decide +kernel
theorem dL_law_786 : decode cL_law 786 = .ok (.iaload, 1) := by decide +kernel
theorem dL_law_787 : decode cL_law 787 = .ok (.invokevirtual 119, 3) := by decide +kernel
theorem dL_law_790 : decode cL_law 790 = .ok (.istore 6, 2) := by decide +kernel
theorem dL_law_792 : decode cL_law 792 = .ok (.aload_n 2, 1) := by decide +kernel
theorem dL_law_793 : decode cL_law 793 = .ok (.invokevirtual 87, 3) := by decide +kernel
theorem dL_law_796 : decode cL_law 796 = .ok (.iload 5, 2) := by decide +kernel
theorem dL_law_798 : decode cL_law 798 = .ok (.if_icmp .eq 5, 3) := by decide +kernel
theorem dL_law_801 : decode cL_law 801 = .ok (.iconst 0, 1) := by decide +kernel
theorem dL_law_802 : decode cL_law 802 = .ok (.ireturn, 1) := by decide +kernel
theorem dL_law_803 : decode cL_law 803 = .ok (.iload 5, 2) := by decide +kernel
theorem dL_law_805 : decode cL_law 805 = .ok (.ifCond .ne 15, 3) := by decide +kernel
theorem dL_law_808 : decode cL_law 808 = .ok (.aload_n 3, 1) := by decide +kernel
theorem dL_law_809 : decode cL_law 809 = .ok (.iconst 0, 1) := by decide +kernel
theorem dL_law_810 : decode cL_law 810 = .ok (.laload, 1) := by decide +kernel
theorem dL_law_811 : decode cL_law 811 = .ok (.iload 6, 2) := by decide +kernel
theorem dL_law_813 : decode cL_law 813 = .ok (.i2l, 1) := by decide +kernel
theorem dL_law_814 : decode cL_law 814 = .ok (.lcmp, 1) := by decide +kernel
theorem dL_law_815 : decode cL_law 815 = .ok (.ifCond .eq 5, 3) := by decide +kernel
theorem dL_law_818 : decode cL_law 818 = .ok (.iconst 0, 1) := by decide +kernel
theorem dL_law_819 : decode cL_law 819 = .ok (.ireturn, 1) := by decide +kernel
theorem dL_law_820 : decode cL_law 820 = .ok (.goto 696, 3) := by decide +kernel
theorem dL_law_823 : decode cL_law 823 = .ok (.aload_n 1, 1) := by decide +kernel
theorem dL_law_824 : decode cL_law 824 = .ok (.aload_n 0, 1) := by decide +kernel
theorem dL_law_825 : decode cL_law 825 = .ok (.iload 4, 2) := by decide +kernel
theorem dL_law_827 : decode cL_law 827 = .ok (.iconst 1, 1) := by decide +kernel
theorem dL_law_828 : decode cL_law 828 = .ok (.iadd, 1) := by decide +kernel
theorem dL_law_829 : decode cL_law 829 = .ok (.iaload, 1) := by decide +kernel
theorem dL_law_830 : decode cL_law 830 = .ok (.aload_n 0, 1) := by decide +kernel
theorem dL_law_831 : decode cL_law 831 = .ok (.iload 4, 2) := by decide +kernel
theorem dL_law_833 : decode cL_law 833 = .ok (.iconst 2, 1) := by decide +kernel
theorem dL_law_834 : decode cL_law 834 = .ok (.iadd, 1) := by decide +kernel
theorem dL_law_835 : decode cL_law 835 = .ok (.iaload, 1) := by decide +kernel
theorem dL_law_836 : decode cL_law 836 = .ok (.aload_n 0, 1) := by decide +kernel
theorem dL_law_837 : decode cL_law 837 = .ok (.iload 4, 2) := by decide +kernel
theorem dL_law_839 : decode cL_law 839 = .ok (.iconst 3, 1) := by decide +kernel
theorem dL_law_840 : decode cL_law 840 = .ok (.iadd, 1) := by decide +kernel
theorem dL_law_841 : decode cL_law 841 = .ok (.iaload, 1) := by decide +kernel
theorem dL_law_842 : decode cL_law 842 = .ok (.aload_n 0, 1) := by decide +kernel
theorem dL_law_843 : decode cL_law 843 = .ok (.iload 4, 2) := by decide +kernel
theorem dL_law_845 : decode cL_law 845 = .ok (.iconst 4, 1) := by decide +kernel
theorem dL_law_846 : decode cL_law 846 = .ok (.iadd, 1) := by decide +kernel
theorem dL_law_847 : decode cL_law 847 = .ok (.iaload, 1) := by decide +kernel
theorem dL_law_848 : decode cL_law 848 = .ok (.aload_n 3, 1) := by decide +kernel
theorem dL_law_849 : decode cL_law 849 = .ok (.invokestatic 120, 3) := by decide +kernel
theorem dL_law_852 : decode cL_law 852 = .ok (.istore 5, 2) := by decide +kernel
theorem dL_law_854 : decode cL_law 854 = .ok (.aload_n 2, 1) := by decide +kernel
theorem dL_law_855 : decode cL_law 855 = .ok (.aload_n 0, 1) := by decide +kernel
theorem dL_law_856 : decode cL_law 856 = .ok (.iload 4, 2) := by decide +kernel
theorem dL_law_858 : decode cL_law 858 = .ok (.iconst 1, 1) := by decide +kernel
theorem dL_law_859 : decode cL_law 859 = .ok (.iadd, 1) := by decide +kernel
theorem dL_law_860 : decode cL_law 860 = .ok (.iaload, 1) := by decide +kernel
theorem dL_law_861 : decode cL_law 861 = .ok (.aload_n 0, 1) := by decide +kernel
theorem dL_law_862 : decode cL_law 862 = .ok (.iload 4, 2) := by decide +kernel
theorem dL_law_864 : decode cL_law 864 = .ok (.iconst 2, 1) := by decide +kernel
theorem dL_law_865 : decode cL_law 865 = .ok (.iadd, 1) := by decide +kernel
theorem dL_law_866 : decode cL_law 866 = .ok (.iaload, 1) := by decide +kernel
theorem dL_law_867 : decode cL_law 867 = .ok (.aload_n 0, 1) := by decide +kernel
theorem dL_law_868 : decode cL_law 868 = .ok (.iload 4, 2) := by decide +kernel
theorem dL_law_870 : decode cL_law 870 = .ok (.iconst 3, 1) := by decide +kernel
theorem dL_law_871 : decode cL_law 871 = .ok (.iadd, 1) := by decide +kernel
theorem dL_law_872 : decode cL_law 872 = .ok (.iaload, 1) := by decide +kernel
theorem dL_law_873 : decode cL_law 873 = .ok (.aload_n 0, 1) := by decide +kernel
theorem dL_law_874 : decode cL_law 874 = .ok (.iload 4, 2) := by decide +kernel
theorem dL_law_876 : decode cL_law 876 = .ok (.iconst 4, 1) := by decide +kernel
theorem dL_law_877 : decode cL_law 877 = .ok (.iadd, 1) := by decide +kernel
theorem dL_law_878 : decode cL_law 878 = .ok (.iaload, 1) := by decide +kernel
theorem dL_law_879 : decode cL_law 879 = .ok (.invokevirtual 122, 3) := by decide +kernel
theorem dL_law_882 : decode cL_law 882 = .ok (.istore 6, 2) := by decide +kernel
theorem dL_law_884 : decode cL_law 884 = .ok (.aload_n 2, 1) := by decide +kernel
theorem dL_law_885 : decode cL_law 885 = .ok (.invokevirtual 87, 3) := by decide +kernel
theorem dL_law_888 : decode cL_law 888 = .ok (.iload 5, 2) := by decide +kernel
theorem dL_law_890 : decode cL_law 890 = .ok (.if_icmp .eq 5, 3) := by decide +kernel
theorem dL_law_893 : decode cL_law 893 = .ok (.iconst 0, 1) := by decide +kernel
theorem dL_law_894 : decode cL_law 894 = .ok (.ireturn, 1) := by decide +kernel
theorem dL_law_895 : decode cL_law 895 = .ok (.iload 5, 2) := by decide +kernel
theorem dL_law_897 : decode cL_law 897 = .ok (.ifCond .ne 15, 3) := by decide +kernel
theorem dL_law_900 : decode cL_law 900 = .ok (.aload_n 3, 1) := by decide +kernel
theorem dL_law_901 : decode cL_law 901 = .ok (.iconst 0, 1) := by decide +kernel
theorem dL_law_902 : decode cL_law 902 = .ok (.laload, 1) := by decide +kernel
theorem dL_law_903 : decode cL_law 903 = .ok (.iload 6, 2) := by decide +kernel
theorem dL_law_905 : decode cL_law 905 = .ok (.i2l, 1) := by decide +kernel
theorem dL_law_906 : decode cL_law 906 = .ok (.lcmp, 1) := by decide +kernel
theorem dL_law_907 : decode cL_law 907 = .ok (.ifCond .eq 5, 3) := by decide +kernel
theorem dL_law_910 : decode cL_law 910 = .ok (.iconst 0, 1) := by decide +kernel
theorem dL_law_911 : decode cL_law 911 = .ok (.ireturn, 1) := by decide +kernel
theorem dL_law_912 : decode cL_law 912 = .ok (.goto 604, 3) := by decide +kernel
theorem dL_law_915 : decode cL_law 915 = .ok (.aload_n 1, 1) := by decide +kernel
theorem dL_law_916 : decode cL_law 916 = .ok (.aload_n 0, 1) := by decide +kernel
theorem dL_law_917 : decode cL_law 917 = .ok (.iload 4, 2) := by decide +kernel
theorem dL_law_919 : decode cL_law 919 = .ok (.iconst 1, 1) := by decide +kernel
theorem dL_law_920 : decode cL_law 920 = .ok (.iadd, 1) := by decide +kernel
theorem dL_law_921 : decode cL_law 921 = .ok (.iaload, 1) := by decide +kernel
theorem dL_law_922 : decode cL_law 922 = .ok (.aload_n 3, 1) := by decide +kernel
theorem dL_law_923 : decode cL_law 923 = .ok (.invokestatic 123, 3) := by decide +kernel
theorem dL_law_926 : decode cL_law 926 = .ok (.istore 5, 2) := by decide +kernel
theorem dL_law_928 : decode cL_law 928 = .ok (.aload_n 2, 1) := by decide +kernel
theorem dL_law_929 : decode cL_law 929 = .ok (.aload_n 0, 1) := by decide +kernel
theorem dL_law_930 : decode cL_law 930 = .ok (.iload 4, 2) := by decide +kernel
theorem dL_law_932 : decode cL_law 932 = .ok (.iconst 1, 1) := by decide +kernel
theorem dL_law_933 : decode cL_law 933 = .ok (.iadd, 1) := by decide +kernel
theorem dL_law_934 : decode cL_law 934 = .ok (.iaload, 1) := by decide +kernel
theorem dL_law_935 : decode cL_law 935 = .ok (.invokevirtual 125, 3) := by decide +kernel
theorem dL_law_938 : decode cL_law 938 = .ok (.istore 6, 2) := by decide +kernel
theorem dL_law_940 : decode cL_law 940 = .ok (.aload_n 2, 1) := by decide +kernel
theorem dL_law_941 : decode cL_law 941 = .ok (.invokevirtual 87, 3) := by decide +kernel
theorem dL_law_944 : decode cL_law 944 = .ok (.iload 5, 2) := by decide +kernel
theorem dL_law_946 : decode cL_law 946 = .ok (.if_icmp .eq 5, 3) := by decide +kernel
theorem dL_law_949 : decode cL_law 949 = .ok (.iconst 0, 1) := by decide +kernel
theorem dL_law_950 : decode cL_law 950 = .ok (.ireturn, 1) := by decide +kernel
theorem dL_law_951 : decode cL_law 951 = .ok (.iload 5, 2) := by decide +kernel
theorem dL_law_953 : decode cL_law 953 = .ok (.ifCond .ne 15, 3) := by decide +kernel
theorem dL_law_956 : decode cL_law 956 = .ok (.aload_n 3, 1) := by decide +kernel
theorem dL_law_957 : decode cL_law 957 = .ok (.iconst 0, 1) := by decide +kernel
theorem dL_law_958 : decode cL_law 958 = .ok (.laload, 1) := by decide +kernel
theorem dL_law_959 : decode cL_law 959 = .ok (.iload 6, 2) := by decide +kernel
theorem dL_law_961 : decode cL_law 961 = .ok (.i2l, 1) := by decide +kernel
theorem dL_law_962 : decode cL_law 962 = .ok (.lcmp, 1) := by decide +kernel
theorem dL_law_963 : decode cL_law 963 = .ok (.ifCond .eq 5, 3) := by decide +kernel
theorem dL_law_966 : decode cL_law 966 = .ok (.iconst 0, 1) := by decide +kernel
theorem dL_law_967 : decode cL_law 967 = .ok (.ireturn, 1) := by decide +kernel
theorem dL_law_968 : decode cL_law 968 = .ok (.goto 548, 3) := by decide +kernel
theorem dL_law_971 : decode cL_law 971 = .ok (.aload_n 1, 1) := by decide +kernel
theorem dL_law_972 : decode cL_law 972 = .ok (.aload_n 0, 1) := by decide +kernel
theorem dL_law_973 : decode cL_law 973 = .ok (.iload 4, 2) := by decide +kernel
theorem dL_law_975 : decode cL_law 975 = .ok (.iconst 1, 1) := by decide +kernel
theorem dL_law_976 : decode cL_law 976 = .ok (.iadd, 1) := by decide +kernel
theorem dL_law_977 : decode cL_law 977 = .ok (.iaload, 1) := by decide +kernel
theorem dL_law_978 : decode cL_law 978 = .ok (.aload_n 0, 1) := by decide +kernel
theorem dL_law_979 : decode cL_law 979 = .ok (.iload 4, 2) := by decide +kernel
theorem dL_law_981 : decode cL_law 981 = .ok (.iconst 2, 1) := by decide +kernel
theorem dL_law_982 : decode cL_law 982 = .ok (.iadd, 1) := by decide +kernel
theorem dL_law_983 : decode cL_law 983 = .ok (.iaload, 1) := by decide +kernel
theorem dL_law_984 : decode cL_law 984 = .ok (.aload_n 3, 1) := by decide +kernel
theorem dL_law_985 : decode cL_law 985 = .ok (.invokestatic 126, 3) := by decide +kernel
theorem dL_law_988 : decode cL_law 988 = .ok (.istore 5, 2) := by decide +kernel
theorem dL_law_990 : decode cL_law 990 = .ok (.aload_n 2, 1) := by decide +kernel
theorem dL_law_991 : decode cL_law 991 = .ok (.aload_n 0, 1) := by decide +kernel
theorem dL_law_992 : decode cL_law 992 = .ok (.iload 4, 2) := by decide +kernel
theorem dL_law_994 : decode cL_law 994 = .ok (.iconst 1, 1) := by decide +kernel
theorem dL_law_995 : decode cL_law 995 = .ok (.iadd, 1) := by decide +kernel
theorem dL_law_996 : decode cL_law 996 = .ok (.iaload, 1) := by decide +kernel
theorem dL_law_997 : decode cL_law 997 = .ok (.aload_n 0, 1) := by decide +kernel
theorem dL_law_998 : decode cL_law 998 = .ok (.iload 4, 2) := by decide +kernel
theorem dL_law_1000 : decode cL_law 1000 = .ok (.iconst 2, 1) := by decide +kernel
theorem dL_law_1001 : decode cL_law 1001 = .ok (.iadd, 1) := by decide +kernel
theorem dL_law_1002 : decode cL_law 1002 = .ok (.iaload, 1) := by decide +kernel
theorem dL_law_1003 : decode cL_law 1003 = .ok (.invokevirtual 128, 3) := by decide +kernel
theorem dL_law_1006 : decode cL_law 1006 = .ok (.istore 6, 2) := by decide +kernel
theorem dL_law_1008 : decode cL_law 1008 = .ok (.aload_n 2, 1) := by decide +kernel
theorem dL_law_1009 : decode cL_law 1009 = .ok (.invokevirtual 87, 3) := by decide +kernel
theorem dL_law_1012 : decode cL_law 1012 = .ok (.iload 5, 2) := by decide +kernel
theorem dL_law_1014 : decode cL_law 1014 = .ok (.if_icmp .eq 5, 3) := by decide +kernel
theorem dL_law_1017 : decode cL_law 1017 = .ok (.iconst 0, 1) := by decide +kernel
theorem dL_law_1018 : decode cL_law 1018 = .ok (.ireturn, 1) := by decide +kernel
theorem dL_law_1019 : decode cL_law 1019 = .ok (.iload 5, 2) := by decide +kernel
theorem dL_law_1021 : decode cL_law 1021 = .ok (.ifCond .ne 22, 3) := by decide +kernel
theorem dL_law_1024 : decode cL_law 1024 = .ok (.aload_n 3, 1) := by decide +kernel
theorem dL_law_1025 : decode cL_law 1025 = .ok (.iconst 0, 1) := by decide +kernel
theorem dL_law_1026 : decode cL_law 1026 = .ok (.laload, 1) := by decide +kernel
theorem dL_law_1027 : decode cL_law 1027 = .ok (.iload 6, 2) := by decide +kernel
theorem dL_law_1029 : decode cL_law 1029 = .ok (.ifCond .eq 7, 3) := by decide +kernel
theorem dL_law_1032 : decode cL_law 1032 = .ok (.lconst 1, 1) := by decide +kernel
theorem dL_law_1033 : decode cL_law 1033 = .ok (.goto 4, 3) := by decide +kernel
theorem dL_law_1036 : decode cL_law 1036 = .ok (.lconst 0, 1) := by decide +kernel
theorem dL_law_1037 : decode cL_law 1037 = .ok (.lcmp, 1) := by decide +kernel
theorem dL_law_1038 : decode cL_law 1038 = .ok (.ifCond .eq 5, 3) := by decide +kernel
theorem dL_law_1041 : decode cL_law 1041 = .ok (.iconst 0, 1) := by decide +kernel
theorem dL_law_1042 : decode cL_law 1042 = .ok (.ireturn, 1) := by decide +kernel
theorem dL_law_1043 : decode cL_law 1043 = .ok (.goto 473, 3) := by decide +kernel
theorem dL_law_1046 : decode cL_law 1046 = .ok (.aload_n 1, 1) := by decide +kernel
theorem dL_law_1047 : decode cL_law 1047 = .ok (.aload_n 0, 1) := by decide +kernel
theorem dL_law_1048 : decode cL_law 1048 = .ok (.iload 4, 2) := by decide +kernel
theorem dL_law_1050 : decode cL_law 1050 = .ok (.iconst 1, 1) := by decide +kernel
theorem dL_law_1051 : decode cL_law 1051 = .ok (.iadd, 1) := by decide +kernel
theorem dL_law_1052 : decode cL_law 1052 = .ok (.iaload, 1) := by decide +kernel
theorem dL_law_1053 : decode cL_law 1053 = .ok (.aload_n 3, 1) := by decide +kernel
theorem dL_law_1054 : decode cL_law 1054 = .ok (.invokestatic 129, 3) := by decide +kernel
theorem dL_law_1057 : decode cL_law 1057 = .ok (.istore 5, 2) := by decide +kernel
theorem dL_law_1059 : decode cL_law 1059 = .ok (.aload_n 2, 1) := by decide +kernel
theorem dL_law_1060 : decode cL_law 1060 = .ok (.aload_n 0, 1) := by decide +kernel
theorem dL_law_1061 : decode cL_law 1061 = .ok (.iload 4, 2) := by decide +kernel
theorem dL_law_1063 : decode cL_law 1063 = .ok (.iconst 1, 1) := by decide +kernel
theorem dL_law_1064 : decode cL_law 1064 = .ok (.iadd, 1) := by decide +kernel
theorem dL_law_1065 : decode cL_law 1065 = .ok (.iaload, 1) := by decide +kernel
theorem dL_law_1066 : decode cL_law 1066 = .ok (.invokevirtual 131, 3) := by decide +kernel
theorem dL_law_1069 : decode cL_law 1069 = .ok (.istore 6, 2) := by decide +kernel
theorem dL_law_1071 : decode cL_law 1071 = .ok (.aload_n 2, 1) := by decide +kernel
theorem dL_law_1072 : decode cL_law 1072 = .ok (.invokevirtual 87, 3) := by decide +kernel
theorem dL_law_1075 : decode cL_law 1075 = .ok (.iload 5, 2) := by decide +kernel
theorem dL_law_1077 : decode cL_law 1077 = .ok (.if_icmp .eq 5, 3) := by decide +kernel
theorem dL_law_1080 : decode cL_law 1080 = .ok (.iconst 0, 1) := by decide +kernel
theorem dL_law_1081 : decode cL_law 1081 = .ok (.ireturn, 1) := by decide +kernel
theorem dL_law_1082 : decode cL_law 1082 = .ok (.iload 5, 2) := by decide +kernel
theorem dL_law_1084 : decode cL_law 1084 = .ok (.ifCond .ne 15, 3) := by decide +kernel
theorem dL_law_1087 : decode cL_law 1087 = .ok (.aload_n 3, 1) := by decide +kernel
theorem dL_law_1088 : decode cL_law 1088 = .ok (.iconst 0, 1) := by decide +kernel
theorem dL_law_1089 : decode cL_law 1089 = .ok (.laload, 1) := by decide +kernel
theorem dL_law_1090 : decode cL_law 1090 = .ok (.iload 6, 2) := by decide +kernel
theorem dL_law_1092 : decode cL_law 1092 = .ok (.i2l, 1) := by decide +kernel
theorem dL_law_1093 : decode cL_law 1093 = .ok (.lcmp, 1) := by decide +kernel
theorem dL_law_1094 : decode cL_law 1094 = .ok (.ifCond .eq 5, 3) := by decide +kernel
theorem dL_law_1097 : decode cL_law 1097 = .ok (.iconst 0, 1) := by decide +kernel
theorem dL_law_1098 : decode cL_law 1098 = .ok (.ireturn, 1) := by decide +kernel
theorem dL_law_1099 : decode cL_law 1099 = .ok (.goto 417, 3) := by decide +kernel
theorem dL_law_1102 : decode cL_law 1102 = .ok (.aload_n 1, 1) := by decide +kernel
theorem dL_law_1103 : decode cL_law 1103 = .ok (.aload_n 0, 1) := by decide +kernel
theorem dL_law_1104 : decode cL_law 1104 = .ok (.iload 4, 2) := by decide +kernel
theorem dL_law_1106 : decode cL_law 1106 = .ok (.iconst 1, 1) := by decide +kernel
theorem dL_law_1107 : decode cL_law 1107 = .ok (.iadd, 1) := by decide +kernel
theorem dL_law_1108 : decode cL_law 1108 = .ok (.iaload, 1) := by decide +kernel
theorem dL_law_1109 : decode cL_law 1109 = .ok (.aload_n 0, 1) := by decide +kernel
theorem dL_law_1110 : decode cL_law 1110 = .ok (.iload 4, 2) := by decide +kernel
theorem dL_law_1112 : decode cL_law 1112 = .ok (.iconst 2, 1) := by decide +kernel
theorem dL_law_1113 : decode cL_law 1113 = .ok (.iadd, 1) := by decide +kernel
theorem dL_law_1114 : decode cL_law 1114 = .ok (.iaload, 1) := by decide +kernel
theorem dL_law_1115 : decode cL_law 1115 = .ok (.aload_n 0, 1) := by decide +kernel
theorem dL_law_1116 : decode cL_law 1116 = .ok (.iload 4, 2) := by decide +kernel
theorem dL_law_1118 : decode cL_law 1118 = .ok (.iconst 3, 1) := by decide +kernel
theorem dL_law_1119 : decode cL_law 1119 = .ok (.iadd, 1) := by decide +kernel
theorem dL_law_1120 : decode cL_law 1120 = .ok (.iaload, 1) := by decide +kernel
theorem dL_law_1121 : decode cL_law 1121 = .ok (.aload_n 0, 1) := by decide +kernel
theorem dL_law_1122 : decode cL_law 1122 = .ok (.iload 4, 2) := by decide +kernel
theorem dL_law_1124 : decode cL_law 1124 = .ok (.iconst 4, 1) := by decide +kernel
theorem dL_law_1125 : decode cL_law 1125 = .ok (.iadd, 1) := by decide +kernel
theorem dL_law_1126 : decode cL_law 1126 = .ok (.iaload, 1) := by decide +kernel
theorem dL_law_1127 : decode cL_law 1127 = .ok (.aload_n 0, 1) := by decide +kernel
theorem dL_law_1128 : decode cL_law 1128 = .ok (.iload 4, 2) := by decide +kernel
theorem dL_law_1130 : decode cL_law 1130 = .ok (.iconst 5, 1) := by decide +kernel
theorem dL_law_1131 : decode cL_law 1131 = .ok (.iadd, 1) := by decide +kernel
theorem dL_law_1132 : decode cL_law 1132 = .ok (.iaload, 1) := by decide +kernel
theorem dL_law_1133 : decode cL_law 1133 = .ok (.aload_n 3, 1) := by decide +kernel
theorem dL_law_1134 : decode cL_law 1134 = .ok (.invokestatic 132, 3) := by decide +kernel
theorem dL_law_1137 : decode cL_law 1137 = .ok (.istore 5, 2) := by decide +kernel
theorem dL_law_1139 : decode cL_law 1139 = .ok (.aload_n 2, 1) := by decide +kernel
theorem dL_law_1140 : decode cL_law 1140 = .ok (.aload_n 0, 1) := by decide +kernel
theorem dL_law_1141 : decode cL_law 1141 = .ok (.iload 4, 2) := by decide +kernel
theorem dL_law_1143 : decode cL_law 1143 = .ok (.iconst 1, 1) := by decide +kernel
theorem dL_law_1144 : decode cL_law 1144 = .ok (.iadd, 1) := by decide +kernel
theorem dL_law_1145 : decode cL_law 1145 = .ok (.iaload, 1) := by decide +kernel
theorem dL_law_1146 : decode cL_law 1146 = .ok (.aload_n 0, 1) := by decide +kernel
theorem dL_law_1147 : decode cL_law 1147 = .ok (.iload 4, 2) := by decide +kernel
theorem dL_law_1149 : decode cL_law 1149 = .ok (.iconst 2, 1) := by decide +kernel
theorem dL_law_1150 : decode cL_law 1150 = .ok (.iadd, 1) := by decide +kernel
theorem dL_law_1151 : decode cL_law 1151 = .ok (.iaload, 1) := by decide +kernel
theorem dL_law_1152 : decode cL_law 1152 = .ok (.aload_n 0, 1) := by decide +kernel
theorem dL_law_1153 : decode cL_law 1153 = .ok (.iload 4, 2) := by decide +kernel
theorem dL_law_1155 : decode cL_law 1155 = .ok (.iconst 3, 1) := by decide +kernel
theorem dL_law_1156 : decode cL_law 1156 = .ok (.iadd, 1) := by decide +kernel
theorem dL_law_1157 : decode cL_law 1157 = .ok (.iaload, 1) := by decide +kernel
theorem dL_law_1158 : decode cL_law 1158 = .ok (.aload_n 0, 1) := by decide +kernel
theorem dL_law_1159 : decode cL_law 1159 = .ok (.iload 4, 2) := by decide +kernel
theorem dL_law_1161 : decode cL_law 1161 = .ok (.iconst 4, 1) := by decide +kernel
theorem dL_law_1162 : decode cL_law 1162 = .ok (.iadd, 1) := by decide +kernel
theorem dL_law_1163 : decode cL_law 1163 = .ok (.iaload, 1) := by decide +kernel
theorem dL_law_1164 : decode cL_law 1164 = .ok (.aload_n 0, 1) := by decide +kernel
theorem dL_law_1165 : decode cL_law 1165 = .ok (.iload 4, 2) := by decide +kernel
theorem dL_law_1167 : decode cL_law 1167 = .ok (.iconst 5, 1) := by decide +kernel
theorem dL_law_1168 : decode cL_law 1168 = .ok (.iadd, 1) := by decide +kernel
theorem dL_law_1169 : decode cL_law 1169 = .ok (.iaload, 1) := by decide +kernel
theorem dL_law_1170 : decode cL_law 1170 = .ok (.invokevirtual 134, 3) := by decide +kernel
theorem dL_law_1173 : decode cL_law 1173 = .ok (.istore 6, 2) := by decide +kernel
theorem dL_law_1175 : decode cL_law 1175 = .ok (.aload_n 2, 1) := by decide +kernel
theorem dL_law_1176 : decode cL_law 1176 = .ok (.invokevirtual 87, 3) := by decide +kernel
theorem dL_law_1179 : decode cL_law 1179 = .ok (.iload 5, 2) := by decide +kernel
theorem dL_law_1181 : decode cL_law 1181 = .ok (.if_icmp .eq 5, 3) := by decide +kernel
theorem dL_law_1184 : decode cL_law 1184 = .ok (.iconst 0, 1) := by decide +kernel
theorem dL_law_1185 : decode cL_law 1185 = .ok (.ireturn, 1) := by decide +kernel
theorem dL_law_1186 : decode cL_law 1186 = .ok (.iload 5, 2) := by decide +kernel
theorem dL_law_1188 : decode cL_law 1188 = .ok (.ifCond .ne 15, 3) := by decide +kernel
theorem dL_law_1191 : decode cL_law 1191 = .ok (.aload_n 3, 1) := by decide +kernel
theorem dL_law_1192 : decode cL_law 1192 = .ok (.iconst 0, 1) := by decide +kernel
theorem dL_law_1193 : decode cL_law 1193 = .ok (.laload, 1) := by decide +kernel
theorem dL_law_1194 : decode cL_law 1194 = .ok (.iload 6, 2) := by decide +kernel
theorem dL_law_1196 : decode cL_law 1196 = .ok (.i2l, 1) := by decide +kernel
theorem dL_law_1197 : decode cL_law 1197 = .ok (.lcmp, 1) := by decide +kernel
theorem dL_law_1198 : decode cL_law 1198 = .ok (.ifCond .eq 5, 3) := by decide +kernel
theorem dL_law_1201 : decode cL_law 1201 = .ok (.iconst 0, 1) := by decide +kernel
theorem dL_law_1202 : decode cL_law 1202 = .ok (.ireturn, 1) := by decide +kernel
theorem dL_law_1203 : decode cL_law 1203 = .ok (.goto 313, 3) := by decide +kernel
theorem dL_law_1206 : decode cL_law 1206 = .ok (.aload_n 1, 1) := by decide +kernel
theorem dL_law_1207 : decode cL_law 1207 = .ok (.aload_n 0, 1) := by decide +kernel
theorem dL_law_1208 : decode cL_law 1208 = .ok (.iload 4, 2) := by decide +kernel
theorem dL_law_1210 : decode cL_law 1210 = .ok (.iconst 1, 1) := by decide +kernel
theorem dL_law_1211 : decode cL_law 1211 = .ok (.iadd, 1) := by decide +kernel
theorem dL_law_1212 : decode cL_law 1212 = .ok (.iaload, 1) := by decide +kernel
theorem dL_law_1213 : decode cL_law 1213 = .ok (.aload_n 0, 1) := by decide +kernel
theorem dL_law_1214 : decode cL_law 1214 = .ok (.iload 4, 2) := by decide +kernel
theorem dL_law_1216 : decode cL_law 1216 = .ok (.iconst 2, 1) := by decide +kernel
theorem dL_law_1217 : decode cL_law 1217 = .ok (.iadd, 1) := by decide +kernel
theorem dL_law_1218 : decode cL_law 1218 = .ok (.iaload, 1) := by decide +kernel
theorem dL_law_1219 : decode cL_law 1219 = .ok (.aload_n 0, 1) := by decide +kernel
theorem dL_law_1220 : decode cL_law 1220 = .ok (.iload 4, 2) := by decide +kernel
theorem dL_law_1222 : decode cL_law 1222 = .ok (.iconst 3, 1) := by decide +kernel
theorem dL_law_1223 : decode cL_law 1223 = .ok (.iadd, 1) := by decide +kernel
theorem dL_law_1224 : decode cL_law 1224 = .ok (.iaload, 1) := by decide +kernel
theorem dL_law_1225 : decode cL_law 1225 = .ok (.aload_n 3, 1) := by decide +kernel
theorem dL_law_1226 : decode cL_law 1226 = .ok (.invokestatic 135, 3) := by decide +kernel
theorem dL_law_1229 : decode cL_law 1229 = .ok (.istore 5, 2) := by decide +kernel
theorem dL_law_1231 : decode cL_law 1231 = .ok (.aload_n 2, 1) := by decide +kernel
theorem dL_law_1232 : decode cL_law 1232 = .ok (.aload_n 0, 1) := by decide +kernel
theorem dL_law_1233 : decode cL_law 1233 = .ok (.iload 4, 2) := by decide +kernel
theorem dL_law_1235 : decode cL_law 1235 = .ok (.iconst 1, 1) := by decide +kernel
theorem dL_law_1236 : decode cL_law 1236 = .ok (.iadd, 1) := by decide +kernel
theorem dL_law_1237 : decode cL_law 1237 = .ok (.iaload, 1) := by decide +kernel
theorem dL_law_1238 : decode cL_law 1238 = .ok (.aload_n 0, 1) := by decide +kernel
theorem dL_law_1239 : decode cL_law 1239 = .ok (.iload 4, 2) := by decide +kernel
theorem dL_law_1241 : decode cL_law 1241 = .ok (.iconst 2, 1) := by decide +kernel
theorem dL_law_1242 : decode cL_law 1242 = .ok (.iadd, 1) := by decide +kernel
theorem dL_law_1243 : decode cL_law 1243 = .ok (.iaload, 1) := by decide +kernel
theorem dL_law_1244 : decode cL_law 1244 = .ok (.aload_n 0, 1) := by decide +kernel
theorem dL_law_1245 : decode cL_law 1245 = .ok (.iload 4, 2) := by decide +kernel
theorem dL_law_1247 : decode cL_law 1247 = .ok (.iconst 3, 1) := by decide +kernel
theorem dL_law_1248 : decode cL_law 1248 = .ok (.iadd, 1) := by decide +kernel
theorem dL_law_1249 : decode cL_law 1249 = .ok (.iaload, 1) := by decide +kernel
theorem dL_law_1250 : decode cL_law 1250 = .ok (.invokevirtual 137, 3) := by decide +kernel
theorem dL_law_1253 : decode cL_law 1253 = .ok (.istore 6, 2) := by decide +kernel
theorem dL_law_1255 : decode cL_law 1255 = .ok (.aload_n 2, 1) := by decide +kernel
theorem dL_law_1256 : decode cL_law 1256 = .ok (.invokevirtual 87, 3) := by decide +kernel
theorem dL_law_1259 : decode cL_law 1259 = .ok (.iload 5, 2) := by decide +kernel
theorem dL_law_1261 : decode cL_law 1261 = .ok (.if_icmp .eq 5, 3) := by decide +kernel
theorem dL_law_1264 : decode cL_law 1264 = .ok (.iconst 0, 1) := by decide +kernel
theorem dL_law_1265 : decode cL_law 1265 = .ok (.ireturn, 1) := by decide +kernel
theorem dL_law_1266 : decode cL_law 1266 = .ok (.iload 5, 2) := by decide +kernel
theorem dL_law_1268 : decode cL_law 1268 = .ok (.ifCond .ne 15, 3) := by decide +kernel
theorem dL_law_1271 : decode cL_law 1271 = .ok (.aload_n 3, 1) := by decide +kernel
theorem dL_law_1272 : decode cL_law 1272 = .ok (.iconst 0, 1) := by decide +kernel
theorem dL_law_1273 : decode cL_law 1273 = .ok (.laload, 1) := by decide +kernel
theorem dL_law_1274 : decode cL_law 1274 = .ok (.iload 6, 2) := by decide +kernel
theorem dL_law_1276 : decode cL_law 1276 = .ok (.i2l, 1) := by decide +kernel
theorem dL_law_1277 : decode cL_law 1277 = .ok (.lcmp, 1) := by decide +kernel
theorem dL_law_1278 : decode cL_law 1278 = .ok (.ifCond .eq 5, 3) := by decide +kernel
theorem dL_law_1281 : decode cL_law 1281 = .ok (.iconst 0, 1) := by decide +kernel
theorem dL_law_1282 : decode cL_law 1282 = .ok (.ireturn, 1) := by decide +kernel
theorem dL_law_1283 : decode cL_law 1283 = .ok (.goto 233, 3) := by decide +kernel
theorem dL_law_1286 : decode cL_law 1286 = .ok (.aload_n 1, 1) := by decide +kernel
theorem dL_law_1287 : decode cL_law 1287 = .ok (.aload_n 0, 1) := by decide +kernel
theorem dL_law_1288 : decode cL_law 1288 = .ok (.iload 4, 2) := by decide +kernel
theorem dL_law_1290 : decode cL_law 1290 = .ok (.iconst 1, 1) := by decide +kernel
theorem dL_law_1291 : decode cL_law 1291 = .ok (.iadd, 1) := by decide +kernel
theorem dL_law_1292 : decode cL_law 1292 = .ok (.iaload, 1) := by decide +kernel
theorem dL_law_1293 : decode cL_law 1293 = .ok (.aload_n 0, 1) := by decide +kernel
theorem dL_law_1294 : decode cL_law 1294 = .ok (.iload 4, 2) := by decide +kernel
theorem dL_law_1296 : decode cL_law 1296 = .ok (.iconst 2, 1) := by decide +kernel
theorem dL_law_1297 : decode cL_law 1297 = .ok (.iadd, 1) := by decide +kernel
theorem dL_law_1298 : decode cL_law 1298 = .ok (.iaload, 1) := by decide +kernel
theorem dL_law_1299 : decode cL_law 1299 = .ok (.aload_n 3, 1) := by decide +kernel
theorem dL_law_1300 : decode cL_law 1300 = .ok (.invokestatic 138, 3) := by decide +kernel
theorem dL_law_1303 : decode cL_law 1303 = .ok (.istore 5, 2) := by decide +kernel
theorem dL_law_1305 : decode cL_law 1305 = .ok (.aload_n 2, 1) := by decide +kernel
theorem dL_law_1306 : decode cL_law 1306 = .ok (.aload_n 0, 1) := by decide +kernel
theorem dL_law_1307 : decode cL_law 1307 = .ok (.iload 4, 2) := by decide +kernel
theorem dL_law_1309 : decode cL_law 1309 = .ok (.iconst 1, 1) := by decide +kernel
theorem dL_law_1310 : decode cL_law 1310 = .ok (.iadd, 1) := by decide +kernel
theorem dL_law_1311 : decode cL_law 1311 = .ok (.iaload, 1) := by decide +kernel
theorem dL_law_1312 : decode cL_law 1312 = .ok (.aload_n 0, 1) := by decide +kernel
theorem dL_law_1313 : decode cL_law 1313 = .ok (.iload 4, 2) := by decide +kernel
theorem dL_law_1315 : decode cL_law 1315 = .ok (.iconst 2, 1) := by decide +kernel
theorem dL_law_1316 : decode cL_law 1316 = .ok (.iadd, 1) := by decide +kernel
theorem dL_law_1317 : decode cL_law 1317 = .ok (.iaload, 1) := by decide +kernel
theorem dL_law_1318 : decode cL_law 1318 = .ok (.invokevirtual 140, 3) := by decide +kernel
theorem dL_law_1321 : decode cL_law 1321 = .ok (.istore 6, 2) := by decide +kernel
theorem dL_law_1323 : decode cL_law 1323 = .ok (.aload_n 2, 1) := by decide +kernel
theorem dL_law_1324 : decode cL_law 1324 = .ok (.invokevirtual 87, 3) := by decide +kernel
theorem dL_law_1327 : decode cL_law 1327 = .ok (.iload 5, 2) := by decide +kernel
theorem dL_law_1329 : decode cL_law 1329 = .ok (.if_icmp .eq 5, 3) := by decide +kernel
theorem dL_law_1332 : decode cL_law 1332 = .ok (.iconst 0, 1) := by decide +kernel
theorem dL_law_1333 : decode cL_law 1333 = .ok (.ireturn, 1) := by decide +kernel
theorem dL_law_1334 : decode cL_law 1334 = .ok (.iload 5, 2) := by decide +kernel
theorem dL_law_1336 : decode cL_law 1336 = .ok (.ifCond .ne 15, 3) := by decide +kernel
theorem dL_law_1339 : decode cL_law 1339 = .ok (.aload_n 3, 1) := by decide +kernel
theorem dL_law_1340 : decode cL_law 1340 = .ok (.iconst 0, 1) := by decide +kernel
theorem dL_law_1341 : decode cL_law 1341 = .ok (.laload, 1) := by decide +kernel
theorem dL_law_1342 : decode cL_law 1342 = .ok (.iload 6, 2) := by decide +kernel
theorem dL_law_1344 : decode cL_law 1344 = .ok (.i2l, 1) := by decide +kernel
theorem dL_law_1345 : decode cL_law 1345 = .ok (.lcmp, 1) := by decide +kernel
theorem dL_law_1346 : decode cL_law 1346 = .ok (.ifCond .eq 5, 3) := by decide +kernel
theorem dL_law_1349 : decode cL_law 1349 = .ok (.iconst 0, 1) := by decide +kernel
theorem dL_law_1350 : decode cL_law 1350 = .ok (.ireturn, 1) := by decide +kernel
theorem dL_law_1351 : decode cL_law 1351 = .ok (.goto 165, 3) := by decide +kernel
theorem dL_law_1354 : decode cL_law 1354 = .ok (.aload_n 1, 1) := by decide +kernel
theorem dL_law_1355 : decode cL_law 1355 = .ok (.aload_n 0, 1) := by decide +kernel
theorem dL_law_1356 : decode cL_law 1356 = .ok (.iload 4, 2) := by decide +kernel
theorem dL_law_1358 : decode cL_law 1358 = .ok (.iconst 1, 1) := by decide +kernel
theorem dL_law_1359 : decode cL_law 1359 = .ok (.iadd, 1) := by decide +kernel
theorem dL_law_1360 : decode cL_law 1360 = .ok (.iaload, 1) := by decide +kernel
theorem dL_law_1361 : decode cL_law 1361 = .ok (.aload_n 0, 1) := by decide +kernel
theorem dL_law_1362 : decode cL_law 1362 = .ok (.iload 4, 2) := by decide +kernel
theorem dL_law_1364 : decode cL_law 1364 = .ok (.iconst 2, 1) := by decide +kernel
theorem dL_law_1365 : decode cL_law 1365 = .ok (.iadd, 1) := by decide +kernel
theorem dL_law_1366 : decode cL_law 1366 = .ok (.iaload, 1) := by decide +kernel
theorem dL_law_1367 : decode cL_law 1367 = .ok (.aload_n 3, 1) := by decide +kernel
theorem dL_law_1368 : decode cL_law 1368 = .ok (.invokestatic 141, 3) := by decide +kernel
theorem dL_law_1371 : decode cL_law 1371 = .ok (.istore 5, 2) := by decide +kernel
theorem dL_law_1373 : decode cL_law 1373 = .ok (.aload_n 2, 1) := by decide +kernel
theorem dL_law_1374 : decode cL_law 1374 = .ok (.aload_n 0, 1) := by decide +kernel
theorem dL_law_1375 : decode cL_law 1375 = .ok (.iload 4, 2) := by decide +kernel
theorem dL_law_1377 : decode cL_law 1377 = .ok (.iconst 1, 1) := by decide +kernel
theorem dL_law_1378 : decode cL_law 1378 = .ok (.iadd, 1) := by decide +kernel
theorem dL_law_1379 : decode cL_law 1379 = .ok (.iaload, 1) := by decide +kernel
theorem dL_law_1380 : decode cL_law 1380 = .ok (.aload_n 0, 1) := by decide +kernel
theorem dL_law_1381 : decode cL_law 1381 = .ok (.iload 4, 2) := by decide +kernel
theorem dL_law_1383 : decode cL_law 1383 = .ok (.iconst 2, 1) := by decide +kernel
theorem dL_law_1384 : decode cL_law 1384 = .ok (.iadd, 1) := by decide +kernel
theorem dL_law_1385 : decode cL_law 1385 = .ok (.iaload, 1) := by decide +kernel
theorem dL_law_1386 : decode cL_law 1386 = .ok (.invokevirtual 143, 3) := by decide +kernel
theorem dL_law_1389 : decode cL_law 1389 = .ok (.istore 6, 2) := by decide +kernel
theorem dL_law_1391 : decode cL_law 1391 = .ok (.aload_n 2, 1) := by decide +kernel
theorem dL_law_1392 : decode cL_law 1392 = .ok (.invokevirtual 87, 3) := by decide +kernel
theorem dL_law_1395 : decode cL_law 1395 = .ok (.iload 5, 2) := by decide +kernel
theorem dL_law_1397 : decode cL_law 1397 = .ok (.if_icmp .eq 5, 3) := by decide +kernel
theorem dL_law_1400 : decode cL_law 1400 = .ok (.iconst 0, 1) := by decide +kernel
theorem dL_law_1401 : decode cL_law 1401 = .ok (.ireturn, 1) := by decide +kernel
theorem dL_law_1402 : decode cL_law 1402 = .ok (.iload 5, 2) := by decide +kernel
theorem dL_law_1404 : decode cL_law 1404 = .ok (.ifCond .ne 15, 3) := by decide +kernel
theorem dL_law_1407 : decode cL_law 1407 = .ok (.aload_n 3, 1) := by decide +kernel
theorem dL_law_1408 : decode cL_law 1408 = .ok (.iconst 0, 1) := by decide +kernel
theorem dL_law_1409 : decode cL_law 1409 = .ok (.laload, 1) := by decide +kernel
theorem dL_law_1410 : decode cL_law 1410 = .ok (.iload 6, 2) := by decide +kernel
theorem dL_law_1412 : decode cL_law 1412 = .ok (.i2l, 1) := by decide +kernel
theorem dL_law_1413 : decode cL_law 1413 = .ok (.lcmp, 1) := by decide +kernel
theorem dL_law_1414 : decode cL_law 1414 = .ok (.ifCond .eq 5, 3) := by decide +kernel
theorem dL_law_1417 : decode cL_law 1417 = .ok (.iconst 0, 1) := by decide +kernel
theorem dL_law_1418 : decode cL_law 1418 = .ok (.ireturn, 1) := by decide +kernel
theorem dL_law_1419 : decode cL_law 1419 = .ok (.goto 97, 3) := by decide +kernel
theorem dL_law_1422 : decode cL_law 1422 = .ok (.aload_n 1, 1) := by decide +kernel
theorem dL_law_1423 : decode cL_law 1423 = .ok (.aload_n 0, 1) := by decide +kernel
theorem dL_law_1424 : decode cL_law 1424 = .ok (.iload 4, 2) := by decide +kernel
theorem dL_law_1426 : decode cL_law 1426 = .ok (.iconst 1, 1) := by decide +kernel
theorem dL_law_1427 : decode cL_law 1427 = .ok (.iadd, 1) := by decide +kernel
theorem dL_law_1428 : decode cL_law 1428 = .ok (.iaload, 1) := by decide +kernel
theorem dL_law_1429 : decode cL_law 1429 = .ok (.aload_n 0, 1) := by decide +kernel
theorem dL_law_1430 : decode cL_law 1430 = .ok (.iload 4, 2) := by decide +kernel
theorem dL_law_1432 : decode cL_law 1432 = .ok (.iconst 2, 1) := by decide +kernel
theorem dL_law_1433 : decode cL_law 1433 = .ok (.iadd, 1) := by decide +kernel
theorem dL_law_1434 : decode cL_law 1434 = .ok (.iaload, 1) := by decide +kernel
theorem dL_law_1435 : decode cL_law 1435 = .ok (.aload_n 3, 1) := by decide +kernel
theorem dL_law_1436 : decode cL_law 1436 = .ok (.invokestatic 144, 3) := by decide +kernel
theorem dL_law_1439 : decode cL_law 1439 = .ok (.istore 5, 2) := by decide +kernel
theorem dL_law_1441 : decode cL_law 1441 = .ok (.aload_n 2, 1) := by decide +kernel
theorem dL_law_1442 : decode cL_law 1442 = .ok (.aload_n 0, 1) := by decide +kernel
theorem dL_law_1443 : decode cL_law 1443 = .ok (.iload 4, 2) := by decide +kernel
theorem dL_law_1445 : decode cL_law 1445 = .ok (.iconst 1, 1) := by decide +kernel
theorem dL_law_1446 : decode cL_law 1446 = .ok (.iadd, 1) := by decide +kernel
theorem dL_law_1447 : decode cL_law 1447 = .ok (.iaload, 1) := by decide +kernel
theorem dL_law_1448 : decode cL_law 1448 = .ok (.aload_n 0, 1) := by decide +kernel
theorem dL_law_1449 : decode cL_law 1449 = .ok (.iload 4, 2) := by decide +kernel
theorem dL_law_1451 : decode cL_law 1451 = .ok (.iconst 2, 1) := by decide +kernel
theorem dL_law_1452 : decode cL_law 1452 = .ok (.iadd, 1) := by decide +kernel
theorem dL_law_1453 : decode cL_law 1453 = .ok (.iaload, 1) := by decide +kernel
theorem dL_law_1454 : decode cL_law 1454 = .ok (.invokevirtual 146, 3) := by decide +kernel
theorem dL_law_1457 : decode cL_law 1457 = .ok (.istore 6, 2) := by decide +kernel
theorem dL_law_1459 : decode cL_law 1459 = .ok (.aload_n 2, 1) := by decide +kernel
theorem dL_law_1460 : decode cL_law 1460 = .ok (.invokevirtual 87, 3) := by decide +kernel
theorem dL_law_1463 : decode cL_law 1463 = .ok (.iload 5, 2) := by decide +kernel
theorem dL_law_1465 : decode cL_law 1465 = .ok (.if_icmp .eq 5, 3) := by decide +kernel
theorem dL_law_1468 : decode cL_law 1468 = .ok (.iconst 0, 1) := by decide +kernel
theorem dL_law_1469 : decode cL_law 1469 = .ok (.ireturn, 1) := by decide +kernel
theorem dL_law_1470 : decode cL_law 1470 = .ok (.iload 5, 2) := by decide +kernel
theorem dL_law_1472 : decode cL_law 1472 = .ok (.ifCond .ne 15, 3) := by decide +kernel
theorem dL_law_1475 : decode cL_law 1475 = .ok (.aload_n 3, 1) := by decide +kernel
theorem dL_law_1476 : decode cL_law 1476 = .ok (.iconst 0, 1) := by decide +kernel
theorem dL_law_1477 : decode cL_law 1477 = .ok (.laload, 1) := by decide +kernel
theorem dL_law_1478 : decode cL_law 1478 = .ok (.iload 6, 2) := by decide +kernel
theorem dL_law_1480 : decode cL_law 1480 = .ok (.i2l, 1) := by decide +kernel
theorem dL_law_1481 : decode cL_law 1481 = .ok (.lcmp, 1) := by decide +kernel
theorem dL_law_1482 : decode cL_law 1482 = .ok (.ifCond .eq 5, 3) := by decide +kernel
theorem dL_law_1485 : decode cL_law 1485 = .ok (.iconst 0, 1) := by decide +kernel
theorem dL_law_1486 : decode cL_law 1486 = .ok (.ireturn, 1) := by decide +kernel
theorem dL_law_1487 : decode cL_law 1487 = .ok (.goto 29, 3) := by decide +kernel
theorem dL_law_1490 : decode cL_law 1490 = .ok (.aload_n 1, 1) := by decide +kernel
theorem dL_law_1491 : decode cL_law 1491 = .ok (.invokevirtual 147, 3) := by decide +kernel
theorem dL_law_1494 : decode cL_law 1494 = .ok (.aload_n 2, 1) := by decide +kernel
theorem dL_law_1495 : decode cL_law 1495 = .ok (.invokevirtual 150, 3) := by decide +kernel
theorem dL_law_1498 : decode cL_law 1498 = .ok (.if_icmp .eq 18, 3) := by decide +kernel
theorem dL_law_1501 : decode cL_law 1501 = .ok (.iconst 0, 1) := by decide +kernel
theorem dL_law_1502 : decode cL_law 1502 = .ok (.ireturn, 1) := by decide +kernel
theorem dL_law_1503 : decode cL_law 1503 = .ok (.aload_n 1, 1) := by decide +kernel
theorem dL_law_1504 : decode cL_law 1504 = .ok (.invokevirtual 151, 3) := by decide +kernel
theorem dL_law_1507 : decode cL_law 1507 = .ok (.aload_n 2, 1) := by decide +kernel
theorem dL_law_1508 : decode cL_law 1508 = .ok (.invokevirtual 154, 3) := by decide +kernel
theorem dL_law_1511 : decode cL_law 1511 = .ok (.if_icmp .eq 5, 3) := by decide +kernel
theorem dL_law_1514 : decode cL_law 1514 = .ok (.iconst 0, 1) := by decide +kernel
theorem dL_law_1515 : decode cL_law 1515 = .ok (.ireturn, 1) := by decide +kernel
theorem dL_law_1516 : decode cL_law 1516 = .ok (.iinc 4 6, 3) := by decide +kernel
theorem dL_law_1519 : decode cL_law 1519 = .ok (.goto (-1496), 3) := by decide +kernel
theorem dL_law_1522 : decode cL_law 1522 = .ok (.iconst 1, 1) := by decide +kernel
theorem dL_law_1523 : decode cL_law 1523 = .ok (.ireturn, 1) := by decide +kernel
