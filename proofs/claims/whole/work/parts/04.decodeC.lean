theorem dX0_init_0 : decode cX0_init 0 = .ok (.aload_n 0, 1) := by decide +kernel
theorem dX0_init_1 : decode cX0_init 1 = .ok (.invokespecial 3, 3) := by decide +kernel
theorem dX0_init_4 : decode cX0_init 4 = .ok (.aload_n 0, 1) := by decide +kernel
theorem dX0_init_5 : decode cX0_init 5 = .ok (.getstatic 9, 3) := by decide +kernel
theorem dX0_init_8 : decode cX0_init 8 = .ok (.invokevirtual 13, 3) := by decide +kernel
theorem dX0_init_11 : decode cX0_init 11 = .ok (.checkcast 14, 3) := by decide +kernel
theorem dX0_init_14 : decode cX0_init 14 = .ok (.putfield 18, 3) := by decide +kernel
theorem dX0_init_17 : decode cX0_init 17 = .ok (.aload_n 0, 1) := by decide +kernel
theorem dX0_init_18 : decode cX0_init 18 = .ok (.iconst 2, 1) := by decide +kernel
theorem dX0_init_19 : decode cX0_init 19 = .ok (.anewarray 14, 3) := by decide +kernel
theorem dX0_init_22 : decode cX0_init 22 = .ok (.dup, 1) := by decide +kernel
theorem dX0_init_23 : decode cX0_init 23 = .ok (.iconst 0, 1) := by decide +kernel
theorem dX0_init_24 : decode cX0_init 24 = .ok (.iconst 2, 1) := by decide +kernel
theorem dX0_init_25 : decode cX0_init 25 = .ok (.newarray .int, 2) := by decide +kernel
theorem dX0_init_27 : decode cX0_init 27 = .ok (.dup, 1) := by decide +kernel
theorem dX0_init_28 : decode cX0_init 28 = .ok (.iconst 0, 1) := by decide +kernel
theorem dX0_init_29 : decode cX0_init 29 = .ok (.bipush 126, 2) := by decide +kernel
theorem dX0_init_31 : decode cX0_init 31 = .ok (.iastore, 1) := by decide +kernel
theorem dX0_init_32 : decode cX0_init 32 = .ok (.dup, 1) := by decide +kernel
theorem dX0_init_33 : decode cX0_init 33 = .ok (.iconst 1, 1) := by decide +kernel
theorem dX0_init_34 : decode cX0_init 34 = .ok (.bipush 126, 2) := by decide +kernel
theorem dX0_init_36 : decode cX0_init 36 = .ok (.iastore, 1) := by decide +kernel
theorem dX0_init_37 : decode cX0_init 37 = .ok (.aastore, 1) := by decide +kernel
theorem dX0_init_38 : decode cX0_init 38 = .ok (.dup, 1) := by decide +kernel
theorem dX0_init_39 : decode cX0_init 39 = .ok (.iconst 1, 1) := by decide +kernel
theorem dX0_init_40 : decode cX0_init 40 = .ok (.iconst 2, 1) := by decide +kernel
theorem dX0_init_41 : decode cX0_init 41 = .ok (.newarray .int, 2) := by decide +kernel
theorem dX0_init_43 : decode cX0_init 43 = .ok (.dup, 1) := by decide +kernel
theorem dX0_init_44 : decode cX0_init 44 = .ok (.iconst 0, 1) := by decide +kernel
theorem dX0_init_45 : decode cX0_init 45 = .ok (.bipush 126, 2) := by decide +kernel
theorem dX0_init_47 : decode cX0_init 47 = .ok (.iastore, 1) := by decide +kernel
theorem dX0_init_48 : decode cX0_init 48 = .ok (.dup, 1) := by decide +kernel
theorem dX0_init_49 : decode cX0_init 49 = .ok (.iconst 1, 1) := by decide +kernel
theorem dX0_init_50 : decode cX0_init 50 = .ok (.bipush 126, 2) := by decide +kernel
theorem dX0_init_52 : decode cX0_init 52 = .ok (.iastore, 1) := by decide +kernel
theorem dX0_init_53 : decode cX0_init 53 = .ok (.aastore, 1) := by decide +kernel
theorem dX0_init_54 : decode cX0_init 54 = .ok (.putfield 23, 3) := by decide +kernel
theorem dX0_init_57 : decode cX0_init 57 = .ok (.return_, 1) := by decide +kernel
theorem dX0_priceOf_0 : decode cX0_priceOf 0 = .ok (.iload_n 1, 1) := by decide +kernel
theorem dX0_priceOf_1 : decode cX0_priceOf 1 = .ok (.iconst 1, 1) := by decide +kernel
theorem dX0_priceOf_2 : decode cX0_priceOf 2 = .ok (.if_icmp .lt 9, 3) := by decide +kernel
theorem dX0_priceOf_5 : decode cX0_priceOf 5 = .ok (.iload_n 1, 1) := by decide +kernel
theorem dX0_priceOf_6 : decode cX0_priceOf 6 = .ok (.bipush 6, 2) := by decide +kernel
theorem dX0_priceOf_8 : decode cX0_priceOf 8 = .ok (.if_icmp .le 8, 3) := by decide +kernel
theorem dX0_priceOf_11 : decode cX0_priceOf 11 = .ok (.bipush (-9), 2) := by decide +kernel
theorem dX0_priceOf_13 : decode cX0_priceOf 13 = .ok (.goto 9, 3) := by decide +kernel
theorem dX0_priceOf_16 : decode cX0_priceOf 16 = .ok (.aload_n 0, 1) := by decide +kernel
theorem dX0_priceOf_17 : decode cX0_priceOf 17 = .ok (.getfield 18, 3) := by decide +kernel
theorem dX0_priceOf_20 : decode cX0_priceOf 20 = .ok (.iload_n 1, 1) := by decide +kernel
theorem dX0_priceOf_21 : decode cX0_priceOf 21 = .ok (.iaload, 1) := by decide +kernel
theorem dX0_priceOf_22 : decode cX0_priceOf 22 = .ok (.ireturn, 1) := by decide +kernel
theorem dX0_mayEnd_0 : decode cX0_mayEnd 0 = .ok (.aload_n 0, 1) := by decide +kernel
theorem dX0_mayEnd_1 : decode cX0_mayEnd 1 = .ok (.getfield 23, 3) := by decide +kernel
theorem dX0_mayEnd_4 : decode cX0_mayEnd 4 = .ok (.iload_n 1, 1) := by decide +kernel
theorem dX0_mayEnd_5 : decode cX0_mayEnd 5 = .ok (.iconst 1, 1) := by decide +kernel
theorem dX0_mayEnd_6 : decode cX0_mayEnd 6 = .ok (.iand, 1) := by decide +kernel
theorem dX0_mayEnd_7 : decode cX0_mayEnd 7 = .ok (.aaload, 1) := by decide +kernel
theorem dX0_mayEnd_8 : decode cX0_mayEnd 8 = .ok (.iload_n 2, 1) := by decide +kernel
theorem dX0_mayEnd_9 : decode cX0_mayEnd 9 = .ok (.iconst 1, 1) := by decide +kernel
theorem dX0_mayEnd_10 : decode cX0_mayEnd 10 = .ok (.iand, 1) := by decide +kernel
theorem dX0_mayEnd_11 : decode cX0_mayEnd 11 = .ok (.iaload, 1) := by decide +kernel
theorem dX0_mayEnd_12 : decode cX0_mayEnd 12 = .ok (.iload_n 3, 1) := by decide +kernel
theorem dX0_mayEnd_13 : decode cX0_mayEnd 13 = .ok (.ishr, 1) := by decide +kernel
theorem dX0_mayEnd_14 : decode cX0_mayEnd 14 = .ok (.iconst 1, 1) := by decide +kernel
theorem dX0_mayEnd_15 : decode cX0_mayEnd 15 = .ok (.iand, 1) := by decide +kernel
theorem dX0_mayEnd_16 : decode cX0_mayEnd 16 = .ok (.ifCond .eq 7, 3) := by decide +kernel
theorem dX0_mayEnd_19 : decode cX0_mayEnd 19 = .ok (.iconst 1, 1) := by decide +kernel
theorem dX0_mayEnd_20 : decode cX0_mayEnd 20 = .ok (.goto 4, 3) := by decide +kernel
theorem dX0_mayEnd_23 : decode cX0_mayEnd 23 = .ok (.iconst 0, 1) := by decide +kernel
theorem dX0_mayEnd_24 : decode cX0_mayEnd 24 = .ok (.ireturn, 1) := by decide +kernel
theorem dX1_init_0 : decode cX1_init 0 = .ok (.aload_n 0, 1) := by decide +kernel
theorem dX1_init_1 : decode cX1_init 1 = .ok (.invokespecial 3, 3) := by decide +kernel
theorem dX1_init_4 : decode cX1_init 4 = .ok (.aload_n 0, 1) := by decide +kernel
theorem dX1_init_5 : decode cX1_init 5 = .ok (.sipush 512, 3) := by decide +kernel
theorem dX1_init_8 : decode cX1_init 8 = .ok (.newarray .long, 2) := by decide +kernel
theorem dX1_init_10 : decode cX1_init 10 = .ok (.putfield 9, 3) := by decide +kernel
theorem dX1_init_13 : decode cX1_init 13 = .ok (.aload_n 0, 1) := by decide +kernel
theorem dX1_init_14 : decode cX1_init 14 = .ok (.sipush 512, 3) := by decide +kernel
theorem dX1_init_17 : decode cX1_init 17 = .ok (.newarray .long, 2) := by decide +kernel
theorem dX1_init_19 : decode cX1_init 19 = .ok (.putfield 15, 3) := by decide +kernel
theorem dX1_init_22 : decode cX1_init 22 = .ok (.aload_n 0, 1) := by decide +kernel
theorem dX1_init_23 : decode cX1_init 23 = .ok (.iconst 0, 1) := by decide +kernel
theorem dX1_init_24 : decode cX1_init 24 = .ok (.putfield 18, 3) := by decide +kernel
theorem dX1_init_27 : decode cX1_init 27 = .ok (.aload_n 0, 1) := by decide +kernel
theorem dX1_init_28 : decode cX1_init 28 = .ok (.lconst 1, 1) := by decide +kernel
theorem dX1_init_29 : decode cX1_init 29 = .ok (.putfield 22, 3) := by decide +kernel
theorem dX1_init_32 : decode cX1_init 32 = .ok (.aload_n 0, 1) := by decide +kernel
theorem dX1_init_33 : decode cX1_init 33 = .ok (.iconst 0, 1) := by decide +kernel
theorem dX1_init_34 : decode cX1_init 34 = .ok (.putfield 26, 3) := by decide +kernel
theorem dX1_init_37 : decode cX1_init 37 = .ok (.aload_n 0, 1) := by decide +kernel
theorem dX1_init_38 : decode cX1_init 38 = .ok (.aload_n 1, 1) := by decide +kernel
theorem dX1_init_39 : decode cX1_init 39 = .ok (.putfield 29, 3) := by decide +kernel
theorem dX1_init_42 : decode cX1_init 42 = .ok (.aload_n 0, 1) := by decide +kernel
theorem dX1_init_43 : decode cX1_init 43 = .ok (.aload_n 2, 1) := by decide +kernel
theorem dX1_init_44 : decode cX1_init 44 = .ok (.putfield 33, 3) := by decide +kernel
theorem dX1_init_47 : decode cX1_init 47 = .ok (.return_, 1) := by decide +kernel
theorem dX1_forget_0 : decode cX1_forget 0 = .ok (.aload_n 0, 1) := by decide +kernel
theorem dX1_forget_1 : decode cX1_forget 1 = .ok (.iconst 0, 1) := by decide +kernel
theorem dX1_forget_2 : decode cX1_forget 2 = .ok (.putfield 18, 3) := by decide +kernel
theorem dX1_forget_5 : decode cX1_forget 5 = .ok (.return_, 1) := by decide +kernel
theorem dX1_renew_0 : decode cX1_renew 0 = .ok (.aload_n 0, 1) := by decide +kernel
theorem dX1_renew_1 : decode cX1_renew 1 = .ok (.getfield 18, 3) := by decide +kernel
theorem dX1_renew_4 : decode cX1_renew 4 = .ok (.iload_n 1, 1) := by decide +kernel
theorem dX1_renew_5 : decode cX1_renew 5 = .ok (.if_icmp .ne 4, 3) := by decide +kernel
theorem dX1_renew_8 : decode cX1_renew 8 = .ok (.return_, 1) := by decide +kernel
theorem dX1_renew_9 : decode cX1_renew 9 = .ok (.aload_n 0, 1) := by decide +kernel
theorem dX1_renew_10 : decode cX1_renew 10 = .ok (.getfield 33, 3) := by decide +kernel
theorem dX1_renew_13 : decode cX1_renew 13 = .ok (.invokevirtual 37, 3) := by decide +kernel
theorem dX1_renew_16 : decode cX1_renew 16 = .ok (.aload_n 0, 1) := by decide +kernel
theorem dX1_renew_17 : decode cX1_renew 17 = .ok (.getfield 9, 3) := by decide +kernel
theorem dX1_renew_20 : decode cX1_renew 20 = .ok (.lconst 1, 1) := by decide +kernel
theorem dX1_renew_21 : decode cX1_renew 21 = .ok (.invokestatic 42, 3) := by decide +kernel
theorem dX1_renew_24 : decode cX1_renew 24 = .ok (.aload_n 0, 1) := by decide +kernel
theorem dX1_renew_25 : decode cX1_renew 25 = .ok (.lconst 1, 1) := by decide +kernel
theorem dX1_renew_26 : decode cX1_renew 26 = .ok (.putfield 22, 3) := by decide +kernel
theorem dX1_renew_29 : decode cX1_renew 29 = .ok (.aload_n 0, 1) := by decide +kernel
theorem dX1_renew_30 : decode cX1_renew 30 = .ok (.iconst 0, 1) := by decide +kernel
theorem dX1_renew_31 : decode cX1_renew 31 = .ok (.putfield 26, 3) := by decide +kernel
theorem dX1_renew_34 : decode cX1_renew 34 = .ok (.iconst 0, 1) := by decide +kernel
theorem dX1_renew_35 : decode cX1_renew 35 = .ok (.istore_n 2, 1) := by decide +kernel
theorem dX1_renew_36 : decode cX1_renew 36 = .ok (.iload_n 2, 1) := by decide +kernel
theorem dX1_renew_37 : decode cX1_renew 37 = .ok (.aload_n 0, 1) := by decide +kernel
theorem dX1_renew_38 : decode cX1_renew 38 = .ok (.getfield 29, 3) := by decide +kernel
theorem dX1_renew_41 : decode cX1_renew 41 = .ok (.getfield 48, 3) := by decide +kernel
theorem dX1_renew_44 : decode cX1_renew 44 = .ok (.if_icmp .ge 38, 3) := by decide +kernel
theorem dX1_renew_47 : decode cX1_renew 47 = .ok (.aload_n 0, 1) := by decide +kernel
theorem dX1_renew_48 : decode cX1_renew 48 = .ok (.aload_n 0, 1) := by decide +kernel
theorem dX1_renew_49 : decode cX1_renew 49 = .ok (.iload_n 2, 1) := by decide +kernel
theorem dX1_renew_50 : decode cX1_renew 50 = .ok (.iload_n 1, 1) := by decide +kernel
theorem dX1_renew_51 : decode cX1_renew 51 = .ok (.invokevirtual 53, 3) := by decide +kernel
theorem dX1_renew_54 : decode cX1_renew 54 = .ok (.putfield 22, 3) := by decide +kernel
theorem dX1_renew_57 : decode cX1_renew 57 = .ok (.aload_n 0, 1) := by decide +kernel
theorem dX1_renew_58 : decode cX1_renew 58 = .ok (.getfield 22, 3) := by decide +kernel
theorem dX1_renew_61 : decode cX1_renew 61 = .ok (.lconst 0, 1) := by decide +kernel
theorem dX1_renew_62 : decode cX1_renew 62 = .ok (.lcmp, 1) := by decide +kernel
theorem dX1_renew_63 : decode cX1_renew 63 = .ok (.ifCond .le 13, 3) := by decide +kernel
theorem dX1_renew_66 : decode cX1_renew 66 = .ok (.aload_n 0, 1) := by decide +kernel
theorem dX1_renew_67 : decode cX1_renew 67 = .ok (.dup, 1) := by decide +kernel
theorem dX1_renew_68 : decode cX1_renew 68 = .ok (.getfield 26, 3) := by decide +kernel
theorem dX1_renew_71 : decode cX1_renew 71 = .ok (.iconst 1, 1) := by decide +kernel
theorem dX1_renew_72 : decode cX1_renew 72 = .ok (.iadd, 1) := by decide +kernel
theorem dX1_renew_73 : decode cX1_renew 73 = .ok (.putfield 26, 3) := by decide +kernel
theorem dX1_renew_76 : decode cX1_renew 76 = .ok (.iinc 2 1, 3) := by decide +kernel
theorem dX1_renew_79 : decode cX1_renew 79 = .ok (.goto (-43), 3) := by decide +kernel
theorem dX1_renew_82 : decode cX1_renew 82 = .ok (.aload_n 0, 1) := by decide +kernel
theorem dX1_renew_83 : decode cX1_renew 83 = .ok (.iload_n 1, 1) := by decide +kernel
theorem dX1_renew_84 : decode cX1_renew 84 = .ok (.putfield 18, 3) := by decide +kernel
theorem dX1_renew_87 : decode cX1_renew 87 = .ok (.return_, 1) := by decide +kernel
theorem dX1_addCourse_0 : decode cX1_addCourse 0 = .ok (.aload_n 0, 1) := by decide +kernel
theorem dX1_addCourse_1 : decode cX1_addCourse 1 = .ok (.getfield 29, 3) := by decide +kernel
theorem dX1_addCourse_4 : decode cX1_addCourse 4 = .ok (.invokevirtual 57, 3) := by decide +kernel
theorem dX1_addCourse_7 : decode cX1_addCourse 7 = .ok (.istore_n 3, 1) := by decide +kernel
theorem dX1_addCourse_8 : decode cX1_addCourse 8 = .ok (.iconst 0, 1) := by decide +kernel
theorem dX1_addCourse_9 : decode cX1_addCourse 9 = .ok (.istore 4, 2) := by decide +kernel
theorem dX1_addCourse_11 : decode cX1_addCourse 11 = .ok (.iload 4, 2) := by decide +kernel
theorem dX1_addCourse_13 : decode cX1_addCourse 13 = .ok (.iload_n 3, 1) := by decide +kernel
theorem dX1_addCourse_14 : decode cX1_addCourse 14 = .ok (.if_icmp .ge 50, 3) := by decide +kernel
theorem dX1_addCourse_17 : decode cX1_addCourse 17 = .ok (.aload_n 0, 1) := by decide +kernel
theorem dX1_addCourse_18 : decode cX1_addCourse 18 = .ok (.getfield 15, 3) := by decide +kernel
theorem dX1_addCourse_21 : decode cX1_addCourse 21 = .ok (.iload 4, 2) := by decide +kernel
theorem dX1_addCourse_23 : decode cX1_addCourse 23 = .ok (.aload_n 0, 1) := by decide +kernel
theorem dX1_addCourse_24 : decode cX1_addCourse 24 = .ok (.getfield 33, 3) := by decide +kernel
theorem dX1_addCourse_27 : decode cX1_addCourse 27 = .ok (.iload_n 1, 1) := by decide +kernel
theorem dX1_addCourse_28 : decode cX1_addCourse 28 = .ok (.iload 4, 2) := by decide +kernel
theorem dX1_addCourse_30 : decode cX1_addCourse 30 = .ok (.invokevirtual 61, 3) := by decide +kernel
theorem dX1_addCourse_33 : decode cX1_addCourse 33 = .ok (.ldc 65, 2) := by decide +kernel
theorem dX1_addCourse_35 : decode cX1_addCourse 35 = .ok (.if_icmp .ge 21, 3) := by decide +kernel
theorem dX1_addCourse_38 : decode cX1_addCourse 38 = .ok (.aload_n 0, 1) := by decide +kernel
theorem dX1_addCourse_39 : decode cX1_addCourse 39 = .ok (.getfield 9, 3) := by decide +kernel
theorem dX1_addCourse_42 : decode cX1_addCourse 42 = .ok (.aload_n 0, 1) := by decide +kernel
theorem dX1_addCourse_43 : decode cX1_addCourse 43 = .ok (.getfield 33, 3) := by decide +kernel
theorem dX1_addCourse_46 : decode cX1_addCourse 46 = .ok (.iload 4, 2) := by decide +kernel
theorem dX1_addCourse_48 : decode cX1_addCourse 48 = .ok (.iload_n 2, 1) := by decide +kernel
theorem dX1_addCourse_49 : decode cX1_addCourse 49 = .ok (.invokevirtual 66, 3) := by decide +kernel
theorem dX1_addCourse_52 : decode cX1_addCourse 52 = .ok (.laload, 1) := by decide +kernel
theorem dX1_addCourse_53 : decode cX1_addCourse 53 = .ok (.goto 4, 3) := by decide +kernel
theorem dX1_addCourse_56 : decode cX1_addCourse 56 = .ok (.lconst 0, 1) := by decide +kernel
theorem dX1_addCourse_57 : decode cX1_addCourse 57 = .ok (.lastore, 1) := by decide +kernel
theorem dX1_addCourse_58 : decode cX1_addCourse 58 = .ok (.iinc 4 1, 3) := by decide +kernel
theorem dX1_addCourse_61 : decode cX1_addCourse 61 = .ok (.goto (-50), 3) := by decide +kernel
theorem dX1_addCourse_64 : decode cX1_addCourse 64 = .ok (.aload_n 0, 1) := by decide +kernel
theorem dX1_addCourse_65 : decode cX1_addCourse 65 = .ok (.getfield 15, 3) := by decide +kernel
theorem dX1_addCourse_68 : decode cX1_addCourse 68 = .ok (.iconst 0, 1) := by decide +kernel
theorem dX1_addCourse_69 : decode cX1_addCourse 69 = .ok (.aload_n 0, 1) := by decide +kernel
theorem dX1_addCourse_70 : decode cX1_addCourse 70 = .ok (.getfield 9, 3) := by decide +kernel
theorem dX1_addCourse_73 : decode cX1_addCourse 73 = .ok (.iconst 0, 1) := by decide +kernel
theorem dX1_addCourse_74 : decode cX1_addCourse 74 = .ok (.iload_n 3, 1) := by decide +kernel
theorem dX1_addCourse_75 : decode cX1_addCourse 75 = .ok (.invokestatic 69, 3) := by decide +kernel
theorem dX1_addCourse_78 : decode cX1_addCourse 78 = .ok (.aload_n 0, 1) := by decide +kernel
theorem dX1_addCourse_79 : decode cX1_addCourse 79 = .ok (.iload_n 3, 1) := by decide +kernel
theorem dX1_addCourse_80 : decode cX1_addCourse 80 = .ok (.invokevirtual 75, 3) := by decide +kernel
theorem dX1_addCourse_83 : decode cX1_addCourse 83 = .ok (.aload_n 0, 1) := by decide +kernel
theorem dX1_addCourse_84 : decode cX1_addCourse 84 = .ok (.getfield 9, 3) := by decide +kernel
theorem dX1_addCourse_87 : decode cX1_addCourse 87 = .ok (.iload_n 3, 1) := by decide +kernel
theorem dX1_addCourse_88 : decode cX1_addCourse 88 = .ok (.iconst 1, 1) := by decide +kernel
theorem dX1_addCourse_89 : decode cX1_addCourse 89 = .ok (.isub, 1) := by decide +kernel
theorem dX1_addCourse_90 : decode cX1_addCourse 90 = .ok (.laload, 1) := by decide +kernel
theorem dX1_addCourse_91 : decode cX1_addCourse 91 = .ok (.lreturn, 1) := by decide +kernel
theorem dX1_sumSubsets_0 : decode cX1_sumSubsets 0 = .ok (.iconst 1, 1) := by decide +kernel
theorem dX1_sumSubsets_1 : decode cX1_sumSubsets 1 = .ok (.istore_n 2, 1) := by decide +kernel
theorem dX1_sumSubsets_2 : decode cX1_sumSubsets 2 = .ok (.iload_n 2, 1) := by decide +kernel
theorem dX1_sumSubsets_3 : decode cX1_sumSubsets 3 = .ok (.iload_n 1, 1) := by decide +kernel
theorem dX1_sumSubsets_4 : decode cX1_sumSubsets 4 = .ok (.if_icmp .ge 46, 3) := by decide +kernel
theorem dX1_sumSubsets_7 : decode cX1_sumSubsets 7 = .ok (.iconst 0, 1) := by decide +kernel
theorem dX1_sumSubsets_8 : decode cX1_sumSubsets 8 = .ok (.istore_n 3, 1) := by decide +kernel
theorem dX1_sumSubsets_9 : decode cX1_sumSubsets 9 = .ok (.iload_n 3, 1) := by decide +kernel
theorem dX1_sumSubsets_10 : decode cX1_sumSubsets 10 = .ok (.iload_n 1, 1) := by decide +kernel
theorem dX1_sumSubsets_11 : decode cX1_sumSubsets 11 = .ok (.if_icmp .ge 32, 3) := by decide +kernel
theorem dX1_sumSubsets_14 : decode cX1_sumSubsets 14 = .ok (.iload_n 3, 1) := by decide +kernel
theorem dX1_sumSubsets_15 : decode cX1_sumSubsets 15 = .ok (.iload_n 2, 1) := by decide +kernel
theorem dX1_sumSubsets_16 : decode cX1_sumSubsets 16 = .ok (.iand, 1) := by decide +kernel
theorem dX1_sumSubsets_17 : decode cX1_sumSubsets 17 = .ok (.ifCond .eq 20, 3) := by decide +kernel
theorem dX1_sumSubsets_20 : decode cX1_sumSubsets 20 = .ok (.aload_n 0, 1) := by decide +kernel
theorem dX1_sumSubsets_21 : decode cX1_sumSubsets 21 = .ok (.getfield 9, 3) := by decide +kernel
theorem dX1_sumSubsets_24 : decode cX1_sumSubsets 24 = .ok (.iload_n 3, 1) := by decide +kernel
theorem dX1_sumSubsets_25 : decode cX1_sumSubsets 25 = .ok (.dup2, 1) := by decide +kernel
theorem dX1_sumSubsets_26 : decode cX1_sumSubsets 26 = .ok (.laload, 1) := by decide +kernel
theorem dX1_sumSubsets_27 : decode cX1_sumSubsets 27 = .ok (.aload_n 0, 1) := by decide +kernel
theorem dX1_sumSubsets_28 : decode cX1_sumSubsets 28 = .ok (.getfield 9, 3) := by decide +kernel
theorem dX1_sumSubsets_31 : decode cX1_sumSubsets 31 = .ok (.iload_n 3, 1) := by decide +kernel
theorem dX1_sumSubsets_32 : decode cX1_sumSubsets 32 = .ok (.iload_n 2, 1) := by decide +kernel
theorem dX1_sumSubsets_33 : decode cX1_sumSubsets 33 = .ok (.ixor, 1) := by decide +kernel
theorem dX1_sumSubsets_34 : decode cX1_sumSubsets 34 = .ok (.laload, 1) := by decide +kernel
theorem dX1_sumSubsets_35 : decode cX1_sumSubsets 35 = .ok (.ladd, 1) := by decide +kernel
theorem dX1_sumSubsets_36 : decode cX1_sumSubsets 36 = .ok (.lastore, 1) := by decide +kernel
theorem dX1_sumSubsets_37 : decode cX1_sumSubsets 37 = .ok (.iinc 3 1, 3) := by decide +kernel
theorem dX1_sumSubsets_40 : decode cX1_sumSubsets 40 = .ok (.goto (-31), 3) := by decide +kernel
theorem dX1_sumSubsets_43 : decode cX1_sumSubsets 43 = .ok (.iload_n 2, 1) := by decide +kernel
theorem dX1_sumSubsets_44 : decode cX1_sumSubsets 44 = .ok (.iconst 1, 1) := by decide +kernel
theorem dX1_sumSubsets_45 : decode cX1_sumSubsets 45 = .ok (.ishl, 1) := by decide +kernel
theorem dX1_sumSubsets_46 : decode cX1_sumSubsets 46 = .ok (.istore_n 2, 1) := by decide +kernel
theorem dX1_sumSubsets_47 : decode cX1_sumSubsets 47 = .ok (.goto (-45), 3) := by decide +kernel
theorem dX1_sumSubsets_50 : decode cX1_sumSubsets 50 = .ok (.return_, 1) := by decide +kernel
theorem dX2_init_0 : decode cX2_init 0 = .ok (.aload_n 0, 1) := by decide +kernel
theorem dX2_init_1 : decode cX2_init 1 = .ok (.invokespecial 1, 3) := by decide +kernel
theorem dX2_init_4 : decode cX2_init 4 = .ok (.return_, 1) := by decide +kernel
theorem dX2_clear_0 : decode cX2_clear 0 = .ok (.aload_n 0, 1) := by decide +kernel
theorem dX2_clear_1 : decode cX2_clear 1 = .ok (.iconst 0, 1) := by decide +kernel
theorem dX2_clear_2 : decode cX2_clear 2 = .ok (.putfield 7, 3) := by decide +kernel
theorem dX2_clear_5 : decode cX2_clear 5 = .ok (.aload_n 0, 1) := by decide +kernel
theorem dX2_clear_6 : decode cX2_clear 6 = .ok (.iconst 0, 1) := by decide +kernel
theorem dX2_clear_7 : decode cX2_clear 7 = .ok (.putfield 13, 3) := by decide +kernel
theorem dX2_clear_10 : decode cX2_clear 10 = .ok (.aload_n 0, 1) := by decide +kernel
theorem dX2_clear_11 : decode cX2_clear 11 = .ok (.iconst 0, 1) := by decide +kernel
theorem dX2_clear_12 : decode cX2_clear 12 = .ok (.putfield 16, 3) := by decide +kernel
theorem dX2_clear_15 : decode cX2_clear 15 = .ok (.aload_n 0, 1) := by decide +kernel
theorem dX2_clear_16 : decode cX2_clear 16 = .ok (.iconst 0, 1) := by decide +kernel
theorem dX2_clear_17 : decode cX2_clear 17 = .ok (.putfield 19, 3) := by decide +kernel
theorem dX2_clear_20 : decode cX2_clear 20 = .ok (.return_, 1) := by decide +kernel
theorem dX2_isOpen_0 : decode cX2_isOpen 0 = .ok (.aload_n 0, 1) := by decide +kernel
theorem dX2_isOpen_1 : decode cX2_isOpen 1 = .ok (.getfield 7, 3) := by decide +kernel
theorem dX2_isOpen_4 : decode cX2_isOpen 4 = .ok (.iload_n 1, 1) := by decide +kernel
theorem dX2_isOpen_5 : decode cX2_isOpen 5 = .ok (.ishr, 1) := by decide +kernel
theorem dX2_isOpen_6 : decode cX2_isOpen 6 = .ok (.iconst 1, 1) := by decide +kernel
theorem dX2_isOpen_7 : decode cX2_isOpen 7 = .ok (.iand, 1) := by decide +kernel
theorem dX2_isOpen_8 : decode cX2_isOpen 8 = .ok (.ifCond .eq 7, 3) := by decide +kernel
theorem dX2_isOpen_11 : decode cX2_isOpen 11 = .ok (.iconst 1, 1) := by decide +kernel
theorem dX2_isOpen_12 : decode cX2_isOpen 12 = .ok (.goto 4, 3) := by decide +kernel
theorem dX2_isOpen_15 : decode cX2_isOpen 15 = .ok (.iconst 0, 1) := by decide +kernel
theorem dX2_isOpen_16 : decode cX2_isOpen 16 = .ok (.ireturn, 1) := by decide +kernel
theorem dX2_besideOpen_0 : decode cX2_besideOpen 0 = .ok (.aload_n 0, 1) := by decide +kernel
theorem dX2_besideOpen_1 : decode cX2_besideOpen 1 = .ok (.getfield 7, 3) := by decide +kernel
theorem dX2_besideOpen_4 : decode cX2_besideOpen 4 = .ok (.aload_n 0, 1) := by decide +kernel
theorem dX2_besideOpen_5 : decode cX2_besideOpen 5 = .ok (.getfield 7, 3) := by decide +kernel
theorem dX2_besideOpen_8 : decode cX2_besideOpen 8 = .ok (.iconst 1, 1) := by decide +kernel
theorem dX2_besideOpen_9 : decode cX2_besideOpen 9 = .ok (.ishl, 1) := by decide +kernel
theorem dX2_besideOpen_10 : decode cX2_besideOpen 10 = .ok (.ior, 1) := by decide +kernel
theorem dX2_besideOpen_11 : decode cX2_besideOpen 11 = .ok (.ireturn, 1) := by decide +kernel
theorem dX2_keepsWithinSpans_0 : decode cX2_keepsWithinSpans 0 = .ok (.iload_n 1, 1) := by decide +kernel
theorem dX2_keepsWithinSpans_1 : decode cX2_keepsWithinSpans 1 = .ok (.aload_n 0, 1) := by decide +kernel
theorem dX2_keepsWithinSpans_2 : decode cX2_keepsWithinSpans 2 = .ok (.invokevirtual 22, 3) := by decide +kernel
theorem dX2_keepsWithinSpans_5 : decode cX2_keepsWithinSpans 5 = .ok (.iand, 1) := by decide +kernel
theorem dX2_keepsWithinSpans_6 : decode cX2_keepsWithinSpans 6 = .ok (.ifCond .ne 7, 3) := by decide +kernel
theorem dX2_keepsWithinSpans_9 : decode cX2_keepsWithinSpans 9 = .ok (.iconst 1, 1) := by decide +kernel
theorem dX2_keepsWithinSpans_10 : decode cX2_keepsWithinSpans 10 = .ok (.goto 4, 3) := by decide +kernel
theorem dX2_keepsWithinSpans_13 : decode cX2_keepsWithinSpans 13 = .ok (.iconst 0, 1) := by decide +kernel
theorem dX2_keepsWithinSpans_14 : decode cX2_keepsWithinSpans 14 = .ok (.ireturn, 1) := by decide +kernel
theorem dX2_keepsDemands_0 : decode cX2_keepsDemands 0 = .ok (.iload_n 1, 1) := by decide +kernel
theorem dX2_keepsDemands_1 : decode cX2_keepsDemands 1 = .ok (.aload_n 0, 1) := by decide +kernel
theorem dX2_keepsDemands_2 : decode cX2_keepsDemands 2 = .ok (.getfield 13, 3) := by decide +kernel
theorem dX2_keepsDemands_5 : decode cX2_keepsDemands 5 = .ok (.iand, 1) := by decide +kernel
theorem dX2_keepsDemands_6 : decode cX2_keepsDemands 6 = .ok (.aload_n 0, 1) := by decide +kernel
theorem dX2_keepsDemands_7 : decode cX2_keepsDemands 7 = .ok (.getfield 13, 3) := by decide +kernel
theorem dX2_keepsDemands_10 : decode cX2_keepsDemands 10 = .ok (.if_icmp .ne 16, 3) := by decide +kernel
theorem dX2_keepsDemands_13 : decode cX2_keepsDemands 13 = .ok (.iload_n 1, 1) := by decide +kernel
theorem dX2_keepsDemands_14 : decode cX2_keepsDemands 14 = .ok (.aload_n 0, 1) := by decide +kernel
theorem dX2_keepsDemands_15 : decode cX2_keepsDemands 15 = .ok (.getfield 16, 3) := by decide +kernel
theorem dX2_keepsDemands_18 : decode cX2_keepsDemands 18 = .ok (.iand, 1) := by decide +kernel
theorem dX2_keepsDemands_19 : decode cX2_keepsDemands 19 = .ok (.ifCond .ne 7, 3) := by decide +kernel
theorem dX2_keepsDemands_22 : decode cX2_keepsDemands 22 = .ok (.iconst 1, 1) := by decide +kernel
theorem dX2_keepsDemands_23 : decode cX2_keepsDemands 23 = .ok (.goto 4, 3) := by decide +kernel
theorem dX2_keepsDemands_26 : decode cX2_keepsDemands 26 = .ok (.iconst 0, 1) := by decide +kernel
theorem dX2_keepsDemands_27 : decode cX2_keepsDemands 27 = .ok (.ireturn, 1) := by decide +kernel
theorem dX3_init_0 : decode cX3_init 0 = .ok (.aload_n 0, 1) := by decide +kernel
theorem dX3_init_1 : decode cX3_init 1 = .ok (.invokespecial 3, 3) := by decide +kernel
theorem dX3_init_4 : decode cX3_init 4 = .ok (.aload_n 0, 1) := by decide +kernel
theorem dX3_init_5 : decode cX3_init 5 = .ok (.bipush 8, 2) := by decide +kernel
theorem dX3_init_7 : decode cX3_init 7 = .ok (.sipush 512, 3) := by decide +kernel
theorem dX3_init_10 : decode cX3_init 10 = .ok (.multianewarray 9 2, 4) := by decide +kernel
theorem dX3_init_14 : decode cX3_init 14 = .ok (.putfield 11, 3) := by decide +kernel
theorem dX3_init_17 : decode cX3_init 17 = .ok (.aload_n 0, 1) := by decide +kernel
theorem dX3_init_18 : decode cX3_init 18 = .ok (.sipush 512, 3) := by decide +kernel
theorem dX3_init_21 : decode cX3_init 21 = .ok (.newarray .int, 2) := by decide +kernel
theorem dX3_init_23 : decode cX3_init 23 = .ok (.putfield 16, 3) := by decide +kernel
theorem dX3_init_26 : decode cX3_init 26 = .ok (.aload_n 0, 1) := by decide +kernel
theorem dX3_init_27 : decode cX3_init 27 = .ok (.bipush 8, 2) := by decide +kernel
theorem dX3_init_29 : decode cX3_init 29 = .ok (.newarray .int, 2) := by decide +kernel
theorem dX3_init_31 : decode cX3_init 31 = .ok (.putfield 20, 3) := by decide +kernel
theorem dX3_init_34 : decode cX3_init 34 = .ok (.aload_n 0, 1) := by decide +kernel
theorem dX3_init_35 : decode cX3_init 35 = .ok (.iconst 0, 1) := by decide +kernel
theorem dX3_init_36 : decode cX3_init 36 = .ok (.putfield 23, 3) := by decide +kernel
theorem dX3_init_39 : decode cX3_init 39 = .ok (.aload_n 0, 1) := by decide +kernel
theorem dX3_init_40 : decode cX3_init 40 = .ok (.iconst 0, 1) := by decide +kernel
theorem dX3_init_41 : decode cX3_init 41 = .ok (.putfield 27, 3) := by decide +kernel
theorem dX3_init_44 : decode cX3_init 44 = .ok (.aload_n 0, 1) := by decide +kernel
theorem dX3_init_45 : decode cX3_init 45 = .ok (.aload_n 1, 1) := by decide +kernel
theorem dX3_init_46 : decode cX3_init 46 = .ok (.putfield 30, 3) := by decide +kernel
theorem dX3_init_49 : decode cX3_init 49 = .ok (.aload_n 0, 1) := by decide +kernel
theorem dX3_init_50 : decode cX3_init 50 = .ok (.aload_n 2, 1) := by decide +kernel
theorem dX3_init_51 : decode cX3_init 51 = .ok (.putfield 34, 3) := by decide +kernel
theorem dX3_init_54 : decode cX3_init 54 = .ok (.return_, 1) := by decide +kernel
theorem dX3_forget_0 : decode cX3_forget 0 = .ok (.aload_n 0, 1) := by decide +kernel
theorem dX3_forget_1 : decode cX3_forget 1 = .ok (.iconst 0, 1) := by decide +kernel
theorem dX3_forget_2 : decode cX3_forget 2 = .ok (.putfield 23, 3) := by decide +kernel
theorem dX3_forget_5 : decode cX3_forget 5 = .ok (.return_, 1) := by decide +kernel
theorem dX3_isNone_0 : decode cX3_isNone 0 = .ok (.aload_n 0, 1) := by decide +kernel
theorem dX3_isNone_1 : decode cX3_isNone 1 = .ok (.getfield 27, 3) := by decide +kernel
theorem dX3_isNone_4 : decode cX3_isNone 4 = .ok (.ldc 38, 2) := by decide +kernel
theorem dX3_isNone_6 : decode cX3_isNone 6 = .ok (.if_icmp .lt 7, 3) := by decide +kernel
theorem dX3_isNone_9 : decode cX3_isNone 9 = .ok (.iconst 1, 1) := by decide +kernel
theorem dX3_isNone_10 : decode cX3_isNone 10 = .ok (.goto 4, 3) := by decide +kernel
theorem dX3_isNone_13 : decode cX3_isNone 13 = .ok (.iconst 0, 1) := by decide +kernel
theorem dX3_isNone_14 : decode cX3_isNone 14 = .ok (.ireturn, 1) := by decide +kernel
theorem dX3_jointsOf_0 : decode cX3_jointsOf 0 = .ok (.iload_n 1, 1) := by decide +kernel
theorem dX3_jointsOf_1 : decode cX3_jointsOf 1 = .ok (.ifCond .lt 12, 3) := by decide +kernel
theorem dX3_jointsOf_4 : decode cX3_jointsOf 4 = .ok (.iload_n 1, 1) := by decide +kernel
theorem dX3_jointsOf_5 : decode cX3_jointsOf 5 = .ok (.aload_n 0, 1) := by decide +kernel
theorem dX3_jointsOf_6 : decode cX3_jointsOf 6 = .ok (.getfield 20, 3) := by decide +kernel
theorem dX3_jointsOf_9 : decode cX3_jointsOf 9 = .ok (.arraylength, 1) := by decide +kernel
theorem dX3_jointsOf_10 : decode cX3_jointsOf 10 = .ok (.if_icmp .lt 7, 3) := by decide +kernel
theorem dX3_jointsOf_13 : decode cX3_jointsOf 13 = .ok (.iconst 0, 1) := by decide +kernel
theorem dX3_jointsOf_14 : decode cX3_jointsOf 14 = .ok (.goto 11, 3) := by decide +kernel
theorem dX3_jointsOf_17 : decode cX3_jointsOf 17 = .ok (.aload_n 0, 1) := by decide +kernel
theorem dX3_jointsOf_18 : decode cX3_jointsOf 18 = .ok (.getfield 20, 3) := by decide +kernel
theorem dX3_jointsOf_21 : decode cX3_jointsOf 21 = .ok (.iload_n 1, 1) := by decide +kernel
theorem dX3_jointsOf_22 : decode cX3_jointsOf 22 = .ok (.iaload, 1) := by decide +kernel
theorem dX3_jointsOf_23 : decode cX3_jointsOf 23 = .ok (.iconst 1, 1) := by decide +kernel
theorem dX3_jointsOf_24 : decode cX3_jointsOf 24 = .ok (.ishl, 1) := by decide +kernel
theorem dX3_jointsOf_25 : decode cX3_jointsOf 25 = .ok (.ireturn, 1) := by decide +kernel
theorem dX3_renew_0 : decode cX3_renew 0 = .ok (.aload_n 0, 1) := by decide +kernel
theorem dX3_renew_1 : decode cX3_renew 1 = .ok (.getfield 23, 3) := by decide +kernel
theorem dX3_renew_4 : decode cX3_renew 4 = .ok (.iload_n 1, 1) := by decide +kernel
theorem dX3_renew_5 : decode cX3_renew 5 = .ok (.if_icmp .ne 4, 3) := by decide +kernel
theorem dX3_renew_8 : decode cX3_renew 8 = .ok (.return_, 1) := by decide +kernel
theorem dX3_renew_9 : decode cX3_renew 9 = .ok (.aload_n 0, 1) := by decide +kernel
theorem dX3_renew_10 : decode cX3_renew 10 = .ok (.getfield 34, 3) := by decide +kernel
theorem dX3_renew_13 : decode cX3_renew 13 = .ok (.invokevirtual 39, 3) := by decide +kernel
theorem dX3_renew_16 : decode cX3_renew 16 = .ok (.aload_n 0, 1) := by decide +kernel
theorem dX3_renew_17 : decode cX3_renew 17 = .ok (.getfield 16, 3) := by decide +kernel
theorem dX3_renew_20 : decode cX3_renew 20 = .ok (.iconst 0, 1) := by decide +kernel
theorem dX3_renew_21 : decode cX3_renew 21 = .ok (.invokestatic 44, 3) := by decide +kernel
theorem dX3_renew_24 : decode cX3_renew 24 = .ok (.aload_n 0, 1) := by decide +kernel
theorem dX3_renew_25 : decode cX3_renew 25 = .ok (.getfield 30, 3) := by decide +kernel
theorem dX3_renew_28 : decode cX3_renew 28 = .ok (.getfield 50, 3) := by decide +kernel
theorem dX3_renew_31 : decode cX3_renew 31 = .ok (.aload_n 0, 1) := by decide +kernel
theorem dX3_renew_32 : decode cX3_renew 32 = .ok (.getfield 11, 3) := by decide +kernel
theorem dX3_renew_35 : decode cX3_renew 35 = .ok (.arraylength, 1) := by decide +kernel
theorem dX3_renew_36 : decode cX3_renew 36 = .ok (.invokestatic 55, 3) := by decide +kernel
theorem dX3_renew_39 : decode cX3_renew 39 = .ok (.iconst 1, 1) := by decide +kernel
theorem dX3_renew_40 : decode cX3_renew 40 = .ok (.isub, 1) := by decide +kernel
theorem dX3_renew_41 : decode cX3_renew 41 = .ok (.istore_n 2, 1) := by decide +kernel
theorem dX3_renew_42 : decode cX3_renew 42 = .ok (.iload_n 2, 1) := by decide +kernel
theorem dX3_renew_43 : decode cX3_renew 43 = .ok (.ifCond .lt 21, 3) := by decide +kernel
theorem dX3_renew_46 : decode cX3_renew 46 = .ok (.aload_n 0, 1) := by decide +kernel
theorem dX3_renew_47 : decode cX3_renew 47 = .ok (.iload_n 2, 1) := by decide +kernel
theorem dX3_renew_48 : decode cX3_renew 48 = .ok (.aload_n 0, 1) := by decide +kernel
theorem dX3_renew_49 : decode cX3_renew 49 = .ok (.getfield 11, 3) := by decide +kernel
theorem dX3_renew_52 : decode cX3_renew 52 = .ok (.iload_n 2, 1) := by decide +kernel
theorem dX3_renew_53 : decode cX3_renew 53 = .ok (.aaload, 1) := by decide +kernel
theorem dX3_renew_54 : decode cX3_renew 54 = .ok (.iload_n 1, 1) := by decide +kernel
theorem dX3_renew_55 : decode cX3_renew 55 = .ok (.invokevirtual 61, 3) := by decide +kernel
theorem dX3_renew_58 : decode cX3_renew 58 = .ok (.iinc 2 (-1), 3) := by decide +kernel
theorem dX3_renew_61 : decode cX3_renew 61 = .ok (.goto (-19), 3) := by decide +kernel
theorem dX3_renew_64 : decode cX3_renew 64 = .ok (.aload_n 0, 1) := by decide +kernel
theorem dX3_renew_65 : decode cX3_renew 65 = .ok (.aload_n 0, 1) := by decide +kernel
theorem dX3_renew_66 : decode cX3_renew 66 = .ok (.getfield 16, 3) := by decide +kernel
theorem dX3_renew_69 : decode cX3_renew 69 = .ok (.aload_n 0, 1) := by decide +kernel
theorem dX3_renew_70 : decode cX3_renew 70 = .ok (.getfield 30, 3) := by decide +kernel
theorem dX3_renew_73 : decode cX3_renew 73 = .ok (.invokevirtual 65, 3) := by decide +kernel
theorem dX3_renew_76 : decode cX3_renew 76 = .ok (.iconst 1, 1) := by decide +kernel
theorem dX3_renew_77 : decode cX3_renew 77 = .ok (.isub, 1) := by decide +kernel
theorem dX3_renew_78 : decode cX3_renew 78 = .ok (.iaload, 1) := by decide +kernel
theorem dX3_renew_79 : decode cX3_renew 79 = .ok (.putfield 27, 3) := by decide +kernel
theorem dX3_renew_82 : decode cX3_renew 82 = .ok (.aload_n 0, 1) := by decide +kernel
theorem dX3_renew_83 : decode cX3_renew 83 = .ok (.iload_n 1, 1) := by decide +kernel
theorem dX3_renew_84 : decode cX3_renew 84 = .ok (.invokevirtual 69, 3) := by decide +kernel
theorem dX3_renew_87 : decode cX3_renew 87 = .ok (.aload_n 0, 1) := by decide +kernel
theorem dX3_renew_88 : decode cX3_renew 88 = .ok (.iload_n 1, 1) := by decide +kernel
theorem dX3_renew_89 : decode cX3_renew 89 = .ok (.putfield 23, 3) := by decide +kernel
theorem dX3_renew_92 : decode cX3_renew 92 = .ok (.return_, 1) := by decide +kernel
theorem dX3_weighCourse_0 : decode cX3_weighCourse 0 = .ok (.aload_n 0, 1) := by decide +kernel
theorem dX3_weighCourse_1 : decode cX3_weighCourse 1 = .ok (.getfield 30, 3) := by decide +kernel
theorem dX3_weighCourse_4 : decode cX3_weighCourse 4 = .ok (.invokevirtual 65, 3) := by decide +kernel
theorem dX3_weighCourse_7 : decode cX3_weighCourse 7 = .ok (.istore 4, 2) := by decide +kernel
theorem dX3_weighCourse_9 : decode cX3_weighCourse 9 = .ok (.iconst 0, 1) := by decide +kernel
theorem dX3_weighCourse_10 : decode cX3_weighCourse 10 = .ok (.istore 5, 2) := by decide +kernel
theorem dX3_weighCourse_12 : decode cX3_weighCourse 12 = .ok (.iload 5, 2) := by decide +kernel
theorem dX3_weighCourse_14 : decode cX3_weighCourse 14 = .ok (.iload 4, 2) := by decide +kernel
theorem dX3_weighCourse_16 : decode cX3_weighCourse 16 = .ok (.if_icmp .ge 48, 3) := by decide +kernel
theorem dX3_weighCourse_19 : decode cX3_weighCourse 19 = .ok (.aload_n 0, 1) := by decide +kernel
theorem dX3_weighCourse_20 : decode cX3_weighCourse 20 = .ok (.getfield 34, 3) := by decide +kernel
theorem dX3_weighCourse_23 : decode cX3_weighCourse 23 = .ok (.iload_n 1, 1) := by decide +kernel
theorem dX3_weighCourse_24 : decode cX3_weighCourse 24 = .ok (.iload 5, 2) := by decide +kernel
theorem dX3_weighCourse_26 : decode cX3_weighCourse 26 = .ok (.invokevirtual 73, 3) := by decide +kernel
theorem dX3_weighCourse_29 : decode cX3_weighCourse 29 = .ok (.istore 6, 2) := by decide +kernel
theorem dX3_weighCourse_31 : decode cX3_weighCourse 31 = .ok (.aload_n 2, 1) := by decide +kernel
theorem dX3_weighCourse_32 : decode cX3_weighCourse 32 = .ok (.iload 5, 2) := by decide +kernel
theorem dX3_weighCourse_34 : decode cX3_weighCourse 34 = .ok (.ldc 38, 2) := by decide +kernel
theorem dX3_weighCourse_36 : decode cX3_weighCourse 36 = .ok (.iload 6, 2) := by decide +kernel
theorem dX3_weighCourse_38 : decode cX3_weighCourse 38 = .ok (.aload_n 0, 1) := by decide +kernel
theorem dX3_weighCourse_39 : decode cX3_weighCourse 39 = .ok (.getfield 16, 3) := by decide +kernel
theorem dX3_weighCourse_42 : decode cX3_weighCourse 42 = .ok (.aload_n 0, 1) := by decide +kernel
theorem dX3_weighCourse_43 : decode cX3_weighCourse 43 = .ok (.getfield 34, 3) := by decide +kernel
theorem dX3_weighCourse_46 : decode cX3_weighCourse 46 = .ok (.iload 5, 2) := by decide +kernel
theorem dX3_weighCourse_48 : decode cX3_weighCourse 48 = .ok (.iload_n 3, 1) := by decide +kernel
theorem dX3_weighCourse_49 : decode cX3_weighCourse 49 = .ok (.invokevirtual 76, 3) := by decide +kernel
theorem dX3_weighCourse_52 : decode cX3_weighCourse 52 = .ok (.iaload, 1) := by decide +kernel
theorem dX3_weighCourse_53 : decode cX3_weighCourse 53 = .ok (.iadd, 1) := by decide +kernel
theorem dX3_weighCourse_54 : decode cX3_weighCourse 54 = .ok (.invokestatic 55, 3) := by decide +kernel
theorem dX3_weighCourse_57 : decode cX3_weighCourse 57 = .ok (.iastore, 1) := by decide +kernel
theorem dX3_weighCourse_58 : decode cX3_weighCourse 58 = .ok (.iinc 5 1, 3) := by decide +kernel
theorem dX3_weighCourse_61 : decode cX3_weighCourse 61 = .ok (.goto (-49), 3) := by decide +kernel
theorem dX3_weighCourse_64 : decode cX3_weighCourse 64 = .ok (.aload_n 2, 1) := by decide +kernel
theorem dX3_weighCourse_65 : decode cX3_weighCourse 65 = .ok (.iconst 0, 1) := by decide +kernel
theorem dX3_weighCourse_66 : decode cX3_weighCourse 66 = .ok (.aload_n 0, 1) := by decide +kernel
theorem dX3_weighCourse_67 : decode cX3_weighCourse 67 = .ok (.getfield 16, 3) := by decide +kernel
theorem dX3_weighCourse_70 : decode cX3_weighCourse 70 = .ok (.iconst 0, 1) := by decide +kernel
theorem dX3_weighCourse_71 : decode cX3_weighCourse 71 = .ok (.iload 4, 2) := by decide +kernel
theorem dX3_weighCourse_73 : decode cX3_weighCourse 73 = .ok (.invokestatic 79, 3) := by decide +kernel
theorem dX3_weighCourse_76 : decode cX3_weighCourse 76 = .ok (.aload_n 0, 1) := by decide +kernel
theorem dX3_weighCourse_77 : decode cX3_weighCourse 77 = .ok (.iload 4, 2) := by decide +kernel
theorem dX3_weighCourse_79 : decode cX3_weighCourse 79 = .ok (.invokevirtual 85, 3) := by decide +kernel
theorem dX3_weighCourse_82 : decode cX3_weighCourse 82 = .ok (.return_, 1) := by decide +kernel
theorem dX3_takeLeastOfSubsets_0 : decode cX3_takeLeastOfSubsets 0 = .ok (.iconst 1, 1) := by decide +kernel
theorem dX3_takeLeastOfSubsets_1 : decode cX3_takeLeastOfSubsets 1 = .ok (.istore_n 2, 1) := by decide +kernel
theorem dX3_takeLeastOfSubsets_2 : decode cX3_takeLeastOfSubsets 2 = .ok (.iload_n 2, 1) := by decide +kernel
theorem dX3_takeLeastOfSubsets_3 : decode cX3_takeLeastOfSubsets 3 = .ok (.iload_n 1, 1) := by decide +kernel
theorem dX3_takeLeastOfSubsets_4 : decode cX3_takeLeastOfSubsets 4 = .ok (.if_icmp .ge 52, 3) := by decide +kernel
theorem dX3_takeLeastOfSubsets_7 : decode cX3_takeLeastOfSubsets 7 = .ok (.iconst 0, 1) := by decide +kernel
theorem dX3_takeLeastOfSubsets_8 : decode cX3_takeLeastOfSubsets 8 = .ok (.istore_n 3, 1) := by decide +kernel
theorem dX3_takeLeastOfSubsets_9 : decode cX3_takeLeastOfSubsets 9 = .ok (.iload_n 3, 1) := by decide +kernel
theorem dX3_takeLeastOfSubsets_10 : decode cX3_takeLeastOfSubsets 10 = .ok (.iload_n 1, 1) := by decide +kernel
theorem dX3_takeLeastOfSubsets_11 : decode cX3_takeLeastOfSubsets 11 = .ok (.if_icmp .ge 38, 3) := by decide +kernel
theorem dX3_takeLeastOfSubsets_14 : decode cX3_takeLeastOfSubsets 14 = .ok (.iload_n 3, 1) := by decide +kernel
theorem dX3_takeLeastOfSubsets_15 : decode cX3_takeLeastOfSubsets 15 = .ok (.iload_n 2, 1) := by decide +kernel
theorem dX3_takeLeastOfSubsets_16 : decode cX3_takeLeastOfSubsets 16 = .ok (.iand, 1) := by decide +kernel
theorem dX3_takeLeastOfSubsets_17 : decode cX3_takeLeastOfSubsets 17 = .ok (.ifCond .eq 26, 3) := by decide +kernel
theorem dX3_takeLeastOfSubsets_20 : decode cX3_takeLeastOfSubsets 20 = .ok (.aload_n 0, 1) := by decide +kernel
theorem dX3_takeLeastOfSubsets_21 : decode cX3_takeLeastOfSubsets 21 = .ok (.getfield 16, 3) := by decide +kernel
theorem dX3_takeLeastOfSubsets_24 : decode cX3_takeLeastOfSubsets 24 = .ok (.iload_n 3, 1) := by decide +kernel
theorem dX3_takeLeastOfSubsets_25 : decode cX3_takeLeastOfSubsets 25 = .ok (.aload_n 0, 1) := by decide +kernel
theorem dX3_takeLeastOfSubsets_26 : decode cX3_takeLeastOfSubsets 26 = .ok (.getfield 16, 3) := by decide +kernel
theorem dX3_takeLeastOfSubsets_29 : decode cX3_takeLeastOfSubsets 29 = .ok (.iload_n 3, 1) := by decide +kernel
theorem dX3_takeLeastOfSubsets_30 : decode cX3_takeLeastOfSubsets 30 = .ok (.iaload, 1) := by decide +kernel
theorem dX3_takeLeastOfSubsets_31 : decode cX3_takeLeastOfSubsets 31 = .ok (.aload_n 0, 1) := by decide +kernel
theorem dX3_takeLeastOfSubsets_32 : decode cX3_takeLeastOfSubsets 32 = .ok (.getfield 16, 3) := by decide +kernel
theorem dX3_takeLeastOfSubsets_35 : decode cX3_takeLeastOfSubsets 35 = .ok (.iload_n 3, 1) := by decide +kernel
theorem dX3_takeLeastOfSubsets_36 : decode cX3_takeLeastOfSubsets 36 = .ok (.iload_n 2, 1) := by decide +kernel
theorem dX3_takeLeastOfSubsets_37 : decode cX3_takeLeastOfSubsets 37 = .ok (.ixor, 1) := by decide +kernel
theorem dX3_takeLeastOfSubsets_38 : decode cX3_takeLeastOfSubsets 38 = .ok (.iaload, 1) := by decide +kernel
theorem dX3_takeLeastOfSubsets_39 : decode cX3_takeLeastOfSubsets 39 = .ok (.invokestatic 55, 3) := by decide +kernel
theorem dX3_takeLeastOfSubsets_42 : decode cX3_takeLeastOfSubsets 42 = .ok (.iastore, 1) := by decide +kernel
theorem dX3_takeLeastOfSubsets_43 : decode cX3_takeLeastOfSubsets 43 = .ok (.iinc 3 1, 3) := by decide +kernel
theorem dX3_takeLeastOfSubsets_46 : decode cX3_takeLeastOfSubsets 46 = .ok (.goto (-37), 3) := by decide +kernel
theorem dX3_takeLeastOfSubsets_49 : decode cX3_takeLeastOfSubsets 49 = .ok (.iload_n 2, 1) := by decide +kernel
theorem dX3_takeLeastOfSubsets_50 : decode cX3_takeLeastOfSubsets 50 = .ok (.iconst 1, 1) := by decide +kernel
theorem dX3_takeLeastOfSubsets_51 : decode cX3_takeLeastOfSubsets 51 = .ok (.ishl, 1) := by decide +kernel
theorem dX3_takeLeastOfSubsets_52 : decode cX3_takeLeastOfSubsets 52 = .ok (.istore_n 2, 1) := by decide +kernel
theorem dX3_takeLeastOfSubsets_53 : decode cX3_takeLeastOfSubsets 53 = .ok (.goto (-51), 3) := by decide +kernel
theorem dX3_takeLeastOfSubsets_56 : decode cX3_takeLeastOfSubsets 56 = .ok (.return_, 1) := by decide +kernel
theorem dX3_choose_0 : decode cX3_choose 0 = .ok (.aload_n 0, 1) := by decide +kernel
theorem dX3_choose_1 : decode cX3_choose 1 = .ok (.getfield 30, 3) := by decide +kernel
theorem dX3_choose_4 : decode cX3_choose 4 = .ok (.invokevirtual 65, 3) := by decide +kernel
theorem dX3_choose_7 : decode cX3_choose 7 = .ok (.iconst 1, 1) := by decide +kernel
theorem dX3_choose_8 : decode cX3_choose 8 = .ok (.isub, 1) := by decide +kernel
theorem dX3_choose_9 : decode cX3_choose 9 = .ok (.istore_n 2, 1) := by decide +kernel
theorem dX3_choose_10 : decode cX3_choose 10 = .ok (.iconst 0, 1) := by decide +kernel
theorem dX3_choose_11 : decode cX3_choose 11 = .ok (.istore_n 3, 1) := by decide +kernel
theorem dX3_choose_12 : decode cX3_choose 12 = .ok (.iload_n 3, 1) := by decide +kernel
theorem dX3_choose_13 : decode cX3_choose 13 = .ok (.aload_n 0, 1) := by decide +kernel
theorem dX3_choose_14 : decode cX3_choose 14 = .ok (.getfield 30, 3) := by decide +kernel
theorem dX3_choose_17 : decode cX3_choose 17 = .ok (.getfield 50, 3) := by decide +kernel
theorem dX3_choose_20 : decode cX3_choose 20 = .ok (.if_icmp .ge 50, 3) := by decide +kernel
theorem dX3_choose_23 : decode cX3_choose 23 = .ok (.iload_n 3, 1) := by decide +kernel
theorem dX3_choose_24 : decode cX3_choose 24 = .ok (.aload_n 0, 1) := by decide +kernel
theorem dX3_choose_25 : decode cX3_choose 25 = .ok (.getfield 11, 3) := by decide +kernel
theorem dX3_choose_28 : decode cX3_choose 28 = .ok (.arraylength, 1) := by decide +kernel
theorem dX3_choose_29 : decode cX3_choose 29 = .ok (.if_icmp .ge 41, 3) := by decide +kernel
theorem dX3_choose_32 : decode cX3_choose 32 = .ok (.aload_n 0, 1) := by decide +kernel
theorem dX3_choose_33 : decode cX3_choose 33 = .ok (.getfield 20, 3) := by decide +kernel
theorem dX3_choose_36 : decode cX3_choose 36 = .ok (.iload_n 3, 1) := by decide +kernel
theorem dX3_choose_37 : decode cX3_choose 37 = .ok (.aload_n 0, 1) := by decide +kernel
theorem dX3_choose_38 : decode cX3_choose 38 = .ok (.aload_n 0, 1) := by decide +kernel
theorem dX3_choose_39 : decode cX3_choose 39 = .ok (.getfield 11, 3) := by decide +kernel
theorem dX3_choose_42 : decode cX3_choose 42 = .ok (.iload_n 3, 1) := by decide +kernel
theorem dX3_choose_43 : decode cX3_choose 43 = .ok (.aaload, 1) := by decide +kernel
theorem dX3_choose_44 : decode cX3_choose 44 = .ok (.iload_n 2, 1) := by decide +kernel
theorem dX3_choose_45 : decode cX3_choose 45 = .ok (.invokevirtual 88, 3) := by decide +kernel
theorem dX3_choose_48 : decode cX3_choose 48 = .ok (.iastore, 1) := by decide +kernel
theorem dX3_choose_49 : decode cX3_choose 49 = .ok (.aload_n 0, 1) := by decide +kernel
theorem dX3_choose_50 : decode cX3_choose 50 = .ok (.getfield 34, 3) := by decide +kernel
theorem dX3_choose_53 : decode cX3_choose 53 = .ok (.aload_n 0, 1) := by decide +kernel
theorem dX3_choose_54 : decode cX3_choose 54 = .ok (.getfield 20, 3) := by decide +kernel
theorem dX3_choose_57 : decode cX3_choose 57 = .ok (.iload_n 3, 1) := by decide +kernel
theorem dX3_choose_58 : decode cX3_choose 58 = .ok (.iaload, 1) := by decide +kernel
theorem dX3_choose_59 : decode cX3_choose 59 = .ok (.iload_n 1, 1) := by decide +kernel
theorem dX3_choose_60 : decode cX3_choose 60 = .ok (.invokevirtual 76, 3) := by decide +kernel
theorem dX3_choose_63 : decode cX3_choose 63 = .ok (.istore_n 2, 1) := by decide +kernel
theorem dX3_choose_64 : decode cX3_choose 64 = .ok (.iinc 3 1, 3) := by decide +kernel
theorem dX3_choose_67 : decode cX3_choose 67 = .ok (.goto (-55), 3) := by decide +kernel
theorem dX3_choose_70 : decode cX3_choose 70 = .ok (.return_, 1) := by decide +kernel
theorem dX3_cheapest_0 : decode cX3_cheapest 0 = .ok (.iconst 0, 1) := by decide +kernel
theorem dX3_cheapest_1 : decode cX3_cheapest 1 = .ok (.istore_n 3, 1) := by decide +kernel
theorem dX3_cheapest_2 : decode cX3_cheapest 2 = .ok (.ldc 38, 2) := by decide +kernel
theorem dX3_cheapest_4 : decode cX3_cheapest 4 = .ok (.istore 4, 2) := by decide +kernel
theorem dX3_cheapest_6 : decode cX3_cheapest 6 = .ok (.aload_n 0, 1) := by decide +kernel
theorem dX3_cheapest_7 : decode cX3_cheapest 7 = .ok (.getfield 30, 3) := by decide +kernel
theorem dX3_cheapest_10 : decode cX3_cheapest 10 = .ok (.invokevirtual 65, 3) := by decide +kernel
theorem dX3_cheapest_13 : decode cX3_cheapest 13 = .ok (.istore 5, 2) := by decide +kernel
theorem dX3_cheapest_15 : decode cX3_cheapest 15 = .ok (.iconst 0, 1) := by decide +kernel
theorem dX3_cheapest_16 : decode cX3_cheapest 16 = .ok (.istore 6, 2) := by decide +kernel
theorem dX3_cheapest_18 : decode cX3_cheapest 18 = .ok (.iload 6, 2) := by decide +kernel
theorem dX3_cheapest_20 : decode cX3_cheapest 20 = .ok (.iload 5, 2) := by decide +kernel
theorem dX3_cheapest_22 : decode cX3_cheapest 22 = .ok (.if_icmp .ge 36, 3) := by decide +kernel
theorem dX3_cheapest_25 : decode cX3_cheapest 25 = .ok (.iload 6, 2) := by decide +kernel
theorem dX3_cheapest_27 : decode cX3_cheapest 27 = .ok (.iload_n 2, 1) := by decide +kernel
theorem dX3_cheapest_28 : decode cX3_cheapest 28 = .ok (.iconst (-1), 1) := by decide +kernel
theorem dX3_cheapest_29 : decode cX3_cheapest 29 = .ok (.ixor, 1) := by decide +kernel
theorem dX3_cheapest_30 : decode cX3_cheapest 30 = .ok (.iand, 1) := by decide +kernel
theorem dX3_cheapest_31 : decode cX3_cheapest 31 = .ok (.ifCond .ne 21, 3) := by decide +kernel
theorem dX3_cheapest_34 : decode cX3_cheapest 34 = .ok (.aload_n 1, 1) := by decide +kernel
theorem dX3_cheapest_35 : decode cX3_cheapest 35 = .ok (.iload 6, 2) := by decide +kernel
theorem dX3_cheapest_37 : decode cX3_cheapest 37 = .ok (.iaload, 1) := by decide +kernel
theorem dX3_cheapest_38 : decode cX3_cheapest 38 = .ok (.iload 4, 2) := by decide +kernel
theorem dX3_cheapest_40 : decode cX3_cheapest 40 = .ok (.if_icmp .ge 12, 3) := by decide +kernel
theorem dX3_cheapest_43 : decode cX3_cheapest 43 = .ok (.iload 6, 2) := by decide +kernel
theorem dX3_cheapest_45 : decode cX3_cheapest 45 = .ok (.istore_n 3, 1) := by decide +kernel
theorem dX3_cheapest_46 : decode cX3_cheapest 46 = .ok (.aload_n 1, 1) := by decide +kernel
theorem dX3_cheapest_47 : decode cX3_cheapest 47 = .ok (.iload 6, 2) := by decide +kernel
theorem dX3_cheapest_49 : decode cX3_cheapest 49 = .ok (.iaload, 1) := by decide +kernel
theorem dX3_cheapest_50 : decode cX3_cheapest 50 = .ok (.istore 4, 2) := by decide +kernel
theorem dX3_cheapest_52 : decode cX3_cheapest 52 = .ok (.iinc 6 1, 3) := by decide +kernel
theorem dX3_cheapest_55 : decode cX3_cheapest 55 = .ok (.goto (-37), 3) := by decide +kernel
theorem dX3_cheapest_58 : decode cX3_cheapest 58 = .ok (.iload_n 3, 1) := by decide +kernel
theorem dX3_cheapest_59 : decode cX3_cheapest 59 = .ok (.ireturn, 1) := by decide +kernel
theorem dX4_init_0 : decode cX4_init 0 = .ok (.aload_n 0, 1) := by decide +kernel
theorem dX4_init_1 : decode cX4_init 1 = .ok (.invokespecial 3, 3) := by decide +kernel
theorem dX4_init_4 : decode cX4_init 4 = .ok (.aload_n 0, 1) := by decide +kernel
theorem dX4_init_5 : decode cX4_init 5 = .ok (.bipush 8, 2) := by decide +kernel
theorem dX4_init_7 : decode cX4_init 7 = .ok (.sipush 512, 3) := by decide +kernel
theorem dX4_init_10 : decode cX4_init 10 = .ok (.multianewarray 9 2, 4) := by decide +kernel
theorem dX4_init_14 : decode cX4_init 14 = .ok (.putfield 11, 3) := by decide +kernel
theorem dX4_init_17 : decode cX4_init 17 = .ok (.aload_n 0, 1) := by decide +kernel
theorem dX4_init_18 : decode cX4_init 18 = .ok (.iconst 0, 1) := by decide +kernel
theorem dX4_init_19 : decode cX4_init 19 = .ok (.putfield 16, 3) := by decide +kernel
theorem dX4_init_22 : decode cX4_init 22 = .ok (.aload_n 0, 1) := by decide +kernel
theorem dX4_init_23 : decode cX4_init 23 = .ok (.aload_n 1, 1) := by decide +kernel
theorem dX4_init_24 : decode cX4_init 24 = .ok (.putfield 20, 3) := by decide +kernel
theorem dX4_init_27 : decode cX4_init 27 = .ok (.return_, 1) := by decide +kernel
theorem dX4_forget_0 : decode cX4_forget 0 = .ok (.aload_n 0, 1) := by decide +kernel
theorem dX4_forget_1 : decode cX4_forget 1 = .ok (.iconst 0, 1) := by decide +kernel
theorem dX4_forget_2 : decode cX4_forget 2 = .ok (.putfield 16, 3) := by decide +kernel
theorem dX4_forget_5 : decode cX4_forget 5 = .ok (.return_, 1) := by decide +kernel
theorem dX4_renew_0 : decode cX4_renew 0 = .ok (.aload_n 0, 1) := by decide +kernel
theorem dX4_renew_1 : decode cX4_renew 1 = .ok (.getfield 16, 3) := by decide +kernel
theorem dX4_renew_4 : decode cX4_renew 4 = .ok (.ifCond .eq 4, 3) := by decide +kernel
theorem dX4_renew_7 : decode cX4_renew 7 = .ok (.return_, 1) := by decide +kernel
theorem dX4_renew_8 : decode cX4_renew 8 = .ok (.iconst 0, 1) := by decide +kernel
theorem dX4_renew_9 : decode cX4_renew 9 = .ok (.istore_n 1, 1) := by decide +kernel
theorem dX4_renew_10 : decode cX4_renew 10 = .ok (.iload_n 1, 1) := by decide +kernel
theorem dX4_renew_11 : decode cX4_renew 11 = .ok (.aload_n 0, 1) := by decide +kernel
theorem dX4_renew_12 : decode cX4_renew 12 = .ok (.getfield 20, 3) := by decide +kernel
theorem dX4_renew_15 : decode cX4_renew 15 = .ok (.getfield 24, 3) := by decide +kernel
theorem dX4_renew_18 : decode cX4_renew 18 = .ok (.if_icmp .ge 40, 3) := by decide +kernel
theorem dX4_renew_21 : decode cX4_renew 21 = .ok (.iload_n 1, 1) := by decide +kernel
theorem dX4_renew_22 : decode cX4_renew 22 = .ok (.aload_n 0, 1) := by decide +kernel
theorem dX4_renew_23 : decode cX4_renew 23 = .ok (.getfield 11, 3) := by decide +kernel
theorem dX4_renew_26 : decode cX4_renew 26 = .ok (.arraylength, 1) := by decide +kernel
theorem dX4_renew_27 : decode cX4_renew 27 = .ok (.if_icmp .ge 31, 3) := by decide +kernel
theorem dX4_renew_30 : decode cX4_renew 30 = .ok (.aload_n 0, 1) := by decide +kernel
theorem dX4_renew_31 : decode cX4_renew 31 = .ok (.iload_n 1, 1) := by decide +kernel
theorem dX4_renew_32 : decode cX4_renew 32 = .ok (.aload_n 0, 1) := by decide +kernel
theorem dX4_renew_33 : decode cX4_renew 33 = .ok (.getfield 11, 3) := by decide +kernel
theorem dX4_renew_36 : decode cX4_renew 36 = .ok (.iload_n 1, 1) := by decide +kernel
theorem dX4_renew_37 : decode cX4_renew 37 = .ok (.aaload, 1) := by decide +kernel
theorem dX4_renew_38 : decode cX4_renew 38 = .ok (.invokevirtual 30, 3) := by decide +kernel
theorem dX4_renew_41 : decode cX4_renew 41 = .ok (.aload_n 0, 1) := by decide +kernel
theorem dX4_renew_42 : decode cX4_renew 42 = .ok (.iload_n 1, 1) := by decide +kernel
theorem dX4_renew_43 : decode cX4_renew 43 = .ok (.aload_n 0, 1) := by decide +kernel
theorem dX4_renew_44 : decode cX4_renew 44 = .ok (.getfield 11, 3) := by decide +kernel
theorem dX4_renew_47 : decode cX4_renew 47 = .ok (.iload_n 1, 1) := by decide +kernel
theorem dX4_renew_48 : decode cX4_renew 48 = .ok (.aaload, 1) := by decide +kernel
theorem dX4_renew_49 : decode cX4_renew 49 = .ok (.invokevirtual 34, 3) := by decide +kernel
theorem dX4_renew_52 : decode cX4_renew 52 = .ok (.iinc 1 1, 3) := by decide +kernel
theorem dX4_renew_55 : decode cX4_renew 55 = .ok (.goto (-45), 3) := by decide +kernel
theorem dX4_renew_58 : decode cX4_renew 58 = .ok (.aload_n 0, 1) := by decide +kernel
theorem dX4_renew_59 : decode cX4_renew 59 = .ok (.iconst 1, 1) := by decide +kernel
theorem dX4_renew_60 : decode cX4_renew 60 = .ok (.putfield 16, 3) := by decide +kernel
theorem dX4_renew_63 : decode cX4_renew 63 = .ok (.return_, 1) := by decide +kernel
theorem dX4_firstWith_0 : decode cX4_firstWith 0 = .ok (.iconst 1, 1) := by decide +kernel
theorem dX4_firstWith_1 : decode cX4_firstWith 1 = .ok (.iload_n 0, 1) := by decide +kernel
theorem dX4_firstWith_2 : decode cX4_firstWith 2 = .ok (.ishl, 1) := by decide +kernel
theorem dX4_firstWith_3 : decode cX4_firstWith 3 = .ok (.iconst 1, 1) := by decide +kernel
theorem dX4_firstWith_4 : decode cX4_firstWith 4 = .ok (.ishr, 1) := by decide +kernel
theorem dX4_firstWith_5 : decode cX4_firstWith 5 = .ok (.ireturn, 1) := by decide +kernel
theorem dX4_sumLeftOfHighest_0 : decode cX4_sumLeftOfHighest 0 = .ok (.aload_n 2, 1) := by decide +kernel
theorem dX4_sumLeftOfHighest_1 : decode cX4_sumLeftOfHighest 1 = .ok (.iconst 0, 1) := by decide +kernel
theorem dX4_sumLeftOfHighest_2 : decode cX4_sumLeftOfHighest 2 = .ok (.iconst 0, 1) := by decide +kernel
theorem dX4_sumLeftOfHighest_3 : decode cX4_sumLeftOfHighest 3 = .ok (.iastore, 1) := by decide +kernel
theorem dX4_sumLeftOfHighest_4 : decode cX4_sumLeftOfHighest 4 = .ok (.iconst 1, 1) := by decide +kernel
theorem dX4_sumLeftOfHighest_5 : decode cX4_sumLeftOfHighest 5 = .ok (.istore_n 3, 1) := by decide +kernel
theorem dX4_sumLeftOfHighest_6 : decode cX4_sumLeftOfHighest 6 = .ok (.iload_n 3, 1) := by decide +kernel
theorem dX4_sumLeftOfHighest_7 : decode cX4_sumLeftOfHighest 7 = .ok (.aload_n 0, 1) := by decide +kernel
theorem dX4_sumLeftOfHighest_8 : decode cX4_sumLeftOfHighest 8 = .ok (.getfield 20, 3) := by decide +kernel
theorem dX4_sumLeftOfHighest_11 : decode cX4_sumLeftOfHighest 11 = .ok (.getfield 37, 3) := by decide +kernel
theorem dX4_sumLeftOfHighest_14 : decode cX4_sumLeftOfHighest 14 = .ok (.if_icmp .ge 97, 3) := by decide +kernel
theorem dX4_sumLeftOfHighest_17 : decode cX4_sumLeftOfHighest 17 = .ok (.iload_n 3, 1) := by decide +kernel
theorem dX4_sumLeftOfHighest_18 : decode cX4_sumLeftOfHighest 18 = .ok (.invokestatic 40, 3) := by decide +kernel
theorem dX4_sumLeftOfHighest_21 : decode cX4_sumLeftOfHighest 21 = .ok (.istore 4, 2) := by decide +kernel
theorem dX4_sumLeftOfHighest_23 : decode cX4_sumLeftOfHighest 23 = .ok (.iconst 0, 1) := by decide +kernel
theorem dX4_sumLeftOfHighest_24 : decode cX4_sumLeftOfHighest 24 = .ok (.istore 5, 2) := by decide +kernel
theorem dX4_sumLeftOfHighest_26 : decode cX4_sumLeftOfHighest 26 = .ok (.iload 5, 2) := by decide +kernel
theorem dX4_sumLeftOfHighest_28 : decode cX4_sumLeftOfHighest 28 = .ok (.iload_n 3, 1) := by decide +kernel
theorem dX4_sumLeftOfHighest_29 : decode cX4_sumLeftOfHighest 29 = .ok (.if_icmp .ge 76, 3) := by decide +kernel
theorem dX4_sumLeftOfHighest_32 : decode cX4_sumLeftOfHighest 32 = .ok (.aload_n 0, 1) := by decide +kernel
theorem dX4_sumLeftOfHighest_33 : decode cX4_sumLeftOfHighest 33 = .ok (.getfield 20, 3) := by decide +kernel
theorem dX4_sumLeftOfHighest_36 : decode cX4_sumLeftOfHighest 36 = .ok (.iload_n 1, 1) := by decide +kernel
theorem dX4_sumLeftOfHighest_37 : decode cX4_sumLeftOfHighest 37 = .ok (.iload 5, 2) := by decide +kernel
theorem dX4_sumLeftOfHighest_39 : decode cX4_sumLeftOfHighest 39 = .ok (.iload_n 3, 1) := by decide +kernel
theorem dX4_sumLeftOfHighest_40 : decode cX4_sumLeftOfHighest 40 = .ok (.invokevirtual 44, 3) := by decide +kernel
theorem dX4_sumLeftOfHighest_43 : decode cX4_sumLeftOfHighest 43 = .ok (.istore 6, 2) := by decide +kernel
theorem dX4_sumLeftOfHighest_45 : decode cX4_sumLeftOfHighest 45 = .ok (.iload 5, 2) := by decide +kernel
theorem dX4_sumLeftOfHighest_47 : decode cX4_sumLeftOfHighest 47 = .ok (.invokestatic 40, 3) := by decide +kernel
theorem dX4_sumLeftOfHighest_50 : decode cX4_sumLeftOfHighest 50 = .ok (.istore 7, 2) := by decide +kernel
theorem dX4_sumLeftOfHighest_52 : decode cX4_sumLeftOfHighest 52 = .ok (.iload 7, 2) := by decide +kernel
theorem dX4_sumLeftOfHighest_54 : decode cX4_sumLeftOfHighest 54 = .ok (.iload 5, 2) := by decide +kernel
theorem dX4_sumLeftOfHighest_56 : decode cX4_sumLeftOfHighest 56 = .ok (.iconst 1, 1) := by decide +kernel
theorem dX4_sumLeftOfHighest_57 : decode cX4_sumLeftOfHighest 57 = .ok (.iadd, 1) := by decide +kernel
theorem dX4_sumLeftOfHighest_58 : decode cX4_sumLeftOfHighest 58 = .ok (.invokestatic 40, 3) := by decide +kernel
theorem dX4_sumLeftOfHighest_61 : decode cX4_sumLeftOfHighest 61 = .ok (.if_icmp .ge 38, 3) := by decide +kernel
theorem dX4_sumLeftOfHighest_64 : decode cX4_sumLeftOfHighest 64 = .ok (.iload 7, 2) := by decide +kernel
theorem dX4_sumLeftOfHighest_66 : decode cX4_sumLeftOfHighest 66 = .ok (.iload 4, 2) := by decide +kernel
theorem dX4_sumLeftOfHighest_68 : decode cX4_sumLeftOfHighest 68 = .ok (.iadd, 1) := by decide +kernel
theorem dX4_sumLeftOfHighest_69 : decode cX4_sumLeftOfHighest 69 = .ok (.aload_n 2, 1) := by decide +kernel
theorem dX4_sumLeftOfHighest_70 : decode cX4_sumLeftOfHighest 70 = .ok (.arraylength, 1) := by decide +kernel
theorem dX4_sumLeftOfHighest_71 : decode cX4_sumLeftOfHighest 71 = .ok (.if_icmp .ge 22, 3) := by decide +kernel
theorem dX4_sumLeftOfHighest_74 : decode cX4_sumLeftOfHighest 74 = .ok (.aload_n 2, 1) := by decide +kernel
theorem dX4_sumLeftOfHighest_75 : decode cX4_sumLeftOfHighest 75 = .ok (.iload 7, 2) := by decide +kernel
theorem dX4_sumLeftOfHighest_77 : decode cX4_sumLeftOfHighest 77 = .ok (.iload 4, 2) := by decide +kernel
theorem dX4_sumLeftOfHighest_79 : decode cX4_sumLeftOfHighest 79 = .ok (.iadd, 1) := by decide +kernel
theorem dX4_sumLeftOfHighest_80 : decode cX4_sumLeftOfHighest 80 = .ok (.ldc 48, 2) := by decide +kernel
theorem dX4_sumLeftOfHighest_82 : decode cX4_sumLeftOfHighest 82 = .ok (.aload_n 2, 1) := by decide +kernel
theorem dX4_sumLeftOfHighest_83 : decode cX4_sumLeftOfHighest 83 = .ok (.iload 7, 2) := by decide +kernel
theorem dX4_sumLeftOfHighest_85 : decode cX4_sumLeftOfHighest 85 = .ok (.iaload, 1) := by decide +kernel
theorem dX4_sumLeftOfHighest_86 : decode cX4_sumLeftOfHighest 86 = .ok (.iload 6, 2) := by decide +kernel
theorem dX4_sumLeftOfHighest_88 : decode cX4_sumLeftOfHighest 88 = .ok (.iadd, 1) := by decide +kernel
theorem dX4_sumLeftOfHighest_89 : decode cX4_sumLeftOfHighest 89 = .ok (.invokestatic 49, 3) := by decide +kernel
theorem dX4_sumLeftOfHighest_92 : decode cX4_sumLeftOfHighest 92 = .ok (.iastore, 1) := by decide +kernel
theorem dX4_sumLeftOfHighest_93 : decode cX4_sumLeftOfHighest 93 = .ok (.iinc 7 1, 3) := by decide +kernel
theorem dX4_sumLeftOfHighest_96 : decode cX4_sumLeftOfHighest 96 = .ok (.goto (-44), 3) := by decide +kernel
theorem dX4_sumLeftOfHighest_99 : decode cX4_sumLeftOfHighest 99 = .ok (.iinc 5 1, 3) := by decide +kernel
theorem dX4_sumLeftOfHighest_102 : decode cX4_sumLeftOfHighest 102 = .ok (.goto (-76), 3) := by decide +kernel
theorem dX4_sumLeftOfHighest_105 : decode cX4_sumLeftOfHighest 105 = .ok (.iinc 3 1, 3) := by decide +kernel
theorem dX4_sumLeftOfHighest_108 : decode cX4_sumLeftOfHighest 108 = .ok (.goto (-102), 3) := by decide +kernel
theorem dX4_sumLeftOfHighest_111 : decode cX4_sumLeftOfHighest 111 = .ok (.return_, 1) := by decide +kernel
theorem dX4_closeRight_0 : decode cX4_closeRight 0 = .ok (.aload_n 0, 1) := by decide +kernel
theorem dX4_closeRight_1 : decode cX4_closeRight 1 = .ok (.getfield 20, 3) := by decide +kernel
theorem dX4_closeRight_4 : decode cX4_closeRight 4 = .ok (.iload_n 1, 1) := by decide +kernel
theorem dX4_closeRight_5 : decode cX4_closeRight 5 = .ok (.invokevirtual 55, 3) := by decide +kernel
theorem dX4_closeRight_8 : decode cX4_closeRight 8 = .ok (.astore_n 3, 1) := by decide +kernel
theorem dX4_closeRight_9 : decode cX4_closeRight 9 = .ok (.iconst 0, 1) := by decide +kernel
theorem dX4_closeRight_10 : decode cX4_closeRight 10 = .ok (.istore 4, 2) := by decide +kernel
theorem dX4_closeRight_12 : decode cX4_closeRight 12 = .ok (.iload 4, 2) := by decide +kernel
theorem dX4_closeRight_14 : decode cX4_closeRight 14 = .ok (.aload_n 0, 1) := by decide +kernel
theorem dX4_closeRight_15 : decode cX4_closeRight 15 = .ok (.getfield 20, 3) := by decide +kernel
theorem dX4_closeRight_18 : decode cX4_closeRight 18 = .ok (.getfield 37, 3) := by decide +kernel
theorem dX4_closeRight_21 : decode cX4_closeRight 21 = .ok (.if_icmp .ge 117, 3) := by decide +kernel
theorem dX4_closeRight_24 : decode cX4_closeRight 24 = .ok (.aload_n 0, 1) := by decide +kernel
theorem dX4_closeRight_25 : decode cX4_closeRight 25 = .ok (.getfield 20, 3) := by decide +kernel
theorem dX4_closeRight_28 : decode cX4_closeRight 28 = .ok (.iload_n 1, 1) := by decide +kernel
theorem dX4_closeRight_29 : decode cX4_closeRight 29 = .ok (.iload 4, 2) := by decide +kernel
theorem dX4_closeRight_31 : decode cX4_closeRight 31 = .ok (.aload_n 0, 1) := by decide +kernel
theorem dX4_closeRight_32 : decode cX4_closeRight 32 = .ok (.getfield 20, 3) := by decide +kernel
theorem dX4_closeRight_35 : decode cX4_closeRight 35 = .ok (.getfield 37, 3) := by decide +kernel
theorem dX4_closeRight_38 : decode cX4_closeRight 38 = .ok (.invokevirtual 44, 3) := by decide +kernel
theorem dX4_closeRight_41 : decode cX4_closeRight 41 = .ok (.istore 5, 2) := by decide +kernel
theorem dX4_closeRight_43 : decode cX4_closeRight 43 = .ok (.iload 4, 2) := by decide +kernel
theorem dX4_closeRight_45 : decode cX4_closeRight 45 = .ok (.invokestatic 40, 3) := by decide +kernel
theorem dX4_closeRight_48 : decode cX4_closeRight 48 = .ok (.istore 6, 2) := by decide +kernel
theorem dX4_closeRight_50 : decode cX4_closeRight 50 = .ok (.iload 6, 2) := by decide +kernel
theorem dX4_closeRight_52 : decode cX4_closeRight 52 = .ok (.iload 4, 2) := by decide +kernel
theorem dX4_closeRight_54 : decode cX4_closeRight 54 = .ok (.iconst 1, 1) := by decide +kernel
theorem dX4_closeRight_55 : decode cX4_closeRight 55 = .ok (.iadd, 1) := by decide +kernel
theorem dX4_closeRight_56 : decode cX4_closeRight 56 = .ok (.invokestatic 40, 3) := by decide +kernel
theorem dX4_closeRight_59 : decode cX4_closeRight 59 = .ok (.if_icmp .ge 73, 3) := by decide +kernel
theorem dX4_closeRight_62 : decode cX4_closeRight 62 = .ok (.iload 6, 2) := by decide +kernel
theorem dX4_closeRight_64 : decode cX4_closeRight 64 = .ok (.aload_n 2, 1) := by decide +kernel
theorem dX4_closeRight_65 : decode cX4_closeRight 65 = .ok (.arraylength, 1) := by decide +kernel
theorem dX4_closeRight_66 : decode cX4_closeRight 66 = .ok (.if_icmp .ge 66, 3) := by decide +kernel
theorem dX4_closeRight_69 : decode cX4_closeRight 69 = .ok (.iload 6, 2) := by decide +kernel
theorem dX4_closeRight_71 : decode cX4_closeRight 71 = .ok (.iconst 1, 1) := by decide +kernel
theorem dX4_closeRight_72 : decode cX4_closeRight 72 = .ok (.ishl, 1) := by decide +kernel
theorem dX4_closeRight_73 : decode cX4_closeRight 73 = .ok (.istore 7, 2) := by decide +kernel
theorem dX4_closeRight_75 : decode cX4_closeRight 75 = .ok (.aload_n 3, 1) := by decide +kernel
theorem dX4_closeRight_76 : decode cX4_closeRight 76 = .ok (.iload 7, 2) := by decide +kernel
theorem dX4_closeRight_78 : decode cX4_closeRight 78 = .ok (.invokevirtual 59, 3) := by decide +kernel
theorem dX4_closeRight_81 : decode cX4_closeRight 81 = .ok (.ifCond .eq 16, 3) := by decide +kernel
theorem dX4_closeRight_84 : decode cX4_closeRight 84 = .ok (.aload_n 3, 1) := by decide +kernel
theorem dX4_closeRight_85 : decode cX4_closeRight 85 = .ok (.iload 7, 2) := by decide +kernel
theorem dX4_closeRight_87 : decode cX4_closeRight 87 = .ok (.invokevirtual 65, 3) := by decide +kernel
theorem dX4_closeRight_90 : decode cX4_closeRight 90 = .ok (.ifCond .eq 7, 3) := by decide +kernel
theorem dX4_closeRight_93 : decode cX4_closeRight 93 = .ok (.iconst 1, 1) := by decide +kernel
theorem dX4_closeRight_94 : decode cX4_closeRight 94 = .ok (.goto 4, 3) := by decide +kernel
theorem dX4_closeRight_97 : decode cX4_closeRight 97 = .ok (.iconst 0, 1) := by decide +kernel
theorem dX4_closeRight_98 : decode cX4_closeRight 98 = .ok (.istore 8, 2) := by decide +kernel
theorem dX4_closeRight_100 : decode cX4_closeRight 100 = .ok (.aload_n 2, 1) := by decide +kernel
theorem dX4_closeRight_101 : decode cX4_closeRight 101 = .ok (.iload 6, 2) := by decide +kernel
theorem dX4_closeRight_103 : decode cX4_closeRight 103 = .ok (.iload 8, 2) := by decide +kernel
theorem dX4_closeRight_105 : decode cX4_closeRight 105 = .ok (.ifCond .eq 18, 3) := by decide +kernel
theorem dX4_closeRight_108 : decode cX4_closeRight 108 = .ok (.ldc 48, 2) := by decide +kernel
theorem dX4_closeRight_110 : decode cX4_closeRight 110 = .ok (.aload_n 2, 1) := by decide +kernel
theorem dX4_closeRight_111 : decode cX4_closeRight 111 = .ok (.iload 6, 2) := by decide +kernel
theorem dX4_closeRight_113 : decode cX4_closeRight 113 = .ok (.iaload, 1) := by decide +kernel
theorem dX4_closeRight_114 : decode cX4_closeRight 114 = .ok (.iload 5, 2) := by decide +kernel
theorem dX4_closeRight_116 : decode cX4_closeRight 116 = .ok (.iadd, 1) := by decide +kernel
theorem dX4_closeRight_117 : decode cX4_closeRight 117 = .ok (.invokestatic 49, 3) := by decide +kernel
theorem dX4_closeRight_120 : decode cX4_closeRight 120 = .ok (.goto 5, 3) := by decide +kernel
theorem dX4_closeRight_123 : decode cX4_closeRight 123 = .ok (.ldc 48, 2) := by decide +kernel
theorem dX4_closeRight_125 : decode cX4_closeRight 125 = .ok (.iastore, 1) := by decide +kernel
theorem dX4_closeRight_126 : decode cX4_closeRight 126 = .ok (.iinc 6 1, 3) := by decide +kernel
theorem dX4_closeRight_129 : decode cX4_closeRight 129 = .ok (.goto (-79), 3) := by decide +kernel
theorem dX4_closeRight_132 : decode cX4_closeRight 132 = .ok (.iinc 4 1, 3) := by decide +kernel
theorem dX4_closeRight_135 : decode cX4_closeRight 135 = .ok (.goto (-123), 3) := by decide +kernel
theorem dX4_closeRight_138 : decode cX4_closeRight 138 = .ok (.return_, 1) := by decide +kernel
theorem dX4_costOf_0 : decode cX4_costOf 0 = .ok (.iload_n 1, 1) := by decide +kernel
theorem dX4_costOf_1 : decode cX4_costOf 1 = .ok (.ifCond .lt 27, 3) := by decide +kernel
theorem dX4_costOf_4 : decode cX4_costOf 4 = .ok (.iload_n 1, 1) := by decide +kernel
theorem dX4_costOf_5 : decode cX4_costOf 5 = .ok (.aload_n 0, 1) := by decide +kernel
theorem dX4_costOf_6 : decode cX4_costOf 6 = .ok (.getfield 11, 3) := by decide +kernel
theorem dX4_costOf_9 : decode cX4_costOf 9 = .ok (.arraylength, 1) := by decide +kernel
theorem dX4_costOf_10 : decode cX4_costOf 10 = .ok (.if_icmp .ge 18, 3) := by decide +kernel
theorem dX4_costOf_13 : decode cX4_costOf 13 = .ok (.iload_n 2, 1) := by decide +kernel
theorem dX4_costOf_14 : decode cX4_costOf 14 = .ok (.ifCond .lt 14, 3) := by decide +kernel
theorem dX4_costOf_17 : decode cX4_costOf 17 = .ok (.iload_n 2, 1) := by decide +kernel
theorem dX4_costOf_18 : decode cX4_costOf 18 = .ok (.sipush 512, 3) := by decide +kernel
theorem dX4_costOf_21 : decode cX4_costOf 21 = .ok (.if_icmp .ge 7, 3) := by decide +kernel
theorem dX4_costOf_24 : decode cX4_costOf 24 = .ok (.iconst 1, 1) := by decide +kernel
theorem dX4_costOf_25 : decode cX4_costOf 25 = .ok (.goto 4, 3) := by decide +kernel
theorem dX4_costOf_28 : decode cX4_costOf 28 = .ok (.iconst 0, 1) := by decide +kernel
theorem dX4_costOf_29 : decode cX4_costOf 29 = .ok (.istore_n 3, 1) := by decide +kernel
theorem dX4_costOf_30 : decode cX4_costOf 30 = .ok (.iload_n 3, 1) := by decide +kernel
theorem dX4_costOf_31 : decode cX4_costOf 31 = .ok (.ifCond .eq 14, 3) := by decide +kernel
theorem dX4_costOf_34 : decode cX4_costOf 34 = .ok (.aload_n 0, 1) := by decide +kernel
theorem dX4_costOf_35 : decode cX4_costOf 35 = .ok (.getfield 11, 3) := by decide +kernel
theorem dX4_costOf_38 : decode cX4_costOf 38 = .ok (.iload_n 1, 1) := by decide +kernel
theorem dX4_costOf_39 : decode cX4_costOf 39 = .ok (.aaload, 1) := by decide +kernel
theorem dX4_costOf_40 : decode cX4_costOf 40 = .ok (.iload_n 2, 1) := by decide +kernel
theorem dX4_costOf_41 : decode cX4_costOf 41 = .ok (.iaload, 1) := by decide +kernel
theorem dX4_costOf_42 : decode cX4_costOf 42 = .ok (.goto 5, 3) := by decide +kernel
theorem dX4_costOf_45 : decode cX4_costOf 45 = .ok (.ldc 48, 2) := by decide +kernel
theorem dX4_costOf_47 : decode cX4_costOf 47 = .ok (.ireturn, 1) := by decide +kernel
theorem dX4_howMany_0 : decode cX4_howMany 0 = .ok (.iconst 0, 1) := by decide +kernel
theorem dX4_howMany_1 : decode cX4_howMany 1 = .ok (.istore_n 2, 1) := by decide +kernel
theorem dX4_howMany_2 : decode cX4_howMany 2 = .ok (.aload_n 0, 1) := by decide +kernel
theorem dX4_howMany_3 : decode cX4_howMany 3 = .ok (.getfield 20, 3) := by decide +kernel
theorem dX4_howMany_6 : decode cX4_howMany 6 = .ok (.invokevirtual 68, 3) := by decide +kernel
theorem dX4_howMany_9 : decode cX4_howMany 9 = .ok (.istore_n 3, 1) := by decide +kernel
theorem dX4_howMany_10 : decode cX4_howMany 10 = .ok (.iconst 0, 1) := by decide +kernel
theorem dX4_howMany_11 : decode cX4_howMany 11 = .ok (.istore 4, 2) := by decide +kernel
theorem dX4_howMany_13 : decode cX4_howMany 13 = .ok (.iload 4, 2) := by decide +kernel
theorem dX4_howMany_15 : decode cX4_howMany 15 = .ok (.iload_n 3, 1) := by decide +kernel
theorem dX4_howMany_16 : decode cX4_howMany 16 = .ok (.if_icmp .ge 24, 3) := by decide +kernel
theorem dX4_howMany_19 : decode cX4_howMany 19 = .ok (.aload_n 0, 1) := by decide +kernel
theorem dX4_howMany_20 : decode cX4_howMany 20 = .ok (.iload_n 1, 1) := by decide +kernel
theorem dX4_howMany_21 : decode cX4_howMany 21 = .ok (.iload 4, 2) := by decide +kernel
theorem dX4_howMany_23 : decode cX4_howMany 23 = .ok (.invokevirtual 72, 3) := by decide +kernel
theorem dX4_howMany_26 : decode cX4_howMany 26 = .ok (.ldc 48, 2) := by decide +kernel
theorem dX4_howMany_28 : decode cX4_howMany 28 = .ok (.if_icmp .ge 6, 3) := by decide +kernel
theorem dX4_howMany_31 : decode cX4_howMany 31 = .ok (.iinc 2 1, 3) := by decide +kernel
theorem dX4_howMany_34 : decode cX4_howMany 34 = .ok (.iinc 4 1, 3) := by decide +kernel
theorem dX4_howMany_37 : decode cX4_howMany 37 = .ok (.goto (-24), 3) := by decide +kernel
theorem dX4_howMany_40 : decode cX4_howMany 40 = .ok (.iload_n 2, 1) := by decide +kernel
theorem dX4_howMany_41 : decode cX4_howMany 41 = .ok (.ireturn, 1) := by decide +kernel
theorem dX4_jointsOf_0 : decode cX4_jointsOf 0 = .ok (.iconst 0, 1) := by decide +kernel
theorem dX4_jointsOf_1 : decode cX4_jointsOf 1 = .ok (.istore_n 3, 1) := by decide +kernel
theorem dX4_jointsOf_2 : decode cX4_jointsOf 2 = .ok (.aload_n 0, 1) := by decide +kernel
theorem dX4_jointsOf_3 : decode cX4_jointsOf 3 = .ok (.getfield 20, 3) := by decide +kernel
theorem dX4_jointsOf_6 : decode cX4_jointsOf 6 = .ok (.invokevirtual 68, 3) := by decide +kernel
theorem dX4_jointsOf_9 : decode cX4_jointsOf 9 = .ok (.istore 4, 2) := by decide +kernel
theorem dX4_jointsOf_11 : decode cX4_jointsOf 11 = .ok (.iconst 0, 1) := by decide +kernel
theorem dX4_jointsOf_12 : decode cX4_jointsOf 12 = .ok (.istore 5, 2) := by decide +kernel
theorem dX4_jointsOf_14 : decode cX4_jointsOf 14 = .ok (.iload 5, 2) := by decide +kernel
theorem dX4_jointsOf_16 : decode cX4_jointsOf 16 = .ok (.iload 4, 2) := by decide +kernel
theorem dX4_jointsOf_18 : decode cX4_jointsOf 18 = .ok (.if_icmp .ge 34, 3) := by decide +kernel
theorem dX4_jointsOf_21 : decode cX4_jointsOf 21 = .ok (.aload_n 0, 1) := by decide +kernel
theorem dX4_jointsOf_22 : decode cX4_jointsOf 22 = .ok (.iload_n 1, 1) := by decide +kernel
theorem dX4_jointsOf_23 : decode cX4_jointsOf 23 = .ok (.iload 5, 2) := by decide +kernel
theorem dX4_jointsOf_25 : decode cX4_jointsOf 25 = .ok (.invokevirtual 72, 3) := by decide +kernel
theorem dX4_jointsOf_28 : decode cX4_jointsOf 28 = .ok (.ldc 48, 2) := by decide +kernel
theorem dX4_jointsOf_30 : decode cX4_jointsOf 30 = .ok (.if_icmp .ge 16, 3) := by decide +kernel
theorem dX4_jointsOf_33 : decode cX4_jointsOf 33 = .ok (.iload_n 3, 1) := by decide +kernel
theorem dX4_jointsOf_34 : decode cX4_jointsOf 34 = .ok (.iload_n 2, 1) := by decide +kernel
theorem dX4_jointsOf_35 : decode cX4_jointsOf 35 = .ok (.if_icmp .ne 8, 3) := by decide +kernel
theorem dX4_jointsOf_38 : decode cX4_jointsOf 38 = .ok (.iload 5, 2) := by decide +kernel
theorem dX4_jointsOf_40 : decode cX4_jointsOf 40 = .ok (.iconst 1, 1) := by decide +kernel
theorem dX4_jointsOf_41 : decode cX4_jointsOf 41 = .ok (.ishl, 1) := by decide +kernel
theorem dX4_jointsOf_42 : decode cX4_jointsOf 42 = .ok (.ireturn, 1) := by decide +kernel
theorem dX4_jointsOf_43 : decode cX4_jointsOf 43 = .ok (.iinc 3 1, 3) := by decide +kernel
theorem dX4_jointsOf_46 : decode cX4_jointsOf 46 = .ok (.iinc 5 1, 3) := by decide +kernel
theorem dX4_jointsOf_49 : decode cX4_jointsOf 49 = .ok (.goto (-35), 3) := by decide +kernel
theorem dX4_jointsOf_52 : decode cX4_jointsOf 52 = .ok (.bipush (-9), 2) := by decide +kernel
theorem dX4_jointsOf_54 : decode cX4_jointsOf 54 = .ok (.ireturn, 1) := by decide +kernel
theorem dX4_apartFrom_0 : decode cX4_apartFrom 0 = .ok (.iload_n 1, 1) := by decide +kernel
theorem dX4_apartFrom_1 : decode cX4_apartFrom 1 = .ok (.iload_n 2, 1) := by decide +kernel
theorem dX4_apartFrom_2 : decode cX4_apartFrom 2 = .ok (.invokestatic 75, 3) := by decide +kernel
theorem dX4_apartFrom_5 : decode cX4_apartFrom 5 = .ok (.iconst (-1), 1) := by decide +kernel
theorem dX4_apartFrom_6 : decode cX4_apartFrom 6 = .ok (.ixor, 1) := by decide +kernel
theorem dX4_apartFrom_7 : decode cX4_apartFrom 7 = .ok (.aload_n 0, 1) := by decide +kernel
theorem dX4_apartFrom_8 : decode cX4_apartFrom 8 = .ok (.getfield 20, 3) := by decide +kernel
theorem dX4_apartFrom_11 : decode cX4_apartFrom 11 = .ok (.invokevirtual 68, 3) := by decide +kernel
theorem dX4_apartFrom_14 : decode cX4_apartFrom 14 = .ok (.iconst 1, 1) := by decide +kernel
theorem dX4_apartFrom_15 : decode cX4_apartFrom 15 = .ok (.isub, 1) := by decide +kernel
theorem dX4_apartFrom_16 : decode cX4_apartFrom 16 = .ok (.iand, 1) := by decide +kernel
theorem dX4_apartFrom_17 : decode cX4_apartFrom 17 = .ok (.ireturn, 1) := by decide +kernel
theorem dX5_init_0 : decode cX5_init 0 = .ok (.aload_n 0, 1) := by decide +kernel
theorem dX5_init_1 : decode cX5_init 1 = .ok (.invokespecial 3, 3) := by decide +kernel
theorem dX5_init_4 : decode cX5_init 4 = .ok (.aload_n 0, 1) := by decide +kernel
theorem dX5_init_5 : decode cX5_init 5 = .ok (.bipush 11, 2) := by decide +kernel
theorem dX5_init_7 : decode cX5_init 7 = .ok (.newarray .int, 2) := by decide +kernel
theorem dX5_init_9 : decode cX5_init 9 = .ok (.putfield 9, 3) := by decide +kernel
theorem dX5_init_12 : decode cX5_init 12 = .ok (.return_, 1) := by decide +kernel
theorem dX5_clear_0 : decode cX5_clear 0 = .ok (.aload_n 0, 1) := by decide +kernel
theorem dX5_clear_1 : decode cX5_clear 1 = .ok (.getfield 9, 3) := by decide +kernel
theorem dX5_clear_4 : decode cX5_clear 4 = .ok (.iconst 0, 1) := by decide +kernel
theorem dX5_clear_5 : decode cX5_clear 5 = .ok (.invokestatic 15, 3) := by decide +kernel
theorem dX5_clear_8 : decode cX5_clear 8 = .ok (.return_, 1) := by decide +kernel
theorem dX5_add_0 : decode cX5_add 0 = .ok (.iload_n 1, 1) := by decide +kernel
theorem dX5_add_1 : decode cX5_add 1 = .ok (.ifCond .lt 22, 3) := by decide +kernel
theorem dX5_add_4 : decode cX5_add 4 = .ok (.iload_n 1, 1) := by decide +kernel
theorem dX5_add_5 : decode cX5_add 5 = .ok (.aload_n 0, 1) := by decide +kernel
theorem dX5_add_6 : decode cX5_add 6 = .ok (.getfield 9, 3) := by decide +kernel
theorem dX5_add_9 : decode cX5_add 9 = .ok (.arraylength, 1) := by decide +kernel
theorem dX5_add_10 : decode cX5_add 10 = .ok (.if_icmp .ge 13, 3) := by decide +kernel
theorem dX5_add_13 : decode cX5_add 13 = .ok (.aload_n 0, 1) := by decide +kernel
theorem dX5_add_14 : decode cX5_add 14 = .ok (.getfield 9, 3) := by decide +kernel
theorem dX5_add_17 : decode cX5_add 17 = .ok (.iload_n 1, 1) := by decide +kernel
theorem dX5_add_18 : decode cX5_add 18 = .ok (.dup2, 1) := by decide +kernel
theorem dX5_add_19 : decode cX5_add 19 = .ok (.iaload, 1) := by decide +kernel
theorem dX5_add_20 : decode cX5_add 20 = .ok (.iconst 1, 1) := by decide +kernel
theorem dX5_add_21 : decode cX5_add 21 = .ok (.iadd, 1) := by decide +kernel
theorem dX5_add_22 : decode cX5_add 22 = .ok (.iastore, 1) := by decide +kernel
theorem dX5_add_23 : decode cX5_add 23 = .ok (.return_, 1) := by decide +kernel
theorem dX5_of_0 : decode cX5_of 0 = .ok (.iload_n 1, 1) := by decide +kernel
theorem dX5_of_1 : decode cX5_of 1 = .ok (.ifCond .lt 12, 3) := by decide +kernel
theorem dX5_of_4 : decode cX5_of 4 = .ok (.iload_n 1, 1) := by decide +kernel
theorem dX5_of_5 : decode cX5_of 5 = .ok (.aload_n 0, 1) := by decide +kernel
theorem dX5_of_6 : decode cX5_of 6 = .ok (.getfield 9, 3) := by decide +kernel
theorem dX5_of_9 : decode cX5_of 9 = .ok (.arraylength, 1) := by decide +kernel
theorem dX5_of_10 : decode cX5_of 10 = .ok (.if_icmp .lt 7, 3) := by decide +kernel
theorem dX5_of_13 : decode cX5_of 13 = .ok (.iconst 0, 1) := by decide +kernel
theorem dX5_of_14 : decode cX5_of 14 = .ok (.goto 9, 3) := by decide +kernel
theorem dX5_of_17 : decode cX5_of 17 = .ok (.aload_n 0, 1) := by decide +kernel
theorem dX5_of_18 : decode cX5_of 18 = .ok (.getfield 9, 3) := by decide +kernel
theorem dX5_of_21 : decode cX5_of 21 = .ok (.iload_n 1, 1) := by decide +kernel
theorem dX5_of_22 : decode cX5_of 22 = .ok (.iaload, 1) := by decide +kernel
theorem dX5_of_23 : decode cX5_of 23 = .ok (.ireturn, 1) := by decide +kernel
theorem dX5_total_0 : decode cX5_total 0 = .ok (.iconst 0, 1) := by decide +kernel
theorem dX5_total_1 : decode cX5_total 1 = .ok (.istore_n 1, 1) := by decide +kernel
theorem dX5_total_2 : decode cX5_total 2 = .ok (.aload_n 0, 1) := by decide +kernel
theorem dX5_total_3 : decode cX5_total 3 = .ok (.getfield 9, 3) := by decide +kernel
theorem dX5_total_6 : decode cX5_total 6 = .ok (.astore_n 2, 1) := by decide +kernel
theorem dX5_total_7 : decode cX5_total 7 = .ok (.aload_n 2, 1) := by decide +kernel
theorem dX5_total_8 : decode cX5_total 8 = .ok (.arraylength, 1) := by decide +kernel
theorem dX5_total_9 : decode cX5_total 9 = .ok (.istore_n 3, 1) := by decide +kernel
theorem dX5_total_10 : decode cX5_total 10 = .ok (.iconst 0, 1) := by decide +kernel
theorem dX5_total_11 : decode cX5_total 11 = .ok (.istore 4, 2) := by decide +kernel
theorem dX5_total_13 : decode cX5_total 13 = .ok (.iload 4, 2) := by decide +kernel
theorem dX5_total_15 : decode cX5_total 15 = .ok (.iload_n 3, 1) := by decide +kernel
theorem dX5_total_16 : decode cX5_total 16 = .ok (.if_icmp .ge 20, 3) := by decide +kernel
theorem dX5_total_19 : decode cX5_total 19 = .ok (.aload_n 2, 1) := by decide +kernel
theorem dX5_total_20 : decode cX5_total 20 = .ok (.iload 4, 2) := by decide +kernel
theorem dX5_total_22 : decode cX5_total 22 = .ok (.iaload, 1) := by decide +kernel
theorem dX5_total_23 : decode cX5_total 23 = .ok (.istore 5, 2) := by decide +kernel
theorem dX5_total_25 : decode cX5_total 25 = .ok (.iload_n 1, 1) := by decide +kernel
theorem dX5_total_26 : decode cX5_total 26 = .ok (.iload 5, 2) := by decide +kernel
theorem dX5_total_28 : decode cX5_total 28 = .ok (.iadd, 1) := by decide +kernel
theorem dX5_total_29 : decode cX5_total 29 = .ok (.istore_n 1, 1) := by decide +kernel
theorem dX5_total_30 : decode cX5_total 30 = .ok (.iinc 4 1, 3) := by decide +kernel
theorem dX5_total_33 : decode cX5_total 33 = .ok (.goto (-20), 3) := by decide +kernel
theorem dX5_total_36 : decode cX5_total 36 = .ok (.iload_n 1, 1) := by decide +kernel
theorem dX5_total_37 : decode cX5_total 37 = .ok (.ireturn, 1) := by decide +kernel
theorem dX5_costBy_0 : decode cX5_costBy 0 = .ok (.iconst 0, 1) := by decide +kernel
theorem dX5_costBy_1 : decode cX5_costBy 1 = .ok (.istore_n 2, 1) := by decide +kernel
theorem dX5_costBy_2 : decode cX5_costBy 2 = .ok (.iconst 1, 1) := by decide +kernel
theorem dX5_costBy_3 : decode cX5_costBy 3 = .ok (.istore_n 3, 1) := by decide +kernel
theorem dX5_costBy_4 : decode cX5_costBy 4 = .ok (.iload_n 3, 1) := by decide +kernel
theorem dX5_costBy_5 : decode cX5_costBy 5 = .ok (.aload_n 0, 1) := by decide +kernel
theorem dX5_costBy_6 : decode cX5_costBy 6 = .ok (.getfield 9, 3) := by decide +kernel
theorem dX5_costBy_9 : decode cX5_costBy 9 = .ok (.arraylength, 1) := by decide +kernel
theorem dX5_costBy_10 : decode cX5_costBy 10 = .ok (.if_icmp .ge 40, 3) := by decide +kernel
theorem dX5_costBy_13 : decode cX5_costBy 13 = .ok (.aload_n 1, 1) := by decide +kernel
theorem dX5_costBy_14 : decode cX5_costBy 14 = .ok (.iload_n 3, 1) := by decide +kernel
theorem dX5_costBy_15 : decode cX5_costBy 15 = .ok (.invokevirtual 21, 3) := by decide +kernel
theorem dX5_costBy_18 : decode cX5_costBy 18 = .ok (.istore 4, 2) := by decide +kernel
theorem dX5_costBy_20 : decode cX5_costBy 20 = .ok (.iload_n 2, 1) := by decide +kernel
theorem dX5_costBy_21 : decode cX5_costBy 21 = .ok (.aload_n 0, 1) := by decide +kernel
theorem dX5_costBy_22 : decode cX5_costBy 22 = .ok (.getfield 9, 3) := by decide +kernel
theorem dX5_costBy_25 : decode cX5_costBy 25 = .ok (.iload_n 3, 1) := by decide +kernel
theorem dX5_costBy_26 : decode cX5_costBy 26 = .ok (.iaload, 1) := by decide +kernel
theorem dX5_costBy_27 : decode cX5_costBy 27 = .ok (.iload 4, 2) := by decide +kernel
theorem dX5_costBy_29 : decode cX5_costBy 29 = .ok (.bipush (-9), 2) := by decide +kernel
theorem dX5_costBy_31 : decode cX5_costBy 31 = .ok (.if_icmp .ne 8, 3) := by decide +kernel
theorem dX5_costBy_34 : decode cX5_costBy 34 = .ok (.bipush 100, 2) := by decide +kernel
theorem dX5_costBy_36 : decode cX5_costBy 36 = .ok (.goto 5, 3) := by decide +kernel
theorem dX5_costBy_39 : decode cX5_costBy 39 = .ok (.iload 4, 2) := by decide +kernel
theorem dX5_costBy_41 : decode cX5_costBy 41 = .ok (.imul, 1) := by decide +kernel
theorem dX5_costBy_42 : decode cX5_costBy 42 = .ok (.iadd, 1) := by decide +kernel
theorem dX5_costBy_43 : decode cX5_costBy 43 = .ok (.istore_n 2, 1) := by decide +kernel
theorem dX5_costBy_44 : decode cX5_costBy 44 = .ok (.iinc 3 1, 3) := by decide +kernel
theorem dX5_costBy_47 : decode cX5_costBy 47 = .ok (.goto (-43), 3) := by decide +kernel
theorem dX5_costBy_50 : decode cX5_costBy 50 = .ok (.iload_n 2, 1) := by decide +kernel
theorem dX5_costBy_51 : decode cX5_costBy 51 = .ok (.ireturn, 1) := by decide +kernel
theorem dX5_wholeBricks_0 : decode cX5_wholeBricks 0 = .ok (.aload_n 0, 1) := by decide +kernel
theorem dX5_wholeBricks_1 : decode cX5_wholeBricks 1 = .ok (.iconst 3, 1) := by decide +kernel
theorem dX5_wholeBricks_2 : decode cX5_wholeBricks 2 = .ok (.invokevirtual 27, 3) := by decide +kernel
theorem dX5_wholeBricks_5 : decode cX5_wholeBricks 5 = .ok (.istore_n 1, 1) := by decide +kernel
theorem dX5_wholeBricks_6 : decode cX5_wholeBricks 6 = .ok (.aload_n 0, 1) := by decide +kernel
theorem dX5_wholeBricks_7 : decode cX5_wholeBricks 7 = .ok (.iconst 2, 1) := by decide +kernel
theorem dX5_wholeBricks_8 : decode cX5_wholeBricks 8 = .ok (.invokevirtual 27, 3) := by decide +kernel
theorem dX5_wholeBricks_11 : decode cX5_wholeBricks 11 = .ok (.istore_n 2, 1) := by decide +kernel
theorem dX5_wholeBricks_12 : decode cX5_wholeBricks 12 = .ok (.aload_n 0, 1) := by decide +kernel
theorem dX5_wholeBricks_13 : decode cX5_wholeBricks 13 = .ok (.iconst 4, 1) := by decide +kernel
theorem dX5_wholeBricks_14 : decode cX5_wholeBricks 14 = .ok (.invokevirtual 27, 3) := by decide +kernel
theorem dX5_wholeBricks_17 : decode cX5_wholeBricks 17 = .ok (.iload_n 1, 1) := by decide +kernel
theorem dX5_wholeBricks_18 : decode cX5_wholeBricks 18 = .ok (.iadd, 1) := by decide +kernel
theorem dX5_wholeBricks_19 : decode cX5_wholeBricks 19 = .ok (.iload_n 2, 1) := by decide +kernel
theorem dX5_wholeBricks_20 : decode cX5_wholeBricks 20 = .ok (.iconst 1, 1) := by decide +kernel
theorem dX5_wholeBricks_21 : decode cX5_wholeBricks 21 = .ok (.iadd, 1) := by decide +kernel
theorem dX5_wholeBricks_22 : decode cX5_wholeBricks 22 = .ok (.iconst 2, 1) := by decide +kernel
theorem dX5_wholeBricks_23 : decode cX5_wholeBricks 23 = .ok (.idiv, 1) := by decide +kernel
theorem dX5_wholeBricks_24 : decode cX5_wholeBricks 24 = .ok (.iadd, 1) := by decide +kernel
theorem dX5_wholeBricks_25 : decode cX5_wholeBricks 25 = .ok (.istore_n 3, 1) := by decide +kernel
theorem dX5_wholeBricks_26 : decode cX5_wholeBricks 26 = .ok (.iload_n 1, 1) := by decide +kernel
theorem dX5_wholeBricks_27 : decode cX5_wholeBricks 27 = .ok (.iload_n 2, 1) := by decide +kernel
theorem dX5_wholeBricks_28 : decode cX5_wholeBricks 28 = .ok (.iconst 2, 1) := by decide +kernel
theorem dX5_wholeBricks_29 : decode cX5_wholeBricks 29 = .ok (.irem, 1) := by decide +kernel
theorem dX5_wholeBricks_30 : decode cX5_wholeBricks 30 = .ok (.iconst 2, 1) := by decide +kernel
theorem dX5_wholeBricks_31 : decode cX5_wholeBricks 31 = .ok (.imul, 1) := by decide +kernel
theorem dX5_wholeBricks_32 : decode cX5_wholeBricks 32 = .ok (.iadd, 1) := by decide +kernel
theorem dX5_wholeBricks_33 : decode cX5_wholeBricks 33 = .ok (.istore 4, 2) := by decide +kernel
theorem dX5_wholeBricks_35 : decode cX5_wholeBricks 35 = .ok (.iconst 0, 1) := by decide +kernel
theorem dX5_wholeBricks_36 : decode cX5_wholeBricks 36 = .ok (.aload_n 0, 1) := by decide +kernel
theorem dX5_wholeBricks_37 : decode cX5_wholeBricks 37 = .ok (.iconst 1, 1) := by decide +kernel
theorem dX5_wholeBricks_38 : decode cX5_wholeBricks 38 = .ok (.invokevirtual 27, 3) := by decide +kernel
theorem dX5_wholeBricks_41 : decode cX5_wholeBricks 41 = .ok (.iload 4, 2) := by decide +kernel
theorem dX5_wholeBricks_43 : decode cX5_wholeBricks 43 = .ok (.isub, 1) := by decide +kernel
theorem dX5_wholeBricks_44 : decode cX5_wholeBricks 44 = .ok (.invokestatic 30, 3) := by decide +kernel
theorem dX5_wholeBricks_47 : decode cX5_wholeBricks 47 = .ok (.istore 5, 2) := by decide +kernel
theorem dX5_wholeBricks_49 : decode cX5_wholeBricks 49 = .ok (.iload_n 3, 1) := by decide +kernel
theorem dX5_wholeBricks_50 : decode cX5_wholeBricks 50 = .ok (.iload 5, 2) := by decide +kernel
theorem dX5_wholeBricks_52 : decode cX5_wholeBricks 52 = .ok (.iconst 4, 1) := by decide +kernel
theorem dX5_wholeBricks_53 : decode cX5_wholeBricks 53 = .ok (.iadd, 1) := by decide +kernel
theorem dX5_wholeBricks_54 : decode cX5_wholeBricks 54 = .ok (.iconst 1, 1) := by decide +kernel
theorem dX5_wholeBricks_55 : decode cX5_wholeBricks 55 = .ok (.isub, 1) := by decide +kernel
theorem dX5_wholeBricks_56 : decode cX5_wholeBricks 56 = .ok (.iconst 4, 1) := by decide +kernel
theorem dX5_wholeBricks_57 : decode cX5_wholeBricks 57 = .ok (.idiv, 1) := by decide +kernel
theorem dX5_wholeBricks_58 : decode cX5_wholeBricks 58 = .ok (.iadd, 1) := by decide +kernel
theorem dX5_wholeBricks_59 : decode cX5_wholeBricks 59 = .ok (.ireturn, 1) := by decide +kernel
theorem dX6_init_0 : decode cX6_init 0 = .ok (.aload_n 0, 1) := by decide +kernel
theorem dX6_init_1 : decode cX6_init 1 = .ok (.invokespecial 3, 3) := by decide +kernel
theorem dX6_init_4 : decode cX6_init 4 = .ok (.aload_n 0, 1) := by decide +kernel
theorem dX6_init_5 : decode cX6_init 5 = .ok (.new 9, 3) := by decide +kernel
theorem dX6_init_8 : decode cX6_init 8 = .ok (.dup, 1) := by decide +kernel
theorem dX6_init_9 : decode cX6_init 9 = .ok (.invokespecial 11, 3) := by decide +kernel
theorem dX6_init_12 : decode cX6_init 12 = .ok (.putfield 12, 3) := by decide +kernel
theorem dX6_init_15 : decode cX6_init 15 = .ok (.aload_n 0, 1) := by decide +kernel
theorem dX6_init_16 : decode cX6_init 16 = .ok (.bipush 8, 2) := by decide +kernel
theorem dX6_init_18 : decode cX6_init 18 = .ok (.anewarray 18, 3) := by decide +kernel
theorem dX6_init_21 : decode cX6_init 21 = .ok (.putfield 20, 3) := by decide +kernel
theorem dX6_init_24 : decode cX6_init 24 = .ok (.aload_n 0, 1) := by decide +kernel
theorem dX6_init_25 : decode cX6_init 25 = .ok (.new 18, 3) := by decide +kernel
theorem dX6_init_28 : decode cX6_init 28 = .ok (.dup, 1) := by decide +kernel
theorem dX6_init_29 : decode cX6_init 29 = .ok (.invokespecial 24, 3) := by decide +kernel
theorem dX6_init_32 : decode cX6_init 32 = .ok (.putfield 25, 3) := by decide +kernel
theorem dX6_init_35 : decode cX6_init 35 = .ok (.aload_n 0, 1) := by decide +kernel
theorem dX6_init_36 : decode cX6_init 36 = .ok (.bipush 8, 2) := by decide +kernel
theorem dX6_init_38 : decode cX6_init 38 = .ok (.putfield 29, 3) := by decide +kernel
theorem dX6_init_41 : decode cX6_init 41 = .ok (.aload_n 0, 1) := by decide +kernel
theorem dX6_init_42 : decode cX6_init 42 = .ok (.iconst 0, 1) := by decide +kernel
theorem dX6_init_43 : decode cX6_init 43 = .ok (.putfield 33, 3) := by decide +kernel
theorem dX6_init_46 : decode cX6_init 46 = .ok (.aload_n 0, 1) := by decide +kernel
theorem dX6_init_47 : decode cX6_init 47 = .ok (.iconst 1, 1) := by decide +kernel
theorem dX6_init_48 : decode cX6_init 48 = .ok (.putfield 36, 3) := by decide +kernel
theorem dX6_init_51 : decode cX6_init 51 = .ok (.iconst 0, 1) := by decide +kernel
theorem dX6_init_52 : decode cX6_init 52 = .ok (.istore_n 1, 1) := by decide +kernel
theorem dX6_init_53 : decode cX6_init 53 = .ok (.iload_n 1, 1) := by decide +kernel
theorem dX6_init_54 : decode cX6_init 54 = .ok (.aload_n 0, 1) := by decide +kernel
theorem dX6_init_55 : decode cX6_init 55 = .ok (.getfield 20, 3) := by decide +kernel
theorem dX6_init_58 : decode cX6_init 58 = .ok (.arraylength, 1) := by decide +kernel
theorem dX6_init_59 : decode cX6_init 59 = .ok (.if_icmp .ge 22, 3) := by decide +kernel
theorem dX6_init_62 : decode cX6_init 62 = .ok (.aload_n 0, 1) := by decide +kernel
theorem dX6_init_63 : decode cX6_init 63 = .ok (.getfield 20, 3) := by decide +kernel
theorem dX6_init_66 : decode cX6_init 66 = .ok (.iload_n 1, 1) := by decide +kernel
theorem dX6_init_67 : decode cX6_init 67 = .ok (.new 18, 3) := by decide +kernel
theorem dX6_init_70 : decode cX6_init 70 = .ok (.dup, 1) := by decide +kernel
theorem dX6_init_71 : decode cX6_init 71 = .ok (.invokespecial 24, 3) := by decide +kernel
theorem dX6_init_74 : decode cX6_init 74 = .ok (.aastore, 1) := by decide +kernel
theorem dX6_init_75 : decode cX6_init 75 = .ok (.iinc 1 1, 3) := by decide +kernel
theorem dX6_init_78 : decode cX6_init 78 = .ok (.goto (-25), 3) := by decide +kernel
theorem dX6_init_81 : decode cX6_init 81 = .ok (.return_, 1) := by decide +kernel
theorem dX6_has_0 : decode cX6_has 0 = .ok (.iload_n 1, 1) := by decide +kernel
theorem dX6_has_1 : decode cX6_has 1 = .ok (.ifCond .lt 15, 3) := by decide +kernel
theorem dX6_has_4 : decode cX6_has 4 = .ok (.iload_n 1, 1) := by decide +kernel
theorem dX6_has_5 : decode cX6_has 5 = .ok (.aload_n 0, 1) := by decide +kernel
theorem dX6_has_6 : decode cX6_has 6 = .ok (.getfield 33, 3) := by decide +kernel
theorem dX6_has_9 : decode cX6_has 9 = .ok (.if_icmp .ge 7, 3) := by decide +kernel
theorem dX6_has_12 : decode cX6_has 12 = .ok (.iconst 1, 1) := by decide +kernel
theorem dX6_has_13 : decode cX6_has 13 = .ok (.goto 4, 3) := by decide +kernel
theorem dX6_has_16 : decode cX6_has 16 = .ok (.iconst 0, 1) := by decide +kernel
theorem dX6_has_17 : decode cX6_has 17 = .ok (.ireturn, 1) := by decide +kernel
theorem dX6_at_0 : decode cX6_at 0 = .ok (.iload_n 1, 1) := by decide +kernel
theorem dX6_at_1 : decode cX6_at 1 = .ok (.ifCond .lt 20, 3) := by decide +kernel
theorem dX6_at_4 : decode cX6_at 4 = .ok (.iload_n 1, 1) := by decide +kernel
theorem dX6_at_5 : decode cX6_at 5 = .ok (.aload_n 0, 1) := by decide +kernel
theorem dX6_at_6 : decode cX6_at 6 = .ok (.getfield 33, 3) := by decide +kernel
theorem dX6_at_9 : decode cX6_at 9 = .ok (.if_icmp .ge 12, 3) := by decide +kernel
theorem dX6_at_12 : decode cX6_at 12 = .ok (.iload_n 1, 1) := by decide +kernel
theorem dX6_at_13 : decode cX6_at 13 = .ok (.aload_n 0, 1) := by decide +kernel
theorem dX6_at_14 : decode cX6_at 14 = .ok (.getfield 20, 3) := by decide +kernel
theorem dX6_at_17 : decode cX6_at 17 = .ok (.arraylength, 1) := by decide +kernel
theorem dX6_at_18 : decode cX6_at 18 = .ok (.if_icmp .lt 7, 3) := by decide +kernel
theorem dX6_at_21 : decode cX6_at 21 = .ok (.iconst 1, 1) := by decide +kernel
theorem dX6_at_22 : decode cX6_at 22 = .ok (.goto 4, 3) := by decide +kernel
theorem dX6_at_25 : decode cX6_at 25 = .ok (.iconst 0, 1) := by decide +kernel
theorem dX6_at_26 : decode cX6_at 26 = .ok (.istore_n 2, 1) := by decide +kernel
theorem dX6_at_27 : decode cX6_at 27 = .ok (.iload_n 2, 1) := by decide +kernel
theorem dX6_at_28 : decode cX6_at 28 = .ok (.ifCond .eq 10, 3) := by decide +kernel
theorem dX6_at_31 : decode cX6_at 31 = .ok (.aload_n 0, 1) := by decide +kernel
theorem dX6_at_32 : decode cX6_at 32 = .ok (.getfield 25, 3) := by decide +kernel
theorem dX6_at_35 : decode cX6_at 35 = .ok (.goto 9, 3) := by decide +kernel
theorem dX6_at_38 : decode cX6_at 38 = .ok (.aload_n 0, 1) := by decide +kernel
theorem dX6_at_39 : decode cX6_at 39 = .ok (.getfield 20, 3) := by decide +kernel
theorem dX6_at_42 : decode cX6_at 42 = .ok (.iload_n 1, 1) := by decide +kernel
theorem dX6_at_43 : decode cX6_at 43 = .ok (.aaload, 1) := by decide +kernel
theorem dX6_at_44 : decode cX6_at 44 = .ok (.areturn, 1) := by decide +kernel
theorem dX6_cells_0 : decode cX6_cells 0 = .ok (.iconst 1, 1) := by decide +kernel
theorem dX6_cells_1 : decode cX6_cells 1 = .ok (.aload_n 0, 1) := by decide +kernel
theorem dX6_cells_2 : decode cX6_cells 2 = .ok (.getfield 29, 3) := by decide +kernel
theorem dX6_cells_5 : decode cX6_cells 5 = .ok (.ishl, 1) := by decide +kernel
theorem dX6_cells_6 : decode cX6_cells 6 = .ok (.iconst 1, 1) := by decide +kernel
theorem dX6_cells_7 : decode cX6_cells 7 = .ok (.isub, 1) := by decide +kernel
theorem dX6_cells_8 : decode cX6_cells 8 = .ok (.ireturn, 1) := by decide +kernel
theorem dX6_places_0 : decode cX6_places 0 = .ok (.aload_n 0, 1) := by decide +kernel
theorem dX6_places_1 : decode cX6_places 1 = .ok (.invokevirtual 39, 3) := by decide +kernel
theorem dX6_places_4 : decode cX6_places 4 = .ok (.bipush (-2), 2) := by decide +kernel
theorem dX6_places_6 : decode cX6_places 6 = .ok (.iand, 1) := by decide +kernel
theorem dX6_places_7 : decode cX6_places 7 = .ok (.ireturn, 1) := by decide +kernel
theorem dX6_sets_0 : decode cX6_sets 0 = .ok (.sipush 512, 3) := by decide +kernel
theorem dX6_sets_3 : decode cX6_sets 3 = .ok (.iconst 1, 1) := by decide +kernel
theorem dX6_sets_4 : decode cX6_sets 4 = .ok (.aload_n 0, 1) := by decide +kernel
theorem dX6_sets_5 : decode cX6_sets 5 = .ok (.getfield 29, 3) := by decide +kernel
theorem dX6_sets_8 : decode cX6_sets 8 = .ok (.iconst 1, 1) := by decide +kernel
theorem dX6_sets_9 : decode cX6_sets 9 = .ok (.isub, 1) := by decide +kernel
theorem dX6_sets_10 : decode cX6_sets 10 = .ok (.ishl, 1) := by decide +kernel
theorem dX6_sets_11 : decode cX6_sets 11 = .ok (.invokestatic 43, 3) := by decide +kernel
theorem dX6_sets_14 : decode cX6_sets 14 = .ok (.ireturn, 1) := by decide +kernel
theorem dX6_bounds_0 : decode cX6_bounds 0 = .ok (.iload_n 2, 1) := by decide +kernel
theorem dX6_bounds_1 : decode cX6_bounds 1 = .ok (.aload_n 1, 1) := by decide +kernel
theorem dX6_bounds_2 : decode cX6_bounds 2 = .ok (.invokevirtual 49, 3) := by decide +kernel
theorem dX6_bounds_5 : decode cX6_bounds 5 = .ok (.ior, 1) := by decide +kernel
theorem dX6_bounds_6 : decode cX6_bounds 6 = .ok (.iconst 1, 1) := by decide +kernel
theorem dX6_bounds_7 : decode cX6_bounds 7 = .ok (.aload_n 0, 1) := by decide +kernel
theorem dX6_bounds_8 : decode cX6_bounds 8 = .ok (.getfield 29, 3) := by decide +kernel
theorem dX6_bounds_11 : decode cX6_bounds 11 = .ok (.ishl, 1) := by decide +kernel
theorem dX6_bounds_12 : decode cX6_bounds 12 = .ok (.ior, 1) := by decide +kernel
theorem dX6_bounds_13 : decode cX6_bounds 13 = .ok (.ireturn, 1) := by decide +kernel
theorem dX6_addPieces_0 : decode cX6_addPieces 0 = .ok (.aload_n 0, 1) := by decide +kernel
theorem dX6_addPieces_1 : decode cX6_addPieces 1 = .ok (.aload_n 1, 1) := by decide +kernel
theorem dX6_addPieces_2 : decode cX6_addPieces 2 = .ok (.iload_n 2, 1) := by decide +kernel
theorem dX6_addPieces_3 : decode cX6_addPieces 3 = .ok (.invokevirtual 52, 3) := by decide +kernel
theorem dX6_addPieces_6 : decode cX6_addPieces 6 = .ok (.istore 4, 2) := by decide +kernel
theorem dX6_addPieces_8 : decode cX6_addPieces 8 = .ok (.iconst 0, 1) := by decide +kernel
theorem dX6_addPieces_9 : decode cX6_addPieces 9 = .ok (.istore 5, 2) := by decide +kernel
theorem dX6_addPieces_11 : decode cX6_addPieces 11 = .ok (.iconst 1, 1) := by decide +kernel
theorem dX6_addPieces_12 : decode cX6_addPieces 12 = .ok (.istore 6, 2) := by decide +kernel
theorem dX6_addPieces_14 : decode cX6_addPieces 14 = .ok (.iload 6, 2) := by decide +kernel
theorem dX6_addPieces_16 : decode cX6_addPieces 16 = .ok (.aload_n 0, 1) := by decide +kernel
theorem dX6_addPieces_17 : decode cX6_addPieces 17 = .ok (.getfield 29, 3) := by decide +kernel
theorem dX6_addPieces_20 : decode cX6_addPieces 20 = .ok (.if_icmp .gt 41, 3) := by decide +kernel
theorem dX6_addPieces_23 : decode cX6_addPieces 23 = .ok (.iload 4, 2) := by decide +kernel
theorem dX6_addPieces_25 : decode cX6_addPieces 25 = .ok (.iload 6, 2) := by decide +kernel
theorem dX6_addPieces_27 : decode cX6_addPieces 27 = .ok (.ishr, 1) := by decide +kernel
theorem dX6_addPieces_28 : decode cX6_addPieces 28 = .ok (.iconst 1, 1) := by decide +kernel
theorem dX6_addPieces_29 : decode cX6_addPieces 29 = .ok (.iand, 1) := by decide +kernel
theorem dX6_addPieces_30 : decode cX6_addPieces 30 = .ok (.ifCond .eq 25, 3) := by decide +kernel
theorem dX6_addPieces_33 : decode cX6_addPieces 33 = .ok (.aload_n 1, 1) := by decide +kernel
theorem dX6_addPieces_34 : decode cX6_addPieces 34 = .ok (.iload 5, 2) := by decide +kernel
theorem dX6_addPieces_36 : decode cX6_addPieces 36 = .ok (.invokevirtual 56, 3) := by decide +kernel
theorem dX6_addPieces_39 : decode cX6_addPieces 39 = .ok (.ifCond .ne 12, 3) := by decide +kernel
theorem dX6_addPieces_42 : decode cX6_addPieces 42 = .ok (.aload_n 3, 1) := by decide +kernel
theorem dX6_addPieces_43 : decode cX6_addPieces 43 = .ok (.iload 6, 2) := by decide +kernel
theorem dX6_addPieces_45 : decode cX6_addPieces 45 = .ok (.iload 5, 2) := by decide +kernel
theorem dX6_addPieces_47 : decode cX6_addPieces 47 = .ok (.isub, 1) := by decide +kernel
theorem dX6_addPieces_48 : decode cX6_addPieces 48 = .ok (.invokevirtual 60, 3) := by decide +kernel
theorem dX6_addPieces_51 : decode cX6_addPieces 51 = .ok (.iload 6, 2) := by decide +kernel
theorem dX6_addPieces_53 : decode cX6_addPieces 53 = .ok (.istore 5, 2) := by decide +kernel
theorem dX6_addPieces_55 : decode cX6_addPieces 55 = .ok (.iinc 6 1, 3) := by decide +kernel
theorem dX6_addPieces_58 : decode cX6_addPieces 58 = .ok (.goto (-44), 3) := by decide +kernel
theorem dX6_addPieces_61 : decode cX6_addPieces 61 = .ok (.return_, 1) := by decide +kernel
theorem dX6_lengthAround_0 : decode cX6_lengthAround 0 = .ok (.aload_n 0, 1) := by decide +kernel
theorem dX6_lengthAround_1 : decode cX6_lengthAround 1 = .ok (.aload_n 1, 1) := by decide +kernel
theorem dX6_lengthAround_2 : decode cX6_lengthAround 2 = .ok (.aload_n 1, 1) := by decide +kernel
theorem dX6_lengthAround_3 : decode cX6_lengthAround 3 = .ok (.getfield 66, 3) := by decide +kernel
theorem dX6_lengthAround_6 : decode cX6_lengthAround 6 = .ok (.invokevirtual 52, 3) := by decide +kernel
theorem dX6_lengthAround_9 : decode cX6_lengthAround 9 = .ok (.istore_n 3, 1) := by decide +kernel
theorem dX6_lengthAround_10 : decode cX6_lengthAround 10 = .ok (.iload_n 2, 1) := by decide +kernel
theorem dX6_lengthAround_11 : decode cX6_lengthAround 11 = .ok (.istore 4, 2) := by decide +kernel
theorem dX6_lengthAround_13 : decode cX6_lengthAround 13 = .ok (.iload 4, 2) := by decide +kernel
theorem dX6_lengthAround_15 : decode cX6_lengthAround 15 = .ok (.ifCond .le 18, 3) := by decide +kernel
theorem dX6_lengthAround_18 : decode cX6_lengthAround 18 = .ok (.iload_n 3, 1) := by decide +kernel
theorem dX6_lengthAround_19 : decode cX6_lengthAround 19 = .ok (.iload 4, 2) := by decide +kernel
theorem dX6_lengthAround_21 : decode cX6_lengthAround 21 = .ok (.ishr, 1) := by decide +kernel
theorem dX6_lengthAround_22 : decode cX6_lengthAround 22 = .ok (.iconst 1, 1) := by decide +kernel
theorem dX6_lengthAround_23 : decode cX6_lengthAround 23 = .ok (.iand, 1) := by decide +kernel
theorem dX6_lengthAround_24 : decode cX6_lengthAround 24 = .ok (.ifCond .ne 9, 3) := by decide +kernel
theorem dX6_lengthAround_27 : decode cX6_lengthAround 27 = .ok (.iinc 4 (-1), 3) := by decide +kernel
theorem dX6_lengthAround_30 : decode cX6_lengthAround 30 = .ok (.goto (-17), 3) := by decide +kernel
theorem dX6_lengthAround_33 : decode cX6_lengthAround 33 = .ok (.iload_n 2, 1) := by decide +kernel
theorem dX6_lengthAround_34 : decode cX6_lengthAround 34 = .ok (.iconst 1, 1) := by decide +kernel
theorem dX6_lengthAround_35 : decode cX6_lengthAround 35 = .ok (.iadd, 1) := by decide +kernel
theorem dX6_lengthAround_36 : decode cX6_lengthAround 36 = .ok (.istore 5, 2) := by decide +kernel
theorem dX6_lengthAround_38 : decode cX6_lengthAround 38 = .ok (.iload 5, 2) := by decide +kernel
theorem dX6_lengthAround_40 : decode cX6_lengthAround 40 = .ok (.aload_n 0, 1) := by decide +kernel
theorem dX6_lengthAround_41 : decode cX6_lengthAround 41 = .ok (.getfield 29, 3) := by decide +kernel
theorem dX6_lengthAround_44 : decode cX6_lengthAround 44 = .ok (.if_icmp .ge 18, 3) := by decide +kernel
theorem dX6_lengthAround_47 : decode cX6_lengthAround 47 = .ok (.iload_n 3, 1) := by decide +kernel
theorem dX6_lengthAround_48 : decode cX6_lengthAround 48 = .ok (.iload 5, 2) := by decide +kernel
theorem dX6_lengthAround_50 : decode cX6_lengthAround 50 = .ok (.ishr, 1) := by decide +kernel
theorem dX6_lengthAround_51 : decode cX6_lengthAround 51 = .ok (.iconst 1, 1) := by decide +kernel
theorem dX6_lengthAround_52 : decode cX6_lengthAround 52 = .ok (.iand, 1) := by decide +kernel
theorem dX6_lengthAround_53 : decode cX6_lengthAround 53 = .ok (.ifCond .ne 9, 3) := by decide +kernel
theorem dX6_lengthAround_56 : decode cX6_lengthAround 56 = .ok (.iinc 5 1, 3) := by decide +kernel
theorem dX6_lengthAround_59 : decode cX6_lengthAround 59 = .ok (.goto (-21), 3) := by decide +kernel
theorem dX6_lengthAround_62 : decode cX6_lengthAround 62 = .ok (.iload 5, 2) := by decide +kernel
theorem dX6_lengthAround_64 : decode cX6_lengthAround 64 = .ok (.iload 4, 2) := by decide +kernel
theorem dX6_lengthAround_66 : decode cX6_lengthAround 66 = .ok (.isub, 1) := by decide +kernel
theorem dX6_lengthAround_67 : decode cX6_lengthAround 67 = .ok (.ireturn, 1) := by decide +kernel
theorem dX6_ruleBrokenIn_0 : decode cX6_ruleBrokenIn 0 = .ok (.aload_n 0, 1) := by decide +kernel
theorem dX6_ruleBrokenIn_1 : decode cX6_ruleBrokenIn 1 = .ok (.iload_n 1, 1) := by decide +kernel
theorem dX6_ruleBrokenIn_2 : decode cX6_ruleBrokenIn 2 = .ok (.invokevirtual 69, 3) := by decide +kernel
theorem dX6_ruleBrokenIn_5 : decode cX6_ruleBrokenIn 5 = .ok (.astore_n 2, 1) := by decide +kernel
theorem dX6_ruleBrokenIn_6 : decode cX6_ruleBrokenIn 6 = .ok (.aload_n 2, 1) := by decide +kernel
theorem dX6_ruleBrokenIn_7 : decode cX6_ruleBrokenIn 7 = .ok (.getfield 66, 3) := by decide +kernel
theorem dX6_ruleBrokenIn_10 : decode cX6_ruleBrokenIn 10 = .ok (.istore_n 3, 1) := by decide +kernel
theorem dX6_ruleBrokenIn_11 : decode cX6_ruleBrokenIn 11 = .ok (.aload_n 2, 1) := by decide +kernel
theorem dX6_ruleBrokenIn_12 : decode cX6_ruleBrokenIn 12 = .ok (.iload_n 3, 1) := by decide +kernel
theorem dX6_ruleBrokenIn_13 : decode cX6_ruleBrokenIn 13 = .ok (.invokevirtual 73, 3) := by decide +kernel
theorem dX6_ruleBrokenIn_16 : decode cX6_ruleBrokenIn 16 = .ok (.ifCond .ne 5, 3) := by decide +kernel
theorem dX6_ruleBrokenIn_19 : decode cX6_ruleBrokenIn 19 = .ok (.iconst 1, 1) := by decide +kernel
theorem dX6_ruleBrokenIn_20 : decode cX6_ruleBrokenIn 20 = .ok (.ireturn, 1) := by decide +kernel
theorem dX6_ruleBrokenIn_21 : decode cX6_ruleBrokenIn 21 = .ok (.aload_n 2, 1) := by decide +kernel
theorem dX6_ruleBrokenIn_22 : decode cX6_ruleBrokenIn 22 = .ok (.iload_n 3, 1) := by decide +kernel
theorem dX6_ruleBrokenIn_23 : decode cX6_ruleBrokenIn 23 = .ok (.invokevirtual 76, 3) := by decide +kernel
theorem dX6_ruleBrokenIn_26 : decode cX6_ruleBrokenIn 26 = .ok (.ifCond .ne 5, 3) := by decide +kernel
theorem dX6_ruleBrokenIn_29 : decode cX6_ruleBrokenIn 29 = .ok (.iconst 2, 1) := by decide +kernel
theorem dX6_ruleBrokenIn_30 : decode cX6_ruleBrokenIn 30 = .ok (.ireturn, 1) := by decide +kernel
theorem dX6_ruleBrokenIn_31 : decode cX6_ruleBrokenIn 31 = .ok (.aload_n 0, 1) := by decide +kernel
theorem dX6_ruleBrokenIn_32 : decode cX6_ruleBrokenIn 32 = .ok (.iload_n 1, 1) := by decide +kernel
theorem dX6_ruleBrokenIn_33 : decode cX6_ruleBrokenIn 33 = .ok (.iload_n 3, 1) := by decide +kernel
theorem dX6_ruleBrokenIn_34 : decode cX6_ruleBrokenIn 34 = .ok (.invokevirtual 79, 3) := by decide +kernel
theorem dX6_ruleBrokenIn_37 : decode cX6_ruleBrokenIn 37 = .ok (.istore 4, 2) := by decide +kernel
theorem dX6_ruleBrokenIn_39 : decode cX6_ruleBrokenIn 39 = .ok (.iload 4, 2) := by decide +kernel
theorem dX6_ruleBrokenIn_41 : decode cX6_ruleBrokenIn 41 = .ok (.ifCond .eq 6, 3) := by decide +kernel
theorem dX6_ruleBrokenIn_44 : decode cX6_ruleBrokenIn 44 = .ok (.iload 4, 2) := by decide +kernel
theorem dX6_ruleBrokenIn_46 : decode cX6_ruleBrokenIn 46 = .ok (.ireturn, 1) := by decide +kernel
theorem dX6_ruleBrokenIn_47 : decode cX6_ruleBrokenIn 47 = .ok (.iload_n 3, 1) := by decide +kernel
theorem dX6_ruleBrokenIn_48 : decode cX6_ruleBrokenIn 48 = .ok (.aload_n 0, 1) := by decide +kernel
theorem dX6_ruleBrokenIn_49 : decode cX6_ruleBrokenIn 49 = .ok (.iload_n 1, 1) := by decide +kernel
theorem dX6_ruleBrokenIn_50 : decode cX6_ruleBrokenIn 50 = .ok (.iconst 1, 1) := by decide +kernel
theorem dX6_ruleBrokenIn_51 : decode cX6_ruleBrokenIn 51 = .ok (.isub, 1) := by decide +kernel
theorem dX6_ruleBrokenIn_52 : decode cX6_ruleBrokenIn 52 = .ok (.invokevirtual 69, 3) := by decide +kernel
theorem dX6_ruleBrokenIn_55 : decode cX6_ruleBrokenIn 55 = .ok (.getfield 66, 3) := by decide +kernel
theorem dX6_ruleBrokenIn_58 : decode cX6_ruleBrokenIn 58 = .ok (.aload_n 0, 1) := by decide +kernel
theorem dX6_ruleBrokenIn_59 : decode cX6_ruleBrokenIn 59 = .ok (.getfield 36, 3) := by decide +kernel
theorem dX6_ruleBrokenIn_62 : decode cX6_ruleBrokenIn 62 = .ok (.invokestatic 82, 3) := by decide +kernel
theorem dX6_ruleBrokenIn_65 : decode cX6_ruleBrokenIn 65 = .ok (.iand, 1) := by decide +kernel
theorem dX6_ruleBrokenIn_66 : decode cX6_ruleBrokenIn 66 = .ok (.ifCond .eq 8, 3) := by decide +kernel
theorem dX6_ruleBrokenIn_69 : decode cX6_ruleBrokenIn 69 = .ok (.bipush 7, 2) := by decide +kernel
theorem dX6_ruleBrokenIn_71 : decode cX6_ruleBrokenIn 71 = .ok (.goto 4, 3) := by decide +kernel
theorem dX6_ruleBrokenIn_74 : decode cX6_ruleBrokenIn 74 = .ok (.iconst 0, 1) := by decide +kernel
theorem dX6_ruleBrokenIn_75 : decode cX6_ruleBrokenIn 75 = .ok (.ireturn, 1) := by decide +kernel
theorem dX6_ruleBrokenByPieces_0 : decode cX6_ruleBrokenByPieces 0 = .ok (.aload_n 0, 1) := by decide +kernel
theorem dX6_ruleBrokenByPieces_1 : decode cX6_ruleBrokenByPieces 1 = .ok (.iload_n 1, 1) := by decide +kernel
theorem dX6_ruleBrokenByPieces_2 : decode cX6_ruleBrokenByPieces 2 = .ok (.invokevirtual 69, 3) := by decide +kernel
theorem dX6_ruleBrokenByPieces_5 : decode cX6_ruleBrokenByPieces 5 = .ok (.astore_n 3, 1) := by decide +kernel
theorem dX6_ruleBrokenByPieces_6 : decode cX6_ruleBrokenByPieces 6 = .ok (.aload_n 0, 1) := by decide +kernel
theorem dX6_ruleBrokenByPieces_7 : decode cX6_ruleBrokenByPieces 7 = .ok (.aload_n 3, 1) := by decide +kernel
theorem dX6_ruleBrokenByPieces_8 : decode cX6_ruleBrokenByPieces 8 = .ok (.iload_n 2, 1) := by decide +kernel
theorem dX6_ruleBrokenByPieces_9 : decode cX6_ruleBrokenByPieces 9 = .ok (.invokevirtual 52, 3) := by decide +kernel
theorem dX6_ruleBrokenByPieces_12 : decode cX6_ruleBrokenByPieces 12 = .ok (.istore 4, 2) := by decide +kernel
theorem dX6_ruleBrokenByPieces_14 : decode cX6_ruleBrokenByPieces 14 = .ok (.iconst 0, 1) := by decide +kernel
theorem dX6_ruleBrokenByPieces_15 : decode cX6_ruleBrokenByPieces 15 = .ok (.istore 5, 2) := by decide +kernel
theorem dX6_ruleBrokenByPieces_17 : decode cX6_ruleBrokenByPieces 17 = .ok (.iconst 0, 1) := by decide +kernel
theorem dX6_ruleBrokenByPieces_18 : decode cX6_ruleBrokenByPieces 18 = .ok (.istore 6, 2) := by decide +kernel
theorem dX6_ruleBrokenByPieces_20 : decode cX6_ruleBrokenByPieces 20 = .ok (.iconst 1, 1) := by decide +kernel
theorem dX6_ruleBrokenByPieces_21 : decode cX6_ruleBrokenByPieces 21 = .ok (.istore 7, 2) := by decide +kernel
theorem dX6_ruleBrokenByPieces_23 : decode cX6_ruleBrokenByPieces 23 = .ok (.iload 7, 2) := by decide +kernel
theorem dX6_ruleBrokenByPieces_25 : decode cX6_ruleBrokenByPieces 25 = .ok (.aload_n 0, 1) := by decide +kernel
theorem dX6_ruleBrokenByPieces_26 : decode cX6_ruleBrokenByPieces 26 = .ok (.getfield 29, 3) := by decide +kernel
theorem dX6_ruleBrokenByPieces_29 : decode cX6_ruleBrokenByPieces 29 = .ok (.if_icmp .gt 68, 3) := by decide +kernel
theorem dX6_ruleBrokenByPieces_32 : decode cX6_ruleBrokenByPieces 32 = .ok (.iload 4, 2) := by decide +kernel
theorem dX6_ruleBrokenByPieces_34 : decode cX6_ruleBrokenByPieces 34 = .ok (.iload 7, 2) := by decide +kernel
theorem dX6_ruleBrokenByPieces_36 : decode cX6_ruleBrokenByPieces 36 = .ok (.ishr, 1) := by decide +kernel
theorem dX6_ruleBrokenByPieces_37 : decode cX6_ruleBrokenByPieces 37 = .ok (.iconst 1, 1) := by decide +kernel
theorem dX6_ruleBrokenByPieces_38 : decode cX6_ruleBrokenByPieces 38 = .ok (.iand, 1) := by decide +kernel
theorem dX6_ruleBrokenByPieces_39 : decode cX6_ruleBrokenByPieces 39 = .ok (.ifCond .eq 52, 3) := by decide +kernel
theorem dX6_ruleBrokenByPieces_42 : decode cX6_ruleBrokenByPieces 42 = .ok (.aload_n 3, 1) := by decide +kernel
theorem dX6_ruleBrokenByPieces_43 : decode cX6_ruleBrokenByPieces 43 = .ok (.iload 6, 2) := by decide +kernel
theorem dX6_ruleBrokenByPieces_45 : decode cX6_ruleBrokenByPieces 45 = .ok (.invokevirtual 56, 3) := by decide +kernel
theorem dX6_ruleBrokenByPieces_48 : decode cX6_ruleBrokenByPieces 48 = .ok (.ifCond .eq 7, 3) := by decide +kernel
theorem dX6_ruleBrokenByPieces_51 : decode cX6_ruleBrokenByPieces 51 = .ok (.iconst 0, 1) := by decide +kernel
theorem dX6_ruleBrokenByPieces_52 : decode cX6_ruleBrokenByPieces 52 = .ok (.goto 12, 3) := by decide +kernel
theorem dX6_ruleBrokenByPieces_55 : decode cX6_ruleBrokenByPieces 55 = .ok (.aload_n 0, 1) := by decide +kernel
theorem dX6_ruleBrokenByPieces_56 : decode cX6_ruleBrokenByPieces 56 = .ok (.iload_n 1, 1) := by decide +kernel
theorem dX6_ruleBrokenByPieces_57 : decode cX6_ruleBrokenByPieces 57 = .ok (.iload 6, 2) := by decide +kernel
theorem dX6_ruleBrokenByPieces_59 : decode cX6_ruleBrokenByPieces 59 = .ok (.iload 7, 2) := by decide +kernel
theorem dX6_ruleBrokenByPieces_61 : decode cX6_ruleBrokenByPieces 61 = .ok (.invokevirtual 85, 3) := by decide +kernel
theorem dX6_ruleBrokenByPieces_64 : decode cX6_ruleBrokenByPieces 64 = .ok (.istore 8, 2) := by decide +kernel
theorem dX6_ruleBrokenByPieces_66 : decode cX6_ruleBrokenByPieces 66 = .ok (.iload 8, 2) := by decide +kernel
theorem dX6_ruleBrokenByPieces_68 : decode cX6_ruleBrokenByPieces 68 = .ok (.ifCond .eq 19, 3) := by decide +kernel
theorem dX6_ruleBrokenByPieces_71 : decode cX6_ruleBrokenByPieces 71 = .ok (.iload 5, 2) := by decide +kernel
theorem dX6_ruleBrokenByPieces_73 : decode cX6_ruleBrokenByPieces 73 = .ok (.ifCond .eq 10, 3) := by decide +kernel
theorem dX6_ruleBrokenByPieces_76 : decode cX6_ruleBrokenByPieces 76 = .ok (.iload 8, 2) := by decide +kernel
theorem dX6_ruleBrokenByPieces_78 : decode cX6_ruleBrokenByPieces 78 = .ok (.iload 5, 2) := by decide +kernel
theorem dX6_ruleBrokenByPieces_80 : decode cX6_ruleBrokenByPieces 80 = .ok (.if_icmp .ge 7, 3) := by decide +kernel
theorem dX6_ruleBrokenByPieces_83 : decode cX6_ruleBrokenByPieces 83 = .ok (.iload 8, 2) := by decide +kernel
theorem dX6_ruleBrokenByPieces_85 : decode cX6_ruleBrokenByPieces 85 = .ok (.istore 5, 2) := by decide +kernel
theorem dX6_ruleBrokenByPieces_87 : decode cX6_ruleBrokenByPieces 87 = .ok (.iload 7, 2) := by decide +kernel
theorem dX6_ruleBrokenByPieces_89 : decode cX6_ruleBrokenByPieces 89 = .ok (.istore 6, 2) := by decide +kernel
theorem dX6_ruleBrokenByPieces_91 : decode cX6_ruleBrokenByPieces 91 = .ok (.iinc 7 1, 3) := by decide +kernel
theorem dX6_ruleBrokenByPieces_94 : decode cX6_ruleBrokenByPieces 94 = .ok (.goto (-71), 3) := by decide +kernel
theorem dX6_ruleBrokenByPieces_97 : decode cX6_ruleBrokenByPieces 97 = .ok (.iload 5, 2) := by decide +kernel
theorem dX6_ruleBrokenByPieces_99 : decode cX6_ruleBrokenByPieces 99 = .ok (.ireturn, 1) := by decide +kernel
theorem dX6_ruleBrokenByPiece_0 : decode cX6_ruleBrokenByPiece 0 = .ok (.iload_n 3, 1) := by decide +kernel
theorem dX6_ruleBrokenByPiece_1 : decode cX6_ruleBrokenByPiece 1 = .ok (.iload_n 2, 1) := by decide +kernel
theorem dX6_ruleBrokenByPiece_2 : decode cX6_ruleBrokenByPiece 2 = .ok (.isub, 1) := by decide +kernel
theorem dX6_ruleBrokenByPiece_3 : decode cX6_ruleBrokenByPiece 3 = .ok (.istore 4, 2) := by decide +kernel
theorem dX6_ruleBrokenByPiece_5 : decode cX6_ruleBrokenByPiece 5 = .ok (.aload_n 0, 1) := by decide +kernel
theorem dX6_ruleBrokenByPiece_6 : decode cX6_ruleBrokenByPiece 6 = .ok (.getfield 12, 3) := by decide +kernel
theorem dX6_ruleBrokenByPiece_9 : decode cX6_ruleBrokenByPiece 9 = .ok (.iload 4, 2) := by decide +kernel
theorem dX6_ruleBrokenByPiece_11 : decode cX6_ruleBrokenByPiece 11 = .ok (.invokevirtual 89, 3) := by decide +kernel
theorem dX6_ruleBrokenByPiece_14 : decode cX6_ruleBrokenByPiece 14 = .ok (.bipush (-9), 2) := by decide +kernel
theorem dX6_ruleBrokenByPiece_16 : decode cX6_ruleBrokenByPiece 16 = .ok (.if_icmp .ne 5, 3) := by decide +kernel
theorem dX6_ruleBrokenByPiece_19 : decode cX6_ruleBrokenByPiece 19 = .ok (.iconst 3, 1) := by decide +kernel
theorem dX6_ruleBrokenByPiece_20 : decode cX6_ruleBrokenByPiece 20 = .ok (.ireturn, 1) := by decide +kernel
theorem dX6_ruleBrokenByPiece_21 : decode cX6_ruleBrokenByPiece 21 = .ok (.iload_n 2, 1) := by decide +kernel
theorem dX6_ruleBrokenByPiece_22 : decode cX6_ruleBrokenByPiece 22 = .ok (.ifCond .ne 21, 3) := by decide +kernel
theorem dX6_ruleBrokenByPiece_25 : decode cX6_ruleBrokenByPiece 25 = .ok (.aload_n 0, 1) := by decide +kernel
theorem dX6_ruleBrokenByPiece_26 : decode cX6_ruleBrokenByPiece 26 = .ok (.getfield 12, 3) := by decide +kernel
theorem dX6_ruleBrokenByPiece_29 : decode cX6_ruleBrokenByPiece 29 = .ok (.iload_n 1, 1) := by decide +kernel
theorem dX6_ruleBrokenByPiece_30 : decode cX6_ruleBrokenByPiece 30 = .ok (.iconst 0, 1) := by decide +kernel
theorem dX6_ruleBrokenByPiece_31 : decode cX6_ruleBrokenByPiece 31 = .ok (.iload 4, 2) := by decide +kernel
theorem dX6_ruleBrokenByPiece_33 : decode cX6_ruleBrokenByPiece 33 = .ok (.invokevirtual 93, 3) := by decide +kernel
theorem dX6_ruleBrokenByPiece_36 : decode cX6_ruleBrokenByPiece 36 = .ok (.ifCond .ne 7, 3) := by decide +kernel
theorem dX6_ruleBrokenByPiece_39 : decode cX6_ruleBrokenByPiece 39 = .ok (.iconst 1, 1) := by decide +kernel
theorem dX6_ruleBrokenByPiece_40 : decode cX6_ruleBrokenByPiece 40 = .ok (.goto 4, 3) := by decide +kernel
theorem dX6_ruleBrokenByPiece_43 : decode cX6_ruleBrokenByPiece 43 = .ok (.iconst 0, 1) := by decide +kernel
theorem dX6_ruleBrokenByPiece_44 : decode cX6_ruleBrokenByPiece 44 = .ok (.istore 5, 2) := by decide +kernel
theorem dX6_ruleBrokenByPiece_46 : decode cX6_ruleBrokenByPiece 46 = .ok (.iload_n 3, 1) := by decide +kernel
theorem dX6_ruleBrokenByPiece_47 : decode cX6_ruleBrokenByPiece 47 = .ok (.aload_n 0, 1) := by decide +kernel
theorem dX6_ruleBrokenByPiece_48 : decode cX6_ruleBrokenByPiece 48 = .ok (.getfield 29, 3) := by decide +kernel
theorem dX6_ruleBrokenByPiece_51 : decode cX6_ruleBrokenByPiece 51 = .ok (.if_icmp .ne 21, 3) := by decide +kernel
theorem dX6_ruleBrokenByPiece_54 : decode cX6_ruleBrokenByPiece 54 = .ok (.aload_n 0, 1) := by decide +kernel
theorem dX6_ruleBrokenByPiece_55 : decode cX6_ruleBrokenByPiece 55 = .ok (.getfield 12, 3) := by decide +kernel
theorem dX6_ruleBrokenByPiece_58 : decode cX6_ruleBrokenByPiece 58 = .ok (.iload_n 1, 1) := by decide +kernel
theorem dX6_ruleBrokenByPiece_59 : decode cX6_ruleBrokenByPiece 59 = .ok (.iconst 1, 1) := by decide +kernel
theorem dX6_ruleBrokenByPiece_60 : decode cX6_ruleBrokenByPiece 60 = .ok (.iload 4, 2) := by decide +kernel
theorem dX6_ruleBrokenByPiece_62 : decode cX6_ruleBrokenByPiece 62 = .ok (.invokevirtual 93, 3) := by decide +kernel
theorem dX6_ruleBrokenByPiece_65 : decode cX6_ruleBrokenByPiece 65 = .ok (.ifCond .ne 7, 3) := by decide +kernel
theorem dX6_ruleBrokenByPiece_68 : decode cX6_ruleBrokenByPiece 68 = .ok (.iconst 1, 1) := by decide +kernel
theorem dX6_ruleBrokenByPiece_69 : decode cX6_ruleBrokenByPiece 69 = .ok (.goto 4, 3) := by decide +kernel
theorem dX6_ruleBrokenByPiece_72 : decode cX6_ruleBrokenByPiece 72 = .ok (.iconst 0, 1) := by decide +kernel
theorem dX6_ruleBrokenByPiece_73 : decode cX6_ruleBrokenByPiece 73 = .ok (.istore 6, 2) := by decide +kernel
theorem dX6_ruleBrokenByPiece_75 : decode cX6_ruleBrokenByPiece 75 = .ok (.iload 5, 2) := by decide +kernel
theorem dX6_ruleBrokenByPiece_77 : decode cX6_ruleBrokenByPiece 77 = .ok (.ifCond .ne 8, 3) := by decide +kernel
theorem dX6_ruleBrokenByPiece_80 : decode cX6_ruleBrokenByPiece 80 = .ok (.iload 6, 2) := by decide +kernel
theorem dX6_ruleBrokenByPiece_82 : decode cX6_ruleBrokenByPiece 82 = .ok (.ifCond .eq 5, 3) := by decide +kernel
theorem dX6_ruleBrokenByPiece_85 : decode cX6_ruleBrokenByPiece 85 = .ok (.iconst 4, 1) := by decide +kernel
theorem dX6_ruleBrokenByPiece_86 : decode cX6_ruleBrokenByPiece 86 = .ok (.ireturn, 1) := by decide +kernel
theorem dX6_ruleBrokenByPiece_87 : decode cX6_ruleBrokenByPiece 87 = .ok (.aload_n 0, 1) := by decide +kernel
theorem dX6_ruleBrokenByPiece_88 : decode cX6_ruleBrokenByPiece 88 = .ok (.iload_n 1, 1) := by decide +kernel
theorem dX6_ruleBrokenByPiece_89 : decode cX6_ruleBrokenByPiece 89 = .ok (.iconst 1, 1) := by decide +kernel
theorem dX6_ruleBrokenByPiece_90 : decode cX6_ruleBrokenByPiece 90 = .ok (.isub, 1) := by decide +kernel
theorem dX6_ruleBrokenByPiece_91 : decode cX6_ruleBrokenByPiece 91 = .ok (.invokevirtual 69, 3) := by decide +kernel
theorem dX6_ruleBrokenByPiece_94 : decode cX6_ruleBrokenByPiece 94 = .ok (.astore 7, 2) := by decide +kernel
theorem dX6_ruleBrokenByPiece_96 : decode cX6_ruleBrokenByPiece 96 = .ok (.aload 7, 2) := by decide +kernel
theorem dX6_ruleBrokenByPiece_98 : decode cX6_ruleBrokenByPiece 98 = .ok (.iload_n 2, 1) := by decide +kernel
theorem dX6_ruleBrokenByPiece_99 : decode cX6_ruleBrokenByPiece 99 = .ok (.invokevirtual 56, 3) := by decide +kernel
theorem dX6_ruleBrokenByPiece_102 : decode cX6_ruleBrokenByPiece 102 = .ok (.ifCond .ne 14, 3) := by decide +kernel
theorem dX6_ruleBrokenByPiece_105 : decode cX6_ruleBrokenByPiece 105 = .ok (.aload 7, 2) := by decide +kernel
theorem dX6_ruleBrokenByPiece_107 : decode cX6_ruleBrokenByPiece 107 = .ok (.iload_n 3, 1) := by decide +kernel
theorem dX6_ruleBrokenByPiece_108 : decode cX6_ruleBrokenByPiece 108 = .ok (.iconst 1, 1) := by decide +kernel
theorem dX6_ruleBrokenByPiece_109 : decode cX6_ruleBrokenByPiece 109 = .ok (.isub, 1) := by decide +kernel
theorem dX6_ruleBrokenByPiece_110 : decode cX6_ruleBrokenByPiece 110 = .ok (.invokevirtual 56, 3) := by decide +kernel
theorem dX6_ruleBrokenByPiece_113 : decode cX6_ruleBrokenByPiece 113 = .ok (.ifCond .eq 5, 3) := by decide +kernel
theorem dX6_ruleBrokenByPiece_116 : decode cX6_ruleBrokenByPiece 116 = .ok (.iconst 5, 1) := by decide +kernel
theorem dX6_ruleBrokenByPiece_117 : decode cX6_ruleBrokenByPiece 117 = .ok (.ireturn, 1) := by decide +kernel
theorem dX6_ruleBrokenByPiece_118 : decode cX6_ruleBrokenByPiece 118 = .ok (.iconst 1, 1) := by decide +kernel
theorem dX6_ruleBrokenByPiece_119 : decode cX6_ruleBrokenByPiece 119 = .ok (.iload_n 3, 1) := by decide +kernel
theorem dX6_ruleBrokenByPiece_120 : decode cX6_ruleBrokenByPiece 120 = .ok (.ishl, 1) := by decide +kernel
theorem dX6_ruleBrokenByPiece_121 : decode cX6_ruleBrokenByPiece 121 = .ok (.iconst 1, 1) := by decide +kernel
theorem dX6_ruleBrokenByPiece_122 : decode cX6_ruleBrokenByPiece 122 = .ok (.iload_n 2, 1) := by decide +kernel
theorem dX6_ruleBrokenByPiece_123 : decode cX6_ruleBrokenByPiece 123 = .ok (.ishl, 1) := by decide +kernel
theorem dX6_ruleBrokenByPiece_124 : decode cX6_ruleBrokenByPiece 124 = .ok (.isub, 1) := by decide +kernel
theorem dX6_ruleBrokenByPiece_125 : decode cX6_ruleBrokenByPiece 125 = .ok (.istore 8, 2) := by decide +kernel
theorem dX6_ruleBrokenByPiece_127 : decode cX6_ruleBrokenByPiece 127 = .ok (.iload 4, 2) := by decide +kernel
theorem dX6_ruleBrokenByPiece_129 : decode cX6_ruleBrokenByPiece 129 = .ok (.iconst 4, 1) := by decide +kernel
theorem dX6_ruleBrokenByPiece_130 : decode cX6_ruleBrokenByPiece 130 = .ok (.if_icmp .le 17, 3) := by decide +kernel
theorem dX6_ruleBrokenByPiece_133 : decode cX6_ruleBrokenByPiece 133 = .ok (.aload 7, 2) := by decide +kernel
theorem dX6_ruleBrokenByPiece_135 : decode cX6_ruleBrokenByPiece 135 = .ok (.getfield 97, 3) := by decide +kernel
theorem dX6_ruleBrokenByPiece_138 : decode cX6_ruleBrokenByPiece 138 = .ok (.iload 8, 2) := by decide +kernel
theorem dX6_ruleBrokenByPiece_140 : decode cX6_ruleBrokenByPiece 140 = .ok (.iand, 1) := by decide +kernel
theorem dX6_ruleBrokenByPiece_141 : decode cX6_ruleBrokenByPiece 141 = .ok (.ifCond .ne 6, 3) := by decide +kernel
theorem dX6_ruleBrokenByPiece_144 : decode cX6_ruleBrokenByPiece 144 = .ok (.bipush 6, 2) := by decide +kernel
theorem dX6_ruleBrokenByPiece_146 : decode cX6_ruleBrokenByPiece 146 = .ok (.ireturn, 1) := by decide +kernel
theorem dX6_ruleBrokenByPiece_147 : decode cX6_ruleBrokenByPiece 147 = .ok (.iconst 0, 1) := by decide +kernel
theorem dX6_ruleBrokenByPiece_148 : decode cX6_ruleBrokenByPiece 148 = .ok (.ireturn, 1) := by decide +kernel
theorem dX6_costBetween_0 : decode cX6_costBetween 0 = .ok (.aload_n 0, 1) := by decide +kernel
theorem dX6_costBetween_1 : decode cX6_costBetween 1 = .ok (.iload_n 1, 1) := by decide +kernel
theorem dX6_costBetween_2 : decode cX6_costBetween 2 = .ok (.invokevirtual 69, 3) := by decide +kernel
theorem dX6_costBetween_5 : decode cX6_costBetween 5 = .ok (.astore 4, 2) := by decide +kernel
theorem dX6_costBetween_7 : decode cX6_costBetween 7 = .ok (.aload_n 0, 1) := by decide +kernel
theorem dX6_costBetween_8 : decode cX6_costBetween 8 = .ok (.aload 4, 2) := by decide +kernel
theorem dX6_costBetween_10 : decode cX6_costBetween 10 = .ok (.iconst 1, 1) := by decide +kernel
theorem dX6_costBetween_11 : decode cX6_costBetween 11 = .ok (.iload_n 3, 1) := by decide +kernel
theorem dX6_costBetween_12 : decode cX6_costBetween 12 = .ok (.ishl, 1) := by decide +kernel
theorem dX6_costBetween_13 : decode cX6_costBetween 13 = .ok (.invokevirtual 52, 3) := by decide +kernel
theorem dX6_costBetween_16 : decode cX6_costBetween 16 = .ok (.istore 5, 2) := by decide +kernel
theorem dX6_costBetween_18 : decode cX6_costBetween 18 = .ok (.iconst 0, 1) := by decide +kernel
theorem dX6_costBetween_19 : decode cX6_costBetween 19 = .ok (.istore 6, 2) := by decide +kernel
theorem dX6_costBetween_21 : decode cX6_costBetween 21 = .ok (.iload_n 2, 1) := by decide +kernel
theorem dX6_costBetween_22 : decode cX6_costBetween 22 = .ok (.istore 7, 2) := by decide +kernel
theorem dX6_costBetween_24 : decode cX6_costBetween 24 = .ok (.iload_n 2, 1) := by decide +kernel
theorem dX6_costBetween_25 : decode cX6_costBetween 25 = .ok (.iconst 1, 1) := by decide +kernel
theorem dX6_costBetween_26 : decode cX6_costBetween 26 = .ok (.iadd, 1) := by decide +kernel
theorem dX6_costBetween_27 : decode cX6_costBetween 27 = .ok (.istore 8, 2) := by decide +kernel
theorem dX6_costBetween_29 : decode cX6_costBetween 29 = .ok (.iload 8, 2) := by decide +kernel
theorem dX6_costBetween_31 : decode cX6_costBetween 31 = .ok (.iload_n 3, 1) := by decide +kernel
theorem dX6_costBetween_32 : decode cX6_costBetween 32 = .ok (.if_icmp .gt 65, 3) := by decide +kernel
theorem dX6_costBetween_35 : decode cX6_costBetween 35 = .ok (.iload 5, 2) := by decide +kernel
theorem dX6_costBetween_37 : decode cX6_costBetween 37 = .ok (.iload 8, 2) := by decide +kernel
theorem dX6_costBetween_39 : decode cX6_costBetween 39 = .ok (.ishr, 1) := by decide +kernel
theorem dX6_costBetween_40 : decode cX6_costBetween 40 = .ok (.iconst 1, 1) := by decide +kernel
theorem dX6_costBetween_41 : decode cX6_costBetween 41 = .ok (.iand, 1) := by decide +kernel
theorem dX6_costBetween_42 : decode cX6_costBetween 42 = .ok (.ifCond .eq 49, 3) := by decide +kernel
theorem dX6_costBetween_45 : decode cX6_costBetween 45 = .ok (.aload 4, 2) := by decide +kernel
theorem dX6_costBetween_47 : decode cX6_costBetween 47 = .ok (.iload 7, 2) := by decide +kernel
theorem dX6_costBetween_49 : decode cX6_costBetween 49 = .ok (.invokevirtual 56, 3) := by decide +kernel
theorem dX6_costBetween_52 : decode cX6_costBetween 52 = .ok (.ifCond .ne 35, 3) := by decide +kernel
theorem dX6_costBetween_55 : decode cX6_costBetween 55 = .ok (.aload_n 0, 1) := by decide +kernel
theorem dX6_costBetween_56 : decode cX6_costBetween 56 = .ok (.iload_n 1, 1) := by decide +kernel
theorem dX6_costBetween_57 : decode cX6_costBetween 57 = .ok (.iload 7, 2) := by decide +kernel
theorem dX6_costBetween_59 : decode cX6_costBetween 59 = .ok (.iload 8, 2) := by decide +kernel
theorem dX6_costBetween_61 : decode cX6_costBetween 61 = .ok (.invokevirtual 85, 3) := by decide +kernel
theorem dX6_costBetween_64 : decode cX6_costBetween 64 = .ok (.ifCond .eq 6, 3) := by decide +kernel
theorem dX6_costBetween_67 : decode cX6_costBetween 67 = .ok (.ldc 100, 2) := by decide +kernel
theorem dX6_costBetween_69 : decode cX6_costBetween 69 = .ok (.ireturn, 1) := by decide +kernel
theorem dX6_costBetween_70 : decode cX6_costBetween 70 = .ok (.iload 6, 2) := by decide +kernel
theorem dX6_costBetween_72 : decode cX6_costBetween 72 = .ok (.aload_n 0, 1) := by decide +kernel
theorem dX6_costBetween_73 : decode cX6_costBetween 73 = .ok (.getfield 12, 3) := by decide +kernel
theorem dX6_costBetween_76 : decode cX6_costBetween 76 = .ok (.iload 8, 2) := by decide +kernel
theorem dX6_costBetween_78 : decode cX6_costBetween 78 = .ok (.iload 7, 2) := by decide +kernel
theorem dX6_costBetween_80 : decode cX6_costBetween 80 = .ok (.isub, 1) := by decide +kernel
theorem dX6_costBetween_81 : decode cX6_costBetween 81 = .ok (.invokevirtual 89, 3) := by decide +kernel
theorem dX6_costBetween_84 : decode cX6_costBetween 84 = .ok (.iadd, 1) := by decide +kernel
theorem dX6_costBetween_85 : decode cX6_costBetween 85 = .ok (.istore 6, 2) := by decide +kernel
theorem dX6_costBetween_87 : decode cX6_costBetween 87 = .ok (.iload 8, 2) := by decide +kernel
theorem dX6_costBetween_89 : decode cX6_costBetween 89 = .ok (.istore 7, 2) := by decide +kernel
theorem dX6_costBetween_91 : decode cX6_costBetween 91 = .ok (.iinc 8 1, 3) := by decide +kernel
theorem dX6_costBetween_94 : decode cX6_costBetween 94 = .ok (.goto (-65), 3) := by decide +kernel
theorem dX6_costBetween_97 : decode cX6_costBetween 97 = .ok (.iload 6, 2) := by decide +kernel
theorem dX6_costBetween_99 : decode cX6_costBetween 99 = .ok (.ireturn, 1) := by decide +kernel
theorem dX6_near_0 : decode cX6_near 0 = .ok (.iload_n 0, 1) := by decide +kernel
theorem dX6_near_1 : decode cX6_near 1 = .ok (.istore_n 2, 1) := by decide +kernel
theorem dX6_near_2 : decode cX6_near 2 = .ok (.iconst 1, 1) := by decide +kernel
theorem dX6_near_3 : decode cX6_near 3 = .ok (.istore_n 3, 1) := by decide +kernel
theorem dX6_near_4 : decode cX6_near 4 = .ok (.iload_n 3, 1) := by decide +kernel
theorem dX6_near_5 : decode cX6_near 5 = .ok (.iload_n 1, 1) := by decide +kernel
theorem dX6_near_6 : decode cX6_near 6 = .ok (.if_icmp .ge 19, 3) := by decide +kernel
theorem dX6_near_9 : decode cX6_near 9 = .ok (.iload_n 2, 1) := by decide +kernel
theorem dX6_near_10 : decode cX6_near 10 = .ok (.iload_n 0, 1) := by decide +kernel
theorem dX6_near_11 : decode cX6_near 11 = .ok (.iload_n 3, 1) := by decide +kernel
theorem dX6_near_12 : decode cX6_near 12 = .ok (.ishl, 1) := by decide +kernel
theorem dX6_near_13 : decode cX6_near 13 = .ok (.iload_n 0, 1) := by decide +kernel
theorem dX6_near_14 : decode cX6_near 14 = .ok (.iload_n 3, 1) := by decide +kernel
theorem dX6_near_15 : decode cX6_near 15 = .ok (.ishr, 1) := by decide +kernel
theorem dX6_near_16 : decode cX6_near 16 = .ok (.ior, 1) := by decide +kernel
theorem dX6_near_17 : decode cX6_near 17 = .ok (.ior, 1) := by decide +kernel
theorem dX6_near_18 : decode cX6_near 18 = .ok (.istore_n 2, 1) := by decide +kernel
theorem dX6_near_19 : decode cX6_near 19 = .ok (.iinc 3 1, 3) := by decide +kernel
theorem dX6_near_22 : decode cX6_near 22 = .ok (.goto (-18), 3) := by decide +kernel
theorem dX6_near_25 : decode cX6_near 25 = .ok (.iload_n 2, 1) := by decide +kernel
theorem dX6_near_26 : decode cX6_near 26 = .ok (.ireturn, 1) := by decide +kernel
theorem dX7_init_0 : decode cX7_init 0 = .ok (.aload_n 0, 1) := by decide +kernel
theorem dX7_init_1 : decode cX7_init 1 = .ok (.invokespecial 3, 3) := by decide +kernel
theorem dX7_init_4 : decode cX7_init 4 = .ok (.aload_n 0, 1) := by decide +kernel
theorem dX7_init_5 : decode cX7_init 5 = .ok (.new 9, 3) := by decide +kernel
theorem dX7_init_8 : decode cX7_init 8 = .ok (.dup, 1) := by decide +kernel
theorem dX7_init_9 : decode cX7_init 9 = .ok (.invokespecial 11, 3) := by decide +kernel
theorem dX7_init_12 : decode cX7_init 12 = .ok (.putfield 12, 3) := by decide +kernel
theorem dX7_init_15 : decode cX7_init 15 = .ok (.aload_n 0, 1) := by decide +kernel
theorem dX7_init_16 : decode cX7_init 16 = .ok (.new 18, 3) := by decide +kernel
theorem dX7_init_19 : decode cX7_init 19 = .ok (.dup, 1) := by decide +kernel
theorem dX7_init_20 : decode cX7_init 20 = .ok (.aload_n 0, 1) := by decide +kernel
theorem dX7_init_21 : decode cX7_init 21 = .ok (.getfield 12, 3) := by decide +kernel
theorem dX7_init_24 : decode cX7_init 24 = .ok (.invokespecial 20, 3) := by decide +kernel
theorem dX7_init_27 : decode cX7_init 27 = .ok (.putfield 23, 3) := by decide +kernel
theorem dX7_init_30 : decode cX7_init 30 = .ok (.aload_n 0, 1) := by decide +kernel
theorem dX7_init_31 : decode cX7_init 31 = .ok (.new 27, 3) := by decide +kernel
theorem dX7_init_34 : decode cX7_init 34 = .ok (.dup, 1) := by decide +kernel
theorem dX7_init_35 : decode cX7_init 35 = .ok (.aload_n 0, 1) := by decide +kernel
theorem dX7_init_36 : decode cX7_init 36 = .ok (.getfield 12, 3) := by decide +kernel
theorem dX7_init_39 : decode cX7_init 39 = .ok (.aload_n 0, 1) := by decide +kernel
theorem dX7_init_40 : decode cX7_init 40 = .ok (.getfield 23, 3) := by decide +kernel
theorem dX7_init_43 : decode cX7_init 43 = .ok (.invokespecial 29, 3) := by decide +kernel
theorem dX7_init_46 : decode cX7_init 46 = .ok (.putfield 32, 3) := by decide +kernel
theorem dX7_init_49 : decode cX7_init 49 = .ok (.aload_n 0, 1) := by decide +kernel
theorem dX7_init_50 : decode cX7_init 50 = .ok (.new 36, 3) := by decide +kernel
theorem dX7_init_53 : decode cX7_init 53 = .ok (.dup, 1) := by decide +kernel
theorem dX7_init_54 : decode cX7_init 54 = .ok (.aload_n 0, 1) := by decide +kernel
theorem dX7_init_55 : decode cX7_init 55 = .ok (.getfield 12, 3) := by decide +kernel
theorem dX7_init_58 : decode cX7_init 58 = .ok (.aload_n 0, 1) := by decide +kernel
theorem dX7_init_59 : decode cX7_init 59 = .ok (.getfield 23, 3) := by decide +kernel
theorem dX7_init_62 : decode cX7_init 62 = .ok (.invokespecial 38, 3) := by decide +kernel
theorem dX7_init_65 : decode cX7_init 65 = .ok (.putfield 39, 3) := by decide +kernel
theorem dX7_init_68 : decode cX7_init 68 = .ok (.aload_n 0, 1) := by decide +kernel
theorem dX7_init_69 : decode cX7_init 69 = .ok (.new 43, 3) := by decide +kernel
theorem dX7_init_72 : decode cX7_init 72 = .ok (.dup, 1) := by decide +kernel
theorem dX7_init_73 : decode cX7_init 73 = .ok (.invokespecial 45, 3) := by decide +kernel
theorem dX7_init_76 : decode cX7_init 76 = .ok (.putfield 46, 3) := by decide +kernel
theorem dX7_init_79 : decode cX7_init 79 = .ok (.return_, 1) := by decide +kernel
theorem dX7_width_0 : decode cX7_width 0 = .ok (.iload_n 1, 1) := by decide +kernel
theorem dX7_width_1 : decode cX7_width 1 = .ok (.iconst 2, 1) := by decide +kernel
theorem dX7_width_2 : decode cX7_width 2 = .ok (.if_icmp .lt 9, 3) := by decide +kernel
theorem dX7_width_5 : decode cX7_width 5 = .ok (.iload_n 1, 1) := by decide +kernel
theorem dX7_width_6 : decode cX7_width 6 = .ok (.bipush 10, 2) := by decide +kernel
theorem dX7_width_8 : decode cX7_width 8 = .ok (.if_icmp .le 6, 3) := by decide +kernel
theorem dX7_width_11 : decode cX7_width 11 = .ok (.bipush (-2), 2) := by decide +kernel
theorem dX7_width_13 : decode cX7_width 13 = .ok (.ireturn, 1) := by decide +kernel
theorem dX7_width_14 : decode cX7_width 14 = .ok (.aload_n 0, 1) := by decide +kernel
theorem dX7_width_15 : decode cX7_width 15 = .ok (.getfield 12, 3) := by decide +kernel
theorem dX7_width_18 : decode cX7_width 18 = .ok (.iload_n 1, 1) := by decide +kernel
theorem dX7_width_19 : decode cX7_width 19 = .ok (.putfield 50, 3) := by decide +kernel
theorem dX7_width_22 : decode cX7_width 22 = .ok (.aload_n 0, 1) := by decide +kernel
theorem dX7_width_23 : decode cX7_width 23 = .ok (.getfield 12, 3) := by decide +kernel
theorem dX7_width_26 : decode cX7_width 26 = .ok (.iconst 0, 1) := by decide +kernel
theorem dX7_width_27 : decode cX7_width 27 = .ok (.putfield 54, 3) := by decide +kernel
theorem dX7_width_30 : decode cX7_width 30 = .ok (.aload_n 0, 1) := by decide +kernel
theorem dX7_width_31 : decode cX7_width 31 = .ok (.invokevirtual 57, 3) := by decide +kernel
theorem dX7_width_34 : decode cX7_width 34 = .ok (.iconst 1, 1) := by decide +kernel
theorem dX7_width_35 : decode cX7_width 35 = .ok (.ireturn, 1) := by decide +kernel
theorem dX7_course_0 : decode cX7_course 0 = .ok (.aload_n 0, 1) := by decide +kernel
theorem dX7_course_1 : decode cX7_course 1 = .ok (.getfield 12, 3) := by decide +kernel
theorem dX7_course_4 : decode cX7_course 4 = .ok (.getfield 54, 3) := by decide +kernel
theorem dX7_course_7 : decode cX7_course 7 = .ok (.bipush 8, 2) := by decide +kernel
theorem dX7_course_9 : decode cX7_course 9 = .ok (.if_icmp .lt 6, 3) := by decide +kernel
theorem dX7_course_12 : decode cX7_course 12 = .ok (.bipush (-4), 2) := by decide +kernel
theorem dX7_course_14 : decode cX7_course 14 = .ok (.ireturn, 1) := by decide +kernel
theorem dX7_course_15 : decode cX7_course 15 = .ok (.aload_n 0, 1) := by decide +kernel
theorem dX7_course_16 : decode cX7_course 16 = .ok (.getfield 12, 3) := by decide +kernel
theorem dX7_course_19 : decode cX7_course 19 = .ok (.getfield 54, 3) := by decide +kernel
theorem dX7_course_22 : decode cX7_course 22 = .ok (.istore_n 1, 1) := by decide +kernel
theorem dX7_course_23 : decode cX7_course 23 = .ok (.aload_n 0, 1) := by decide +kernel
theorem dX7_course_24 : decode cX7_course 24 = .ok (.getfield 12, 3) := by decide +kernel
theorem dX7_course_27 : decode cX7_course 27 = .ok (.iload_n 1, 1) := by decide +kernel
theorem dX7_course_28 : decode cX7_course 28 = .ok (.iconst 1, 1) := by decide +kernel
theorem dX7_course_29 : decode cX7_course 29 = .ok (.iadd, 1) := by decide +kernel
theorem dX7_course_30 : decode cX7_course 30 = .ok (.putfield 54, 3) := by decide +kernel
theorem dX7_course_33 : decode cX7_course 33 = .ok (.aload_n 0, 1) := by decide +kernel
theorem dX7_course_34 : decode cX7_course 34 = .ok (.getfield 12, 3) := by decide +kernel
theorem dX7_course_37 : decode cX7_course 37 = .ok (.iload_n 1, 1) := by decide +kernel
theorem dX7_course_38 : decode cX7_course 38 = .ok (.invokevirtual 60, 3) := by decide +kernel
theorem dX7_course_41 : decode cX7_course 41 = .ok (.invokevirtual 64, 3) := by decide +kernel
theorem dX7_course_44 : decode cX7_course 44 = .ok (.aload_n 0, 1) := by decide +kernel
theorem dX7_course_45 : decode cX7_course 45 = .ok (.invokevirtual 57, 3) := by decide +kernel
theorem dX7_course_48 : decode cX7_course 48 = .ok (.iload_n 1, 1) := by decide +kernel
theorem dX7_course_49 : decode cX7_course 49 = .ok (.ireturn, 1) := by decide +kernel
theorem dX7_take_0 : decode cX7_take 0 = .ok (.aload_n 0, 1) := by decide +kernel
theorem dX7_take_1 : decode cX7_take 1 = .ok (.getfield 12, 3) := by decide +kernel
theorem dX7_take_4 : decode cX7_take 4 = .ok (.getfield 54, 3) := by decide +kernel
theorem dX7_take_7 : decode cX7_take 7 = .ok (.ifCond .gt 6, 3) := by decide +kernel
theorem dX7_take_10 : decode cX7_take 10 = .ok (.bipush (-3), 2) := by decide +kernel
theorem dX7_take_12 : decode cX7_take 12 = .ok (.ireturn, 1) := by decide +kernel
theorem dX7_take_13 : decode cX7_take 13 = .ok (.aload_n 0, 1) := by decide +kernel
theorem dX7_take_14 : decode cX7_take 14 = .ok (.getfield 12, 3) := by decide +kernel
theorem dX7_take_17 : decode cX7_take 17 = .ok (.dup, 1) := by decide +kernel
theorem dX7_take_18 : decode cX7_take 18 = .ok (.getfield 54, 3) := by decide +kernel
theorem dX7_take_21 : decode cX7_take 21 = .ok (.iconst 1, 1) := by decide +kernel
theorem dX7_take_22 : decode cX7_take 22 = .ok (.isub, 1) := by decide +kernel
theorem dX7_take_23 : decode cX7_take 23 = .ok (.putfield 54, 3) := by decide +kernel
theorem dX7_take_26 : decode cX7_take 26 = .ok (.aload_n 0, 1) := by decide +kernel
theorem dX7_take_27 : decode cX7_take 27 = .ok (.invokevirtual 57, 3) := by decide +kernel
theorem dX7_take_30 : decode cX7_take 30 = .ok (.aload_n 0, 1) := by decide +kernel
theorem dX7_take_31 : decode cX7_take 31 = .ok (.getfield 12, 3) := by decide +kernel
theorem dX7_take_34 : decode cX7_take 34 = .ok (.getfield 54, 3) := by decide +kernel
theorem dX7_take_37 : decode cX7_take 37 = .ok (.ireturn, 1) := by decide +kernel
theorem dX7_open_0 : decode cX7_open 0 = .ok (.aload_n 0, 1) := by decide +kernel
theorem dX7_open_1 : decode cX7_open 1 = .ok (.getfield 12, 3) := by decide +kernel
theorem dX7_open_4 : decode cX7_open 4 = .ok (.iload_n 1, 1) := by decide +kernel
theorem dX7_open_5 : decode cX7_open 5 = .ok (.invokevirtual 69, 3) := by decide +kernel
theorem dX7_open_8 : decode cX7_open 8 = .ok (.ifCond .ne 5, 3) := by decide +kernel
theorem dX7_open_11 : decode cX7_open 11 = .ok (.iconst (-1), 1) := by decide +kernel
theorem dX7_open_12 : decode cX7_open 12 = .ok (.ireturn, 1) := by decide +kernel
theorem dX7_open_13 : decode cX7_open 13 = .ok (.iload_n 2, 1) := by decide +kernel
theorem dX7_open_14 : decode cX7_open 14 = .ok (.aload_n 0, 1) := by decide +kernel
theorem dX7_open_15 : decode cX7_open 15 = .ok (.getfield 12, 3) := by decide +kernel
theorem dX7_open_18 : decode cX7_open 18 = .ok (.invokevirtual 73, 3) := by decide +kernel
theorem dX7_open_21 : decode cX7_open 21 = .ok (.iconst (-1), 1) := by decide +kernel
theorem dX7_open_22 : decode cX7_open 22 = .ok (.ixor, 1) := by decide +kernel
theorem dX7_open_23 : decode cX7_open 23 = .ok (.iand, 1) := by decide +kernel
theorem dX7_open_24 : decode cX7_open 24 = .ok (.ifCond .eq 6, 3) := by decide +kernel
theorem dX7_open_27 : decode cX7_open 27 = .ok (.bipush (-2), 2) := by decide +kernel
theorem dX7_open_29 : decode cX7_open 29 = .ok (.ireturn, 1) := by decide +kernel
theorem dX7_open_30 : decode cX7_open 30 = .ok (.aload_n 0, 1) := by decide +kernel
theorem dX7_open_31 : decode cX7_open 31 = .ok (.getfield 12, 3) := by decide +kernel
theorem dX7_open_34 : decode cX7_open 34 = .ok (.iload_n 1, 1) := by decide +kernel
theorem dX7_open_35 : decode cX7_open 35 = .ok (.invokevirtual 60, 3) := by decide +kernel
theorem dX7_open_38 : decode cX7_open 38 = .ok (.astore_n 3, 1) := by decide +kernel
theorem dX7_open_39 : decode cX7_open 39 = .ok (.aload_n 3, 1) := by decide +kernel
theorem dX7_open_40 : decode cX7_open 40 = .ok (.getfield 77, 3) := by decide +kernel
theorem dX7_open_43 : decode cX7_open 43 = .ok (.istore 4, 2) := by decide +kernel
theorem dX7_open_45 : decode cX7_open 45 = .ok (.aload_n 3, 1) := by decide +kernel
theorem dX7_open_46 : decode cX7_open 46 = .ok (.iload_n 2, 1) := by decide +kernel
theorem dX7_open_47 : decode cX7_open 47 = .ok (.putfield 77, 3) := by decide +kernel
theorem dX7_open_50 : decode cX7_open 50 = .ok (.aload_n 0, 1) := by decide +kernel
theorem dX7_open_51 : decode cX7_open 51 = .ok (.invokevirtual 57, 3) := by decide +kernel
theorem dX7_open_54 : decode cX7_open 54 = .ok (.iload 4, 2) := by decide +kernel
theorem dX7_open_56 : decode cX7_open 56 = .ok (.ireturn, 1) := by decide +kernel
theorem dX7_must_0 : decode cX7_must 0 = .ok (.aload_n 0, 1) := by decide +kernel
theorem dX7_must_1 : decode cX7_must 1 = .ok (.getfield 12, 3) := by decide +kernel
theorem dX7_must_4 : decode cX7_must 4 = .ok (.iload_n 1, 1) := by decide +kernel
theorem dX7_must_5 : decode cX7_must 5 = .ok (.invokevirtual 69, 3) := by decide +kernel
theorem dX7_must_8 : decode cX7_must 8 = .ok (.ifCond .ne 5, 3) := by decide +kernel
theorem dX7_must_11 : decode cX7_must 11 = .ok (.iconst (-1), 1) := by decide +kernel
theorem dX7_must_12 : decode cX7_must 12 = .ok (.ireturn, 1) := by decide +kernel
theorem dX7_must_13 : decode cX7_must 13 = .ok (.iload_n 2, 1) := by decide +kernel
theorem dX7_must_14 : decode cX7_must 14 = .ok (.ifCond .lt 22, 3) := by decide +kernel
theorem dX7_must_17 : decode cX7_must 17 = .ok (.iload_n 2, 1) := by decide +kernel
theorem dX7_must_18 : decode cX7_must 18 = .ok (.iconst 1, 1) := by decide +kernel
theorem dX7_must_19 : decode cX7_must 19 = .ok (.if_icmp .gt 17, 3) := by decide +kernel
theorem dX7_must_22 : decode cX7_must 22 = .ok (.iload_n 3, 1) := by decide +kernel
theorem dX7_must_23 : decode cX7_must 23 = .ok (.aload_n 0, 1) := by decide +kernel
theorem dX7_must_24 : decode cX7_must 24 = .ok (.getfield 12, 3) := by decide +kernel
theorem dX7_must_27 : decode cX7_must 27 = .ok (.invokevirtual 80, 3) := by decide +kernel
theorem dX7_must_30 : decode cX7_must 30 = .ok (.iconst (-1), 1) := by decide +kernel
theorem dX7_must_31 : decode cX7_must 31 = .ok (.ixor, 1) := by decide +kernel
theorem dX7_must_32 : decode cX7_must 32 = .ok (.iand, 1) := by decide +kernel
theorem dX7_must_33 : decode cX7_must 33 = .ok (.ifCond .eq 6, 3) := by decide +kernel
theorem dX7_must_36 : decode cX7_must 36 = .ok (.bipush (-2), 2) := by decide +kernel
theorem dX7_must_38 : decode cX7_must 38 = .ok (.ireturn, 1) := by decide +kernel
theorem dX7_must_39 : decode cX7_must 39 = .ok (.aload_n 0, 1) := by decide +kernel
theorem dX7_must_40 : decode cX7_must 40 = .ok (.getfield 12, 3) := by decide +kernel
theorem dX7_must_43 : decode cX7_must 43 = .ok (.iload_n 1, 1) := by decide +kernel
theorem dX7_must_44 : decode cX7_must 44 = .ok (.invokevirtual 60, 3) := by decide +kernel
theorem dX7_must_47 : decode cX7_must 47 = .ok (.astore 4, 2) := by decide +kernel
theorem dX7_must_49 : decode cX7_must 49 = .ok (.iload_n 2, 1) := by decide +kernel
theorem dX7_must_50 : decode cX7_must 50 = .ok (.iconst 1, 1) := by decide +kernel
theorem dX7_must_51 : decode cX7_must 51 = .ok (.if_icmp .ne 19, 3) := by decide +kernel
theorem dX7_must_54 : decode cX7_must 54 = .ok (.aload 4, 2) := by decide +kernel
theorem dX7_must_56 : decode cX7_must 56 = .ok (.getfield 83, 3) := by decide +kernel
theorem dX7_must_59 : decode cX7_must 59 = .ok (.istore 5, 2) := by decide +kernel
theorem dX7_must_61 : decode cX7_must 61 = .ok (.aload 4, 2) := by decide +kernel
theorem dX7_must_63 : decode cX7_must 63 = .ok (.iload_n 3, 1) := by decide +kernel
theorem dX7_must_64 : decode cX7_must 64 = .ok (.putfield 83, 3) := by decide +kernel
theorem dX7_must_67 : decode cX7_must 67 = .ok (.goto 16, 3) := by decide +kernel
theorem dX7_must_70 : decode cX7_must 70 = .ok (.aload 4, 2) := by decide +kernel
theorem dX7_must_72 : decode cX7_must 72 = .ok (.getfield 86, 3) := by decide +kernel
theorem dX7_must_75 : decode cX7_must 75 = .ok (.istore 5, 2) := by decide +kernel
theorem dX7_must_77 : decode cX7_must 77 = .ok (.aload 4, 2) := by decide +kernel
theorem dX7_must_79 : decode cX7_must 79 = .ok (.iload_n 3, 1) := by decide +kernel
theorem dX7_must_80 : decode cX7_must 80 = .ok (.putfield 86, 3) := by decide +kernel
theorem dX7_must_83 : decode cX7_must 83 = .ok (.aload_n 0, 1) := by decide +kernel
theorem dX7_must_84 : decode cX7_must 84 = .ok (.invokevirtual 57, 3) := by decide +kernel
theorem dX7_must_87 : decode cX7_must 87 = .ok (.iload 5, 2) := by decide +kernel
theorem dX7_must_89 : decode cX7_must 89 = .ok (.ireturn, 1) := by decide +kernel
theorem dX7_price_0 : decode cX7_price 0 = .ok (.iload_n 2, 1) := by decide +kernel
theorem dX7_price_1 : decode cX7_price 1 = .ok (.bipush (-9), 2) := by decide +kernel
theorem dX7_price_3 : decode cX7_price 3 = .ok (.if_icmp .eq 13, 3) := by decide +kernel
theorem dX7_price_6 : decode cX7_price 6 = .ok (.iload_n 2, 1) := by decide +kernel
theorem dX7_price_7 : decode cX7_price 7 = .ok (.ifCond .lt 13, 3) := by decide +kernel
theorem dX7_price_10 : decode cX7_price 10 = .ok (.iload_n 2, 1) := by decide +kernel
theorem dX7_price_11 : decode cX7_price 11 = .ok (.bipush 99, 2) := by decide +kernel
theorem dX7_price_13 : decode cX7_price 13 = .ok (.if_icmp .gt 7, 3) := by decide +kernel
theorem dX7_price_16 : decode cX7_price 16 = .ok (.iconst 1, 1) := by decide +kernel
theorem dX7_price_17 : decode cX7_price 17 = .ok (.goto 4, 3) := by decide +kernel
theorem dX7_price_20 : decode cX7_price 20 = .ok (.iconst 0, 1) := by decide +kernel
theorem dX7_price_21 : decode cX7_price 21 = .ok (.istore_n 3, 1) := by decide +kernel
theorem dX7_price_22 : decode cX7_price 22 = .ok (.iload_n 1, 1) := by decide +kernel
theorem dX7_price_23 : decode cX7_price 23 = .ok (.iconst 1, 1) := by decide +kernel
theorem dX7_price_24 : decode cX7_price 24 = .ok (.if_icmp .lt 13, 3) := by decide +kernel
theorem dX7_price_27 : decode cX7_price 27 = .ok (.iload_n 1, 1) := by decide +kernel
theorem dX7_price_28 : decode cX7_price 28 = .ok (.bipush 6, 2) := by decide +kernel
theorem dX7_price_30 : decode cX7_price 30 = .ok (.if_icmp .gt 7, 3) := by decide +kernel
theorem dX7_price_33 : decode cX7_price 33 = .ok (.iload_n 3, 1) := by decide +kernel
theorem dX7_price_34 : decode cX7_price 34 = .ok (.ifCond .ne 6, 3) := by decide +kernel
theorem dX7_price_37 : decode cX7_price 37 = .ok (.bipush (-2), 2) := by decide +kernel
theorem dX7_price_39 : decode cX7_price 39 = .ok (.ireturn, 1) := by decide +kernel
theorem dX7_price_40 : decode cX7_price 40 = .ok (.aload_n 0, 1) := by decide +kernel
theorem dX7_price_41 : decode cX7_price 41 = .ok (.getfield 12, 3) := by decide +kernel
theorem dX7_price_44 : decode cX7_price 44 = .ok (.getfield 89, 3) := by decide +kernel
theorem dX7_price_47 : decode cX7_price 47 = .ok (.iload_n 1, 1) := by decide +kernel
theorem dX7_price_48 : decode cX7_price 48 = .ok (.invokevirtual 93, 3) := by decide +kernel
theorem dX7_price_51 : decode cX7_price 51 = .ok (.istore 4, 2) := by decide +kernel
theorem dX7_price_53 : decode cX7_price 53 = .ok (.aload_n 0, 1) := by decide +kernel
theorem dX7_price_54 : decode cX7_price 54 = .ok (.getfield 12, 3) := by decide +kernel
theorem dX7_price_57 : decode cX7_price 57 = .ok (.getfield 89, 3) := by decide +kernel
theorem dX7_price_60 : decode cX7_price 60 = .ok (.getfield 99, 3) := by decide +kernel
theorem dX7_price_63 : decode cX7_price 63 = .ok (.iload_n 1, 1) := by decide +kernel
theorem dX7_price_64 : decode cX7_price 64 = .ok (.iload_n 2, 1) := by decide +kernel
theorem dX7_price_65 : decode cX7_price 65 = .ok (.iastore, 1) := by decide +kernel
theorem dX7_price_66 : decode cX7_price 66 = .ok (.aload_n 0, 1) := by decide +kernel
theorem dX7_price_67 : decode cX7_price 67 = .ok (.invokevirtual 57, 3) := by decide +kernel
theorem dX7_price_70 : decode cX7_price 70 = .ok (.iload 4, 2) := by decide +kernel
theorem dX7_price_72 : decode cX7_price 72 = .ok (.ireturn, 1) := by decide +kernel
theorem dX7_lap_0 : decode cX7_lap 0 = .ok (.iload_n 1, 1) := by decide +kernel
theorem dX7_lap_1 : decode cX7_lap 1 = .ok (.iconst 1, 1) := by decide +kernel
theorem dX7_lap_2 : decode cX7_lap 2 = .ok (.if_icmp .lt 8, 3) := by decide +kernel
theorem dX7_lap_5 : decode cX7_lap 5 = .ok (.iload_n 1, 1) := by decide +kernel
theorem dX7_lap_6 : decode cX7_lap 6 = .ok (.iconst 3, 1) := by decide +kernel
theorem dX7_lap_7 : decode cX7_lap 7 = .ok (.if_icmp .le 6, 3) := by decide +kernel
theorem dX7_lap_10 : decode cX7_lap 10 = .ok (.bipush (-2), 2) := by decide +kernel
theorem dX7_lap_12 : decode cX7_lap 12 = .ok (.ireturn, 1) := by decide +kernel
theorem dX7_lap_13 : decode cX7_lap 13 = .ok (.aload_n 0, 1) := by decide +kernel
theorem dX7_lap_14 : decode cX7_lap 14 = .ok (.getfield 12, 3) := by decide +kernel
theorem dX7_lap_17 : decode cX7_lap 17 = .ok (.getfield 103, 3) := by decide +kernel
theorem dX7_lap_20 : decode cX7_lap 20 = .ok (.istore_n 2, 1) := by decide +kernel
theorem dX7_lap_21 : decode cX7_lap 21 = .ok (.aload_n 0, 1) := by decide +kernel
theorem dX7_lap_22 : decode cX7_lap 22 = .ok (.getfield 12, 3) := by decide +kernel
theorem dX7_lap_25 : decode cX7_lap 25 = .ok (.iload_n 1, 1) := by decide +kernel
theorem dX7_lap_26 : decode cX7_lap 26 = .ok (.putfield 103, 3) := by decide +kernel
theorem dX7_lap_29 : decode cX7_lap 29 = .ok (.iload_n 2, 1) := by decide +kernel
theorem dX7_lap_30 : decode cX7_lap 30 = .ok (.ireturn, 1) := by decide +kernel
theorem dX7_ends_0 : decode cX7_ends 0 = .ok (.iload_n 1, 1) := by decide +kernel
theorem dX7_ends_1 : decode cX7_ends 1 = .ok (.ifCond .lt 24, 3) := by decide +kernel
theorem dX7_ends_4 : decode cX7_ends 4 = .ok (.iload_n 1, 1) := by decide +kernel
theorem dX7_ends_5 : decode cX7_ends 5 = .ok (.iconst 1, 1) := by decide +kernel
theorem dX7_ends_6 : decode cX7_ends 6 = .ok (.if_icmp .gt 19, 3) := by decide +kernel
theorem dX7_ends_9 : decode cX7_ends 9 = .ok (.iload_n 2, 1) := by decide +kernel
theorem dX7_ends_10 : decode cX7_ends 10 = .ok (.ifCond .lt 15, 3) := by decide +kernel
theorem dX7_ends_13 : decode cX7_ends 13 = .ok (.iload_n 2, 1) := by decide +kernel
theorem dX7_ends_14 : decode cX7_ends 14 = .ok (.iconst 1, 1) := by decide +kernel
theorem dX7_ends_15 : decode cX7_ends 15 = .ok (.if_icmp .gt 10, 3) := by decide +kernel
theorem dX7_ends_18 : decode cX7_ends 18 = .ok (.iload_n 3, 1) := by decide +kernel
theorem dX7_ends_19 : decode cX7_ends 19 = .ok (.bipush (-127), 2) := by decide +kernel
theorem dX7_ends_21 : decode cX7_ends 21 = .ok (.iand, 1) := by decide +kernel
theorem dX7_ends_22 : decode cX7_ends 22 = .ok (.ifCond .eq 6, 3) := by decide +kernel
theorem dX7_ends_25 : decode cX7_ends 25 = .ok (.bipush (-2), 2) := by decide +kernel
theorem dX7_ends_27 : decode cX7_ends 27 = .ok (.ireturn, 1) := by decide +kernel
theorem dX7_ends_28 : decode cX7_ends 28 = .ok (.aload_n 0, 1) := by decide +kernel
theorem dX7_ends_29 : decode cX7_ends 29 = .ok (.getfield 12, 3) := by decide +kernel
theorem dX7_ends_32 : decode cX7_ends 32 = .ok (.getfield 89, 3) := by decide +kernel
theorem dX7_ends_35 : decode cX7_ends 35 = .ok (.getfield 106, 3) := by decide +kernel
theorem dX7_ends_38 : decode cX7_ends 38 = .ok (.iload_n 1, 1) := by decide +kernel
theorem dX7_ends_39 : decode cX7_ends 39 = .ok (.aaload, 1) := by decide +kernel
theorem dX7_ends_40 : decode cX7_ends 40 = .ok (.astore 4, 2) := by decide +kernel
theorem dX7_ends_42 : decode cX7_ends 42 = .ok (.aload 4, 2) := by decide +kernel
theorem dX7_ends_44 : decode cX7_ends 44 = .ok (.iload_n 2, 1) := by decide +kernel
theorem dX7_ends_45 : decode cX7_ends 45 = .ok (.iaload, 1) := by decide +kernel
theorem dX7_ends_46 : decode cX7_ends 46 = .ok (.istore 5, 2) := by decide +kernel
theorem dX7_ends_48 : decode cX7_ends 48 = .ok (.aload 4, 2) := by decide +kernel
theorem dX7_ends_50 : decode cX7_ends 50 = .ok (.iload_n 2, 1) := by decide +kernel
theorem dX7_ends_51 : decode cX7_ends 51 = .ok (.iload_n 3, 1) := by decide +kernel
theorem dX7_ends_52 : decode cX7_ends 52 = .ok (.iastore, 1) := by decide +kernel
theorem dX7_ends_53 : decode cX7_ends 53 = .ok (.aload_n 0, 1) := by decide +kernel
theorem dX7_ends_54 : decode cX7_ends 54 = .ok (.invokevirtual 57, 3) := by decide +kernel
theorem dX7_ends_57 : decode cX7_ends 57 = .ok (.iload 5, 2) := by decide +kernel
theorem dX7_ends_59 : decode cX7_ends 59 = .ok (.ireturn, 1) := by decide +kernel
theorem dX7_ofCourse_0 : decode cX7_ofCourse 0 = .ok (.aload_n 0, 1) := by decide +kernel
theorem dX7_ofCourse_1 : decode cX7_ofCourse 1 = .ok (.getfield 12, 3) := by decide +kernel
theorem dX7_ofCourse_4 : decode cX7_ofCourse 4 = .ok (.iload_n 1, 1) := by decide +kernel
theorem dX7_ofCourse_5 : decode cX7_ofCourse 5 = .ok (.invokevirtual 69, 3) := by decide +kernel
theorem dX7_ofCourse_8 : decode cX7_ofCourse 8 = .ok (.ifCond .ne 5, 3) := by decide +kernel
theorem dX7_ofCourse_11 : decode cX7_ofCourse 11 = .ok (.iconst (-1), 1) := by decide +kernel
theorem dX7_ofCourse_12 : decode cX7_ofCourse 12 = .ok (.ireturn, 1) := by decide +kernel
theorem dX7_ofCourse_13 : decode cX7_ofCourse 13 = .ok (.aload_n 0, 1) := by decide +kernel
theorem dX7_ofCourse_14 : decode cX7_ofCourse 14 = .ok (.getfield 12, 3) := by decide +kernel
theorem dX7_ofCourse_17 : decode cX7_ofCourse 17 = .ok (.iload_n 1, 1) := by decide +kernel
theorem dX7_ofCourse_18 : decode cX7_ofCourse 18 = .ok (.invokevirtual 60, 3) := by decide +kernel
theorem dX7_ofCourse_21 : decode cX7_ofCourse 21 = .ok (.astore_n 3, 1) := by decide +kernel
theorem dX7_ofCourse_22 : decode cX7_ofCourse 22 = .ok (.iload_n 2, 1) := by decide +kernel
theorem dX7_ofCourse_23 : decode cX7_ofCourse 23 = .ok (.tableswitch 59 0 4 #[33, 38, 43, 48, 54], 33) := by decide +kernel
theorem dX7_ofCourse_56 : decode cX7_ofCourse 56 = .ok (.aload_n 3, 1) := by decide +kernel
theorem dX7_ofCourse_57 : decode cX7_ofCourse 57 = .ok (.getfield 77, 3) := by decide +kernel
theorem dX7_ofCourse_60 : decode cX7_ofCourse 60 = .ok (.ireturn, 1) := by decide +kernel
theorem dX7_ofCourse_61 : decode cX7_ofCourse 61 = .ok (.aload_n 3, 1) := by decide +kernel
theorem dX7_ofCourse_62 : decode cX7_ofCourse 62 = .ok (.getfield 83, 3) := by decide +kernel
theorem dX7_ofCourse_65 : decode cX7_ofCourse 65 = .ok (.ireturn, 1) := by decide +kernel
theorem dX7_ofCourse_66 : decode cX7_ofCourse 66 = .ok (.aload_n 3, 1) := by decide +kernel
theorem dX7_ofCourse_67 : decode cX7_ofCourse 67 = .ok (.getfield 86, 3) := by decide +kernel
theorem dX7_ofCourse_70 : decode cX7_ofCourse 70 = .ok (.ireturn, 1) := by decide +kernel
theorem dX7_ofCourse_71 : decode cX7_ofCourse 71 = .ok (.aload_n 0, 1) := by decide +kernel
theorem dX7_ofCourse_72 : decode cX7_ofCourse 72 = .ok (.aload_n 3, 1) := by decide +kernel
theorem dX7_ofCourse_73 : decode cX7_ofCourse 73 = .ok (.invokevirtual 110, 3) := by decide +kernel
theorem dX7_ofCourse_76 : decode cX7_ofCourse 76 = .ok (.ireturn, 1) := by decide +kernel
theorem dX7_ofCourse_77 : decode cX7_ofCourse 77 = .ok (.aload_n 3, 1) := by decide +kernel
theorem dX7_ofCourse_78 : decode cX7_ofCourse 78 = .ok (.getfield 114, 3) := by decide +kernel
theorem dX7_ofCourse_81 : decode cX7_ofCourse 81 = .ok (.ireturn, 1) := by decide +kernel
theorem dX7_ofCourse_82 : decode cX7_ofCourse 82 = .ok (.bipush (-2), 2) := by decide +kernel
theorem dX7_ofCourse_84 : decode cX7_ofCourse 84 = .ok (.ireturn, 1) := by decide +kernel
theorem dX7_row_0 : decode cX7_row 0 = .ok (.aload_n 0, 1) := by decide +kernel
theorem dX7_row_1 : decode cX7_row 1 = .ok (.getfield 12, 3) := by decide +kernel
theorem dX7_row_4 : decode cX7_row 4 = .ok (.iload_n 1, 1) := by decide +kernel
theorem dX7_row_5 : decode cX7_row 5 = .ok (.invokevirtual 69, 3) := by decide +kernel
theorem dX7_row_8 : decode cX7_row 8 = .ok (.ifCond .ne 5, 3) := by decide +kernel
theorem dX7_row_11 : decode cX7_row 11 = .ok (.iconst (-1), 1) := by decide +kernel
theorem dX7_row_12 : decode cX7_row 12 = .ok (.ireturn, 1) := by decide +kernel
theorem dX7_row_13 : decode cX7_row 13 = .ok (.iload_n 2, 1) := by decide +kernel
theorem dX7_row_14 : decode cX7_row 14 = .ok (.iconst (-1), 1) := by decide +kernel
theorem dX7_row_15 : decode cX7_row 15 = .ok (.if_icmp .lt 10, 3) := by decide +kernel
theorem dX7_row_18 : decode cX7_row 18 = .ok (.iload_n 2, 1) := by decide +kernel
theorem dX7_row_19 : decode cX7_row 19 = .ok (.sipush 512, 3) := by decide +kernel
theorem dX7_row_22 : decode cX7_row 22 = .ok (.if_icmp .lt 6, 3) := by decide +kernel
theorem dX7_row_25 : decode cX7_row 25 = .ok (.bipush (-2), 2) := by decide +kernel
theorem dX7_row_27 : decode cX7_row 27 = .ok (.ireturn, 1) := by decide +kernel
theorem dX7_row_28 : decode cX7_row 28 = .ok (.aload_n 0, 1) := by decide +kernel
theorem dX7_row_29 : decode cX7_row 29 = .ok (.getfield 23, 3) := by decide +kernel
theorem dX7_row_32 : decode cX7_row 32 = .ok (.invokevirtual 117, 3) := by decide +kernel
theorem dX7_row_35 : decode cX7_row 35 = .ok (.iload_n 2, 1) := by decide +kernel
theorem dX7_row_36 : decode cX7_row 36 = .ok (.iconst (-1), 1) := by decide +kernel
theorem dX7_row_37 : decode cX7_row 37 = .ok (.if_icmp .ne 14, 3) := by decide +kernel
theorem dX7_row_40 : decode cX7_row 40 = .ok (.aload_n 0, 1) := by decide +kernel
theorem dX7_row_41 : decode cX7_row 41 = .ok (.getfield 23, 3) := by decide +kernel
theorem dX7_row_44 : decode cX7_row 44 = .ok (.iload_n 1, 1) := by decide +kernel
theorem dX7_row_45 : decode cX7_row 45 = .ok (.invokevirtual 120, 3) := by decide +kernel
theorem dX7_row_48 : decode cX7_row 48 = .ok (.goto 12, 3) := by decide +kernel
theorem dX7_row_51 : decode cX7_row 51 = .ok (.aload_n 0, 1) := by decide +kernel
theorem dX7_row_52 : decode cX7_row 52 = .ok (.getfield 23, 3) := by decide +kernel
theorem dX7_row_55 : decode cX7_row 55 = .ok (.iload_n 1, 1) := by decide +kernel
theorem dX7_row_56 : decode cX7_row 56 = .ok (.iload_n 2, 1) := by decide +kernel
theorem dX7_row_57 : decode cX7_row 57 = .ok (.invokevirtual 123, 3) := by decide +kernel
theorem dX7_row_60 : decode cX7_row 60 = .ok (.ireturn, 1) := by decide +kernel
theorem dX7_walls_0 : decode cX7_walls 0 = .ok (.aload_n 0, 1) := by decide +kernel
theorem dX7_walls_1 : decode cX7_walls 1 = .ok (.getfield 32, 3) := by decide +kernel
theorem dX7_walls_4 : decode cX7_walls 4 = .ok (.aload_n 0, 1) := by decide +kernel
theorem dX7_walls_5 : decode cX7_walls 5 = .ok (.getfield 12, 3) := by decide +kernel
theorem dX7_walls_8 : decode cX7_walls 8 = .ok (.getfield 103, 3) := by decide +kernel
theorem dX7_walls_11 : decode cX7_walls 11 = .ok (.invokevirtual 127, 3) := by decide +kernel
theorem dX7_walls_14 : decode cX7_walls 14 = .ok (.aload_n 0, 1) := by decide +kernel
theorem dX7_walls_15 : decode cX7_walls 15 = .ok (.getfield 32, 3) := by decide +kernel
theorem dX7_walls_18 : decode cX7_walls 18 = .ok (.getfield 130, 3) := by decide +kernel
theorem dX7_walls_21 : decode cX7_walls 21 = .ok (.lreturn, 1) := by decide +kernel
theorem dX7_best_0 : decode cX7_best 0 = .ok (.aload_n 0, 1) := by decide +kernel
theorem dX7_best_1 : decode cX7_best 1 = .ok (.getfield 39, 3) := by decide +kernel
theorem dX7_best_4 : decode cX7_best 4 = .ok (.aload_n 0, 1) := by decide +kernel
theorem dX7_best_5 : decode cX7_best 5 = .ok (.getfield 12, 3) := by decide +kernel
theorem dX7_best_8 : decode cX7_best 8 = .ok (.getfield 103, 3) := by decide +kernel
theorem dX7_best_11 : decode cX7_best 11 = .ok (.invokevirtual 134, 3) := by decide +kernel
theorem dX7_best_14 : decode cX7_best 14 = .ok (.aload_n 0, 1) := by decide +kernel
theorem dX7_best_15 : decode cX7_best 15 = .ok (.getfield 39, 3) := by decide +kernel
theorem dX7_best_18 : decode cX7_best 18 = .ok (.invokevirtual 135, 3) := by decide +kernel
theorem dX7_best_21 : decode cX7_best 21 = .ok (.ifCond .eq 8, 3) := by decide +kernel
theorem dX7_best_24 : decode cX7_best 24 = .ok (.bipush (-9), 2) := by decide +kernel
theorem dX7_best_26 : decode cX7_best 26 = .ok (.goto 10, 3) := by decide +kernel
theorem dX7_best_29 : decode cX7_best 29 = .ok (.aload_n 0, 1) := by decide +kernel
theorem dX7_best_30 : decode cX7_best 30 = .ok (.getfield 39, 3) := by decide +kernel
theorem dX7_best_33 : decode cX7_best 33 = .ok (.getfield 139, 3) := by decide +kernel
theorem dX7_best_36 : decode cX7_best 36 = .ok (.ireturn, 1) := by decide +kernel
theorem dX7_bestRow_0 : decode cX7_bestRow 0 = .ok (.aload_n 0, 1) := by decide +kernel
theorem dX7_bestRow_1 : decode cX7_bestRow 1 = .ok (.getfield 12, 3) := by decide +kernel
theorem dX7_bestRow_4 : decode cX7_bestRow 4 = .ok (.iload_n 1, 1) := by decide +kernel
theorem dX7_bestRow_5 : decode cX7_bestRow 5 = .ok (.invokevirtual 69, 3) := by decide +kernel
theorem dX7_bestRow_8 : decode cX7_bestRow 8 = .ok (.ifCond .ne 5, 3) := by decide +kernel
theorem dX7_bestRow_11 : decode cX7_bestRow 11 = .ok (.iconst (-1), 1) := by decide +kernel
theorem dX7_bestRow_12 : decode cX7_bestRow 12 = .ok (.ireturn, 1) := by decide +kernel
theorem dX7_bestRow_13 : decode cX7_bestRow 13 = .ok (.aload_n 0, 1) := by decide +kernel
theorem dX7_bestRow_14 : decode cX7_bestRow 14 = .ok (.getfield 39, 3) := by decide +kernel
theorem dX7_bestRow_17 : decode cX7_bestRow 17 = .ok (.aload_n 0, 1) := by decide +kernel
theorem dX7_bestRow_18 : decode cX7_bestRow 18 = .ok (.getfield 12, 3) := by decide +kernel
theorem dX7_bestRow_21 : decode cX7_bestRow 21 = .ok (.getfield 103, 3) := by decide +kernel
theorem dX7_bestRow_24 : decode cX7_bestRow 24 = .ok (.invokevirtual 134, 3) := by decide +kernel
theorem dX7_bestRow_27 : decode cX7_bestRow 27 = .ok (.aload_n 0, 1) := by decide +kernel
theorem dX7_bestRow_28 : decode cX7_bestRow 28 = .ok (.getfield 39, 3) := by decide +kernel
theorem dX7_bestRow_31 : decode cX7_bestRow 31 = .ok (.invokevirtual 135, 3) := by decide +kernel
theorem dX7_bestRow_34 : decode cX7_bestRow 34 = .ok (.ifCond .eq 8, 3) := by decide +kernel
theorem dX7_bestRow_37 : decode cX7_bestRow 37 = .ok (.bipush (-3), 2) := by decide +kernel
theorem dX7_bestRow_39 : decode cX7_bestRow 39 = .ok (.goto 11, 3) := by decide +kernel
theorem dX7_bestRow_42 : decode cX7_bestRow 42 = .ok (.aload_n 0, 1) := by decide +kernel
theorem dX7_bestRow_43 : decode cX7_bestRow 43 = .ok (.getfield 39, 3) := by decide +kernel
theorem dX7_bestRow_46 : decode cX7_bestRow 46 = .ok (.iload_n 1, 1) := by decide +kernel
theorem dX7_bestRow_47 : decode cX7_bestRow 47 = .ok (.invokevirtual 142, 3) := by decide +kernel
theorem dX7_bestRow_50 : decode cX7_bestRow 50 = .ok (.ireturn, 1) := by decide +kernel
theorem dX7_bestOf_0 : decode cX7_bestOf 0 = .ok (.iload_n 1, 1) := by decide +kernel
theorem dX7_bestOf_1 : decode cX7_bestOf 1 = .ok (.iconst 1, 1) := by decide +kernel
theorem dX7_bestOf_2 : decode cX7_bestOf 2 = .ok (.if_icmp .lt 9, 3) := by decide +kernel
theorem dX7_bestOf_5 : decode cX7_bestOf 5 = .ok (.iload_n 1, 1) := by decide +kernel
theorem dX7_bestOf_6 : decode cX7_bestOf 6 = .ok (.bipush 6, 2) := by decide +kernel
theorem dX7_bestOf_8 : decode cX7_bestOf 8 = .ok (.if_icmp .le 6, 3) := by decide +kernel
theorem dX7_bestOf_11 : decode cX7_bestOf 11 = .ok (.bipush (-2), 2) := by decide +kernel
theorem dX7_bestOf_13 : decode cX7_bestOf 13 = .ok (.ireturn, 1) := by decide +kernel
theorem dX7_bestOf_14 : decode cX7_bestOf 14 = .ok (.aload_n 0, 1) := by decide +kernel
theorem dX7_bestOf_15 : decode cX7_bestOf 15 = .ok (.getfield 39, 3) := by decide +kernel
theorem dX7_bestOf_18 : decode cX7_bestOf 18 = .ok (.aload_n 0, 1) := by decide +kernel
theorem dX7_bestOf_19 : decode cX7_bestOf 19 = .ok (.getfield 12, 3) := by decide +kernel
theorem dX7_bestOf_22 : decode cX7_bestOf 22 = .ok (.getfield 103, 3) := by decide +kernel
theorem dX7_bestOf_25 : decode cX7_bestOf 25 = .ok (.invokevirtual 134, 3) := by decide +kernel
theorem dX7_bestOf_28 : decode cX7_bestOf 28 = .ok (.aload_n 0, 1) := by decide +kernel
theorem dX7_bestOf_29 : decode cX7_bestOf 29 = .ok (.getfield 39, 3) := by decide +kernel
theorem dX7_bestOf_32 : decode cX7_bestOf 32 = .ok (.invokevirtual 135, 3) := by decide +kernel
theorem dX7_bestOf_35 : decode cX7_bestOf 35 = .ok (.ifCond .eq 6, 3) := by decide +kernel
theorem dX7_bestOf_38 : decode cX7_bestOf 38 = .ok (.bipush (-3), 2) := by decide +kernel
theorem dX7_bestOf_40 : decode cX7_bestOf 40 = .ok (.ireturn, 1) := by decide +kernel
theorem dX7_bestOf_41 : decode cX7_bestOf 41 = .ok (.aload_n 0, 1) := by decide +kernel
theorem dX7_bestOf_42 : decode cX7_bestOf 42 = .ok (.getfield 46, 3) := by decide +kernel
theorem dX7_bestOf_45 : decode cX7_bestOf 45 = .ok (.invokevirtual 144, 3) := by decide +kernel
theorem dX7_bestOf_48 : decode cX7_bestOf 48 = .ok (.iconst 0, 1) := by decide +kernel
theorem dX7_bestOf_49 : decode cX7_bestOf 49 = .ok (.istore_n 2, 1) := by decide +kernel
theorem dX7_bestOf_50 : decode cX7_bestOf 50 = .ok (.iload_n 2, 1) := by decide +kernel
theorem dX7_bestOf_51 : decode cX7_bestOf 51 = .ok (.aload_n 0, 1) := by decide +kernel
theorem dX7_bestOf_52 : decode cX7_bestOf 52 = .ok (.getfield 12, 3) := by decide +kernel
theorem dX7_bestOf_55 : decode cX7_bestOf 55 = .ok (.getfield 54, 3) := by decide +kernel
theorem dX7_bestOf_58 : decode cX7_bestOf 58 = .ok (.if_icmp .ge 36, 3) := by decide +kernel
theorem dX7_bestOf_61 : decode cX7_bestOf 61 = .ok (.aload_n 0, 1) := by decide +kernel
theorem dX7_bestOf_62 : decode cX7_bestOf 62 = .ok (.getfield 12, 3) := by decide +kernel
theorem dX7_bestOf_65 : decode cX7_bestOf 65 = .ok (.aload_n 0, 1) := by decide +kernel
theorem dX7_bestOf_66 : decode cX7_bestOf 66 = .ok (.getfield 12, 3) := by decide +kernel
theorem dX7_bestOf_69 : decode cX7_bestOf 69 = .ok (.iload_n 2, 1) := by decide +kernel
theorem dX7_bestOf_70 : decode cX7_bestOf 70 = .ok (.invokevirtual 60, 3) := by decide +kernel
theorem dX7_bestOf_73 : decode cX7_bestOf 73 = .ok (.aload_n 0, 1) := by decide +kernel
theorem dX7_bestOf_74 : decode cX7_bestOf 74 = .ok (.getfield 39, 3) := by decide +kernel
theorem dX7_bestOf_77 : decode cX7_bestOf 77 = .ok (.iload_n 2, 1) := by decide +kernel
theorem dX7_bestOf_78 : decode cX7_bestOf 78 = .ok (.invokevirtual 142, 3) := by decide +kernel
theorem dX7_bestOf_81 : decode cX7_bestOf 81 = .ok (.aload_n 0, 1) := by decide +kernel
theorem dX7_bestOf_82 : decode cX7_bestOf 82 = .ok (.getfield 46, 3) := by decide +kernel
theorem dX7_bestOf_85 : decode cX7_bestOf 85 = .ok (.invokevirtual 145, 3) := by decide +kernel
theorem dX7_bestOf_88 : decode cX7_bestOf 88 = .ok (.iinc 2 1, 3) := by decide +kernel
theorem dX7_bestOf_91 : decode cX7_bestOf 91 = .ok (.goto (-41), 3) := by decide +kernel
theorem dX7_bestOf_94 : decode cX7_bestOf 94 = .ok (.aload_n 0, 1) := by decide +kernel
theorem dX7_bestOf_95 : decode cX7_bestOf 95 = .ok (.getfield 46, 3) := by decide +kernel
theorem dX7_bestOf_98 : decode cX7_bestOf 98 = .ok (.iload_n 1, 1) := by decide +kernel
theorem dX7_bestOf_99 : decode cX7_bestOf 99 = .ok (.invokevirtual 149, 3) := by decide +kernel
theorem dX7_bestOf_102 : decode cX7_bestOf 102 = .ok (.ireturn, 1) := by decide +kernel
theorem dX7_highest_0 : decode cX7_highest 0 = .ok (.aload_n 0, 1) := by decide +kernel
theorem dX7_highest_1 : decode cX7_highest 1 = .ok (.getfield 32, 3) := by decide +kernel
theorem dX7_highest_4 : decode cX7_highest 4 = .ok (.aload_n 0, 1) := by decide +kernel
theorem dX7_highest_5 : decode cX7_highest 5 = .ok (.getfield 12, 3) := by decide +kernel
theorem dX7_highest_8 : decode cX7_highest 8 = .ok (.getfield 103, 3) := by decide +kernel
theorem dX7_highest_11 : decode cX7_highest 11 = .ok (.invokevirtual 127, 3) := by decide +kernel
theorem dX7_highest_14 : decode cX7_highest 14 = .ok (.aload_n 0, 1) := by decide +kernel
theorem dX7_highest_15 : decode cX7_highest 15 = .ok (.getfield 32, 3) := by decide +kernel
theorem dX7_highest_18 : decode cX7_highest 18 = .ok (.getfield 152, 3) := by decide +kernel
theorem dX7_highest_21 : decode cX7_highest 21 = .ok (.ireturn, 1) := by decide +kernel
theorem dX7_byLap_0 : decode cX7_byLap 0 = .ok (.iload_n 1, 1) := by decide +kernel
theorem dX7_byLap_1 : decode cX7_byLap 1 = .ok (.iconst 1, 1) := by decide +kernel
theorem dX7_byLap_2 : decode cX7_byLap 2 = .ok (.if_icmp .lt 8, 3) := by decide +kernel
theorem dX7_byLap_5 : decode cX7_byLap 5 = .ok (.iload_n 1, 1) := by decide +kernel
theorem dX7_byLap_6 : decode cX7_byLap 6 = .ok (.iconst 3, 1) := by decide +kernel
theorem dX7_byLap_7 : decode cX7_byLap 7 = .ok (.if_icmp .le 6, 3) := by decide +kernel
theorem dX7_byLap_10 : decode cX7_byLap 10 = .ok (.bipush (-2), 2) := by decide +kernel
theorem dX7_byLap_12 : decode cX7_byLap 12 = .ok (.ireturn, 1) := by decide +kernel
theorem dX7_byLap_13 : decode cX7_byLap 13 = .ok (.aload_n 0, 1) := by decide +kernel
theorem dX7_byLap_14 : decode cX7_byLap 14 = .ok (.getfield 39, 3) := by decide +kernel
theorem dX7_byLap_17 : decode cX7_byLap 17 = .ok (.iload_n 1, 1) := by decide +kernel
theorem dX7_byLap_18 : decode cX7_byLap 18 = .ok (.invokevirtual 134, 3) := by decide +kernel
theorem dX7_byLap_21 : decode cX7_byLap 21 = .ok (.aload_n 0, 1) := by decide +kernel
theorem dX7_byLap_22 : decode cX7_byLap 22 = .ok (.getfield 39, 3) := by decide +kernel
theorem dX7_byLap_25 : decode cX7_byLap 25 = .ok (.invokevirtual 135, 3) := by decide +kernel
theorem dX7_byLap_28 : decode cX7_byLap 28 = .ok (.ifCond .eq 8, 3) := by decide +kernel
theorem dX7_byLap_31 : decode cX7_byLap 31 = .ok (.bipush (-9), 2) := by decide +kernel
theorem dX7_byLap_33 : decode cX7_byLap 33 = .ok (.goto 10, 3) := by decide +kernel
theorem dX7_byLap_36 : decode cX7_byLap 36 = .ok (.aload_n 0, 1) := by decide +kernel
theorem dX7_byLap_37 : decode cX7_byLap 37 = .ok (.getfield 39, 3) := by decide +kernel
theorem dX7_byLap_40 : decode cX7_byLap 40 = .ok (.getfield 139, 3) := by decide +kernel
theorem dX7_byLap_43 : decode cX7_byLap 43 = .ok (.ireturn, 1) := by decide +kernel
theorem dX7_lay_0 : decode cX7_lay 0 = .ok (.aload_n 0, 1) := by decide +kernel
theorem dX7_lay_1 : decode cX7_lay 1 = .ok (.getfield 12, 3) := by decide +kernel
theorem dX7_lay_4 : decode cX7_lay 4 = .ok (.iload_n 1, 1) := by decide +kernel
theorem dX7_lay_5 : decode cX7_lay 5 = .ok (.invokevirtual 69, 3) := by decide +kernel
theorem dX7_lay_8 : decode cX7_lay 8 = .ok (.ifCond .ne 5, 3) := by decide +kernel
theorem dX7_lay_11 : decode cX7_lay 11 = .ok (.iconst (-1), 1) := by decide +kernel
theorem dX7_lay_12 : decode cX7_lay 12 = .ok (.ireturn, 1) := by decide +kernel
theorem dX7_lay_13 : decode cX7_lay 13 = .ok (.iload_n 2, 1) := by decide +kernel
theorem dX7_lay_14 : decode cX7_lay 14 = .ok (.aload_n 0, 1) := by decide +kernel
theorem dX7_lay_15 : decode cX7_lay 15 = .ok (.getfield 12, 3) := by decide +kernel
theorem dX7_lay_18 : decode cX7_lay 18 = .ok (.invokevirtual 80, 3) := by decide +kernel
theorem dX7_lay_21 : decode cX7_lay 21 = .ok (.iconst (-1), 1) := by decide +kernel
theorem dX7_lay_22 : decode cX7_lay 22 = .ok (.ixor, 1) := by decide +kernel
theorem dX7_lay_23 : decode cX7_lay 23 = .ok (.iand, 1) := by decide +kernel
theorem dX7_lay_24 : decode cX7_lay 24 = .ok (.ifCond .eq 6, 3) := by decide +kernel
theorem dX7_lay_27 : decode cX7_lay 27 = .ok (.bipush (-2), 2) := by decide +kernel
theorem dX7_lay_29 : decode cX7_lay 29 = .ok (.ireturn, 1) := by decide +kernel
theorem dX7_lay_30 : decode cX7_lay 30 = .ok (.aload_n 0, 1) := by decide +kernel
theorem dX7_lay_31 : decode cX7_lay 31 = .ok (.getfield 12, 3) := by decide +kernel
theorem dX7_lay_34 : decode cX7_lay 34 = .ok (.iload_n 1, 1) := by decide +kernel
theorem dX7_lay_35 : decode cX7_lay 35 = .ok (.invokevirtual 60, 3) := by decide +kernel
theorem dX7_lay_38 : decode cX7_lay 38 = .ok (.astore_n 3, 1) := by decide +kernel
theorem dX7_lay_39 : decode cX7_lay 39 = .ok (.aload_n 3, 1) := by decide +kernel
theorem dX7_lay_40 : decode cX7_lay 40 = .ok (.getfield 114, 3) := by decide +kernel
theorem dX7_lay_43 : decode cX7_lay 43 = .ok (.istore 4, 2) := by decide +kernel
theorem dX7_lay_45 : decode cX7_lay 45 = .ok (.aload_n 3, 1) := by decide +kernel
theorem dX7_lay_46 : decode cX7_lay 46 = .ok (.iload_n 2, 1) := by decide +kernel
theorem dX7_lay_47 : decode cX7_lay 47 = .ok (.putfield 114, 3) := by decide +kernel
theorem dX7_lay_50 : decode cX7_lay 50 = .ok (.iload 4, 2) := by decide +kernel
theorem dX7_lay_52 : decode cX7_lay 52 = .ok (.ireturn, 1) := by decide +kernel
theorem dX7_layBest_0 : decode cX7_layBest 0 = .ok (.aload_n 0, 1) := by decide +kernel
theorem dX7_layBest_1 : decode cX7_layBest 1 = .ok (.getfield 39, 3) := by decide +kernel
theorem dX7_layBest_4 : decode cX7_layBest 4 = .ok (.aload_n 0, 1) := by decide +kernel
theorem dX7_layBest_5 : decode cX7_layBest 5 = .ok (.getfield 12, 3) := by decide +kernel
theorem dX7_layBest_8 : decode cX7_layBest 8 = .ok (.getfield 103, 3) := by decide +kernel
theorem dX7_layBest_11 : decode cX7_layBest 11 = .ok (.invokevirtual 134, 3) := by decide +kernel
theorem dX7_layBest_14 : decode cX7_layBest 14 = .ok (.aload_n 0, 1) := by decide +kernel
theorem dX7_layBest_15 : decode cX7_layBest 15 = .ok (.getfield 39, 3) := by decide +kernel
theorem dX7_layBest_18 : decode cX7_layBest 18 = .ok (.invokevirtual 135, 3) := by decide +kernel
theorem dX7_layBest_21 : decode cX7_layBest 21 = .ok (.ifCond .eq 6, 3) := by decide +kernel
theorem dX7_layBest_24 : decode cX7_layBest 24 = .ok (.bipush (-3), 2) := by decide +kernel
theorem dX7_layBest_26 : decode cX7_layBest 26 = .ok (.ireturn, 1) := by decide +kernel
theorem dX7_layBest_27 : decode cX7_layBest 27 = .ok (.iconst 0, 1) := by decide +kernel
theorem dX7_layBest_28 : decode cX7_layBest 28 = .ok (.istore_n 1, 1) := by decide +kernel
theorem dX7_layBest_29 : decode cX7_layBest 29 = .ok (.iload_n 1, 1) := by decide +kernel
theorem dX7_layBest_30 : decode cX7_layBest 30 = .ok (.aload_n 0, 1) := by decide +kernel
theorem dX7_layBest_31 : decode cX7_layBest 31 = .ok (.getfield 12, 3) := by decide +kernel
theorem dX7_layBest_34 : decode cX7_layBest 34 = .ok (.getfield 54, 3) := by decide +kernel
theorem dX7_layBest_37 : decode cX7_layBest 37 = .ok (.if_icmp .ge 28, 3) := by decide +kernel
theorem dX7_layBest_40 : decode cX7_layBest 40 = .ok (.aload_n 0, 1) := by decide +kernel
theorem dX7_layBest_41 : decode cX7_layBest 41 = .ok (.getfield 12, 3) := by decide +kernel
theorem dX7_layBest_44 : decode cX7_layBest 44 = .ok (.iload_n 1, 1) := by decide +kernel
theorem dX7_layBest_45 : decode cX7_layBest 45 = .ok (.invokevirtual 60, 3) := by decide +kernel
theorem dX7_layBest_48 : decode cX7_layBest 48 = .ok (.aload_n 0, 1) := by decide +kernel
theorem dX7_layBest_49 : decode cX7_layBest 49 = .ok (.getfield 39, 3) := by decide +kernel
theorem dX7_layBest_52 : decode cX7_layBest 52 = .ok (.iload_n 1, 1) := by decide +kernel
theorem dX7_layBest_53 : decode cX7_layBest 53 = .ok (.invokevirtual 142, 3) := by decide +kernel
theorem dX7_layBest_56 : decode cX7_layBest 56 = .ok (.putfield 114, 3) := by decide +kernel
theorem dX7_layBest_59 : decode cX7_layBest 59 = .ok (.iinc 1 1, 3) := by decide +kernel
theorem dX7_layBest_62 : decode cX7_layBest 62 = .ok (.goto (-33), 3) := by decide +kernel
theorem dX7_layBest_65 : decode cX7_layBest 65 = .ok (.aload_n 0, 1) := by decide +kernel
theorem dX7_layBest_66 : decode cX7_layBest 66 = .ok (.getfield 39, 3) := by decide +kernel
theorem dX7_layBest_69 : decode cX7_layBest 69 = .ok (.getfield 139, 3) := by decide +kernel
theorem dX7_layBest_72 : decode cX7_layBest 72 = .ok (.ireturn, 1) := by decide +kernel
theorem dX7_wrong_0 : decode cX7_wrong 0 = .ok (.iload_n 1, 1) := by decide +kernel
theorem dX7_wrong_1 : decode cX7_wrong 1 = .ok (.ifCond .lt 8, 3) := by decide +kernel
theorem dX7_wrong_4 : decode cX7_wrong 4 = .ok (.iload_n 1, 1) := by decide +kernel
theorem dX7_wrong_5 : decode cX7_wrong 5 = .ok (.iconst 1, 1) := by decide +kernel
theorem dX7_wrong_6 : decode cX7_wrong 6 = .ok (.if_icmp .le 6, 3) := by decide +kernel
theorem dX7_wrong_9 : decode cX7_wrong 9 = .ok (.bipush (-2), 2) := by decide +kernel
theorem dX7_wrong_11 : decode cX7_wrong 11 = .ok (.ireturn, 1) := by decide +kernel
theorem dX7_wrong_12 : decode cX7_wrong 12 = .ok (.iconst 0, 1) := by decide +kernel
theorem dX7_wrong_13 : decode cX7_wrong 13 = .ok (.istore_n 2, 1) := by decide +kernel
theorem dX7_wrong_14 : decode cX7_wrong 14 = .ok (.iload_n 2, 1) := by decide +kernel
theorem dX7_wrong_15 : decode cX7_wrong 15 = .ok (.aload_n 0, 1) := by decide +kernel
theorem dX7_wrong_16 : decode cX7_wrong 16 = .ok (.getfield 12, 3) := by decide +kernel
theorem dX7_wrong_19 : decode cX7_wrong 19 = .ok (.getfield 54, 3) := by decide +kernel
theorem dX7_wrong_22 : decode cX7_wrong 22 = .ok (.if_icmp .ge 32, 3) := by decide +kernel
theorem dX7_wrong_25 : decode cX7_wrong 25 = .ok (.aload_n 0, 1) := by decide +kernel
theorem dX7_wrong_26 : decode cX7_wrong 26 = .ok (.getfield 12, 3) := by decide +kernel
theorem dX7_wrong_29 : decode cX7_wrong 29 = .ok (.iload_n 2, 1) := by decide +kernel
theorem dX7_wrong_30 : decode cX7_wrong 30 = .ok (.invokevirtual 155, 3) := by decide +kernel
theorem dX7_wrong_33 : decode cX7_wrong 33 = .ok (.istore_n 3, 1) := by decide +kernel
theorem dX7_wrong_34 : decode cX7_wrong 34 = .ok (.iload_n 3, 1) := by decide +kernel
theorem dX7_wrong_35 : decode cX7_wrong 35 = .ok (.ifCond .eq 13, 3) := by decide +kernel
theorem dX7_wrong_38 : decode cX7_wrong 38 = .ok (.iload_n 1, 1) := by decide +kernel
theorem dX7_wrong_39 : decode cX7_wrong 39 = .ok (.ifCond .ne 7, 3) := by decide +kernel
theorem dX7_wrong_42 : decode cX7_wrong 42 = .ok (.iload_n 2, 1) := by decide +kernel
theorem dX7_wrong_43 : decode cX7_wrong 43 = .ok (.goto 4, 3) := by decide +kernel
theorem dX7_wrong_46 : decode cX7_wrong 46 = .ok (.iload_n 3, 1) := by decide +kernel
theorem dX7_wrong_47 : decode cX7_wrong 47 = .ok (.ireturn, 1) := by decide +kernel
theorem dX7_wrong_48 : decode cX7_wrong 48 = .ok (.iinc 2 1, 3) := by decide +kernel
theorem dX7_wrong_51 : decode cX7_wrong 51 = .ok (.goto (-37), 3) := by decide +kernel
theorem dX7_wrong_54 : decode cX7_wrong 54 = .ok (.bipush (-9), 2) := by decide +kernel
theorem dX7_wrong_56 : decode cX7_wrong 56 = .ok (.ireturn, 1) := by decide +kernel
theorem dX7_cost_0 : decode cX7_cost 0 = .ok (.aload_n 0, 1) := by decide +kernel
theorem dX7_cost_1 : decode cX7_cost 1 = .ok (.invokevirtual 158, 3) := by decide +kernel
theorem dX7_cost_4 : decode cX7_cost 4 = .ok (.aload_n 0, 1) := by decide +kernel
theorem dX7_cost_5 : decode cX7_cost 5 = .ok (.getfield 46, 3) := by decide +kernel
theorem dX7_cost_8 : decode cX7_cost 8 = .ok (.aload_n 0, 1) := by decide +kernel
theorem dX7_cost_9 : decode cX7_cost 9 = .ok (.getfield 12, 3) := by decide +kernel
theorem dX7_cost_12 : decode cX7_cost 12 = .ok (.getfield 89, 3) := by decide +kernel
theorem dX7_cost_15 : decode cX7_cost 15 = .ok (.invokevirtual 161, 3) := by decide +kernel
theorem dX7_cost_18 : decode cX7_cost 18 = .ok (.ireturn, 1) := by decide +kernel
theorem dX7_pieces_0 : decode cX7_pieces 0 = .ok (.iload_n 1, 1) := by decide +kernel
theorem dX7_pieces_1 : decode cX7_pieces 1 = .ok (.iconst 1, 1) := by decide +kernel
theorem dX7_pieces_2 : decode cX7_pieces 2 = .ok (.if_icmp .lt 9, 3) := by decide +kernel
theorem dX7_pieces_5 : decode cX7_pieces 5 = .ok (.iload_n 1, 1) := by decide +kernel
theorem dX7_pieces_6 : decode cX7_pieces 6 = .ok (.bipush 10, 2) := by decide +kernel
theorem dX7_pieces_8 : decode cX7_pieces 8 = .ok (.if_icmp .le 6, 3) := by decide +kernel
theorem dX7_pieces_11 : decode cX7_pieces 11 = .ok (.bipush (-2), 2) := by decide +kernel
theorem dX7_pieces_13 : decode cX7_pieces 13 = .ok (.ireturn, 1) := by decide +kernel
theorem dX7_pieces_14 : decode cX7_pieces 14 = .ok (.aload_n 0, 1) := by decide +kernel
theorem dX7_pieces_15 : decode cX7_pieces 15 = .ok (.invokevirtual 158, 3) := by decide +kernel
theorem dX7_pieces_18 : decode cX7_pieces 18 = .ok (.aload_n 0, 1) := by decide +kernel
theorem dX7_pieces_19 : decode cX7_pieces 19 = .ok (.getfield 46, 3) := by decide +kernel
theorem dX7_pieces_22 : decode cX7_pieces 22 = .ok (.iload_n 1, 1) := by decide +kernel
theorem dX7_pieces_23 : decode cX7_pieces 23 = .ok (.invokevirtual 149, 3) := by decide +kernel
theorem dX7_pieces_26 : decode cX7_pieces 26 = .ok (.ireturn, 1) := by decide +kernel
theorem dX7_piece_0 : decode cX7_piece 0 = .ok (.aload_n 0, 1) := by decide +kernel
theorem dX7_piece_1 : decode cX7_piece 1 = .ok (.getfield 12, 3) := by decide +kernel
theorem dX7_piece_4 : decode cX7_piece 4 = .ok (.iload_n 1, 1) := by decide +kernel
theorem dX7_piece_5 : decode cX7_piece 5 = .ok (.invokevirtual 69, 3) := by decide +kernel
theorem dX7_piece_8 : decode cX7_piece 8 = .ok (.ifCond .ne 5, 3) := by decide +kernel
theorem dX7_piece_11 : decode cX7_piece 11 = .ok (.iconst (-1), 1) := by decide +kernel
theorem dX7_piece_12 : decode cX7_piece 12 = .ok (.ireturn, 1) := by decide +kernel
theorem dX7_piece_13 : decode cX7_piece 13 = .ok (.iload_n 2, 1) := by decide +kernel
theorem dX7_piece_14 : decode cX7_piece 14 = .ok (.ifCond .lt 14, 3) := by decide +kernel
theorem dX7_piece_17 : decode cX7_piece 17 = .ok (.iload_n 2, 1) := by decide +kernel
theorem dX7_piece_18 : decode cX7_piece 18 = .ok (.aload_n 0, 1) := by decide +kernel
theorem dX7_piece_19 : decode cX7_piece 19 = .ok (.getfield 12, 3) := by decide +kernel
theorem dX7_piece_22 : decode cX7_piece 22 = .ok (.getfield 50, 3) := by decide +kernel
theorem dX7_piece_25 : decode cX7_piece 25 = .ok (.if_icmp .lt 6, 3) := by decide +kernel
theorem dX7_piece_28 : decode cX7_piece 28 = .ok (.bipush (-2), 2) := by decide +kernel
theorem dX7_piece_30 : decode cX7_piece 30 = .ok (.ireturn, 1) := by decide +kernel
theorem dX7_piece_31 : decode cX7_piece 31 = .ok (.aload_n 0, 1) := by decide +kernel
theorem dX7_piece_32 : decode cX7_piece 32 = .ok (.getfield 12, 3) := by decide +kernel
theorem dX7_piece_35 : decode cX7_piece 35 = .ok (.iload_n 1, 1) := by decide +kernel
theorem dX7_piece_36 : decode cX7_piece 36 = .ok (.invokevirtual 60, 3) := by decide +kernel
theorem dX7_piece_39 : decode cX7_piece 39 = .ok (.astore_n 3, 1) := by decide +kernel
theorem dX7_piece_40 : decode cX7_piece 40 = .ok (.aload_n 3, 1) := by decide +kernel
theorem dX7_piece_41 : decode cX7_piece 41 = .ok (.iload_n 2, 1) := by decide +kernel
theorem dX7_piece_42 : decode cX7_piece 42 = .ok (.invokevirtual 165, 3) := by decide +kernel
theorem dX7_piece_45 : decode cX7_piece 45 = .ok (.ifCond .eq 8, 3) := by decide +kernel
theorem dX7_piece_48 : decode cX7_piece 48 = .ok (.bipush (-9), 2) := by decide +kernel
theorem dX7_piece_50 : decode cX7_piece 50 = .ok (.goto 12, 3) := by decide +kernel
theorem dX7_piece_53 : decode cX7_piece 53 = .ok (.aload_n 0, 1) := by decide +kernel
theorem dX7_piece_54 : decode cX7_piece 54 = .ok (.getfield 12, 3) := by decide +kernel
theorem dX7_piece_57 : decode cX7_piece 57 = .ok (.aload_n 3, 1) := by decide +kernel
theorem dX7_piece_58 : decode cX7_piece 58 = .ok (.iload_n 2, 1) := by decide +kernel
theorem dX7_piece_59 : decode cX7_piece 59 = .ok (.invokevirtual 168, 3) := by decide +kernel
theorem dX7_piece_62 : decode cX7_piece 62 = .ok (.ireturn, 1) := by decide +kernel
theorem dX7_cut_0 : decode cX7_cut 0 = .ok (.aload_n 0, 1) := by decide +kernel
theorem dX7_cut_1 : decode cX7_cut 1 = .ok (.invokevirtual 158, 3) := by decide +kernel
theorem dX7_cut_4 : decode cX7_cut 4 = .ok (.aload_n 0, 1) := by decide +kernel
theorem dX7_cut_5 : decode cX7_cut 5 = .ok (.getfield 46, 3) := by decide +kernel
theorem dX7_cut_8 : decode cX7_cut 8 = .ok (.invokevirtual 172, 3) := by decide +kernel
theorem dX7_cut_11 : decode cX7_cut 11 = .ok (.ireturn, 1) := by decide +kernel
theorem dX7_many_0 : decode cX7_many 0 = .ok (.iload_n 1, 1) := by decide +kernel
theorem dX7_many_1 : decode cX7_many 1 = .ok (.tableswitch 85 0 5 #[39, 47, 55, 63, 68, 80], 39) := by decide +kernel
theorem dX7_many_40 : decode cX7_many 40 = .ok (.aload_n 0, 1) := by decide +kernel
theorem dX7_many_41 : decode cX7_many 41 = .ok (.getfield 12, 3) := by decide +kernel
theorem dX7_many_44 : decode cX7_many 44 = .ok (.getfield 54, 3) := by decide +kernel
theorem dX7_many_47 : decode cX7_many 47 = .ok (.ireturn, 1) := by decide +kernel
theorem dX7_many_48 : decode cX7_many 48 = .ok (.aload_n 0, 1) := by decide +kernel
theorem dX7_many_49 : decode cX7_many 49 = .ok (.getfield 12, 3) := by decide +kernel
theorem dX7_many_52 : decode cX7_many 52 = .ok (.getfield 50, 3) := by decide +kernel
theorem dX7_many_55 : decode cX7_many 55 = .ok (.ireturn, 1) := by decide +kernel
theorem dX7_many_56 : decode cX7_many 56 = .ok (.aload_n 0, 1) := by decide +kernel
theorem dX7_many_57 : decode cX7_many 57 = .ok (.getfield 12, 3) := by decide +kernel
theorem dX7_many_60 : decode cX7_many 60 = .ok (.getfield 103, 3) := by decide +kernel
theorem dX7_many_63 : decode cX7_many 63 = .ok (.ireturn, 1) := by decide +kernel
theorem dX7_many_64 : decode cX7_many 64 = .ok (.aload_n 0, 1) := by decide +kernel
theorem dX7_many_65 : decode cX7_many 65 = .ok (.invokevirtual 175, 3) := by decide +kernel
theorem dX7_many_68 : decode cX7_many 68 = .ok (.ireturn, 1) := by decide +kernel
theorem dX7_many_69 : decode cX7_many 69 = .ok (.aload_n 0, 1) := by decide +kernel
theorem dX7_many_70 : decode cX7_many 70 = .ok (.invokevirtual 158, 3) := by decide +kernel
theorem dX7_many_73 : decode cX7_many 73 = .ok (.aload_n 0, 1) := by decide +kernel
theorem dX7_many_74 : decode cX7_many 74 = .ok (.getfield 46, 3) := by decide +kernel
theorem dX7_many_77 : decode cX7_many 77 = .ok (.invokevirtual 178, 3) := by decide +kernel
theorem dX7_many_80 : decode cX7_many 80 = .ok (.ireturn, 1) := by decide +kernel
theorem dX7_many_81 : decode cX7_many 81 = .ok (.aload_n 0, 1) := by decide +kernel
theorem dX7_many_82 : decode cX7_many 82 = .ok (.invokevirtual 181, 3) := by decide +kernel
theorem dX7_many_85 : decode cX7_many 85 = .ok (.ireturn, 1) := by decide +kernel
theorem dX7_many_86 : decode cX7_many 86 = .ok (.bipush (-2), 2) := by decide +kernel
theorem dX7_many_88 : decode cX7_many 88 = .ok (.ireturn, 1) := by decide +kernel
theorem dX7_forgetWhatCanBe_0 : decode cX7_forgetWhatCanBe 0 = .ok (.aload_n 0, 1) := by decide +kernel
theorem dX7_forgetWhatCanBe_1 : decode cX7_forgetWhatCanBe 1 = .ok (.getfield 23, 3) := by decide +kernel
theorem dX7_forgetWhatCanBe_4 : decode cX7_forgetWhatCanBe 4 = .ok (.invokevirtual 184, 3) := by decide +kernel
theorem dX7_forgetWhatCanBe_7 : decode cX7_forgetWhatCanBe 7 = .ok (.aload_n 0, 1) := by decide +kernel
theorem dX7_forgetWhatCanBe_8 : decode cX7_forgetWhatCanBe 8 = .ok (.getfield 32, 3) := by decide +kernel
theorem dX7_forgetWhatCanBe_11 : decode cX7_forgetWhatCanBe 11 = .ok (.invokevirtual 187, 3) := by decide +kernel
theorem dX7_forgetWhatCanBe_14 : decode cX7_forgetWhatCanBe 14 = .ok (.aload_n 0, 1) := by decide +kernel
theorem dX7_forgetWhatCanBe_15 : decode cX7_forgetWhatCanBe 15 = .ok (.getfield 39, 3) := by decide +kernel
theorem dX7_forgetWhatCanBe_18 : decode cX7_forgetWhatCanBe 18 = .ok (.invokevirtual 188, 3) := by decide +kernel
theorem dX7_forgetWhatCanBe_21 : decode cX7_forgetWhatCanBe 21 = .ok (.return_, 1) := by decide +kernel
theorem dX7_tallyLaid_0 : decode cX7_tallyLaid 0 = .ok (.aload_n 0, 1) := by decide +kernel
theorem dX7_tallyLaid_1 : decode cX7_tallyLaid 1 = .ok (.getfield 46, 3) := by decide +kernel
theorem dX7_tallyLaid_4 : decode cX7_tallyLaid 4 = .ok (.invokevirtual 144, 3) := by decide +kernel
theorem dX7_tallyLaid_7 : decode cX7_tallyLaid 7 = .ok (.iconst 0, 1) := by decide +kernel
theorem dX7_tallyLaid_8 : decode cX7_tallyLaid 8 = .ok (.istore_n 1, 1) := by decide +kernel
theorem dX7_tallyLaid_9 : decode cX7_tallyLaid 9 = .ok (.iload_n 1, 1) := by decide +kernel
theorem dX7_tallyLaid_10 : decode cX7_tallyLaid 10 = .ok (.aload_n 0, 1) := by decide +kernel
theorem dX7_tallyLaid_11 : decode cX7_tallyLaid 11 = .ok (.getfield 12, 3) := by decide +kernel
theorem dX7_tallyLaid_14 : decode cX7_tallyLaid 14 = .ok (.getfield 54, 3) := by decide +kernel
theorem dX7_tallyLaid_17 : decode cX7_tallyLaid 17 = .ok (.if_icmp .ge 34, 3) := by decide +kernel
theorem dX7_tallyLaid_20 : decode cX7_tallyLaid 20 = .ok (.aload_n 0, 1) := by decide +kernel
theorem dX7_tallyLaid_21 : decode cX7_tallyLaid 21 = .ok (.getfield 12, 3) := by decide +kernel
theorem dX7_tallyLaid_24 : decode cX7_tallyLaid 24 = .ok (.iload_n 1, 1) := by decide +kernel
theorem dX7_tallyLaid_25 : decode cX7_tallyLaid 25 = .ok (.invokevirtual 60, 3) := by decide +kernel
theorem dX7_tallyLaid_28 : decode cX7_tallyLaid 28 = .ok (.astore_n 2, 1) := by decide +kernel
theorem dX7_tallyLaid_29 : decode cX7_tallyLaid 29 = .ok (.aload_n 0, 1) := by decide +kernel
theorem dX7_tallyLaid_30 : decode cX7_tallyLaid 30 = .ok (.getfield 12, 3) := by decide +kernel
theorem dX7_tallyLaid_33 : decode cX7_tallyLaid 33 = .ok (.aload_n 2, 1) := by decide +kernel
theorem dX7_tallyLaid_34 : decode cX7_tallyLaid 34 = .ok (.aload_n 2, 1) := by decide +kernel
theorem dX7_tallyLaid_35 : decode cX7_tallyLaid 35 = .ok (.getfield 114, 3) := by decide +kernel
theorem dX7_tallyLaid_38 : decode cX7_tallyLaid 38 = .ok (.aload_n 0, 1) := by decide +kernel
theorem dX7_tallyLaid_39 : decode cX7_tallyLaid 39 = .ok (.getfield 46, 3) := by decide +kernel
theorem dX7_tallyLaid_42 : decode cX7_tallyLaid 42 = .ok (.invokevirtual 145, 3) := by decide +kernel
theorem dX7_tallyLaid_45 : decode cX7_tallyLaid 45 = .ok (.iinc 1 1, 3) := by decide +kernel
theorem dX7_tallyLaid_48 : decode cX7_tallyLaid 48 = .ok (.goto (-39), 3) := by decide +kernel
theorem dX7_tallyLaid_51 : decode cX7_tallyLaid 51 = .ok (.return_, 1) := by decide +kernel
theorem dX7_spansOf_0 : decode cX7_spansOf 0 = .ok (.aload_n 0, 1) := by decide +kernel
theorem dX7_spansOf_1 : decode cX7_spansOf 1 = .ok (.getfield 46, 3) := by decide +kernel
theorem dX7_spansOf_4 : decode cX7_spansOf 4 = .ok (.invokevirtual 144, 3) := by decide +kernel
theorem dX7_spansOf_7 : decode cX7_spansOf 7 = .ok (.aload_n 0, 1) := by decide +kernel
theorem dX7_spansOf_8 : decode cX7_spansOf 8 = .ok (.getfield 12, 3) := by decide +kernel
theorem dX7_spansOf_11 : decode cX7_spansOf 11 = .ok (.aload_n 1, 1) := by decide +kernel
theorem dX7_spansOf_12 : decode cX7_spansOf 12 = .ok (.iconst 0, 1) := by decide +kernel
theorem dX7_spansOf_13 : decode cX7_spansOf 13 = .ok (.aload_n 0, 1) := by decide +kernel
theorem dX7_spansOf_14 : decode cX7_spansOf 14 = .ok (.getfield 46, 3) := by decide +kernel
theorem dX7_spansOf_17 : decode cX7_spansOf 17 = .ok (.invokevirtual 145, 3) := by decide +kernel
theorem dX7_spansOf_20 : decode cX7_spansOf 20 = .ok (.aload_n 0, 1) := by decide +kernel
theorem dX7_spansOf_21 : decode cX7_spansOf 21 = .ok (.getfield 46, 3) := by decide +kernel
theorem dX7_spansOf_24 : decode cX7_spansOf 24 = .ok (.invokevirtual 178, 3) := by decide +kernel
theorem dX7_spansOf_27 : decode cX7_spansOf 27 = .ok (.ireturn, 1) := by decide +kernel
theorem dX7_openCells_0 : decode cX7_openCells 0 = .ok (.iconst 0, 1) := by decide +kernel
theorem dX7_openCells_1 : decode cX7_openCells 1 = .ok (.istore_n 1, 1) := by decide +kernel
theorem dX7_openCells_2 : decode cX7_openCells 2 = .ok (.iconst 0, 1) := by decide +kernel
theorem dX7_openCells_3 : decode cX7_openCells 3 = .ok (.istore_n 2, 1) := by decide +kernel
theorem dX7_openCells_4 : decode cX7_openCells 4 = .ok (.iload_n 2, 1) := by decide +kernel
theorem dX7_openCells_5 : decode cX7_openCells 5 = .ok (.aload_n 0, 1) := by decide +kernel
theorem dX7_openCells_6 : decode cX7_openCells 6 = .ok (.getfield 12, 3) := by decide +kernel
theorem dX7_openCells_9 : decode cX7_openCells 9 = .ok (.getfield 54, 3) := by decide +kernel
theorem dX7_openCells_12 : decode cX7_openCells 12 = .ok (.if_icmp .ge 26, 3) := by decide +kernel
theorem dX7_openCells_15 : decode cX7_openCells 15 = .ok (.iload_n 1, 1) := by decide +kernel
theorem dX7_openCells_16 : decode cX7_openCells 16 = .ok (.aload_n 0, 1) := by decide +kernel
theorem dX7_openCells_17 : decode cX7_openCells 17 = .ok (.getfield 12, 3) := by decide +kernel
theorem dX7_openCells_20 : decode cX7_openCells 20 = .ok (.iload_n 2, 1) := by decide +kernel
theorem dX7_openCells_21 : decode cX7_openCells 21 = .ok (.invokevirtual 60, 3) := by decide +kernel
theorem dX7_openCells_24 : decode cX7_openCells 24 = .ok (.getfield 77, 3) := by decide +kernel
theorem dX7_openCells_27 : decode cX7_openCells 27 = .ok (.invokestatic 189, 3) := by decide +kernel
theorem dX7_openCells_30 : decode cX7_openCells 30 = .ok (.iadd, 1) := by decide +kernel
theorem dX7_openCells_31 : decode cX7_openCells 31 = .ok (.istore_n 1, 1) := by decide +kernel
theorem dX7_openCells_32 : decode cX7_openCells 32 = .ok (.iinc 2 1, 3) := by decide +kernel
theorem dX7_openCells_35 : decode cX7_openCells 35 = .ok (.goto (-31), 3) := by decide +kernel
theorem dX7_openCells_38 : decode cX7_openCells 38 = .ok (.iload_n 1, 1) := by decide +kernel
theorem dX7_openCells_39 : decode cX7_openCells 39 = .ok (.ireturn, 1) := by decide +kernel
theorem dX7_laidJoints_0 : decode cX7_laidJoints 0 = .ok (.iconst 0, 1) := by decide +kernel
theorem dX7_laidJoints_1 : decode cX7_laidJoints 1 = .ok (.istore_n 1, 1) := by decide +kernel
theorem dX7_laidJoints_2 : decode cX7_laidJoints 2 = .ok (.iconst 0, 1) := by decide +kernel
theorem dX7_laidJoints_3 : decode cX7_laidJoints 3 = .ok (.istore_n 2, 1) := by decide +kernel
theorem dX7_laidJoints_4 : decode cX7_laidJoints 4 = .ok (.iload_n 2, 1) := by decide +kernel
theorem dX7_laidJoints_5 : decode cX7_laidJoints 5 = .ok (.aload_n 0, 1) := by decide +kernel
theorem dX7_laidJoints_6 : decode cX7_laidJoints 6 = .ok (.getfield 12, 3) := by decide +kernel
theorem dX7_laidJoints_9 : decode cX7_laidJoints 9 = .ok (.getfield 54, 3) := by decide +kernel
theorem dX7_laidJoints_12 : decode cX7_laidJoints 12 = .ok (.if_icmp .ge 26, 3) := by decide +kernel
theorem dX7_laidJoints_15 : decode cX7_laidJoints 15 = .ok (.iload_n 1, 1) := by decide +kernel
theorem dX7_laidJoints_16 : decode cX7_laidJoints 16 = .ok (.aload_n 0, 1) := by decide +kernel
theorem dX7_laidJoints_17 : decode cX7_laidJoints 17 = .ok (.getfield 12, 3) := by decide +kernel
theorem dX7_laidJoints_20 : decode cX7_laidJoints 20 = .ok (.iload_n 2, 1) := by decide +kernel
theorem dX7_laidJoints_21 : decode cX7_laidJoints 21 = .ok (.invokevirtual 60, 3) := by decide +kernel
theorem dX7_laidJoints_24 : decode cX7_laidJoints 24 = .ok (.getfield 114, 3) := by decide +kernel
theorem dX7_laidJoints_27 : decode cX7_laidJoints 27 = .ok (.invokestatic 189, 3) := by decide +kernel
theorem dX7_laidJoints_30 : decode cX7_laidJoints 30 = .ok (.iadd, 1) := by decide +kernel
theorem dX7_laidJoints_31 : decode cX7_laidJoints 31 = .ok (.istore_n 1, 1) := by decide +kernel
theorem dX7_laidJoints_32 : decode cX7_laidJoints 32 = .ok (.iinc 2 1, 3) := by decide +kernel
theorem dX7_laidJoints_35 : decode cX7_laidJoints 35 = .ok (.goto (-31), 3) := by decide +kernel
theorem dX7_laidJoints_38 : decode cX7_laidJoints 38 = .ok (.iload_n 1, 1) := by decide +kernel
theorem dX7_laidJoints_39 : decode cX7_laidJoints 39 = .ok (.ireturn, 1) := by decide +kernel
theorem dJ6_bitCount_0f7a4_0 : decode cJ6_bitCount_0f7a4 0 = .ok (.iload_n 0, 1) := by decide +kernel
theorem dJ6_bitCount_0f7a4_1 : decode cJ6_bitCount_0f7a4 1 = .ok (.iload_n 0, 1) := by decide +kernel
theorem dJ6_bitCount_0f7a4_2 : decode cJ6_bitCount_0f7a4 2 = .ok (.iconst 1, 1) := by decide +kernel
theorem dJ6_bitCount_0f7a4_3 : decode cJ6_bitCount_0f7a4 3 = .ok (.iushr, 1) := by decide +kernel
theorem dJ6_bitCount_0f7a4_4 : decode cJ6_bitCount_0f7a4 4 = .ok (.ldc_w 265, 3) := by decide +kernel
theorem dJ6_bitCount_0f7a4_7 : decode cJ6_bitCount_0f7a4 7 = .ok (.iand, 1) := by decide +kernel
theorem dJ6_bitCount_0f7a4_8 : decode cJ6_bitCount_0f7a4 8 = .ok (.isub, 1) := by decide +kernel
theorem dJ6_bitCount_0f7a4_9 : decode cJ6_bitCount_0f7a4 9 = .ok (.istore_n 0, 1) := by decide +kernel
theorem dJ6_bitCount_0f7a4_10 : decode cJ6_bitCount_0f7a4 10 = .ok (.iload_n 0, 1) := by decide +kernel
theorem dJ6_bitCount_0f7a4_11 : decode cJ6_bitCount_0f7a4 11 = .ok (.ldc_w 266, 3) := by decide +kernel
theorem dJ6_bitCount_0f7a4_14 : decode cJ6_bitCount_0f7a4 14 = .ok (.iand, 1) := by decide +kernel
theorem dJ6_bitCount_0f7a4_15 : decode cJ6_bitCount_0f7a4 15 = .ok (.iload_n 0, 1) := by decide +kernel
theorem dJ6_bitCount_0f7a4_16 : decode cJ6_bitCount_0f7a4 16 = .ok (.iconst 2, 1) := by decide +kernel
theorem dJ6_bitCount_0f7a4_17 : decode cJ6_bitCount_0f7a4 17 = .ok (.iushr, 1) := by decide +kernel
theorem dJ6_bitCount_0f7a4_18 : decode cJ6_bitCount_0f7a4 18 = .ok (.ldc_w 266, 3) := by decide +kernel
theorem dJ6_bitCount_0f7a4_21 : decode cJ6_bitCount_0f7a4 21 = .ok (.iand, 1) := by decide +kernel
theorem dJ6_bitCount_0f7a4_22 : decode cJ6_bitCount_0f7a4 22 = .ok (.iadd, 1) := by decide +kernel
theorem dJ6_bitCount_0f7a4_23 : decode cJ6_bitCount_0f7a4 23 = .ok (.istore_n 0, 1) := by decide +kernel
theorem dJ6_bitCount_0f7a4_24 : decode cJ6_bitCount_0f7a4 24 = .ok (.iload_n 0, 1) := by decide +kernel
theorem dJ6_bitCount_0f7a4_25 : decode cJ6_bitCount_0f7a4 25 = .ok (.iload_n 0, 1) := by decide +kernel
theorem dJ6_bitCount_0f7a4_26 : decode cJ6_bitCount_0f7a4 26 = .ok (.iconst 4, 1) := by decide +kernel
theorem dJ6_bitCount_0f7a4_27 : decode cJ6_bitCount_0f7a4 27 = .ok (.iushr, 1) := by decide +kernel
theorem dJ6_bitCount_0f7a4_28 : decode cJ6_bitCount_0f7a4 28 = .ok (.iadd, 1) := by decide +kernel
theorem dJ6_bitCount_0f7a4_29 : decode cJ6_bitCount_0f7a4 29 = .ok (.ldc_w 267, 3) := by decide +kernel
theorem dJ6_bitCount_0f7a4_32 : decode cJ6_bitCount_0f7a4 32 = .ok (.iand, 1) := by decide +kernel
theorem dJ6_bitCount_0f7a4_33 : decode cJ6_bitCount_0f7a4 33 = .ok (.istore_n 0, 1) := by decide +kernel
theorem dJ6_bitCount_0f7a4_34 : decode cJ6_bitCount_0f7a4 34 = .ok (.iload_n 0, 1) := by decide +kernel
theorem dJ6_bitCount_0f7a4_35 : decode cJ6_bitCount_0f7a4 35 = .ok (.iload_n 0, 1) := by decide +kernel
theorem dJ6_bitCount_0f7a4_36 : decode cJ6_bitCount_0f7a4 36 = .ok (.bipush 8, 2) := by decide +kernel
theorem dJ6_bitCount_0f7a4_38 : decode cJ6_bitCount_0f7a4 38 = .ok (.iushr, 1) := by decide +kernel
theorem dJ6_bitCount_0f7a4_39 : decode cJ6_bitCount_0f7a4 39 = .ok (.iadd, 1) := by decide +kernel
theorem dJ6_bitCount_0f7a4_40 : decode cJ6_bitCount_0f7a4 40 = .ok (.istore_n 0, 1) := by decide +kernel
theorem dJ6_bitCount_0f7a4_41 : decode cJ6_bitCount_0f7a4 41 = .ok (.iload_n 0, 1) := by decide +kernel
theorem dJ6_bitCount_0f7a4_42 : decode cJ6_bitCount_0f7a4 42 = .ok (.iload_n 0, 1) := by decide +kernel
theorem dJ6_bitCount_0f7a4_43 : decode cJ6_bitCount_0f7a4 43 = .ok (.bipush 16, 2) := by decide +kernel
theorem dJ6_bitCount_0f7a4_45 : decode cJ6_bitCount_0f7a4 45 = .ok (.iushr, 1) := by decide +kernel
theorem dJ6_bitCount_0f7a4_46 : decode cJ6_bitCount_0f7a4 46 = .ok (.iadd, 1) := by decide +kernel
theorem dJ6_bitCount_0f7a4_47 : decode cJ6_bitCount_0f7a4 47 = .ok (.istore_n 0, 1) := by decide +kernel
theorem dJ6_bitCount_0f7a4_48 : decode cJ6_bitCount_0f7a4 48 = .ok (.iload_n 0, 1) := by decide +kernel
theorem dJ6_bitCount_0f7a4_49 : decode cJ6_bitCount_0f7a4 49 = .ok (.bipush 63, 2) := by decide +kernel
theorem dJ6_bitCount_0f7a4_51 : decode cJ6_bitCount_0f7a4 51 = .ok (.iand, 1) := by decide +kernel
theorem dJ6_bitCount_0f7a4_52 : decode cJ6_bitCount_0f7a4 52 = .ok (.ireturn, 1) := by decide +kernel
theorem dJ9_max_7cf53_0 : decode cJ9_max_7cf53 0 = .ok (.iload_n 0, 1) := by decide +kernel
theorem dJ9_max_7cf53_1 : decode cJ9_max_7cf53 1 = .ok (.iload_n 1, 1) := by decide +kernel
theorem dJ9_max_7cf53_2 : decode cJ9_max_7cf53 2 = .ok (.if_icmp .lt 7, 3) := by decide +kernel
theorem dJ9_max_7cf53_5 : decode cJ9_max_7cf53 5 = .ok (.iload_n 0, 1) := by decide +kernel
theorem dJ9_max_7cf53_6 : decode cJ9_max_7cf53 6 = .ok (.goto 4, 3) := by decide +kernel
theorem dJ9_max_7cf53_9 : decode cJ9_max_7cf53 9 = .ok (.iload_n 1, 1) := by decide +kernel
theorem dJ9_max_7cf53_10 : decode cJ9_max_7cf53 10 = .ok (.ireturn, 1) := by decide +kernel
theorem dJ9_min_7cf53_0 : decode cJ9_min_7cf53 0 = .ok (.iload_n 0, 1) := by decide +kernel
theorem dJ9_min_7cf53_1 : decode cJ9_min_7cf53 1 = .ok (.iload_n 1, 1) := by decide +kernel
theorem dJ9_min_7cf53_2 : decode cJ9_min_7cf53 2 = .ok (.if_icmp .gt 7, 3) := by decide +kernel
theorem dJ9_min_7cf53_5 : decode cJ9_min_7cf53 5 = .ok (.iload_n 0, 1) := by decide +kernel
theorem dJ9_min_7cf53_6 : decode cJ9_min_7cf53 6 = .ok (.goto 4, 3) := by decide +kernel
theorem dJ9_min_7cf53_9 : decode cJ9_min_7cf53 9 = .ok (.iload_n 1, 1) := by decide +kernel
theorem dJ9_min_7cf53_10 : decode cJ9_min_7cf53 10 = .ok (.ireturn, 1) := by decide +kernel
theorem dJ7_fill_d0a16_0 : decode cJ7_fill_d0a16 0 = .ok (.iconst 0, 1) := by decide +kernel
theorem dJ7_fill_d0a16_1 : decode cJ7_fill_d0a16 1 = .ok (.istore_n 3, 1) := by decide +kernel
theorem dJ7_fill_d0a16_2 : decode cJ7_fill_d0a16 2 = .ok (.aload_n 0, 1) := by decide +kernel
theorem dJ7_fill_d0a16_3 : decode cJ7_fill_d0a16 3 = .ok (.arraylength, 1) := by decide +kernel
theorem dJ7_fill_d0a16_4 : decode cJ7_fill_d0a16 4 = .ok (.istore 4, 2) := by decide +kernel
theorem dJ7_fill_d0a16_6 : decode cJ7_fill_d0a16 6 = .ok (.iload_n 3, 1) := by decide +kernel
theorem dJ7_fill_d0a16_7 : decode cJ7_fill_d0a16 7 = .ok (.iload 4, 2) := by decide +kernel
theorem dJ7_fill_d0a16_9 : decode cJ7_fill_d0a16 9 = .ok (.if_icmp .ge 13, 3) := by decide +kernel
theorem dJ7_fill_d0a16_12 : decode cJ7_fill_d0a16 12 = .ok (.aload_n 0, 1) := by decide +kernel
theorem dJ7_fill_d0a16_13 : decode cJ7_fill_d0a16 13 = .ok (.iload_n 3, 1) := by decide +kernel
theorem dJ7_fill_d0a16_14 : decode cJ7_fill_d0a16 14 = .ok (.lload_n 1, 1) := by decide +kernel
theorem dJ7_fill_d0a16_15 : decode cJ7_fill_d0a16 15 = .ok (.lastore, 1) := by decide +kernel
theorem dJ7_fill_d0a16_16 : decode cJ7_fill_d0a16 16 = .ok (.iinc 3 1, 3) := by decide +kernel
theorem dJ7_fill_d0a16_19 : decode cJ7_fill_d0a16 19 = .ok (.goto (-13), 3) := by decide +kernel
theorem dJ7_fill_d0a16_22 : decode cJ7_fill_d0a16 22 = .ok (.return_, 1) := by decide +kernel
theorem dJ7_fill_53178_0 : decode cJ7_fill_53178 0 = .ok (.iconst 0, 1) := by decide +kernel
theorem dJ7_fill_53178_1 : decode cJ7_fill_53178 1 = .ok (.istore_n 2, 1) := by decide +kernel
theorem dJ7_fill_53178_2 : decode cJ7_fill_53178 2 = .ok (.aload_n 0, 1) := by decide +kernel
theorem dJ7_fill_53178_3 : decode cJ7_fill_53178 3 = .ok (.arraylength, 1) := by decide +kernel
theorem dJ7_fill_53178_4 : decode cJ7_fill_53178 4 = .ok (.istore_n 3, 1) := by decide +kernel
theorem dJ7_fill_53178_5 : decode cJ7_fill_53178 5 = .ok (.iload_n 2, 1) := by decide +kernel
theorem dJ7_fill_53178_6 : decode cJ7_fill_53178 6 = .ok (.iload_n 3, 1) := by decide +kernel
theorem dJ7_fill_53178_7 : decode cJ7_fill_53178 7 = .ok (.if_icmp .ge 13, 3) := by decide +kernel
theorem dJ7_fill_53178_10 : decode cJ7_fill_53178 10 = .ok (.aload_n 0, 1) := by decide +kernel
theorem dJ7_fill_53178_11 : decode cJ7_fill_53178 11 = .ok (.iload_n 2, 1) := by decide +kernel
theorem dJ7_fill_53178_12 : decode cJ7_fill_53178 12 = .ok (.iload_n 1, 1) := by decide +kernel
theorem dJ7_fill_53178_13 : decode cJ7_fill_53178 13 = .ok (.iastore, 1) := by decide +kernel
theorem dJ7_fill_53178_14 : decode cJ7_fill_53178 14 = .ok (.iinc 2 1, 3) := by decide +kernel
theorem dJ7_fill_53178_17 : decode cJ7_fill_53178 17 = .ok (.goto (-12), 3) := by decide +kernel
theorem dJ7_fill_53178_20 : decode cJ7_fill_53178 20 = .ok (.return_, 1) := by decide +kernel
