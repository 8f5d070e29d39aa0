/-! decode rows -/
theorem k0_0 : decode (qc 0) 0 = .ok (.aload_n 0, 1) := by decide +kernel
theorem k0_1 : decode (qc 0) 1 = .ok (.invokespecial 5, 3) := by decide +kernel
theorem k0_4 : decode (qc 0) 4 = .ok (.aload_n 0, 1) := by decide +kernel
theorem k0_5 : decode (qc 0) 5 = .ok (.sipush 8748, 3) := by decide +kernel
theorem k0_8 : decode (qc 0) 8 = .ok (.newarray .int, 2) := by decide +kernel
theorem k0_10 : decode (qc 0) 10 = .ok (.putfield 11, 3) := by decide +kernel
theorem k0_13 : decode (qc 0) 13 = .ok (.aload_n 0, 1) := by decide +kernel
theorem k0_14 : decode (qc 0) 14 = .ok (.sipush 8748, 3) := by decide +kernel
theorem k0_17 : decode (qc 0) 17 = .ok (.newarray .int, 2) := by decide +kernel
theorem k0_19 : decode (qc 0) 19 = .ok (.putfield 15, 3) := by decide +kernel
theorem k0_22 : decode (qc 0) 22 = .ok (.aload_n 0, 1) := by decide +kernel
theorem k0_23 : decode (qc 0) 23 = .ok (.iconst 5, 1) := by decide +kernel
theorem k0_24 : decode (qc 0) 24 = .ok (.newarray .int, 2) := by decide +kernel
theorem k0_26 : decode (qc 0) 26 = .ok (.putfield 18, 3) := by decide +kernel
theorem k0_29 : decode (qc 0) 29 = .ok (.return_, 1) := by decide +kernel
theorem k1_0 : decode (qc 1) 0 = .ok (.aload_n 0, 1) := by decide +kernel
theorem k1_1 : decode (qc 1) 1 = .ok (.aload_n 1, 1) := by decide +kernel
theorem k1_2 : decode (qc 1) 2 = .ok (.putfield 21, 3) := by decide +kernel
theorem k1_5 : decode (qc 1) 5 = .ok (.aload_n 0, 1) := by decide +kernel
theorem k1_6 : decode (qc 1) 6 = .ok (.iload_n 2, 1) := by decide +kernel
theorem k1_7 : decode (qc 1) 7 = .ok (.putfield 25, 3) := by decide +kernel
theorem k1_10 : decode (qc 1) 10 = .ok (.aload_n 0, 1) := by decide +kernel
theorem k1_11 : decode (qc 1) 11 = .ok (.iload_n 3, 1) := by decide +kernel
theorem k1_12 : decode (qc 1) 12 = .ok (.putfield 29, 3) := by decide +kernel
theorem k1_15 : decode (qc 1) 15 = .ok (.aload_n 0, 1) := by decide +kernel
theorem k1_16 : decode (qc 1) 16 = .ok (.invokevirtual 32, 3) := by decide +kernel
theorem k1_19 : decode (qc 1) 19 = .ok (.iconst 2, 1) := by decide +kernel
theorem k1_20 : decode (qc 1) 20 = .ok (.iload 4, 2) := by decide +kernel
theorem k1_22 : decode (qc 1) 22 = .ok (.imul, 1) := by decide +kernel
theorem k1_23 : decode (qc 1) 23 = .ok (.iconst 1, 1) := by decide +kernel
theorem k1_24 : decode (qc 1) 24 = .ok (.isub, 1) := by decide +kernel
theorem k1_25 : decode (qc 1) 25 = .ok (.istore 5, 2) := by decide +kernel
theorem k1_27 : decode (qc 1) 27 = .ok (.iload 5, 2) := by decide +kernel
theorem k1_29 : decode (qc 1) 29 = .ok (.iconst 1, 1) := by decide +kernel
theorem k1_30 : decode (qc 1) 30 = .ok (.if_icmp .lt 35, 3) := by decide +kernel
theorem k1_33 : decode (qc 1) 33 = .ok (.aload_n 0, 1) := by decide +kernel
theorem k1_34 : decode (qc 1) 34 = .ok (.getfield 15, 3) := by decide +kernel
theorem k1_37 : decode (qc 1) 37 = .ok (.astore 6, 2) := by decide +kernel
theorem k1_39 : decode (qc 1) 39 = .ok (.aload_n 0, 1) := by decide +kernel
theorem k1_40 : decode (qc 1) 40 = .ok (.aload_n 0, 1) := by decide +kernel
theorem k1_41 : decode (qc 1) 41 = .ok (.getfield 11, 3) := by decide +kernel
theorem k1_44 : decode (qc 1) 44 = .ok (.putfield 15, 3) := by decide +kernel
theorem k1_47 : decode (qc 1) 47 = .ok (.aload_n 0, 1) := by decide +kernel
theorem k1_48 : decode (qc 1) 48 = .ok (.aload 6, 2) := by decide +kernel
theorem k1_50 : decode (qc 1) 50 = .ok (.putfield 11, 3) := by decide +kernel
theorem k1_53 : decode (qc 1) 53 = .ok (.aload_n 0, 1) := by decide +kernel
theorem k1_54 : decode (qc 1) 54 = .ok (.iload 5, 2) := by decide +kernel
theorem k1_56 : decode (qc 1) 56 = .ok (.invokevirtual 35, 3) := by decide +kernel
theorem k1_59 : decode (qc 1) 59 = .ok (.iinc 5 (-1), 3) := by decide +kernel
theorem k1_62 : decode (qc 1) 62 = .ok (.goto (-35), 3) := by decide +kernel
theorem k1_65 : decode (qc 1) 65 = .ok (.aload_n 0, 1) := by decide +kernel
theorem k1_66 : decode (qc 1) 66 = .ok (.invokevirtual 39, 3) := by decide +kernel
theorem k1_69 : decode (qc 1) 69 = .ok (.return_, 1) := by decide +kernel
theorem k2_0 : decode (qc 2) 0 = .ok (.aload_n 0, 1) := by decide +kernel
theorem k2_1 : decode (qc 2) 1 = .ok (.iconst 1, 1) := by decide +kernel
theorem k2_2 : decode (qc 2) 2 = .ok (.putfield 42, 3) := by decide +kernel
theorem k2_5 : decode (qc 2) 5 = .ok (.iconst 0, 1) := by decide +kernel
theorem k2_6 : decode (qc 2) 6 = .ok (.istore_n 1, 1) := by decide +kernel
theorem k2_7 : decode (qc 2) 7 = .ok (.iload_n 1, 1) := by decide +kernel
theorem k2_8 : decode (qc 2) 8 = .ok (.aload_n 0, 1) := by decide +kernel
theorem k2_9 : decode (qc 2) 9 = .ok (.getfield 21, 3) := by decide +kernel
theorem k2_12 : decode (qc 2) 12 = .ok (.getfield 45, 3) := by decide +kernel
theorem k2_15 : decode (qc 2) 15 = .ok (.if_icmp .ge 29, 3) := by decide +kernel
theorem k2_18 : decode (qc 2) 18 = .ok (.aload_n 0, 1) := by decide +kernel
theorem k2_19 : decode (qc 2) 19 = .ok (.getfield 18, 3) := by decide +kernel
theorem k2_22 : decode (qc 2) 22 = .ok (.iload_n 1, 1) := by decide +kernel
theorem k2_23 : decode (qc 2) 23 = .ok (.aload_n 0, 1) := by decide +kernel
theorem k2_24 : decode (qc 2) 24 = .ok (.getfield 42, 3) := by decide +kernel
theorem k2_27 : decode (qc 2) 27 = .ok (.iastore, 1) := by decide +kernel
theorem k2_28 : decode (qc 2) 28 = .ok (.aload_n 0, 1) := by decide +kernel
theorem k2_29 : decode (qc 2) 29 = .ok (.dup, 1) := by decide +kernel
theorem k2_30 : decode (qc 2) 30 = .ok (.getfield 42, 3) := by decide +kernel
theorem k2_33 : decode (qc 2) 33 = .ok (.iconst 3, 1) := by decide +kernel
theorem k2_34 : decode (qc 2) 34 = .ok (.imul, 1) := by decide +kernel
theorem k2_35 : decode (qc 2) 35 = .ok (.putfield 42, 3) := by decide +kernel
theorem k2_38 : decode (qc 2) 38 = .ok (.iinc 1 1, 3) := by decide +kernel
theorem k2_41 : decode (qc 2) 41 = .ok (.goto (-34), 3) := by decide +kernel
theorem k2_44 : decode (qc 2) 44 = .ok (.iconst 0, 1) := by decide +kernel
theorem k2_45 : decode (qc 2) 45 = .ok (.istore_n 1, 1) := by decide +kernel
theorem k2_46 : decode (qc 2) 46 = .ok (.iload_n 1, 1) := by decide +kernel
theorem k2_47 : decode (qc 2) 47 = .ok (.aload_n 0, 1) := by decide +kernel
theorem k2_48 : decode (qc 2) 48 = .ok (.getfield 42, 3) := by decide +kernel
theorem k2_51 : decode (qc 2) 51 = .ok (.if_icmp .ge 56, 3) := by decide +kernel
theorem k2_54 : decode (qc 2) 54 = .ok (.aload_n 0, 1) := by decide +kernel
theorem k2_55 : decode (qc 2) 55 = .ok (.iload_n 1, 1) := by decide +kernel
theorem k2_56 : decode (qc 2) 56 = .ok (.invokevirtual 50, 3) := by decide +kernel
theorem k2_59 : decode (qc 2) 59 = .ok (.istore_n 2, 1) := by decide +kernel
theorem k2_60 : decode (qc 2) 60 = .ok (.iconst 0, 1) := by decide +kernel
theorem k2_61 : decode (qc 2) 61 = .ok (.istore_n 3, 1) := by decide +kernel
theorem k2_62 : decode (qc 2) 62 = .ok (.iload_n 3, 1) := by decide +kernel
theorem k2_63 : decode (qc 2) 63 = .ok (.aload_n 0, 1) := by decide +kernel
theorem k2_64 : decode (qc 2) 64 = .ok (.getfield 21, 3) := by decide +kernel
theorem k2_67 : decode (qc 2) 67 = .ok (.getfield 54, 3) := by decide +kernel
theorem k2_70 : decode (qc 2) 70 = .ok (.aload_n 0, 1) := by decide +kernel
theorem k2_71 : decode (qc 2) 71 = .ok (.getfield 21, 3) := by decide +kernel
theorem k2_74 : decode (qc 2) 74 = .ok (.getfield 54, 3) := by decide +kernel
theorem k2_77 : decode (qc 2) 77 = .ok (.imul, 1) := by decide +kernel
theorem k2_78 : decode (qc 2) 78 = .ok (.if_icmp .ge 23, 3) := by decide +kernel
theorem k2_81 : decode (qc 2) 81 = .ok (.aload_n 0, 1) := by decide +kernel
theorem k2_82 : decode (qc 2) 82 = .ok (.getfield 11, 3) := by decide +kernel
theorem k2_85 : decode (qc 2) 85 = .ok (.iload_n 3, 1) := by decide +kernel
theorem k2_86 : decode (qc 2) 86 = .ok (.aload_n 0, 1) := by decide +kernel
theorem k2_87 : decode (qc 2) 87 = .ok (.getfield 42, 3) := by decide +kernel
theorem k2_90 : decode (qc 2) 90 = .ok (.imul, 1) := by decide +kernel
theorem k2_91 : decode (qc 2) 91 = .ok (.iload_n 1, 1) := by decide +kernel
theorem k2_92 : decode (qc 2) 92 = .ok (.iadd, 1) := by decide +kernel
theorem k2_93 : decode (qc 2) 93 = .ok (.iload_n 2, 1) := by decide +kernel
theorem k2_94 : decode (qc 2) 94 = .ok (.iastore, 1) := by decide +kernel
theorem k2_95 : decode (qc 2) 95 = .ok (.iinc 3 1, 3) := by decide +kernel
theorem k2_98 : decode (qc 2) 98 = .ok (.goto (-36), 3) := by decide +kernel
theorem k2_101 : decode (qc 2) 101 = .ok (.iinc 1 1, 3) := by decide +kernel
theorem k2_104 : decode (qc 2) 104 = .ok (.goto (-58), 3) := by decide +kernel
theorem k2_107 : decode (qc 2) 107 = .ok (.return_, 1) := by decide +kernel
theorem k3_0 : decode (qc 3) 0 = .ok (.iconst 0, 1) := by decide +kernel
theorem k3_1 : decode (qc 3) 1 = .ok (.istore_n 2, 1) := by decide +kernel
theorem k3_2 : decode (qc 3) 2 = .ok (.iconst 0, 1) := by decide +kernel
theorem k3_3 : decode (qc 3) 3 = .ok (.istore_n 3, 1) := by decide +kernel
theorem k3_4 : decode (qc 3) 4 = .ok (.iload_n 3, 1) := by decide +kernel
theorem k3_5 : decode (qc 3) 5 = .ok (.aload_n 0, 1) := by decide +kernel
theorem k3_6 : decode (qc 3) 6 = .ok (.getfield 21, 3) := by decide +kernel
theorem k3_9 : decode (qc 3) 9 = .ok (.getfield 45, 3) := by decide +kernel
theorem k3_12 : decode (qc 3) 12 = .ok (.if_icmp .ge 45, 3) := by decide +kernel
theorem k3_15 : decode (qc 3) 15 = .ok (.aload_n 0, 1) := by decide +kernel
theorem k3_16 : decode (qc 3) 16 = .ok (.iload_n 1, 1) := by decide +kernel
theorem k3_17 : decode (qc 3) 17 = .ok (.iload_n 3, 1) := by decide +kernel
theorem k3_18 : decode (qc 3) 18 = .ok (.invokevirtual 57, 3) := by decide +kernel
theorem k3_21 : decode (qc 3) 21 = .ok (.istore 4, 2) := by decide +kernel
theorem k3_23 : decode (qc 3) 23 = .ok (.iload_n 2, 1) := by decide +kernel
theorem k3_24 : decode (qc 3) 24 = .ok (.iload 4, 2) := by decide +kernel
theorem k3_26 : decode (qc 3) 26 = .ok (.iconst 1, 1) := by decide +kernel
theorem k3_27 : decode (qc 3) 27 = .ok (.if_icmp .ne 7, 3) := by decide +kernel
theorem k3_30 : decode (qc 3) 30 = .ok (.iconst 1, 1) := by decide +kernel
theorem k3_31 : decode (qc 3) 31 = .ok (.goto 4, 3) := by decide +kernel
theorem k3_34 : decode (qc 3) 34 = .ok (.iconst 0, 1) := by decide +kernel
theorem k3_35 : decode (qc 3) 35 = .ok (.iadd, 1) := by decide +kernel
theorem k3_36 : decode (qc 3) 36 = .ok (.istore_n 2, 1) := by decide +kernel
theorem k3_37 : decode (qc 3) 37 = .ok (.iload_n 2, 1) := by decide +kernel
theorem k3_38 : decode (qc 3) 38 = .ok (.iload 4, 2) := by decide +kernel
theorem k3_40 : decode (qc 3) 40 = .ok (.iconst 2, 1) := by decide +kernel
theorem k3_41 : decode (qc 3) 41 = .ok (.if_icmp .ne 7, 3) := by decide +kernel
theorem k3_44 : decode (qc 3) 44 = .ok (.iconst 1, 1) := by decide +kernel
theorem k3_45 : decode (qc 3) 45 = .ok (.goto 4, 3) := by decide +kernel
theorem k3_48 : decode (qc 3) 48 = .ok (.iconst 0, 1) := by decide +kernel
theorem k3_49 : decode (qc 3) 49 = .ok (.isub, 1) := by decide +kernel
theorem k3_50 : decode (qc 3) 50 = .ok (.istore_n 2, 1) := by decide +kernel
theorem k3_51 : decode (qc 3) 51 = .ok (.iinc 3 1, 3) := by decide +kernel
theorem k3_54 : decode (qc 3) 54 = .ok (.goto (-50), 3) := by decide +kernel
theorem k3_57 : decode (qc 3) 57 = .ok (.iload_n 2, 1) := by decide +kernel
theorem k3_58 : decode (qc 3) 58 = .ok (.ireturn, 1) := by decide +kernel
theorem k4_0 : decode (qc 4) 0 = .ok (.aload_n 0, 1) := by decide +kernel
theorem k4_1 : decode (qc 4) 1 = .ok (.getfield 18, 3) := by decide +kernel
theorem k4_4 : decode (qc 4) 4 = .ok (.iload_n 2, 1) := by decide +kernel
theorem k4_5 : decode (qc 4) 5 = .ok (.iaload, 1) := by decide +kernel
theorem k4_6 : decode (qc 4) 6 = .ok (.ifCond .le 16, 3) := by decide +kernel
theorem k4_9 : decode (qc 4) 9 = .ok (.iload_n 1, 1) := by decide +kernel
theorem k4_10 : decode (qc 4) 10 = .ok (.aload_n 0, 1) := by decide +kernel
theorem k4_11 : decode (qc 4) 11 = .ok (.getfield 18, 3) := by decide +kernel
theorem k4_14 : decode (qc 4) 14 = .ok (.iload_n 2, 1) := by decide +kernel
theorem k4_15 : decode (qc 4) 15 = .ok (.iaload, 1) := by decide +kernel
theorem k4_16 : decode (qc 4) 16 = .ok (.idiv, 1) := by decide +kernel
theorem k4_17 : decode (qc 4) 17 = .ok (.iconst 3, 1) := by decide +kernel
theorem k4_18 : decode (qc 4) 18 = .ok (.irem, 1) := by decide +kernel
theorem k4_19 : decode (qc 4) 19 = .ok (.goto 4, 3) := by decide +kernel
theorem k4_22 : decode (qc 4) 22 = .ok (.iconst 0, 1) := by decide +kernel
theorem k4_23 : decode (qc 4) 23 = .ok (.ireturn, 1) := by decide +kernel
theorem k5_0 : decode (qc 5) 0 = .ok (.iload_n 1, 1) := by decide +kernel
theorem k5_1 : decode (qc 5) 1 = .ok (.iconst 2, 1) := by decide +kernel
theorem k5_2 : decode (qc 5) 2 = .ok (.irem, 1) := by decide +kernel
theorem k5_3 : decode (qc 5) 3 = .ok (.ifCond .ne 7, 3) := by decide +kernel
theorem k5_6 : decode (qc 5) 6 = .ok (.iconst 1, 1) := by decide +kernel
theorem k5_7 : decode (qc 5) 7 = .ok (.goto 4, 3) := by decide +kernel
theorem k5_10 : decode (qc 5) 10 = .ok (.iconst 2, 1) := by decide +kernel
theorem k5_11 : decode (qc 5) 11 = .ok (.istore_n 2, 1) := by decide +kernel
theorem k5_12 : decode (qc 5) 12 = .ok (.aload_n 0, 1) := by decide +kernel
theorem k5_13 : decode (qc 5) 13 = .ok (.getfield 21, 3) := by decide +kernel
theorem k5_16 : decode (qc 5) 16 = .ok (.getfield 61, 3) := by decide +kernel
theorem k5_19 : decode (qc 5) 19 = .ok (.aload_n 0, 1) := by decide +kernel
theorem k5_20 : decode (qc 5) 20 = .ok (.getfield 25, 3) := by decide +kernel
theorem k5_23 : decode (qc 5) 23 = .ok (.aaload, 1) := by decide +kernel
theorem k5_24 : decode (qc 5) 24 = .ok (.iconst 0, 1) := by decide +kernel
theorem k5_25 : decode (qc 5) 25 = .ok (.iaload, 1) := by decide +kernel
theorem k5_26 : decode (qc 5) 26 = .ok (.istore_n 3, 1) := by decide +kernel
theorem k5_27 : decode (qc 5) 27 = .ok (.aload_n 0, 1) := by decide +kernel
theorem k5_28 : decode (qc 5) 28 = .ok (.getfield 21, 3) := by decide +kernel
theorem k5_31 : decode (qc 5) 31 = .ok (.getfield 61, 3) := by decide +kernel
theorem k5_34 : decode (qc 5) 34 = .ok (.aload_n 0, 1) := by decide +kernel
theorem k5_35 : decode (qc 5) 35 = .ok (.getfield 29, 3) := by decide +kernel
theorem k5_38 : decode (qc 5) 38 = .ok (.aaload, 1) := by decide +kernel
theorem k5_39 : decode (qc 5) 39 = .ok (.iconst 0, 1) := by decide +kernel
theorem k5_40 : decode (qc 5) 40 = .ok (.iaload, 1) := by decide +kernel
theorem k5_41 : decode (qc 5) 41 = .ok (.istore 4, 2) := by decide +kernel
theorem k5_43 : decode (qc 5) 43 = .ok (.iconst 0, 1) := by decide +kernel
theorem k5_44 : decode (qc 5) 44 = .ok (.istore 5, 2) := by decide +kernel
theorem k5_46 : decode (qc 5) 46 = .ok (.iload 5, 2) := by decide +kernel
theorem k5_48 : decode (qc 5) 48 = .ok (.aload_n 0, 1) := by decide +kernel
theorem k5_49 : decode (qc 5) 49 = .ok (.getfield 21, 3) := by decide +kernel
theorem k5_52 : decode (qc 5) 52 = .ok (.getfield 54, 3) := by decide +kernel
theorem k5_55 : decode (qc 5) 55 = .ok (.if_icmp .ge 138, 3) := by decide +kernel
theorem k5_58 : decode (qc 5) 58 = .ok (.iconst 0, 1) := by decide +kernel
theorem k5_59 : decode (qc 5) 59 = .ok (.istore 6, 2) := by decide +kernel
theorem k5_61 : decode (qc 5) 61 = .ok (.iload 6, 2) := by decide +kernel
theorem k5_63 : decode (qc 5) 63 = .ok (.aload_n 0, 1) := by decide +kernel
theorem k5_64 : decode (qc 5) 64 = .ok (.getfield 21, 3) := by decide +kernel
theorem k5_67 : decode (qc 5) 67 = .ok (.getfield 54, 3) := by decide +kernel
theorem k5_70 : decode (qc 5) 70 = .ok (.if_icmp .ge 117, 3) := by decide +kernel
theorem k5_73 : decode (qc 5) 73 = .ok (.iload 5, 2) := by decide +kernel
theorem k5_75 : decode (qc 5) 75 = .ok (.iload_n 3, 1) := by decide +kernel
theorem k5_76 : decode (qc 5) 76 = .ok (.isub, 1) := by decide +kernel
theorem k5_77 : decode (qc 5) 77 = .ok (.invokestatic 65, 3) := by decide +kernel
theorem k5_80 : decode (qc 5) 80 = .ok (.iload_n 1, 1) := by decide +kernel
theorem k5_81 : decode (qc 5) 81 = .ok (.iconst 1, 1) := by decide +kernel
theorem k5_82 : decode (qc 5) 82 = .ok (.iadd, 1) := by decide +kernel
theorem k5_83 : decode (qc 5) 83 = .ok (.iconst 2, 1) := by decide +kernel
theorem k5_84 : decode (qc 5) 84 = .ok (.idiv, 1) := by decide +kernel
theorem k5_85 : decode (qc 5) 85 = .ok (.if_icmp .gt 7, 3) := by decide +kernel
theorem k5_88 : decode (qc 5) 88 = .ok (.iconst 1, 1) := by decide +kernel
theorem k5_89 : decode (qc 5) 89 = .ok (.goto 4, 3) := by decide +kernel
theorem k5_92 : decode (qc 5) 92 = .ok (.iconst 0, 1) := by decide +kernel
theorem k5_93 : decode (qc 5) 93 = .ok (.istore 7, 2) := by decide +kernel
theorem k5_95 : decode (qc 5) 95 = .ok (.iload 7, 2) := by decide +kernel
theorem k5_97 : decode (qc 5) 97 = .ok (.ifCond .eq 84, 3) := by decide +kernel
theorem k5_100 : decode (qc 5) 100 = .ok (.iload 6, 2) := by decide +kernel
theorem k5_102 : decode (qc 5) 102 = .ok (.iload 4, 2) := by decide +kernel
theorem k5_104 : decode (qc 5) 104 = .ok (.isub, 1) := by decide +kernel
theorem k5_105 : decode (qc 5) 105 = .ok (.invokestatic 65, 3) := by decide +kernel
theorem k5_108 : decode (qc 5) 108 = .ok (.iload_n 1, 1) := by decide +kernel
theorem k5_109 : decode (qc 5) 109 = .ok (.iconst 2, 1) := by decide +kernel
theorem k5_110 : decode (qc 5) 110 = .ok (.idiv, 1) := by decide +kernel
theorem k5_111 : decode (qc 5) 111 = .ok (.if_icmp .gt 70, 3) := by decide +kernel
theorem k5_114 : decode (qc 5) 114 = .ok (.iload 5, 2) := by decide +kernel
theorem k5_116 : decode (qc 5) 116 = .ok (.aload_n 0, 1) := by decide +kernel
theorem k5_117 : decode (qc 5) 117 = .ok (.getfield 21, 3) := by decide +kernel
theorem k5_120 : decode (qc 5) 120 = .ok (.getfield 54, 3) := by decide +kernel
theorem k5_123 : decode (qc 5) 123 = .ok (.imul, 1) := by decide +kernel
theorem k5_124 : decode (qc 5) 124 = .ok (.iload 6, 2) := by decide +kernel
theorem k5_126 : decode (qc 5) 126 = .ok (.iadd, 1) := by decide +kernel
theorem k5_127 : decode (qc 5) 127 = .ok (.aload_n 0, 1) := by decide +kernel
theorem k5_128 : decode (qc 5) 128 = .ok (.getfield 42, 3) := by decide +kernel
theorem k5_131 : decode (qc 5) 131 = .ok (.imul, 1) := by decide +kernel
theorem k5_132 : decode (qc 5) 132 = .ok (.istore 8, 2) := by decide +kernel
theorem k5_134 : decode (qc 5) 134 = .ok (.iload_n 2, 1) := by decide +kernel
theorem k5_135 : decode (qc 5) 135 = .ok (.iconst 1, 1) := by decide +kernel
theorem k5_136 : decode (qc 5) 136 = .ok (.if_icmp .ne 18, 3) := by decide +kernel
theorem k5_139 : decode (qc 5) 139 = .ok (.aload_n 0, 1) := by decide +kernel
theorem k5_140 : decode (qc 5) 140 = .ok (.getfield 21, 3) := by decide +kernel
theorem k5_143 : decode (qc 5) 143 = .ok (.getfield 54, 3) := by decide +kernel
theorem k5_146 : decode (qc 5) 146 = .ok (.aload_n 0, 1) := by decide +kernel
theorem k5_147 : decode (qc 5) 147 = .ok (.getfield 42, 3) := by decide +kernel
theorem k5_150 : decode (qc 5) 150 = .ok (.imul, 1) := by decide +kernel
theorem k5_151 : decode (qc 5) 151 = .ok (.goto 7, 3) := by decide +kernel
theorem k5_154 : decode (qc 5) 154 = .ok (.aload_n 0, 1) := by decide +kernel
theorem k5_155 : decode (qc 5) 155 = .ok (.getfield 42, 3) := by decide +kernel
theorem k5_158 : decode (qc 5) 158 = .ok (.istore 9, 2) := by decide +kernel
theorem k5_160 : decode (qc 5) 160 = .ok (.aload_n 0, 1) := by decide +kernel
theorem k5_161 : decode (qc 5) 161 = .ok (.iload_n 2, 1) := by decide +kernel
theorem k5_162 : decode (qc 5) 162 = .ok (.iload_n 2, 1) := by decide +kernel
theorem k5_163 : decode (qc 5) 163 = .ok (.iconst 1, 1) := by decide +kernel
theorem k5_164 : decode (qc 5) 164 = .ok (.if_icmp .ne 8, 3) := by decide +kernel
theorem k5_167 : decode (qc 5) 167 = .ok (.iload 5, 2) := by decide +kernel
theorem k5_169 : decode (qc 5) 169 = .ok (.goto 5, 3) := by decide +kernel
theorem k5_172 : decode (qc 5) 172 = .ok (.iload 6, 2) := by decide +kernel
theorem k5_174 : decode (qc 5) 174 = .ok (.iload 8, 2) := by decide +kernel
theorem k5_176 : decode (qc 5) 176 = .ok (.iload 9, 2) := by decide +kernel
theorem k5_178 : decode (qc 5) 178 = .ok (.invokevirtual 70, 3) := by decide +kernel
theorem k5_181 : decode (qc 5) 181 = .ok (.iinc 6 1, 3) := by decide +kernel
theorem k5_184 : decode (qc 5) 184 = .ok (.goto (-123), 3) := by decide +kernel
theorem k5_187 : decode (qc 5) 187 = .ok (.iinc 5 1, 3) := by decide +kernel
theorem k5_190 : decode (qc 5) 190 = .ok (.goto (-144), 3) := by decide +kernel
theorem k5_193 : decode (qc 5) 193 = .ok (.return_, 1) := by decide +kernel
theorem k6_0 : decode (qc 6) 0 = .ok (.aload_n 0, 1) := by decide +kernel
theorem k6_1 : decode (qc 6) 1 = .ok (.getfield 15, 3) := by decide +kernel
theorem k6_4 : decode (qc 6) 4 = .ok (.iload_n 3, 1) := by decide +kernel
theorem k6_5 : decode (qc 6) 5 = .ok (.aload_n 0, 1) := by decide +kernel
theorem k6_6 : decode (qc 6) 6 = .ok (.getfield 11, 3) := by decide +kernel
theorem k6_9 : decode (qc 6) 9 = .ok (.iload_n 3, 1) := by decide +kernel
theorem k6_10 : decode (qc 6) 10 = .ok (.aload_n 0, 1) := by decide +kernel
theorem k6_11 : decode (qc 6) 11 = .ok (.getfield 42, 3) := by decide +kernel
theorem k6_14 : decode (qc 6) 14 = .ok (.invokestatic 74, 3) := by decide +kernel
theorem k6_17 : decode (qc 6) 17 = .ok (.iload_n 2, 1) := by decide +kernel
theorem k6_18 : decode (qc 6) 18 = .ok (.iconst 1, 1) := by decide +kernel
theorem k6_19 : decode (qc 6) 19 = .ok (.iadd, 1) := by decide +kernel
theorem k6_20 : decode (qc 6) 20 = .ok (.aload_n 0, 1) := by decide +kernel
theorem k6_21 : decode (qc 6) 21 = .ok (.getfield 21, 3) := by decide +kernel
theorem k6_24 : decode (qc 6) 24 = .ok (.getfield 54, 3) := by decide +kernel
theorem k6_27 : decode (qc 6) 27 = .ok (.if_icmp .ge 13, 3) := by decide +kernel
theorem k6_30 : decode (qc 6) 30 = .ok (.aload_n 0, 1) := by decide +kernel
theorem k6_31 : decode (qc 6) 31 = .ok (.iload_n 1, 1) := by decide +kernel
theorem k6_32 : decode (qc 6) 32 = .ok (.iload_n 3, 1) := by decide +kernel
theorem k6_33 : decode (qc 6) 33 = .ok (.iload_n 3, 1) := by decide +kernel
theorem k6_34 : decode (qc 6) 34 = .ok (.iload 4, 2) := by decide +kernel
theorem k6_36 : decode (qc 6) 36 = .ok (.iadd, 1) := by decide +kernel
theorem k6_37 : decode (qc 6) 37 = .ok (.invokevirtual 80, 3) := by decide +kernel
theorem k6_40 : decode (qc 6) 40 = .ok (.iload_n 2, 1) := by decide +kernel
theorem k6_41 : decode (qc 6) 41 = .ok (.ifCond .le 13, 3) := by decide +kernel
theorem k6_44 : decode (qc 6) 44 = .ok (.aload_n 0, 1) := by decide +kernel
theorem k6_45 : decode (qc 6) 45 = .ok (.iload_n 1, 1) := by decide +kernel
theorem k6_46 : decode (qc 6) 46 = .ok (.iload_n 3, 1) := by decide +kernel
theorem k6_47 : decode (qc 6) 47 = .ok (.iload_n 3, 1) := by decide +kernel
theorem k6_48 : decode (qc 6) 48 = .ok (.iload 4, 2) := by decide +kernel
theorem k6_50 : decode (qc 6) 50 = .ok (.isub, 1) := by decide +kernel
theorem k6_51 : decode (qc 6) 51 = .ok (.invokevirtual 80, 3) := by decide +kernel
theorem k6_54 : decode (qc 6) 54 = .ok (.iconst 0, 1) := by decide +kernel
theorem k6_55 : decode (qc 6) 55 = .ok (.istore 5, 2) := by decide +kernel
theorem k6_57 : decode (qc 6) 57 = .ok (.iload 5, 2) := by decide +kernel
theorem k6_59 : decode (qc 6) 59 = .ok (.aload_n 0, 1) := by decide +kernel
theorem k6_60 : decode (qc 6) 60 = .ok (.getfield 21, 3) := by decide +kernel
theorem k6_63 : decode (qc 6) 63 = .ok (.getfield 45, 3) := by decide +kernel
theorem k6_66 : decode (qc 6) 66 = .ok (.if_icmp .ge 28, 3) := by decide +kernel
theorem k6_69 : decode (qc 6) 69 = .ok (.aload_n 0, 1) := by decide +kernel
theorem k6_70 : decode (qc 6) 70 = .ok (.iload_n 1, 1) := by decide +kernel
theorem k6_71 : decode (qc 6) 71 = .ok (.iload_n 2, 1) := by decide +kernel
theorem k6_72 : decode (qc 6) 72 = .ok (.iload 5, 2) := by decide +kernel
theorem k6_74 : decode (qc 6) 74 = .ok (.invokevirtual 84, 3) := by decide +kernel
theorem k6_77 : decode (qc 6) 77 = .ok (.ifCond .eq 11, 3) := by decide +kernel
theorem k6_80 : decode (qc 6) 80 = .ok (.aload_n 0, 1) := by decide +kernel
theorem k6_81 : decode (qc 6) 81 = .ok (.iload_n 1, 1) := by decide +kernel
theorem k6_82 : decode (qc 6) 82 = .ok (.iload_n 3, 1) := by decide +kernel
theorem k6_83 : decode (qc 6) 83 = .ok (.iload 5, 2) := by decide +kernel
theorem k6_85 : decode (qc 6) 85 = .ok (.invokevirtual 88, 3) := by decide +kernel
theorem k6_88 : decode (qc 6) 88 = .ok (.iinc 5 1, 3) := by decide +kernel
theorem k6_91 : decode (qc 6) 91 = .ok (.goto (-34), 3) := by decide +kernel
theorem k6_94 : decode (qc 6) 94 = .ok (.return_, 1) := by decide +kernel
theorem k7_0 : decode (qc 7) 0 = .ok (.iconst 0, 1) := by decide +kernel
theorem k7_1 : decode (qc 7) 1 = .ok (.istore 4, 2) := by decide +kernel
theorem k7_3 : decode (qc 7) 3 = .ok (.iload 4, 2) := by decide +kernel
theorem k7_5 : decode (qc 7) 5 = .ok (.aload_n 0, 1) := by decide +kernel
theorem k7_6 : decode (qc 7) 6 = .ok (.getfield 42, 3) := by decide +kernel
theorem k7_9 : decode (qc 7) 9 = .ok (.if_icmp .ge 27, 3) := by decide +kernel
theorem k7_12 : decode (qc 7) 12 = .ok (.aload_n 0, 1) := by decide +kernel
theorem k7_13 : decode (qc 7) 13 = .ok (.iload_n 1, 1) := by decide +kernel
theorem k7_14 : decode (qc 7) 14 = .ok (.iload_n 2, 1) := by decide +kernel
theorem k7_15 : decode (qc 7) 15 = .ok (.iload 4, 2) := by decide +kernel
theorem k7_17 : decode (qc 7) 17 = .ok (.iadd, 1) := by decide +kernel
theorem k7_18 : decode (qc 7) 18 = .ok (.aload_n 0, 1) := by decide +kernel
theorem k7_19 : decode (qc 7) 19 = .ok (.getfield 15, 3) := by decide +kernel
theorem k7_22 : decode (qc 7) 22 = .ok (.iload_n 3, 1) := by decide +kernel
theorem k7_23 : decode (qc 7) 23 = .ok (.iload 4, 2) := by decide +kernel
theorem k7_25 : decode (qc 7) 25 = .ok (.iadd, 1) := by decide +kernel
theorem k7_26 : decode (qc 7) 26 = .ok (.iaload, 1) := by decide +kernel
theorem k7_27 : decode (qc 7) 27 = .ok (.invokevirtual 91, 3) := by decide +kernel
theorem k7_30 : decode (qc 7) 30 = .ok (.iinc 4 1, 3) := by decide +kernel
theorem k7_33 : decode (qc 7) 33 = .ok (.goto (-30), 3) := by decide +kernel
theorem k7_36 : decode (qc 7) 36 = .ok (.return_, 1) := by decide +kernel
theorem k8_0 : decode (qc 8) 0 = .ok (.iconst 0, 1) := by decide +kernel
theorem k8_1 : decode (qc 8) 1 = .ok (.istore 4, 2) := by decide +kernel
theorem k8_3 : decode (qc 8) 3 = .ok (.iload 4, 2) := by decide +kernel
theorem k8_5 : decode (qc 8) 5 = .ok (.aload_n 0, 1) := by decide +kernel
theorem k8_6 : decode (qc 8) 6 = .ok (.getfield 42, 3) := by decide +kernel
theorem k8_9 : decode (qc 8) 9 = .ok (.if_icmp .ge 48, 3) := by decide +kernel
theorem k8_12 : decode (qc 8) 12 = .ok (.iload 4, 2) := by decide +kernel
theorem k8_14 : decode (qc 8) 14 = .ok (.iload_n 1, 1) := by decide +kernel
theorem k8_15 : decode (qc 8) 15 = .ok (.aload_n 0, 1) := by decide +kernel
theorem k8_16 : decode (qc 8) 16 = .ok (.iload 4, 2) := by decide +kernel
theorem k8_18 : decode (qc 8) 18 = .ok (.iload_n 3, 1) := by decide +kernel
theorem k8_19 : decode (qc 8) 19 = .ok (.invokevirtual 57, 3) := by decide +kernel
theorem k8_22 : decode (qc 8) 22 = .ok (.isub, 1) := by decide +kernel
theorem k8_23 : decode (qc 8) 23 = .ok (.aload_n 0, 1) := by decide +kernel
theorem k8_24 : decode (qc 8) 24 = .ok (.getfield 18, 3) := by decide +kernel
theorem k8_27 : decode (qc 8) 27 = .ok (.iload_n 3, 1) := by decide +kernel
theorem k8_28 : decode (qc 8) 28 = .ok (.iaload, 1) := by decide +kernel
theorem k8_29 : decode (qc 8) 29 = .ok (.imul, 1) := by decide +kernel
theorem k8_30 : decode (qc 8) 30 = .ok (.iadd, 1) := by decide +kernel
theorem k8_31 : decode (qc 8) 31 = .ok (.istore 5, 2) := by decide +kernel
theorem k8_33 : decode (qc 8) 33 = .ok (.aload_n 0, 1) := by decide +kernel
theorem k8_34 : decode (qc 8) 34 = .ok (.iload_n 1, 1) := by decide +kernel
theorem k8_35 : decode (qc 8) 35 = .ok (.iload_n 2, 1) := by decide +kernel
theorem k8_36 : decode (qc 8) 36 = .ok (.iload 4, 2) := by decide +kernel
theorem k8_38 : decode (qc 8) 38 = .ok (.iadd, 1) := by decide +kernel
theorem k8_39 : decode (qc 8) 39 = .ok (.aload_n 0, 1) := by decide +kernel
theorem k8_40 : decode (qc 8) 40 = .ok (.getfield 15, 3) := by decide +kernel
theorem k8_43 : decode (qc 8) 43 = .ok (.iload_n 2, 1) := by decide +kernel
theorem k8_44 : decode (qc 8) 44 = .ok (.iload 5, 2) := by decide +kernel
theorem k8_46 : decode (qc 8) 46 = .ok (.iadd, 1) := by decide +kernel
theorem k8_47 : decode (qc 8) 47 = .ok (.iaload, 1) := by decide +kernel
theorem k8_48 : decode (qc 8) 48 = .ok (.invokevirtual 91, 3) := by decide +kernel
theorem k8_51 : decode (qc 8) 51 = .ok (.iinc 4 1, 3) := by decide +kernel
theorem k8_54 : decode (qc 8) 54 = .ok (.goto (-51), 3) := by decide +kernel
theorem k8_57 : decode (qc 8) 57 = .ok (.return_, 1) := by decide +kernel
theorem k9_0 : decode (qc 9) 0 = .ok (.iload_n 1, 1) := by decide +kernel
theorem k9_1 : decode (qc 9) 1 = .ok (.iconst 1, 1) := by decide +kernel
theorem k9_2 : decode (qc 9) 2 = .ok (.if_icmp .ne 16, 3) := by decide +kernel
theorem k9_5 : decode (qc 9) 5 = .ok (.iload_n 3, 1) := by decide +kernel
theorem k9_6 : decode (qc 9) 6 = .ok (.aload_n 0, 1) := by decide +kernel
theorem k9_7 : decode (qc 9) 7 = .ok (.getfield 11, 3) := by decide +kernel
theorem k9_10 : decode (qc 9) 10 = .ok (.iload_n 2, 1) := by decide +kernel
theorem k9_11 : decode (qc 9) 11 = .ok (.iaload, 1) := by decide +kernel
theorem k9_12 : decode (qc 9) 12 = .ok (.if_icmp .le 23, 3) := by decide +kernel
theorem k9_15 : decode (qc 9) 15 = .ok (.goto 13, 3) := by decide +kernel
theorem k9_18 : decode (qc 9) 18 = .ok (.iload_n 3, 1) := by decide +kernel
theorem k9_19 : decode (qc 9) 19 = .ok (.aload_n 0, 1) := by decide +kernel
theorem k9_20 : decode (qc 9) 20 = .ok (.getfield 11, 3) := by decide +kernel
theorem k9_23 : decode (qc 9) 23 = .ok (.iload_n 2, 1) := by decide +kernel
theorem k9_24 : decode (qc 9) 24 = .ok (.iaload, 1) := by decide +kernel
theorem k9_25 : decode (qc 9) 25 = .ok (.if_icmp .ge 10, 3) := by decide +kernel
theorem k9_28 : decode (qc 9) 28 = .ok (.aload_n 0, 1) := by decide +kernel
theorem k9_29 : decode (qc 9) 29 = .ok (.getfield 11, 3) := by decide +kernel
theorem k9_32 : decode (qc 9) 32 = .ok (.iload_n 2, 1) := by decide +kernel
theorem k9_33 : decode (qc 9) 33 = .ok (.iload_n 3, 1) := by decide +kernel
theorem k9_34 : decode (qc 9) 34 = .ok (.iastore, 1) := by decide +kernel
theorem k9_35 : decode (qc 9) 35 = .ok (.return_, 1) := by decide +kernel
theorem k10_0 : decode (qc 10) 0 = .ok (.aload_n 0, 1) := by decide +kernel
theorem k10_1 : decode (qc 10) 1 = .ok (.getfield 21, 3) := by decide +kernel
theorem k10_4 : decode (qc 10) 4 = .ok (.getfield 94, 3) := by decide +kernel
theorem k10_7 : decode (qc 10) 7 = .ok (.iload_n 3, 1) := by decide +kernel
theorem k10_8 : decode (qc 10) 8 = .ok (.aaload, 1) := by decide +kernel
theorem k10_9 : decode (qc 10) 9 = .ok (.iconst 0, 1) := by decide +kernel
theorem k10_10 : decode (qc 10) 10 = .ok (.iaload, 1) := by decide +kernel
theorem k10_11 : decode (qc 10) 11 = .ok (.iload_n 2, 1) := by decide +kernel
theorem k10_12 : decode (qc 10) 12 = .ok (.if_icmp .ne 34, 3) := by decide +kernel
theorem k10_15 : decode (qc 10) 15 = .ok (.aload_n 0, 1) := by decide +kernel
theorem k10_16 : decode (qc 10) 16 = .ok (.getfield 21, 3) := by decide +kernel
theorem k10_19 : decode (qc 10) 19 = .ok (.iload_n 1, 1) := by decide +kernel
theorem k10_20 : decode (qc 10) 20 = .ok (.iconst 1, 1) := by decide +kernel
theorem k10_21 : decode (qc 10) 21 = .ok (.if_icmp .ne 10, 3) := by decide +kernel
theorem k10_24 : decode (qc 10) 24 = .ok (.aload_n 0, 1) := by decide +kernel
theorem k10_25 : decode (qc 10) 25 = .ok (.getfield 25, 3) := by decide +kernel
theorem k10_28 : decode (qc 10) 28 = .ok (.goto 7, 3) := by decide +kernel
theorem k10_31 : decode (qc 10) 31 = .ok (.aload_n 0, 1) := by decide +kernel
theorem k10_32 : decode (qc 10) 32 = .ok (.getfield 29, 3) := by decide +kernel
theorem k10_35 : decode (qc 10) 35 = .ok (.iload_n 3, 1) := by decide +kernel
theorem k10_36 : decode (qc 10) 36 = .ok (.invokevirtual 97, 3) := by decide +kernel
theorem k10_39 : decode (qc 10) 39 = .ok (.ifCond .eq 7, 3) := by decide +kernel
theorem k10_42 : decode (qc 10) 42 = .ok (.iconst 1, 1) := by decide +kernel
theorem k10_43 : decode (qc 10) 43 = .ok (.goto 4, 3) := by decide +kernel
theorem k10_46 : decode (qc 10) 46 = .ok (.iconst 0, 1) := by decide +kernel
theorem k10_47 : decode (qc 10) 47 = .ok (.ireturn, 1) := by decide +kernel
theorem k11_0 : decode (qc 11) 0 = .ok (.aload_n 0, 1) := by decide +kernel
theorem k11_1 : decode (qc 11) 1 = .ok (.getfield 21, 3) := by decide +kernel
theorem k11_4 : decode (qc 11) 4 = .ok (.getfield 61, 3) := by decide +kernel
theorem k11_7 : decode (qc 11) 7 = .ok (.aload_n 0, 1) := by decide +kernel
theorem k11_8 : decode (qc 11) 8 = .ok (.getfield 25, 3) := by decide +kernel
theorem k11_11 : decode (qc 11) 11 = .ok (.aaload, 1) := by decide +kernel
theorem k11_12 : decode (qc 11) 12 = .ok (.iconst 0, 1) := by decide +kernel
theorem k11_13 : decode (qc 11) 13 = .ok (.iaload, 1) := by decide +kernel
theorem k11_14 : decode (qc 11) 14 = .ok (.istore_n 1, 1) := by decide +kernel
theorem k11_15 : decode (qc 11) 15 = .ok (.iload_n 1, 1) := by decide +kernel
theorem k11_16 : decode (qc 11) 16 = .ok (.aload_n 0, 1) := by decide +kernel
theorem k11_17 : decode (qc 11) 17 = .ok (.getfield 21, 3) := by decide +kernel
theorem k11_20 : decode (qc 11) 20 = .ok (.getfield 54, 3) := by decide +kernel
theorem k11_23 : decode (qc 11) 23 = .ok (.imul, 1) := by decide +kernel
theorem k11_24 : decode (qc 11) 24 = .ok (.aload_n 0, 1) := by decide +kernel
theorem k11_25 : decode (qc 11) 25 = .ok (.getfield 21, 3) := by decide +kernel
theorem k11_28 : decode (qc 11) 28 = .ok (.getfield 61, 3) := by decide +kernel
theorem k11_31 : decode (qc 11) 31 = .ok (.aload_n 0, 1) := by decide +kernel
theorem k11_32 : decode (qc 11) 32 = .ok (.getfield 29, 3) := by decide +kernel
theorem k11_35 : decode (qc 11) 35 = .ok (.aaload, 1) := by decide +kernel
theorem k11_36 : decode (qc 11) 36 = .ok (.iconst 0, 1) := by decide +kernel
theorem k11_37 : decode (qc 11) 37 = .ok (.iaload, 1) := by decide +kernel
theorem k11_38 : decode (qc 11) 38 = .ok (.iadd, 1) := by decide +kernel
theorem k11_39 : decode (qc 11) 39 = .ok (.aload_n 0, 1) := by decide +kernel
theorem k11_40 : decode (qc 11) 40 = .ok (.getfield 42, 3) := by decide +kernel
theorem k11_43 : decode (qc 11) 43 = .ok (.imul, 1) := by decide +kernel
theorem k11_44 : decode (qc 11) 44 = .ok (.istore_n 2, 1) := by decide +kernel
theorem k11_45 : decode (qc 11) 45 = .ok (.aload_n 0, 1) := by decide +kernel
theorem k11_46 : decode (qc 11) 46 = .ok (.getfield 21, 3) := by decide +kernel
theorem k11_49 : decode (qc 11) 49 = .ok (.getfield 54, 3) := by decide +kernel
theorem k11_52 : decode (qc 11) 52 = .ok (.aload_n 0, 1) := by decide +kernel
theorem k11_53 : decode (qc 11) 53 = .ok (.getfield 42, 3) := by decide +kernel
theorem k11_56 : decode (qc 11) 56 = .ok (.imul, 1) := by decide +kernel
theorem k11_57 : decode (qc 11) 57 = .ok (.istore_n 3, 1) := by decide +kernel
theorem k11_58 : decode (qc 11) 58 = .ok (.aload_n 0, 1) := by decide +kernel
theorem k11_59 : decode (qc 11) 59 = .ok (.aload_n 0, 1) := by decide +kernel
theorem k11_60 : decode (qc 11) 60 = .ok (.getfield 11, 3) := by decide +kernel
theorem k11_63 : decode (qc 11) 63 = .ok (.iload_n 2, 1) := by decide +kernel
theorem k11_64 : decode (qc 11) 64 = .ok (.iaload, 1) := by decide +kernel
theorem k11_65 : decode (qc 11) 65 = .ok (.putfield 101, 3) := by decide +kernel
theorem k11_68 : decode (qc 11) 68 = .ok (.aload_n 0, 1) := by decide +kernel
theorem k11_69 : decode (qc 11) 69 = .ok (.iconst 0, 1) := by decide +kernel
theorem k11_70 : decode (qc 11) 70 = .ok (.putfield 104, 3) := by decide +kernel
theorem k11_73 : decode (qc 11) 73 = .ok (.iload_n 1, 1) := by decide +kernel
theorem k11_74 : decode (qc 11) 74 = .ok (.iconst 1, 1) := by decide +kernel
theorem k11_75 : decode (qc 11) 75 = .ok (.iadd, 1) := by decide +kernel
theorem k11_76 : decode (qc 11) 76 = .ok (.aload_n 0, 1) := by decide +kernel
theorem k11_77 : decode (qc 11) 77 = .ok (.getfield 21, 3) := by decide +kernel
theorem k11_80 : decode (qc 11) 80 = .ok (.getfield 54, 3) := by decide +kernel
theorem k11_83 : decode (qc 11) 83 = .ok (.if_icmp .ge 16, 3) := by decide +kernel
theorem k11_86 : decode (qc 11) 86 = .ok (.aload_n 0, 1) := by decide +kernel
theorem k11_87 : decode (qc 11) 87 = .ok (.aload_n 0, 1) := by decide +kernel
theorem k11_88 : decode (qc 11) 88 = .ok (.getfield 11, 3) := by decide +kernel
theorem k11_91 : decode (qc 11) 91 = .ok (.iload_n 2, 1) := by decide +kernel
theorem k11_92 : decode (qc 11) 92 = .ok (.iload_n 3, 1) := by decide +kernel
theorem k11_93 : decode (qc 11) 93 = .ok (.iadd, 1) := by decide +kernel
theorem k11_94 : decode (qc 11) 94 = .ok (.iaload, 1) := by decide +kernel
theorem k11_95 : decode (qc 11) 95 = .ok (.iconst 1, 1) := by decide +kernel
theorem k11_96 : decode (qc 11) 96 = .ok (.invokevirtual 107, 3) := by decide +kernel
theorem k11_99 : decode (qc 11) 99 = .ok (.iload_n 1, 1) := by decide +kernel
theorem k11_100 : decode (qc 11) 100 = .ok (.ifCond .le 16, 3) := by decide +kernel
theorem k11_103 : decode (qc 11) 103 = .ok (.aload_n 0, 1) := by decide +kernel
theorem k11_104 : decode (qc 11) 104 = .ok (.aload_n 0, 1) := by decide +kernel
theorem k11_105 : decode (qc 11) 105 = .ok (.getfield 11, 3) := by decide +kernel
theorem k11_108 : decode (qc 11) 108 = .ok (.iload_n 2, 1) := by decide +kernel
theorem k11_109 : decode (qc 11) 109 = .ok (.iload_n 3, 1) := by decide +kernel
theorem k11_110 : decode (qc 11) 110 = .ok (.isub, 1) := by decide +kernel
theorem k11_111 : decode (qc 11) 111 = .ok (.iaload, 1) := by decide +kernel
theorem k11_112 : decode (qc 11) 112 = .ok (.iconst 2, 1) := by decide +kernel
theorem k11_113 : decode (qc 11) 113 = .ok (.invokevirtual 107, 3) := by decide +kernel
theorem k11_116 : decode (qc 11) 116 = .ok (.iconst 0, 1) := by decide +kernel
theorem k11_117 : decode (qc 11) 117 = .ok (.istore 4, 2) := by decide +kernel
theorem k11_119 : decode (qc 11) 119 = .ok (.iload 4, 2) := by decide +kernel
theorem k11_121 : decode (qc 11) 121 = .ok (.aload_n 0, 1) := by decide +kernel
theorem k11_122 : decode (qc 11) 122 = .ok (.getfield 21, 3) := by decide +kernel
theorem k11_125 : decode (qc 11) 125 = .ok (.getfield 45, 3) := by decide +kernel
theorem k11_128 : decode (qc 11) 128 = .ok (.if_icmp .ge 42, 3) := by decide +kernel
theorem k11_131 : decode (qc 11) 131 = .ok (.aload_n 0, 1) := by decide +kernel
theorem k11_132 : decode (qc 11) 132 = .ok (.iconst 1, 1) := by decide +kernel
theorem k11_133 : decode (qc 11) 133 = .ok (.iload_n 1, 1) := by decide +kernel
theorem k11_134 : decode (qc 11) 134 = .ok (.iload 4, 2) := by decide +kernel
theorem k11_136 : decode (qc 11) 136 = .ok (.invokevirtual 84, 3) := by decide +kernel
theorem k11_139 : decode (qc 11) 139 = .ok (.ifCond .eq 25, 3) := by decide +kernel
theorem k11_142 : decode (qc 11) 142 = .ok (.aload_n 0, 1) := by decide +kernel
theorem k11_143 : decode (qc 11) 143 = .ok (.aload_n 0, 1) := by decide +kernel
theorem k11_144 : decode (qc 11) 144 = .ok (.getfield 11, 3) := by decide +kernel
theorem k11_147 : decode (qc 11) 147 = .ok (.iload_n 2, 1) := by decide +kernel
theorem k11_148 : decode (qc 11) 148 = .ok (.aload_n 0, 1) := by decide +kernel
theorem k11_149 : decode (qc 11) 149 = .ok (.getfield 18, 3) := by decide +kernel
theorem k11_152 : decode (qc 11) 152 = .ok (.iload 4, 2) := by decide +kernel
theorem k11_154 : decode (qc 11) 154 = .ok (.iaload, 1) := by decide +kernel
theorem k11_155 : decode (qc 11) 155 = .ok (.iadd, 1) := by decide +kernel
theorem k11_156 : decode (qc 11) 156 = .ok (.iaload, 1) := by decide +kernel
theorem k11_157 : decode (qc 11) 157 = .ok (.iconst 3, 1) := by decide +kernel
theorem k11_158 : decode (qc 11) 158 = .ok (.iload 4, 2) := by decide +kernel
theorem k11_160 : decode (qc 11) 160 = .ok (.iadd, 1) := by decide +kernel
theorem k11_161 : decode (qc 11) 161 = .ok (.invokevirtual 107, 3) := by decide +kernel
theorem k11_164 : decode (qc 11) 164 = .ok (.iinc 4 1, 3) := by decide +kernel
theorem k11_167 : decode (qc 11) 167 = .ok (.goto (-48), 3) := by decide +kernel
theorem k11_170 : decode (qc 11) 170 = .ok (.return_, 1) := by decide +kernel
theorem k12_0 : decode (qc 12) 0 = .ok (.iload_n 1, 1) := by decide +kernel
theorem k12_1 : decode (qc 12) 1 = .ok (.aload_n 0, 1) := by decide +kernel
theorem k12_2 : decode (qc 12) 2 = .ok (.getfield 101, 3) := by decide +kernel
theorem k12_5 : decode (qc 12) 5 = .ok (.if_icmp .le 13, 3) := by decide +kernel
theorem k12_8 : decode (qc 12) 8 = .ok (.aload_n 0, 1) := by decide +kernel
theorem k12_9 : decode (qc 12) 9 = .ok (.iload_n 1, 1) := by decide +kernel
theorem k12_10 : decode (qc 12) 10 = .ok (.putfield 101, 3) := by decide +kernel
theorem k12_13 : decode (qc 12) 13 = .ok (.aload_n 0, 1) := by decide +kernel
theorem k12_14 : decode (qc 12) 14 = .ok (.iload_n 2, 1) := by decide +kernel
theorem k12_15 : decode (qc 12) 15 = .ok (.putfield 104, 3) := by decide +kernel
theorem k12_18 : decode (qc 12) 18 = .ok (.return_, 1) := by decide +kernel
theorem k2000_0 : decode (qc 2000) 0 = .ok (.aload_n 0, 1) := by decide +kernel
theorem k2000_1 : decode (qc 2000) 1 = .ok (.aload_n 1, 1) := by decide +kernel
theorem k2000_2 : decode (qc 2000) 2 = .ok (.invokespecial 3, 3) := by decide +kernel
theorem k2000_5 : decode (qc 2000) 5 = .ok (.aload_n 0, 1) := by decide +kernel
theorem k2000_6 : decode (qc 2000) 6 = .ok (.new 9, 3) := by decide +kernel
theorem k2000_9 : decode (qc 2000) 9 = .ok (.dup, 1) := by decide +kernel
theorem k2000_10 : decode (qc 2000) 10 = .ok (.invokespecial 11, 3) := by decide +kernel
theorem k2000_13 : decode (qc 2000) 13 = .ok (.putfield 14, 3) := by decide +kernel
theorem k2000_16 : decode (qc 2000) 16 = .ok (.return_, 1) := by decide +kernel
theorem k2001_0 : decode (qc 2001) 0 = .ok (.aload_n 0, 1) := by decide +kernel
theorem k2001_1 : decode (qc 2001) 1 = .ok (.iconst 0, 1) := by decide +kernel
theorem k2001_2 : decode (qc 2001) 2 = .ok (.putfield 20, 3) := by decide +kernel
theorem k2001_5 : decode (qc 2001) 5 = .ok (.aload_n 0, 1) := by decide +kernel
theorem k2001_6 : decode (qc 2001) 6 = .ok (.getfield 14, 3) := by decide +kernel
theorem k2001_9 : decode (qc 2001) 9 = .ok (.invokevirtual 24, 3) := by decide +kernel
theorem k2001_12 : decode (qc 2001) 12 = .ok (.aload_n 0, 1) := by decide +kernel
theorem k2001_13 : decode (qc 2001) 13 = .ok (.bipush 114, 2) := by decide +kernel
theorem k2001_15 : decode (qc 2001) 15 = .ok (.invokevirtual 27, 3) := by decide +kernel
theorem k2001_18 : decode (qc 2001) 18 = .ok (.ifCond .ne 5, 3) := by decide +kernel
theorem k2001_21 : decode (qc 2001) 21 = .ok (.iconst 0, 1) := by decide +kernel
theorem k2001_22 : decode (qc 2001) 22 = .ok (.ireturn, 1) := by decide +kernel
theorem k2001_23 : decode (qc 2001) 23 = .ok (.aload_n 0, 1) := by decide +kernel
theorem k2001_24 : decode (qc 2001) 24 = .ok (.iconst 2, 1) := by decide +kernel
theorem k2001_25 : decode (qc 2001) 25 = .ok (.iconst 2, 1) := by decide +kernel
theorem k2001_26 : decode (qc 2001) 26 = .ok (.bipush 6, 2) := by decide +kernel
theorem k2001_28 : decode (qc 2001) 28 = .ok (.invokevirtual 31, 3) := by decide +kernel
theorem k2001_31 : decode (qc 2001) 31 = .ok (.istore_n 1, 1) := by decide +kernel
theorem k2001_32 : decode (qc 2001) 32 = .ok (.iload_n 1, 1) := by decide +kernel
theorem k2001_33 : decode (qc 2001) 33 = .ok (.iconst (-1), 1) := by decide +kernel
theorem k2001_34 : decode (qc 2001) 34 = .ok (.if_icmp .ne 5, 3) := by decide +kernel
theorem k2001_37 : decode (qc 2001) 37 = .ok (.iconst 0, 1) := by decide +kernel
theorem k2001_38 : decode (qc 2001) 38 = .ok (.ireturn, 1) := by decide +kernel
theorem k2001_39 : decode (qc 2001) 39 = .ok (.aload_n 0, 1) := by decide +kernel
theorem k2001_40 : decode (qc 2001) 40 = .ok (.getfield 14, 3) := by decide +kernel
theorem k2001_43 : decode (qc 2001) 43 = .ok (.iload_n 1, 1) := by decide +kernel
theorem k2001_44 : decode (qc 2001) 44 = .ok (.putfield 35, 3) := by decide +kernel
theorem k2001_47 : decode (qc 2001) 47 = .ok (.iconst 0, 1) := by decide +kernel
theorem k2001_48 : decode (qc 2001) 48 = .ok (.istore_n 2, 1) := by decide +kernel
theorem k2001_49 : decode (qc 2001) 49 = .ok (.iload_n 2, 1) := by decide +kernel
theorem k2001_50 : decode (qc 2001) 50 = .ok (.sipush 160, 3) := by decide +kernel
theorem k2001_53 : decode (qc 2001) 53 = .ok (.if_icmp .ge 37, 3) := by decide +kernel
theorem k2001_56 : decode (qc 2001) 56 = .ok (.aload_n 0, 1) := by decide +kernel
theorem k2001_57 : decode (qc 2001) 57 = .ok (.invokevirtual 38, 3) := by decide +kernel
theorem k2001_60 : decode (qc 2001) 60 = .ok (.bipush 59, 2) := by decide +kernel
theorem k2001_62 : decode (qc 2001) 62 = .ok (.if_icmp .ne 28, 3) := by decide +kernel
theorem k2001_65 : decode (qc 2001) 65 = .ok (.aload_n 0, 1) := by decide +kernel
theorem k2001_66 : decode (qc 2001) 66 = .ok (.dup, 1) := by decide +kernel
theorem k2001_67 : decode (qc 2001) 67 = .ok (.getfield 20, 3) := by decide +kernel
theorem k2001_70 : decode (qc 2001) 70 = .ok (.iconst 1, 1) := by decide +kernel
theorem k2001_71 : decode (qc 2001) 71 = .ok (.iadd, 1) := by decide +kernel
theorem k2001_72 : decode (qc 2001) 72 = .ok (.putfield 20, 3) := by decide +kernel
theorem k2001_75 : decode (qc 2001) 75 = .ok (.aload_n 0, 1) := by decide +kernel
theorem k2001_76 : decode (qc 2001) 76 = .ok (.invokevirtual 42, 3) := by decide +kernel
theorem k2001_79 : decode (qc 2001) 79 = .ok (.ifCond .ne 5, 3) := by decide +kernel
theorem k2001_82 : decode (qc 2001) 82 = .ok (.iconst 0, 1) := by decide +kernel
theorem k2001_83 : decode (qc 2001) 83 = .ok (.ireturn, 1) := by decide +kernel
theorem k2001_84 : decode (qc 2001) 84 = .ok (.iinc 2 1, 3) := by decide +kernel
theorem k2001_87 : decode (qc 2001) 87 = .ok (.goto (-38), 3) := by decide +kernel
theorem k2001_90 : decode (qc 2001) 90 = .ok (.aload_n 0, 1) := by decide +kernel
theorem k2001_91 : decode (qc 2001) 91 = .ok (.invokevirtual 38, 3) := by decide +kernel
theorem k2001_94 : decode (qc 2001) 94 = .ok (.iconst (-1), 1) := by decide +kernel
theorem k2001_95 : decode (qc 2001) 95 = .ok (.if_icmp .ne 17, 3) := by decide +kernel
theorem k2001_98 : decode (qc 2001) 98 = .ok (.aload_n 0, 1) := by decide +kernel
theorem k2001_99 : decode (qc 2001) 99 = .ok (.getfield 14, 3) := by decide +kernel
theorem k2001_102 : decode (qc 2001) 102 = .ok (.invokevirtual 46, 3) := by decide +kernel
theorem k2001_105 : decode (qc 2001) 105 = .ok (.ifCond .eq 7, 3) := by decide +kernel
theorem k2001_108 : decode (qc 2001) 108 = .ok (.iconst 1, 1) := by decide +kernel
theorem k2001_109 : decode (qc 2001) 109 = .ok (.goto 4, 3) := by decide +kernel
theorem k2001_112 : decode (qc 2001) 112 = .ok (.iconst 0, 1) := by decide +kernel
theorem k2001_113 : decode (qc 2001) 113 = .ok (.ireturn, 1) := by decide +kernel
theorem k2002_0 : decode (qc 2002) 0 = .ok (.aload_n 0, 1) := by decide +kernel
theorem k2002_1 : decode (qc 2002) 1 = .ok (.invokevirtual 38, 3) := by decide +kernel
theorem k2002_4 : decode (qc 2002) 4 = .ok (.istore_n 1, 1) := by decide +kernel
theorem k2002_5 : decode (qc 2002) 5 = .ok (.iload_n 1, 1) := by decide +kernel
theorem k2002_6 : decode (qc 2002) 6 = .ok (.bipush 115, 2) := by decide +kernel
theorem k2002_8 : decode (qc 2002) 8 = .ok (.if_icmp .ne 61, 3) := by decide +kernel
theorem k2002_11 : decode (qc 2002) 11 = .ok (.aload_n 0, 1) := by decide +kernel
theorem k2002_12 : decode (qc 2002) 12 = .ok (.getfield 14, 3) := by decide +kernel
theorem k2002_15 : decode (qc 2002) 15 = .ok (.getfield 49, 3) := by decide +kernel
theorem k2002_18 : decode (qc 2002) 18 = .ok (.iconst 5, 1) := by decide +kernel
theorem k2002_19 : decode (qc 2002) 19 = .ok (.if_icmp .ge 50, 3) := by decide +kernel
theorem k2002_22 : decode (qc 2002) 22 = .ok (.aload_n 0, 1) := by decide +kernel
theorem k2002_23 : decode (qc 2002) 23 = .ok (.dup, 1) := by decide +kernel
theorem k2002_24 : decode (qc 2002) 24 = .ok (.getfield 20, 3) := by decide +kernel
theorem k2002_27 : decode (qc 2002) 27 = .ok (.iconst 1, 1) := by decide +kernel
theorem k2002_28 : decode (qc 2002) 28 = .ok (.iadd, 1) := by decide +kernel
theorem k2002_29 : decode (qc 2002) 29 = .ok (.putfield 20, 3) := by decide +kernel
theorem k2002_32 : decode (qc 2002) 32 = .ok (.aload_n 0, 1) := by decide +kernel
theorem k2002_33 : decode (qc 2002) 33 = .ok (.getfield 14, 3) := by decide +kernel
theorem k2002_36 : decode (qc 2002) 36 = .ok (.dup, 1) := by decide +kernel
theorem k2002_37 : decode (qc 2002) 37 = .ok (.getfield 49, 3) := by decide +kernel
theorem k2002_40 : decode (qc 2002) 40 = .ok (.iconst 1, 1) := by decide +kernel
theorem k2002_41 : decode (qc 2002) 41 = .ok (.iadd, 1) := by decide +kernel
theorem k2002_42 : decode (qc 2002) 42 = .ok (.putfield 49, 3) := by decide +kernel
theorem k2002_45 : decode (qc 2002) 45 = .ok (.aload_n 0, 1) := by decide +kernel
theorem k2002_46 : decode (qc 2002) 46 = .ok (.ldc 52, 2) := by decide +kernel
theorem k2002_48 : decode (qc 2002) 48 = .ok (.aload_n 0, 1) := by decide +kernel
theorem k2002_49 : decode (qc 2002) 49 = .ok (.getfield 14, 3) := by decide +kernel
theorem k2002_52 : decode (qc 2002) 52 = .ok (.getfield 54, 3) := by decide +kernel
theorem k2002_55 : decode (qc 2002) 55 = .ok (.aload_n 0, 1) := by decide +kernel
theorem k2002_56 : decode (qc 2002) 56 = .ok (.getfield 14, 3) := by decide +kernel
theorem k2002_59 : decode (qc 2002) 59 = .ok (.getfield 49, 3) := by decide +kernel
theorem k2002_62 : decode (qc 2002) 62 = .ok (.iconst 1, 1) := by decide +kernel
theorem k2002_63 : decode (qc 2002) 63 = .ok (.isub, 1) := by decide +kernel
theorem k2002_64 : decode (qc 2002) 64 = .ok (.aaload, 1) := by decide +kernel
theorem k2002_65 : decode (qc 2002) 65 = .ok (.invokevirtual 58, 3) := by decide +kernel
theorem k2002_68 : decode (qc 2002) 68 = .ok (.ireturn, 1) := by decide +kernel
theorem k2002_69 : decode (qc 2002) 69 = .ok (.iload_n 1, 1) := by decide +kernel
theorem k2002_70 : decode (qc 2002) 70 = .ok (.bipush 109, 2) := by decide +kernel
theorem k2002_72 : decode (qc 2002) 72 = .ok (.if_icmp .ne 61, 3) := by decide +kernel
theorem k2002_75 : decode (qc 2002) 75 = .ok (.aload_n 0, 1) := by decide +kernel
theorem k2002_76 : decode (qc 2002) 76 = .ok (.getfield 14, 3) := by decide +kernel
theorem k2002_79 : decode (qc 2002) 79 = .ok (.getfield 62, 3) := by decide +kernel
theorem k2002_82 : decode (qc 2002) 82 = .ok (.iconst 3, 1) := by decide +kernel
theorem k2002_83 : decode (qc 2002) 83 = .ok (.if_icmp .ge 50, 3) := by decide +kernel
theorem k2002_86 : decode (qc 2002) 86 = .ok (.aload_n 0, 1) := by decide +kernel
theorem k2002_87 : decode (qc 2002) 87 = .ok (.dup, 1) := by decide +kernel
theorem k2002_88 : decode (qc 2002) 88 = .ok (.getfield 20, 3) := by decide +kernel
theorem k2002_91 : decode (qc 2002) 91 = .ok (.iconst 1, 1) := by decide +kernel
theorem k2002_92 : decode (qc 2002) 92 = .ok (.iadd, 1) := by decide +kernel
theorem k2002_93 : decode (qc 2002) 93 = .ok (.putfield 20, 3) := by decide +kernel
theorem k2002_96 : decode (qc 2002) 96 = .ok (.aload_n 0, 1) := by decide +kernel
theorem k2002_97 : decode (qc 2002) 97 = .ok (.getfield 14, 3) := by decide +kernel
theorem k2002_100 : decode (qc 2002) 100 = .ok (.dup, 1) := by decide +kernel
theorem k2002_101 : decode (qc 2002) 101 = .ok (.getfield 62, 3) := by decide +kernel
theorem k2002_104 : decode (qc 2002) 104 = .ok (.iconst 1, 1) := by decide +kernel
theorem k2002_105 : decode (qc 2002) 105 = .ok (.iadd, 1) := by decide +kernel
theorem k2002_106 : decode (qc 2002) 106 = .ok (.putfield 62, 3) := by decide +kernel
theorem k2002_109 : decode (qc 2002) 109 = .ok (.aload_n 0, 1) := by decide +kernel
theorem k2002_110 : decode (qc 2002) 110 = .ok (.ldc 65, 2) := by decide +kernel
theorem k2002_112 : decode (qc 2002) 112 = .ok (.aload_n 0, 1) := by decide +kernel
theorem k2002_113 : decode (qc 2002) 113 = .ok (.getfield 14, 3) := by decide +kernel
theorem k2002_116 : decode (qc 2002) 116 = .ok (.getfield 67, 3) := by decide +kernel
theorem k2002_119 : decode (qc 2002) 119 = .ok (.aload_n 0, 1) := by decide +kernel
theorem k2002_120 : decode (qc 2002) 120 = .ok (.getfield 14, 3) := by decide +kernel
theorem k2002_123 : decode (qc 2002) 123 = .ok (.getfield 62, 3) := by decide +kernel
theorem k2002_126 : decode (qc 2002) 126 = .ok (.iconst 1, 1) := by decide +kernel
theorem k2002_127 : decode (qc 2002) 127 = .ok (.isub, 1) := by decide +kernel
theorem k2002_128 : decode (qc 2002) 128 = .ok (.aaload, 1) := by decide +kernel
theorem k2002_129 : decode (qc 2002) 129 = .ok (.invokevirtual 58, 3) := by decide +kernel
theorem k2002_132 : decode (qc 2002) 132 = .ok (.ireturn, 1) := by decide +kernel
theorem k2002_133 : decode (qc 2002) 133 = .ok (.iload_n 1, 1) := by decide +kernel
theorem k2002_134 : decode (qc 2002) 134 = .ok (.bipush 116, 2) := by decide +kernel
theorem k2002_136 : decode (qc 2002) 136 = .ok (.if_icmp .ne 61, 3) := by decide +kernel
theorem k2002_139 : decode (qc 2002) 139 = .ok (.aload_n 0, 1) := by decide +kernel
theorem k2002_140 : decode (qc 2002) 140 = .ok (.getfield 14, 3) := by decide +kernel
theorem k2002_143 : decode (qc 2002) 143 = .ok (.getfield 70, 3) := by decide +kernel
theorem k2002_146 : decode (qc 2002) 146 = .ok (.iconst 4, 1) := by decide +kernel
theorem k2002_147 : decode (qc 2002) 147 = .ok (.if_icmp .ge 50, 3) := by decide +kernel
theorem k2002_150 : decode (qc 2002) 150 = .ok (.aload_n 0, 1) := by decide +kernel
theorem k2002_151 : decode (qc 2002) 151 = .ok (.dup, 1) := by decide +kernel
theorem k2002_152 : decode (qc 2002) 152 = .ok (.getfield 20, 3) := by decide +kernel
theorem k2002_155 : decode (qc 2002) 155 = .ok (.iconst 1, 1) := by decide +kernel
theorem k2002_156 : decode (qc 2002) 156 = .ok (.iadd, 1) := by decide +kernel
theorem k2002_157 : decode (qc 2002) 157 = .ok (.putfield 20, 3) := by decide +kernel
theorem k2002_160 : decode (qc 2002) 160 = .ok (.aload_n 0, 1) := by decide +kernel
theorem k2002_161 : decode (qc 2002) 161 = .ok (.getfield 14, 3) := by decide +kernel
theorem k2002_164 : decode (qc 2002) 164 = .ok (.dup, 1) := by decide +kernel
theorem k2002_165 : decode (qc 2002) 165 = .ok (.getfield 70, 3) := by decide +kernel
theorem k2002_168 : decode (qc 2002) 168 = .ok (.iconst 1, 1) := by decide +kernel
theorem k2002_169 : decode (qc 2002) 169 = .ok (.iadd, 1) := by decide +kernel
theorem k2002_170 : decode (qc 2002) 170 = .ok (.putfield 70, 3) := by decide +kernel
theorem k2002_173 : decode (qc 2002) 173 = .ok (.aload_n 0, 1) := by decide +kernel
theorem k2002_174 : decode (qc 2002) 174 = .ok (.ldc 73, 2) := by decide +kernel
theorem k2002_176 : decode (qc 2002) 176 = .ok (.aload_n 0, 1) := by decide +kernel
theorem k2002_177 : decode (qc 2002) 177 = .ok (.getfield 14, 3) := by decide +kernel
theorem k2002_180 : decode (qc 2002) 180 = .ok (.getfield 75, 3) := by decide +kernel
theorem k2002_183 : decode (qc 2002) 183 = .ok (.aload_n 0, 1) := by decide +kernel
theorem k2002_184 : decode (qc 2002) 184 = .ok (.getfield 14, 3) := by decide +kernel
theorem k2002_187 : decode (qc 2002) 187 = .ok (.getfield 70, 3) := by decide +kernel
theorem k2002_190 : decode (qc 2002) 190 = .ok (.iconst 1, 1) := by decide +kernel
theorem k2002_191 : decode (qc 2002) 191 = .ok (.isub, 1) := by decide +kernel
theorem k2002_192 : decode (qc 2002) 192 = .ok (.aaload, 1) := by decide +kernel
theorem k2002_193 : decode (qc 2002) 193 = .ok (.invokevirtual 58, 3) := by decide +kernel
theorem k2002_196 : decode (qc 2002) 196 = .ok (.ireturn, 1) := by decide +kernel
theorem k2002_197 : decode (qc 2002) 197 = .ok (.iconst 0, 1) := by decide +kernel
theorem k2002_198 : decode (qc 2002) 198 = .ok (.ireturn, 1) := by decide +kernel
theorem k2003_0 : decode (qc 2003) 0 = .ok (.iconst 0, 1) := by decide +kernel
theorem k2003_1 : decode (qc 2003) 1 = .ok (.istore_n 3, 1) := by decide +kernel
theorem k2003_2 : decode (qc 2003) 2 = .ok (.iconst 0, 1) := by decide +kernel
theorem k2003_3 : decode (qc 2003) 3 = .ok (.istore 4, 2) := by decide +kernel
theorem k2003_5 : decode (qc 2003) 5 = .ok (.iload 4, 2) := by decide +kernel
theorem k2003_7 : decode (qc 2003) 7 = .ok (.aload_n 1, 1) := by decide +kernel
theorem k2003_8 : decode (qc 2003) 8 = .ok (.invokevirtual 78, 3) := by decide +kernel
theorem k2003_11 : decode (qc 2003) 11 = .ok (.if_icmp .gt 109, 3) := by decide +kernel
theorem k2003_14 : decode (qc 2003) 14 = .ok (.aload_n 0, 1) := by decide +kernel
theorem k2003_15 : decode (qc 2003) 15 = .ok (.invokevirtual 38, 3) := by decide +kernel
theorem k2003_18 : decode (qc 2003) 18 = .ok (.istore 5, 2) := by decide +kernel
theorem k2003_20 : decode (qc 2003) 20 = .ok (.iload 5, 2) := by decide +kernel
theorem k2003_22 : decode (qc 2003) 22 = .ok (.iconst (-1), 1) := by decide +kernel
theorem k2003_23 : decode (qc 2003) 23 = .ok (.if_icmp .ne 7, 3) := by decide +kernel
theorem k2003_26 : decode (qc 2003) 26 = .ok (.iconst (-1), 1) := by decide +kernel
theorem k2003_27 : decode (qc 2003) 27 = .ok (.goto 10, 3) := by decide +kernel
theorem k2003_30 : decode (qc 2003) 30 = .ok (.aload_n 1, 1) := by decide +kernel
theorem k2003_31 : decode (qc 2003) 31 = .ok (.iload 5, 2) := by decide +kernel
theorem k2003_33 : decode (qc 2003) 33 = .ok (.i2c, 1) := by decide +kernel
theorem k2003_34 : decode (qc 2003) 34 = .ok (.invokevirtual 83, 3) := by decide +kernel
theorem k2003_37 : decode (qc 2003) 37 = .ok (.istore 6, 2) := by decide +kernel
theorem k2003_39 : decode (qc 2003) 39 = .ok (.iload 6, 2) := by decide +kernel
theorem k2003_41 : decode (qc 2003) 41 = .ok (.ifCond .ge 5, 3) := by decide +kernel
theorem k2003_44 : decode (qc 2003) 44 = .ok (.iconst 1, 1) := by decide +kernel
theorem k2003_45 : decode (qc 2003) 45 = .ok (.ireturn, 1) := by decide +kernel
theorem k2003_46 : decode (qc 2003) 46 = .ok (.iload_n 3, 1) := by decide +kernel
theorem k2003_47 : decode (qc 2003) 47 = .ok (.iload 6, 2) := by decide +kernel
theorem k2003_49 : decode (qc 2003) 49 = .ok (.ishr, 1) := by decide +kernel
theorem k2003_50 : decode (qc 2003) 50 = .ok (.iconst 1, 1) := by decide +kernel
theorem k2003_51 : decode (qc 2003) 51 = .ok (.iand, 1) := by decide +kernel
theorem k2003_52 : decode (qc 2003) 52 = .ok (.iconst 1, 1) := by decide +kernel
theorem k2003_53 : decode (qc 2003) 53 = .ok (.if_icmp .ne 5, 3) := by decide +kernel
theorem k2003_56 : decode (qc 2003) 56 = .ok (.iconst 0, 1) := by decide +kernel
theorem k2003_57 : decode (qc 2003) 57 = .ok (.ireturn, 1) := by decide +kernel
theorem k2003_58 : decode (qc 2003) 58 = .ok (.iload_n 3, 1) := by decide +kernel
theorem k2003_59 : decode (qc 2003) 59 = .ok (.iconst 1, 1) := by decide +kernel
theorem k2003_60 : decode (qc 2003) 60 = .ok (.iload 6, 2) := by decide +kernel
theorem k2003_62 : decode (qc 2003) 62 = .ok (.ishl, 1) := by decide +kernel
theorem k2003_63 : decode (qc 2003) 63 = .ok (.ior, 1) := by decide +kernel
theorem k2003_64 : decode (qc 2003) 64 = .ok (.istore_n 3, 1) := by decide +kernel
theorem k2003_65 : decode (qc 2003) 65 = .ok (.aload_n 0, 1) := by decide +kernel
theorem k2003_66 : decode (qc 2003) 66 = .ok (.dup, 1) := by decide +kernel
theorem k2003_67 : decode (qc 2003) 67 = .ok (.getfield 20, 3) := by decide +kernel
theorem k2003_70 : decode (qc 2003) 70 = .ok (.iconst 1, 1) := by decide +kernel
theorem k2003_71 : decode (qc 2003) 71 = .ok (.iadd, 1) := by decide +kernel
theorem k2003_72 : decode (qc 2003) 72 = .ok (.putfield 20, 3) := by decide +kernel
theorem k2003_75 : decode (qc 2003) 75 = .ok (.aload_n 0, 1) := by decide +kernel
theorem k2003_76 : decode (qc 2003) 76 = .ok (.iconst 2, 1) := by decide +kernel
theorem k2003_77 : decode (qc 2003) 77 = .ok (.iload 5, 2) := by decide +kernel
theorem k2003_79 : decode (qc 2003) 79 = .ok (.invokestatic 87, 3) := by decide +kernel
theorem k2003_82 : decode (qc 2003) 82 = .ok (.aload_n 0, 1) := by decide +kernel
theorem k2003_83 : decode (qc 2003) 83 = .ok (.iload 5, 2) := by decide +kernel
theorem k2003_85 : decode (qc 2003) 85 = .ok (.invokevirtual 90, 3) := by decide +kernel
theorem k2003_88 : decode (qc 2003) 88 = .ok (.invokevirtual 31, 3) := by decide +kernel
theorem k2003_91 : decode (qc 2003) 91 = .ok (.istore 7, 2) := by decide +kernel
theorem k2003_93 : decode (qc 2003) 93 = .ok (.iload 7, 2) := by decide +kernel
theorem k2003_95 : decode (qc 2003) 95 = .ok (.iconst (-1), 1) := by decide +kernel
theorem k2003_96 : decode (qc 2003) 96 = .ok (.if_icmp .eq 10, 3) := by decide +kernel
theorem k2003_99 : decode (qc 2003) 99 = .ok (.iload 6, 2) := by decide +kernel
theorem k2003_101 : decode (qc 2003) 101 = .ok (.aload_n 2, 1) := by decide +kernel
theorem k2003_102 : decode (qc 2003) 102 = .ok (.arraylength, 1) := by decide +kernel
theorem k2003_103 : decode (qc 2003) 103 = .ok (.if_icmp .lt 5, 3) := by decide +kernel
theorem k2003_106 : decode (qc 2003) 106 = .ok (.iconst 0, 1) := by decide +kernel
theorem k2003_107 : decode (qc 2003) 107 = .ok (.ireturn, 1) := by decide +kernel
theorem k2003_108 : decode (qc 2003) 108 = .ok (.aload_n 2, 1) := by decide +kernel
theorem k2003_109 : decode (qc 2003) 109 = .ok (.iload 6, 2) := by decide +kernel
theorem k2003_111 : decode (qc 2003) 111 = .ok (.iload 7, 2) := by decide +kernel
theorem k2003_113 : decode (qc 2003) 113 = .ok (.iastore, 1) := by decide +kernel
theorem k2003_114 : decode (qc 2003) 114 = .ok (.iinc 4 1, 3) := by decide +kernel
theorem k2003_117 : decode (qc 2003) 117 = .ok (.goto (-112), 3) := by decide +kernel
theorem k2003_120 : decode (qc 2003) 120 = .ok (.iconst 1, 1) := by decide +kernel
theorem k2003_121 : decode (qc 2003) 121 = .ok (.ireturn, 1) := by decide +kernel
theorem k2004_0 : decode (qc 2004) 0 = .ok (.iload_n 0, 1) := by decide +kernel
theorem k2004_1 : decode (qc 2004) 1 = .ok (.bipush 104, 2) := by decide +kernel
theorem k2004_3 : decode (qc 2004) 3 = .ok (.if_icmp .eq 9, 3) := by decide +kernel
theorem k2004_6 : decode (qc 2004) 6 = .ok (.iload_n 0, 1) := by decide +kernel
theorem k2004_7 : decode (qc 2004) 7 = .ok (.bipush 110, 2) := by decide +kernel
theorem k2004_9 : decode (qc 2004) 9 = .ok (.if_icmp .ne 7, 3) := by decide +kernel
theorem k2004_12 : decode (qc 2004) 12 = .ok (.iconst 1, 1) := by decide +kernel
theorem k2004_13 : decode (qc 2004) 13 = .ok (.goto 4, 3) := by decide +kernel
theorem k2004_16 : decode (qc 2004) 16 = .ok (.iconst 0, 1) := by decide +kernel
theorem k2004_17 : decode (qc 2004) 17 = .ok (.ireturn, 1) := by decide +kernel
theorem k2005_0 : decode (qc 2005) 0 = .ok (.iload_n 1, 1) := by decide +kernel
theorem k2005_1 : decode (qc 2005) 1 = .ok (.lookupswitch 71 #[(104, 56), (110, 58), (111, 51), (112, 61), (119, 53)], 51) := by decide +kernel
theorem k2005_52 : decode (qc 2005) 52 = .ok (.iconst 2, 1) := by decide +kernel
theorem k2005_53 : decode (qc 2005) 53 = .ok (.ireturn, 1) := by decide +kernel
theorem k2005_54 : decode (qc 2005) 54 = .ok (.bipush 9, 2) := by decide +kernel
theorem k2005_56 : decode (qc 2005) 56 = .ok (.ireturn, 1) := by decide +kernel
theorem k2005_57 : decode (qc 2005) 57 = .ok (.iconst 3, 1) := by decide +kernel
theorem k2005_58 : decode (qc 2005) 58 = .ok (.ireturn, 1) := by decide +kernel
theorem k2005_59 : decode (qc 2005) 59 = .ok (.bipush 30, 2) := by decide +kernel
theorem k2005_61 : decode (qc 2005) 61 = .ok (.ireturn, 1) := by decide +kernel
theorem k2005_62 : decode (qc 2005) 62 = .ok (.aload_n 0, 1) := by decide +kernel
theorem k2005_63 : decode (qc 2005) 63 = .ok (.getfield 14, 3) := by decide +kernel
theorem k2005_66 : decode (qc 2005) 66 = .ok (.getfield 70, 3) := by decide +kernel
theorem k2005_69 : decode (qc 2005) 69 = .ok (.iconst 2, 1) := by decide +kernel
theorem k2005_70 : decode (qc 2005) 70 = .ok (.isub, 1) := by decide +kernel
theorem k2005_71 : decode (qc 2005) 71 = .ok (.ireturn, 1) := by decide +kernel
theorem k2005_72 : decode (qc 2005) 72 = .ok (.aload_n 0, 1) := by decide +kernel
theorem k2005_73 : decode (qc 2005) 73 = .ok (.getfield 14, 3) := by decide +kernel
theorem k2005_76 : decode (qc 2005) 76 = .ok (.getfield 35, 3) := by decide +kernel
theorem k2005_79 : decode (qc 2005) 79 = .ok (.iconst 1, 1) := by decide +kernel
theorem k2005_80 : decode (qc 2005) 80 = .ok (.isub, 1) := by decide +kernel
theorem k2005_81 : decode (qc 2005) 81 = .ok (.ireturn, 1) := by decide +kernel
theorem k4000_0 : decode (qc 4000) 0 = .ok (.aload_n 0, 1) := by decide +kernel
theorem k4000_1 : decode (qc 4000) 1 = .ok (.aload_n 1, 1) := by decide +kernel
theorem k4000_2 : decode (qc 4000) 2 = .ok (.invokespecial 3, 3) := by decide +kernel
theorem k4000_5 : decode (qc 4000) 5 = .ok (.aload_n 0, 1) := by decide +kernel
theorem k4000_6 : decode (qc 4000) 6 = .ok (.sipush 161, 3) := by decide +kernel
theorem k4000_9 : decode (qc 4000) 9 = .ok (.newarray .int, 2) := by decide +kernel
theorem k4000_11 : decode (qc 4000) 11 = .ok (.putfield 11, 3) := by decide +kernel
theorem k4000_14 : decode (qc 4000) 14 = .ok (.return_, 1) := by decide +kernel
theorem k4001_0 : decode (qc 4001) 0 = .ok (.aload_n 0, 1) := by decide +kernel
theorem k4001_1 : decode (qc 4001) 1 = .ok (.iconst 0, 1) := by decide +kernel
theorem k4001_2 : decode (qc 4001) 2 = .ok (.putfield 17, 3) := by decide +kernel
theorem k4001_5 : decode (qc 4001) 5 = .ok (.aload_n 0, 1) := by decide +kernel
theorem k4001_6 : decode (qc 4001) 6 = .ok (.iconst 0, 1) := by decide +kernel
theorem k4001_7 : decode (qc 4001) 7 = .ok (.putfield 21, 3) := by decide +kernel
theorem k4001_10 : decode (qc 4001) 10 = .ok (.aload_n 0, 1) := by decide +kernel
theorem k4001_11 : decode (qc 4001) 11 = .ok (.invokevirtual 24, 3) := by decide +kernel
theorem k4001_14 : decode (qc 4001) 14 = .ok (.ifCond .ne 5, 3) := by decide +kernel
theorem k4001_17 : decode (qc 4001) 17 = .ok (.iconst 0, 1) := by decide +kernel
theorem k4001_18 : decode (qc 4001) 18 = .ok (.ireturn, 1) := by decide +kernel
theorem k4001_19 : decode (qc 4001) 19 = .ok (.iconst 0, 1) := by decide +kernel
theorem k4001_20 : decode (qc 4001) 20 = .ok (.istore_n 1, 1) := by decide +kernel
theorem k4001_21 : decode (qc 4001) 21 = .ok (.iload_n 1, 1) := by decide +kernel
theorem k4001_22 : decode (qc 4001) 22 = .ok (.sipush 160, 3) := by decide +kernel
theorem k4001_25 : decode (qc 4001) 25 = .ok (.if_icmp .ge 37, 3) := by decide +kernel
theorem k4001_28 : decode (qc 4001) 28 = .ok (.aload_n 0, 1) := by decide +kernel
theorem k4001_29 : decode (qc 4001) 29 = .ok (.invokevirtual 28, 3) := by decide +kernel
theorem k4001_32 : decode (qc 4001) 32 = .ok (.bipush 59, 2) := by decide +kernel
theorem k4001_34 : decode (qc 4001) 34 = .ok (.if_icmp .ne 28, 3) := by decide +kernel
theorem k4001_37 : decode (qc 4001) 37 = .ok (.aload_n 0, 1) := by decide +kernel
theorem k4001_38 : decode (qc 4001) 38 = .ok (.dup, 1) := by decide +kernel
theorem k4001_39 : decode (qc 4001) 39 = .ok (.getfield 17, 3) := by decide +kernel
theorem k4001_42 : decode (qc 4001) 42 = .ok (.iconst 1, 1) := by decide +kernel
theorem k4001_43 : decode (qc 4001) 43 = .ok (.iadd, 1) := by decide +kernel
theorem k4001_44 : decode (qc 4001) 44 = .ok (.putfield 17, 3) := by decide +kernel
theorem k4001_47 : decode (qc 4001) 47 = .ok (.aload_n 0, 1) := by decide +kernel
theorem k4001_48 : decode (qc 4001) 48 = .ok (.invokevirtual 24, 3) := by decide +kernel
theorem k4001_51 : decode (qc 4001) 51 = .ok (.ifCond .ne 5, 3) := by decide +kernel
theorem k4001_54 : decode (qc 4001) 54 = .ok (.iconst 0, 1) := by decide +kernel
theorem k4001_55 : decode (qc 4001) 55 = .ok (.ireturn, 1) := by decide +kernel
theorem k4001_56 : decode (qc 4001) 56 = .ok (.iinc 1 1, 3) := by decide +kernel
theorem k4001_59 : decode (qc 4001) 59 = .ok (.goto (-38), 3) := by decide +kernel
theorem k4001_62 : decode (qc 4001) 62 = .ok (.aload_n 0, 1) := by decide +kernel
theorem k4001_63 : decode (qc 4001) 63 = .ok (.invokevirtual 28, 3) := by decide +kernel
theorem k4001_66 : decode (qc 4001) 66 = .ok (.iconst (-1), 1) := by decide +kernel
theorem k4001_67 : decode (qc 4001) 67 = .ok (.if_icmp .ne 7, 3) := by decide +kernel
theorem k4001_70 : decode (qc 4001) 70 = .ok (.iconst 1, 1) := by decide +kernel
theorem k4001_71 : decode (qc 4001) 71 = .ok (.goto 4, 3) := by decide +kernel
theorem k4001_74 : decode (qc 4001) 74 = .ok (.iconst 0, 1) := by decide +kernel
theorem k4001_75 : decode (qc 4001) 75 = .ok (.ireturn, 1) := by decide +kernel
theorem k4002_0 : decode (qc 4002) 0 = .ok (.aload_n 0, 1) := by decide +kernel
theorem k4002_1 : decode (qc 4002) 1 = .ok (.bipush 121, 2) := by decide +kernel
theorem k4002_3 : decode (qc 4002) 3 = .ok (.invokevirtual 32, 3) := by decide +kernel
theorem k4002_6 : decode (qc 4002) 6 = .ok (.ifCond .eq 12, 3) := by decide +kernel
theorem k4002_9 : decode (qc 4002) 9 = .ok (.aload_n 0, 1) := by decide +kernel
theorem k4002_10 : decode (qc 4002) 10 = .ok (.bipush 58, 2) := by decide +kernel
theorem k4002_12 : decode (qc 4002) 12 = .ok (.invokevirtual 32, 3) := by decide +kernel
theorem k4002_15 : decode (qc 4002) 15 = .ok (.ifCond .ne 5, 3) := by decide +kernel
theorem k4002_18 : decode (qc 4002) 18 = .ok (.iconst 0, 1) := by decide +kernel
theorem k4002_19 : decode (qc 4002) 19 = .ok (.ireturn, 1) := by decide +kernel
theorem k4002_20 : decode (qc 4002) 20 = .ok (.aload_n 0, 1) := by decide +kernel
theorem k4002_21 : decode (qc 4002) 21 = .ok (.invokevirtual 28, 3) := by decide +kernel
theorem k4002_24 : decode (qc 4002) 24 = .ok (.istore_n 1, 1) := by decide +kernel
theorem k4002_25 : decode (qc 4002) 25 = .ok (.iload_n 1, 1) := by decide +kernel
theorem k4002_26 : decode (qc 4002) 26 = .ok (.bipush 33, 2) := by decide +kernel
theorem k4002_28 : decode (qc 4002) 28 = .ok (.if_icmp .eq 9, 3) := by decide +kernel
theorem k4002_31 : decode (qc 4002) 31 = .ok (.iload_n 1, 1) := by decide +kernel
theorem k4002_32 : decode (qc 4002) 32 = .ok (.bipush 40, 2) := by decide +kernel
theorem k4002_34 : decode (qc 4002) 34 = .ok (.if_icmp .ne 24, 3) := by decide +kernel
theorem k4002_37 : decode (qc 4002) 37 = .ok (.aload_n 0, 1) := by decide +kernel
theorem k4002_38 : decode (qc 4002) 38 = .ok (.iconst 0, 1) := by decide +kernel
theorem k4002_39 : decode (qc 4002) 39 = .ok (.invokevirtual 36, 3) := by decide +kernel
theorem k4002_42 : decode (qc 4002) 42 = .ok (.ifCond .eq 14, 3) := by decide +kernel
theorem k4002_45 : decode (qc 4002) 45 = .ok (.aload_n 0, 1) := by decide +kernel
theorem k4002_46 : decode (qc 4002) 46 = .ok (.invokevirtual 39, 3) := by decide +kernel
theorem k4002_49 : decode (qc 4002) 49 = .ok (.ifCond .eq 7, 3) := by decide +kernel
theorem k4002_52 : decode (qc 4002) 52 = .ok (.iconst 1, 1) := by decide +kernel
theorem k4002_53 : decode (qc 4002) 53 = .ok (.goto 4, 3) := by decide +kernel
theorem k4002_56 : decode (qc 4002) 56 = .ok (.iconst 0, 1) := by decide +kernel
theorem k4002_57 : decode (qc 4002) 57 = .ok (.ireturn, 1) := by decide +kernel
theorem k4002_58 : decode (qc 4002) 58 = .ok (.aload_n 0, 1) := by decide +kernel
theorem k4002_59 : decode (qc 4002) 59 = .ok (.iconst 0, 1) := by decide +kernel
theorem k4002_60 : decode (qc 4002) 60 = .ok (.invokevirtual 42, 3) := by decide +kernel
theorem k4002_63 : decode (qc 4002) 63 = .ok (.ifCond .ne 5, 3) := by decide +kernel
theorem k4002_66 : decode (qc 4002) 66 = .ok (.iconst 0, 1) := by decide +kernel
theorem k4002_67 : decode (qc 4002) 67 = .ok (.ireturn, 1) := by decide +kernel
theorem k4002_68 : decode (qc 4002) 68 = .ok (.aload_n 0, 1) := by decide +kernel
theorem k4002_69 : decode (qc 4002) 69 = .ok (.invokevirtual 28, 3) := by decide +kernel
theorem k4002_72 : decode (qc 4002) 72 = .ok (.invokestatic 45, 3) := by decide +kernel
theorem k4002_75 : decode (qc 4002) 75 = .ok (.ifCond .eq 40, 3) := by decide +kernel
theorem k4002_78 : decode (qc 4002) 78 = .ok (.aload_n 0, 1) := by decide +kernel
theorem k4002_79 : decode (qc 4002) 79 = .ok (.iconst 0, 1) := by decide +kernel
theorem k4002_80 : decode (qc 4002) 80 = .ok (.invokevirtual 48, 3) := by decide +kernel
theorem k4002_83 : decode (qc 4002) 83 = .ok (.ifCond .eq 30, 3) := by decide +kernel
theorem k4002_86 : decode (qc 4002) 86 = .ok (.aload_n 0, 1) := by decide +kernel
theorem k4002_87 : decode (qc 4002) 87 = .ok (.iconst 0, 1) := by decide +kernel
theorem k4002_88 : decode (qc 4002) 88 = .ok (.invokevirtual 51, 3) := by decide +kernel
theorem k4002_91 : decode (qc 4002) 91 = .ok (.ifCond .eq 22, 3) := by decide +kernel
theorem k4002_94 : decode (qc 4002) 94 = .ok (.aload_n 0, 1) := by decide +kernel
theorem k4002_95 : decode (qc 4002) 95 = .ok (.iconst 0, 1) := by decide +kernel
theorem k4002_96 : decode (qc 4002) 96 = .ok (.invokevirtual 54, 3) := by decide +kernel
theorem k4002_99 : decode (qc 4002) 99 = .ok (.ifCond .eq 14, 3) := by decide +kernel
theorem k4002_102 : decode (qc 4002) 102 = .ok (.aload_n 0, 1) := by decide +kernel
theorem k4002_103 : decode (qc 4002) 103 = .ok (.invokevirtual 39, 3) := by decide +kernel
theorem k4002_106 : decode (qc 4002) 106 = .ok (.ifCond .eq 7, 3) := by decide +kernel
theorem k4002_109 : decode (qc 4002) 109 = .ok (.iconst 1, 1) := by decide +kernel
theorem k4002_110 : decode (qc 4002) 110 = .ok (.goto 4, 3) := by decide +kernel
theorem k4002_113 : decode (qc 4002) 113 = .ok (.iconst 0, 1) := by decide +kernel
theorem k4002_114 : decode (qc 4002) 114 = .ok (.ireturn, 1) := by decide +kernel
theorem k4002_115 : decode (qc 4002) 115 = .ok (.aload_n 0, 1) := by decide +kernel
theorem k4002_116 : decode (qc 4002) 116 = .ok (.bipush (-59), 2) := by decide +kernel
theorem k4002_118 : decode (qc 4002) 118 = .ok (.invokevirtual 57, 3) := by decide +kernel
theorem k4002_121 : decode (qc 4002) 121 = .ok (.ireturn, 1) := by decide +kernel
theorem k4004_0 : decode (qc 4004) 0 = .ok (.aload_n 0, 1) := by decide +kernel
theorem k4004_1 : decode (qc 4004) 1 = .ok (.bipush 63, 2) := by decide +kernel
theorem k4004_3 : decode (qc 4004) 3 = .ok (.invokevirtual 32, 3) := by decide +kernel
theorem k4004_6 : decode (qc 4004) 6 = .ok (.ifCond .eq 33, 3) := by decide +kernel
theorem k4004_9 : decode (qc 4004) 9 = .ok (.aload_n 0, 1) := by decide +kernel
theorem k4004_10 : decode (qc 4004) 10 = .ok (.bipush (-63), 2) := by decide +kernel
theorem k4004_12 : decode (qc 4004) 12 = .ok (.invokevirtual 57, 3) := by decide +kernel
theorem k4004_15 : decode (qc 4004) 15 = .ok (.ifCond .eq 24, 3) := by decide +kernel
theorem k4004_18 : decode (qc 4004) 18 = .ok (.aload_n 0, 1) := by decide +kernel
theorem k4004_19 : decode (qc 4004) 19 = .ok (.iconst 0, 1) := by decide +kernel
theorem k4004_20 : decode (qc 4004) 20 = .ok (.invokevirtual 42, 3) := by decide +kernel
theorem k4004_23 : decode (qc 4004) 23 = .ok (.ifCond .eq 16, 3) := by decide +kernel
theorem k4004_26 : decode (qc 4004) 26 = .ok (.aload_n 0, 1) := by decide +kernel
theorem k4004_27 : decode (qc 4004) 27 = .ok (.bipush (-59), 2) := by decide +kernel
theorem k4004_29 : decode (qc 4004) 29 = .ok (.invokevirtual 57, 3) := by decide +kernel
theorem k4004_32 : decode (qc 4004) 32 = .ok (.ifCond .eq 7, 3) := by decide +kernel
theorem k4004_35 : decode (qc 4004) 35 = .ok (.iconst 1, 1) := by decide +kernel
theorem k4004_36 : decode (qc 4004) 36 = .ok (.goto 4, 3) := by decide +kernel
theorem k4004_39 : decode (qc 4004) 39 = .ok (.iconst 0, 1) := by decide +kernel
theorem k4004_40 : decode (qc 4004) 40 = .ok (.ireturn, 1) := by decide +kernel
theorem k4005_0 : decode (qc 4005) 0 = .ok (.aload_n 0, 1) := by decide +kernel
theorem k4005_1 : decode (qc 4005) 1 = .ok (.iload_n 1, 1) := by decide +kernel
theorem k4005_2 : decode (qc 4005) 2 = .ok (.invokevirtual 60, 3) := by decide +kernel
theorem k4005_5 : decode (qc 4005) 5 = .ok (.ifCond .eq 15, 3) := by decide +kernel
theorem k4005_8 : decode (qc 4005) 8 = .ok (.aload_n 0, 1) := by decide +kernel
theorem k4005_9 : decode (qc 4005) 9 = .ok (.iload_n 1, 1) := by decide +kernel
theorem k4005_10 : decode (qc 4005) 10 = .ok (.invokevirtual 54, 3) := by decide +kernel
theorem k4005_13 : decode (qc 4005) 13 = .ok (.ifCond .eq 7, 3) := by decide +kernel
theorem k4005_16 : decode (qc 4005) 16 = .ok (.iconst 1, 1) := by decide +kernel
theorem k4005_17 : decode (qc 4005) 17 = .ok (.goto 4, 3) := by decide +kernel
theorem k4005_20 : decode (qc 4005) 20 = .ok (.iconst 0, 1) := by decide +kernel
theorem k4005_21 : decode (qc 4005) 21 = .ok (.ireturn, 1) := by decide +kernel
theorem k4006_0 : decode (qc 4006) 0 = .ok (.iconst 0, 1) := by decide +kernel
theorem k4006_1 : decode (qc 4006) 1 = .ok (.istore_n 2, 1) := by decide +kernel
theorem k4006_2 : decode (qc 4006) 2 = .ok (.iload_n 2, 1) := by decide +kernel
theorem k4006_3 : decode (qc 4006) 3 = .ok (.sipush 160, 3) := by decide +kernel
theorem k4006_6 : decode (qc 4006) 6 = .ok (.if_icmp .ge 47, 3) := by decide +kernel
theorem k4006_9 : decode (qc 4006) 9 = .ok (.aload_n 0, 1) := by decide +kernel
theorem k4006_10 : decode (qc 4006) 10 = .ok (.invokevirtual 28, 3) := by decide +kernel
theorem k4006_13 : decode (qc 4006) 13 = .ok (.bipush 124, 2) := by decide +kernel
theorem k4006_15 : decode (qc 4006) 15 = .ok (.if_icmp .ne 38, 3) := by decide +kernel
theorem k4006_18 : decode (qc 4006) 18 = .ok (.aload_n 0, 1) := by decide +kernel
theorem k4006_19 : decode (qc 4006) 19 = .ok (.dup, 1) := by decide +kernel
theorem k4006_20 : decode (qc 4006) 20 = .ok (.getfield 17, 3) := by decide +kernel
theorem k4006_23 : decode (qc 4006) 23 = .ok (.iconst 1, 1) := by decide +kernel
theorem k4006_24 : decode (qc 4006) 24 = .ok (.iadd, 1) := by decide +kernel
theorem k4006_25 : decode (qc 4006) 25 = .ok (.putfield 17, 3) := by decide +kernel
theorem k4006_28 : decode (qc 4006) 28 = .ok (.aload_n 0, 1) := by decide +kernel
theorem k4006_29 : decode (qc 4006) 29 = .ok (.iload_n 1, 1) := by decide +kernel
theorem k4006_30 : decode (qc 4006) 30 = .ok (.invokevirtual 60, 3) := by decide +kernel
theorem k4006_33 : decode (qc 4006) 33 = .ok (.ifCond .eq 12, 3) := by decide +kernel
theorem k4006_36 : decode (qc 4006) 36 = .ok (.aload_n 0, 1) := by decide +kernel
theorem k4006_37 : decode (qc 4006) 37 = .ok (.bipush (-124), 2) := by decide +kernel
theorem k4006_39 : decode (qc 4006) 39 = .ok (.invokevirtual 57, 3) := by decide +kernel
theorem k4006_42 : decode (qc 4006) 42 = .ok (.ifCond .ne 5, 3) := by decide +kernel
theorem k4006_45 : decode (qc 4006) 45 = .ok (.iconst 0, 1) := by decide +kernel
theorem k4006_46 : decode (qc 4006) 46 = .ok (.ireturn, 1) := by decide +kernel
theorem k4006_47 : decode (qc 4006) 47 = .ok (.iinc 2 1, 3) := by decide +kernel
theorem k4006_50 : decode (qc 4006) 50 = .ok (.goto (-48), 3) := by decide +kernel
theorem k4006_53 : decode (qc 4006) 53 = .ok (.iconst 1, 1) := by decide +kernel
theorem k4006_54 : decode (qc 4006) 54 = .ok (.ireturn, 1) := by decide +kernel
theorem k4007_0 : decode (qc 4007) 0 = .ok (.aload_n 0, 1) := by decide +kernel
theorem k4007_1 : decode (qc 4007) 1 = .ok (.iload_n 1, 1) := by decide +kernel
theorem k4007_2 : decode (qc 4007) 2 = .ok (.invokevirtual 63, 3) := by decide +kernel
theorem k4007_5 : decode (qc 4007) 5 = .ok (.ifCond .eq 15, 3) := by decide +kernel
theorem k4007_8 : decode (qc 4007) 8 = .ok (.aload_n 0, 1) := by decide +kernel
theorem k4007_9 : decode (qc 4007) 9 = .ok (.iload_n 1, 1) := by decide +kernel
theorem k4007_10 : decode (qc 4007) 10 = .ok (.invokevirtual 51, 3) := by decide +kernel
theorem k4007_13 : decode (qc 4007) 13 = .ok (.ifCond .eq 7, 3) := by decide +kernel
theorem k4007_16 : decode (qc 4007) 16 = .ok (.iconst 1, 1) := by decide +kernel
theorem k4007_17 : decode (qc 4007) 17 = .ok (.goto 4, 3) := by decide +kernel
theorem k4007_20 : decode (qc 4007) 20 = .ok (.iconst 0, 1) := by decide +kernel
theorem k4007_21 : decode (qc 4007) 21 = .ok (.ireturn, 1) := by decide +kernel
theorem k4008_0 : decode (qc 4008) 0 = .ok (.iconst 0, 1) := by decide +kernel
theorem k4008_1 : decode (qc 4008) 1 = .ok (.istore_n 2, 1) := by decide +kernel
theorem k4008_2 : decode (qc 4008) 2 = .ok (.iload_n 2, 1) := by decide +kernel
theorem k4008_3 : decode (qc 4008) 3 = .ok (.sipush 160, 3) := by decide +kernel
theorem k4008_6 : decode (qc 4008) 6 = .ok (.if_icmp .ge 47, 3) := by decide +kernel
theorem k4008_9 : decode (qc 4008) 9 = .ok (.aload_n 0, 1) := by decide +kernel
theorem k4008_10 : decode (qc 4008) 10 = .ok (.invokevirtual 28, 3) := by decide +kernel
theorem k4008_13 : decode (qc 4008) 13 = .ok (.bipush 38, 2) := by decide +kernel
theorem k4008_15 : decode (qc 4008) 15 = .ok (.if_icmp .ne 38, 3) := by decide +kernel
theorem k4008_18 : decode (qc 4008) 18 = .ok (.aload_n 0, 1) := by decide +kernel
theorem k4008_19 : decode (qc 4008) 19 = .ok (.dup, 1) := by decide +kernel
theorem k4008_20 : decode (qc 4008) 20 = .ok (.getfield 17, 3) := by decide +kernel
theorem k4008_23 : decode (qc 4008) 23 = .ok (.iconst 1, 1) := by decide +kernel
theorem k4008_24 : decode (qc 4008) 24 = .ok (.iadd, 1) := by decide +kernel
theorem k4008_25 : decode (qc 4008) 25 = .ok (.putfield 17, 3) := by decide +kernel
theorem k4008_28 : decode (qc 4008) 28 = .ok (.aload_n 0, 1) := by decide +kernel
theorem k4008_29 : decode (qc 4008) 29 = .ok (.iload_n 1, 1) := by decide +kernel
theorem k4008_30 : decode (qc 4008) 30 = .ok (.invokevirtual 63, 3) := by decide +kernel
theorem k4008_33 : decode (qc 4008) 33 = .ok (.ifCond .eq 12, 3) := by decide +kernel
theorem k4008_36 : decode (qc 4008) 36 = .ok (.aload_n 0, 1) := by decide +kernel
theorem k4008_37 : decode (qc 4008) 37 = .ok (.bipush (-38), 2) := by decide +kernel
theorem k4008_39 : decode (qc 4008) 39 = .ok (.invokevirtual 57, 3) := by decide +kernel
theorem k4008_42 : decode (qc 4008) 42 = .ok (.ifCond .ne 5, 3) := by decide +kernel
theorem k4008_45 : decode (qc 4008) 45 = .ok (.iconst 0, 1) := by decide +kernel
theorem k4008_46 : decode (qc 4008) 46 = .ok (.ireturn, 1) := by decide +kernel
theorem k4008_47 : decode (qc 4008) 47 = .ok (.iinc 2 1, 3) := by decide +kernel
theorem k4008_50 : decode (qc 4008) 50 = .ok (.goto (-48), 3) := by decide +kernel
theorem k4008_53 : decode (qc 4008) 53 = .ok (.iconst 1, 1) := by decide +kernel
theorem k4008_54 : decode (qc 4008) 54 = .ok (.ireturn, 1) := by decide +kernel
theorem k4009_0 : decode (qc 4009) 0 = .ok (.aload_n 0, 1) := by decide +kernel
theorem k4009_1 : decode (qc 4009) 1 = .ok (.invokevirtual 28, 3) := by decide +kernel
theorem k4009_4 : decode (qc 4009) 4 = .ok (.istore_n 2, 1) := by decide +kernel
theorem k4009_5 : decode (qc 4009) 5 = .ok (.iload_n 2, 1) := by decide +kernel
theorem k4009_6 : decode (qc 4009) 6 = .ok (.bipush 33, 2) := by decide +kernel
theorem k4009_8 : decode (qc 4009) 8 = .ok (.if_icmp .eq 31, 3) := by decide +kernel
theorem k4009_11 : decode (qc 4009) 11 = .ok (.iload_n 2, 1) := by decide +kernel
theorem k4009_12 : decode (qc 4009) 12 = .ok (.bipush 40, 2) := by decide +kernel
theorem k4009_14 : decode (qc 4009) 14 = .ok (.if_icmp .eq 25, 3) := by decide +kernel
theorem k4009_17 : decode (qc 4009) 17 = .ok (.aload_n 0, 1) := by decide +kernel
theorem k4009_18 : decode (qc 4009) 18 = .ok (.iload_n 1, 1) := by decide +kernel
theorem k4009_19 : decode (qc 4009) 19 = .ok (.invokevirtual 42, 3) := by decide +kernel
theorem k4009_22 : decode (qc 4009) 22 = .ok (.ifCond .eq 15, 3) := by decide +kernel
theorem k4009_25 : decode (qc 4009) 25 = .ok (.aload_n 0, 1) := by decide +kernel
theorem k4009_26 : decode (qc 4009) 26 = .ok (.iload_n 1, 1) := by decide +kernel
theorem k4009_27 : decode (qc 4009) 27 = .ok (.invokevirtual 48, 3) := by decide +kernel
theorem k4009_30 : decode (qc 4009) 30 = .ok (.ifCond .eq 7, 3) := by decide +kernel
theorem k4009_33 : decode (qc 4009) 33 = .ok (.iconst 1, 1) := by decide +kernel
theorem k4009_34 : decode (qc 4009) 34 = .ok (.goto 4, 3) := by decide +kernel
theorem k4009_37 : decode (qc 4009) 37 = .ok (.iconst 0, 1) := by decide +kernel
theorem k4009_38 : decode (qc 4009) 38 = .ok (.ireturn, 1) := by decide +kernel
theorem k4009_39 : decode (qc 4009) 39 = .ok (.iload_n 1, 1) := by decide +kernel
theorem k4009_40 : decode (qc 4009) 40 = .ok (.bipush 6, 2) := by decide +kernel
theorem k4009_42 : decode (qc 4009) 42 = .ok (.if_icmp .lt 5, 3) := by decide +kernel
theorem k4009_45 : decode (qc 4009) 45 = .ok (.iconst 0, 1) := by decide +kernel
theorem k4009_46 : decode (qc 4009) 46 = .ok (.ireturn, 1) := by decide +kernel
theorem k4009_47 : decode (qc 4009) 47 = .ok (.aload_n 0, 1) := by decide +kernel
theorem k4009_48 : decode (qc 4009) 48 = .ok (.dup, 1) := by decide +kernel
theorem k4009_49 : decode (qc 4009) 49 = .ok (.getfield 17, 3) := by decide +kernel
theorem k4009_52 : decode (qc 4009) 52 = .ok (.iconst 1, 1) := by decide +kernel
theorem k4009_53 : decode (qc 4009) 53 = .ok (.iadd, 1) := by decide +kernel
theorem k4009_54 : decode (qc 4009) 54 = .ok (.putfield 17, 3) := by decide +kernel
theorem k4009_57 : decode (qc 4009) 57 = .ok (.iload_n 2, 1) := by decide +kernel
theorem k4009_58 : decode (qc 4009) 58 = .ok (.bipush 33, 2) := by decide +kernel
theorem k4009_60 : decode (qc 4009) 60 = .ok (.if_icmp .ne 28, 3) := by decide +kernel
theorem k4009_63 : decode (qc 4009) 63 = .ok (.aload_n 0, 1) := by decide +kernel
theorem k4009_64 : decode (qc 4009) 64 = .ok (.iload_n 1, 1) := by decide +kernel
theorem k4009_65 : decode (qc 4009) 65 = .ok (.iconst 1, 1) := by decide +kernel
theorem k4009_66 : decode (qc 4009) 66 = .ok (.iadd, 1) := by decide +kernel
theorem k4009_67 : decode (qc 4009) 67 = .ok (.invokevirtual 63, 3) := by decide +kernel
theorem k4009_70 : decode (qc 4009) 70 = .ok (.ifCond .eq 16, 3) := by decide +kernel
theorem k4009_73 : decode (qc 4009) 73 = .ok (.aload_n 0, 1) := by decide +kernel
theorem k4009_74 : decode (qc 4009) 74 = .ok (.bipush (-33), 2) := by decide +kernel
theorem k4009_76 : decode (qc 4009) 76 = .ok (.invokevirtual 57, 3) := by decide +kernel
theorem k4009_79 : decode (qc 4009) 79 = .ok (.ifCond .eq 7, 3) := by decide +kernel
theorem k4009_82 : decode (qc 4009) 82 = .ok (.iconst 1, 1) := by decide +kernel
theorem k4009_83 : decode (qc 4009) 83 = .ok (.goto 4, 3) := by decide +kernel
theorem k4009_86 : decode (qc 4009) 86 = .ok (.iconst 0, 1) := by decide +kernel
theorem k4009_87 : decode (qc 4009) 87 = .ok (.ireturn, 1) := by decide +kernel
theorem k4009_88 : decode (qc 4009) 88 = .ok (.aload_n 0, 1) := by decide +kernel
theorem k4009_89 : decode (qc 4009) 89 = .ok (.iload_n 1, 1) := by decide +kernel
theorem k4009_90 : decode (qc 4009) 90 = .ok (.iconst 1, 1) := by decide +kernel
theorem k4009_91 : decode (qc 4009) 91 = .ok (.iadd, 1) := by decide +kernel
theorem k4009_92 : decode (qc 4009) 92 = .ok (.invokevirtual 36, 3) := by decide +kernel
theorem k4009_95 : decode (qc 4009) 95 = .ok (.ifCond .eq 16, 3) := by decide +kernel
theorem k4009_98 : decode (qc 4009) 98 = .ok (.aload_n 0, 1) := by decide +kernel
theorem k4009_99 : decode (qc 4009) 99 = .ok (.bipush 41, 2) := by decide +kernel
theorem k4009_101 : decode (qc 4009) 101 = .ok (.invokevirtual 32, 3) := by decide +kernel
theorem k4009_104 : decode (qc 4009) 104 = .ok (.ifCond .eq 7, 3) := by decide +kernel
theorem k4009_107 : decode (qc 4009) 107 = .ok (.iconst 1, 1) := by decide +kernel
theorem k4009_108 : decode (qc 4009) 108 = .ok (.goto 4, 3) := by decide +kernel
theorem k4009_111 : decode (qc 4009) 111 = .ok (.iconst 0, 1) := by decide +kernel
theorem k4009_112 : decode (qc 4009) 112 = .ok (.ireturn, 1) := by decide +kernel
theorem k4010_0 : decode (qc 4010) 0 = .ok (.aload_n 0, 1) := by decide +kernel
theorem k4010_1 : decode (qc 4010) 1 = .ok (.invokevirtual 28, 3) := by decide +kernel
theorem k4010_4 : decode (qc 4010) 4 = .ok (.istore_n 2, 1) := by decide +kernel
theorem k4010_5 : decode (qc 4010) 5 = .ok (.iload_n 2, 1) := by decide +kernel
theorem k4010_6 : decode (qc 4010) 6 = .ok (.invokestatic 45, 3) := by decide +kernel
theorem k4010_9 : decode (qc 4010) 9 = .ok (.ifCond .ne 5, 3) := by decide +kernel
theorem k4010_12 : decode (qc 4010) 12 = .ok (.iconst 0, 1) := by decide +kernel
theorem k4010_13 : decode (qc 4010) 13 = .ok (.ireturn, 1) := by decide +kernel
theorem k4010_14 : decode (qc 4010) 14 = .ok (.aload_n 0, 1) := by decide +kernel
theorem k4010_15 : decode (qc 4010) 15 = .ok (.dup, 1) := by decide +kernel
theorem k4010_16 : decode (qc 4010) 16 = .ok (.getfield 17, 3) := by decide +kernel
theorem k4010_19 : decode (qc 4010) 19 = .ok (.iconst 1, 1) := by decide +kernel
theorem k4010_20 : decode (qc 4010) 20 = .ok (.iadd, 1) := by decide +kernel
theorem k4010_21 : decode (qc 4010) 21 = .ok (.putfield 17, 3) := by decide +kernel
theorem k4010_24 : decode (qc 4010) 24 = .ok (.aload_n 0, 1) := by decide +kernel
theorem k4010_25 : decode (qc 4010) 25 = .ok (.iload_n 1, 1) := by decide +kernel
theorem k4010_26 : decode (qc 4010) 26 = .ok (.invokevirtual 42, 3) := by decide +kernel
theorem k4010_29 : decode (qc 4010) 29 = .ok (.ifCond .eq 16, 3) := by decide +kernel
theorem k4010_32 : decode (qc 4010) 32 = .ok (.aload_n 0, 1) := by decide +kernel
theorem k4010_33 : decode (qc 4010) 33 = .ok (.iload_n 2, 1) := by decide +kernel
theorem k4010_34 : decode (qc 4010) 34 = .ok (.ineg, 1) := by decide +kernel
theorem k4010_35 : decode (qc 4010) 35 = .ok (.invokevirtual 57, 3) := by decide +kernel
theorem k4010_38 : decode (qc 4010) 38 = .ok (.ifCond .eq 7, 3) := by decide +kernel
theorem k4010_41 : decode (qc 4010) 41 = .ok (.iconst 1, 1) := by decide +kernel
theorem k4010_42 : decode (qc 4010) 42 = .ok (.goto 4, 3) := by decide +kernel
theorem k4010_45 : decode (qc 4010) 45 = .ok (.iconst 0, 1) := by decide +kernel
theorem k4010_46 : decode (qc 4010) 46 = .ok (.ireturn, 1) := by decide +kernel
theorem k4011_0 : decode (qc 4011) 0 = .ok (.aload_n 0, 1) := by decide +kernel
theorem k4011_1 : decode (qc 4011) 1 = .ok (.iload_n 1, 1) := by decide +kernel
theorem k4011_2 : decode (qc 4011) 2 = .ok (.invokevirtual 66, 3) := by decide +kernel
theorem k4011_5 : decode (qc 4011) 5 = .ok (.ifCond .ne 5, 3) := by decide +kernel
theorem k4011_8 : decode (qc 4011) 8 = .ok (.iconst 0, 1) := by decide +kernel
theorem k4011_9 : decode (qc 4011) 9 = .ok (.ireturn, 1) := by decide +kernel
theorem k4011_10 : decode (qc 4011) 10 = .ok (.aload_n 0, 1) := by decide +kernel
theorem k4011_11 : decode (qc 4011) 11 = .ok (.invokevirtual 28, 3) := by decide +kernel
theorem k4011_14 : decode (qc 4011) 14 = .ok (.istore_n 2, 1) := by decide +kernel
theorem k4011_15 : decode (qc 4011) 15 = .ok (.iconst 0, 1) := by decide +kernel
theorem k4011_16 : decode (qc 4011) 16 = .ok (.istore_n 3, 1) := by decide +kernel
theorem k4011_17 : decode (qc 4011) 17 = .ok (.iload_n 3, 1) := by decide +kernel
theorem k4011_18 : decode (qc 4011) 18 = .ok (.sipush 160, 3) := by decide +kernel
theorem k4011_21 : decode (qc 4011) 21 = .ok (.if_icmp .ge 55, 3) := by decide +kernel
theorem k4011_24 : decode (qc 4011) 24 = .ok (.iload_n 2, 1) := by decide +kernel
theorem k4011_25 : decode (qc 4011) 25 = .ok (.bipush 43, 2) := by decide +kernel
theorem k4011_27 : decode (qc 4011) 27 = .ok (.if_icmp .eq 9, 3) := by decide +kernel
theorem k4011_30 : decode (qc 4011) 30 = .ok (.iload_n 2, 1) := by decide +kernel
theorem k4011_31 : decode (qc 4011) 31 = .ok (.bipush 45, 2) := by decide +kernel
theorem k4011_33 : decode (qc 4011) 33 = .ok (.if_icmp .ne 43, 3) := by decide +kernel
theorem k4011_36 : decode (qc 4011) 36 = .ok (.aload_n 0, 1) := by decide +kernel
theorem k4011_37 : decode (qc 4011) 37 = .ok (.dup, 1) := by decide +kernel
theorem k4011_38 : decode (qc 4011) 38 = .ok (.getfield 17, 3) := by decide +kernel
theorem k4011_41 : decode (qc 4011) 41 = .ok (.iconst 1, 1) := by decide +kernel
theorem k4011_42 : decode (qc 4011) 42 = .ok (.iadd, 1) := by decide +kernel
theorem k4011_43 : decode (qc 4011) 43 = .ok (.putfield 17, 3) := by decide +kernel
theorem k4011_46 : decode (qc 4011) 46 = .ok (.aload_n 0, 1) := by decide +kernel
theorem k4011_47 : decode (qc 4011) 47 = .ok (.iload_n 1, 1) := by decide +kernel
theorem k4011_48 : decode (qc 4011) 48 = .ok (.invokevirtual 66, 3) := by decide +kernel
theorem k4011_51 : decode (qc 4011) 51 = .ok (.ifCond .eq 12, 3) := by decide +kernel
theorem k4011_54 : decode (qc 4011) 54 = .ok (.aload_n 0, 1) := by decide +kernel
theorem k4011_55 : decode (qc 4011) 55 = .ok (.iload_n 2, 1) := by decide +kernel
theorem k4011_56 : decode (qc 4011) 56 = .ok (.ineg, 1) := by decide +kernel
theorem k4011_57 : decode (qc 4011) 57 = .ok (.invokevirtual 57, 3) := by decide +kernel
theorem k4011_60 : decode (qc 4011) 60 = .ok (.ifCond .ne 5, 3) := by decide +kernel
theorem k4011_63 : decode (qc 4011) 63 = .ok (.iconst 0, 1) := by decide +kernel
theorem k4011_64 : decode (qc 4011) 64 = .ok (.ireturn, 1) := by decide +kernel
theorem k4011_65 : decode (qc 4011) 65 = .ok (.aload_n 0, 1) := by decide +kernel
theorem k4011_66 : decode (qc 4011) 66 = .ok (.invokevirtual 28, 3) := by decide +kernel
theorem k4011_69 : decode (qc 4011) 69 = .ok (.istore_n 2, 1) := by decide +kernel
theorem k4011_70 : decode (qc 4011) 70 = .ok (.iinc 3 1, 3) := by decide +kernel
theorem k4011_73 : decode (qc 4011) 73 = .ok (.goto (-56), 3) := by decide +kernel
theorem k4011_76 : decode (qc 4011) 76 = .ok (.iconst 1, 1) := by decide +kernel
theorem k4011_77 : decode (qc 4011) 77 = .ok (.ireturn, 1) := by decide +kernel
theorem k4012_0 : decode (qc 4012) 0 = .ok (.aload_n 0, 1) := by decide +kernel
theorem k4012_1 : decode (qc 4012) 1 = .ok (.iload_n 1, 1) := by decide +kernel
theorem k4012_2 : decode (qc 4012) 2 = .ok (.invokevirtual 69, 3) := by decide +kernel
theorem k4012_5 : decode (qc 4012) 5 = .ok (.ifCond .ne 5, 3) := by decide +kernel
theorem k4012_8 : decode (qc 4012) 8 = .ok (.iconst 0, 1) := by decide +kernel
theorem k4012_9 : decode (qc 4012) 9 = .ok (.ireturn, 1) := by decide +kernel
theorem k4012_10 : decode (qc 4012) 10 = .ok (.aload_n 0, 1) := by decide +kernel
theorem k4012_11 : decode (qc 4012) 11 = .ok (.invokevirtual 28, 3) := by decide +kernel
theorem k4012_14 : decode (qc 4012) 14 = .ok (.istore_n 2, 1) := by decide +kernel
theorem k4012_15 : decode (qc 4012) 15 = .ok (.iconst 0, 1) := by decide +kernel
theorem k4012_16 : decode (qc 4012) 16 = .ok (.istore_n 3, 1) := by decide +kernel
theorem k4012_17 : decode (qc 4012) 17 = .ok (.iload_n 3, 1) := by decide +kernel
theorem k4012_18 : decode (qc 4012) 18 = .ok (.sipush 160, 3) := by decide +kernel
theorem k4012_21 : decode (qc 4012) 21 = .ok (.if_icmp .ge 55, 3) := by decide +kernel
theorem k4012_24 : decode (qc 4012) 24 = .ok (.iload_n 2, 1) := by decide +kernel
theorem k4012_25 : decode (qc 4012) 25 = .ok (.bipush 42, 2) := by decide +kernel
theorem k4012_27 : decode (qc 4012) 27 = .ok (.if_icmp .eq 9, 3) := by decide +kernel
theorem k4012_30 : decode (qc 4012) 30 = .ok (.iload_n 2, 1) := by decide +kernel
theorem k4012_31 : decode (qc 4012) 31 = .ok (.bipush 47, 2) := by decide +kernel
theorem k4012_33 : decode (qc 4012) 33 = .ok (.if_icmp .ne 43, 3) := by decide +kernel
theorem k4012_36 : decode (qc 4012) 36 = .ok (.aload_n 0, 1) := by decide +kernel
theorem k4012_37 : decode (qc 4012) 37 = .ok (.dup, 1) := by decide +kernel
theorem k4012_38 : decode (qc 4012) 38 = .ok (.getfield 17, 3) := by decide +kernel
theorem k4012_41 : decode (qc 4012) 41 = .ok (.iconst 1, 1) := by decide +kernel
theorem k4012_42 : decode (qc 4012) 42 = .ok (.iadd, 1) := by decide +kernel
theorem k4012_43 : decode (qc 4012) 43 = .ok (.putfield 17, 3) := by decide +kernel
theorem k4012_46 : decode (qc 4012) 46 = .ok (.aload_n 0, 1) := by decide +kernel
theorem k4012_47 : decode (qc 4012) 47 = .ok (.iload_n 1, 1) := by decide +kernel
theorem k4012_48 : decode (qc 4012) 48 = .ok (.invokevirtual 69, 3) := by decide +kernel
theorem k4012_51 : decode (qc 4012) 51 = .ok (.ifCond .eq 12, 3) := by decide +kernel
theorem k4012_54 : decode (qc 4012) 54 = .ok (.aload_n 0, 1) := by decide +kernel
theorem k4012_55 : decode (qc 4012) 55 = .ok (.iload_n 2, 1) := by decide +kernel
theorem k4012_56 : decode (qc 4012) 56 = .ok (.ineg, 1) := by decide +kernel
theorem k4012_57 : decode (qc 4012) 57 = .ok (.invokevirtual 57, 3) := by decide +kernel
theorem k4012_60 : decode (qc 4012) 60 = .ok (.ifCond .ne 5, 3) := by decide +kernel
theorem k4012_63 : decode (qc 4012) 63 = .ok (.iconst 0, 1) := by decide +kernel
theorem k4012_64 : decode (qc 4012) 64 = .ok (.ireturn, 1) := by decide +kernel
theorem k4012_65 : decode (qc 4012) 65 = .ok (.aload_n 0, 1) := by decide +kernel
theorem k4012_66 : decode (qc 4012) 66 = .ok (.invokevirtual 28, 3) := by decide +kernel
theorem k4012_69 : decode (qc 4012) 69 = .ok (.istore_n 2, 1) := by decide +kernel
theorem k4012_70 : decode (qc 4012) 70 = .ok (.iinc 3 1, 3) := by decide +kernel
theorem k4012_73 : decode (qc 4012) 73 = .ok (.goto (-56), 3) := by decide +kernel
theorem k4012_76 : decode (qc 4012) 76 = .ok (.iconst 1, 1) := by decide +kernel
theorem k4012_77 : decode (qc 4012) 77 = .ok (.ireturn, 1) := by decide +kernel
theorem k4013_0 : decode (qc 4013) 0 = .ok (.aload_n 0, 1) := by decide +kernel
theorem k4013_1 : decode (qc 4013) 1 = .ok (.invokevirtual 28, 3) := by decide +kernel
theorem k4013_4 : decode (qc 4013) 4 = .ok (.istore_n 2, 1) := by decide +kernel
theorem k4013_5 : decode (qc 4013) 5 = .ok (.iload_n 2, 1) := by decide +kernel
theorem k4013_6 : decode (qc 4013) 6 = .ok (.invokestatic 72, 3) := by decide +kernel
theorem k4013_9 : decode (qc 4013) 9 = .ok (.ifCond .eq 32, 3) := by decide +kernel
theorem k4013_12 : decode (qc 4013) 12 = .ok (.aload_n 0, 1) := by decide +kernel
theorem k4013_13 : decode (qc 4013) 13 = .ok (.iconst 4, 1) := by decide +kernel
theorem k4013_14 : decode (qc 4013) 14 = .ok (.iconst 0, 1) := by decide +kernel
theorem k4013_15 : decode (qc 4013) 15 = .ok (.sipush 9999, 3) := by decide +kernel
theorem k4013_18 : decode (qc 4013) 18 = .ok (.invokevirtual 75, 3) := by decide +kernel
theorem k4013_21 : decode (qc 4013) 21 = .ok (.istore_n 3, 1) := by decide +kernel
theorem k4013_22 : decode (qc 4013) 22 = .ok (.iload_n 3, 1) := by decide +kernel
theorem k4013_23 : decode (qc 4013) 23 = .ok (.iconst (-1), 1) := by decide +kernel
theorem k4013_24 : decode (qc 4013) 24 = .ok (.if_icmp .eq 15, 3) := by decide +kernel
theorem k4013_27 : decode (qc 4013) 27 = .ok (.aload_n 0, 1) := by decide +kernel
theorem k4013_28 : decode (qc 4013) 28 = .ok (.iload_n 3, 1) := by decide +kernel
theorem k4013_29 : decode (qc 4013) 29 = .ok (.invokevirtual 57, 3) := by decide +kernel
theorem k4013_32 : decode (qc 4013) 32 = .ok (.ifCond .eq 7, 3) := by decide +kernel
theorem k4013_35 : decode (qc 4013) 35 = .ok (.iconst 1, 1) := by decide +kernel
theorem k4013_36 : decode (qc 4013) 36 = .ok (.goto 4, 3) := by decide +kernel
theorem k4013_39 : decode (qc 4013) 39 = .ok (.iconst 0, 1) := by decide +kernel
theorem k4013_40 : decode (qc 4013) 40 = .ok (.ireturn, 1) := by decide +kernel
theorem k4013_41 : decode (qc 4013) 41 = .ok (.iload_n 2, 1) := by decide +kernel
theorem k4013_42 : decode (qc 4013) 42 = .ok (.invokestatic 79, 3) := by decide +kernel
theorem k4013_45 : decode (qc 4013) 45 = .ok (.ifCond .eq 20, 3) := by decide +kernel
theorem k4013_48 : decode (qc 4013) 48 = .ok (.aload_n 0, 1) := by decide +kernel
theorem k4013_49 : decode (qc 4013) 49 = .ok (.dup, 1) := by decide +kernel
theorem k4013_50 : decode (qc 4013) 50 = .ok (.getfield 17, 3) := by decide +kernel
theorem k4013_53 : decode (qc 4013) 53 = .ok (.iconst 1, 1) := by decide +kernel
theorem k4013_54 : decode (qc 4013) 54 = .ok (.iadd, 1) := by decide +kernel
theorem k4013_55 : decode (qc 4013) 55 = .ok (.putfield 17, 3) := by decide +kernel
theorem k4013_58 : decode (qc 4013) 58 = .ok (.aload_n 0, 1) := by decide +kernel
theorem k4013_59 : decode (qc 4013) 59 = .ok (.iload_n 2, 1) := by decide +kernel
theorem k4013_60 : decode (qc 4013) 60 = .ok (.ineg, 1) := by decide +kernel
theorem k4013_61 : decode (qc 4013) 61 = .ok (.invokevirtual 57, 3) := by decide +kernel
theorem k4013_64 : decode (qc 4013) 64 = .ok (.ireturn, 1) := by decide +kernel
theorem k4013_65 : decode (qc 4013) 65 = .ok (.iload_n 2, 1) := by decide +kernel
theorem k4013_66 : decode (qc 4013) 66 = .ok (.bipush 91, 2) := by decide +kernel
theorem k4013_68 : decode (qc 4013) 68 = .ok (.if_icmp .ne 9, 3) := by decide +kernel
theorem k4013_71 : decode (qc 4013) 71 = .ok (.iload_n 1, 1) := by decide +kernel
theorem k4013_72 : decode (qc 4013) 72 = .ok (.bipush 6, 2) := by decide +kernel
theorem k4013_74 : decode (qc 4013) 74 = .ok (.if_icmp .lt 5, 3) := by decide +kernel
theorem k4013_77 : decode (qc 4013) 77 = .ok (.iconst 0, 1) := by decide +kernel
theorem k4013_78 : decode (qc 4013) 78 = .ok (.ireturn, 1) := by decide +kernel
theorem k4013_79 : decode (qc 4013) 79 = .ok (.aload_n 0, 1) := by decide +kernel
theorem k4013_80 : decode (qc 4013) 80 = .ok (.dup, 1) := by decide +kernel
theorem k4013_81 : decode (qc 4013) 81 = .ok (.getfield 17, 3) := by decide +kernel
theorem k4013_84 : decode (qc 4013) 84 = .ok (.iconst 1, 1) := by decide +kernel
theorem k4013_85 : decode (qc 4013) 85 = .ok (.iadd, 1) := by decide +kernel
theorem k4013_86 : decode (qc 4013) 86 = .ok (.putfield 17, 3) := by decide +kernel
theorem k4013_89 : decode (qc 4013) 89 = .ok (.aload_n 0, 1) := by decide +kernel
theorem k4013_90 : decode (qc 4013) 90 = .ok (.iload_n 1, 1) := by decide +kernel
theorem k4013_91 : decode (qc 4013) 91 = .ok (.iconst 1, 1) := by decide +kernel
theorem k4013_92 : decode (qc 4013) 92 = .ok (.iadd, 1) := by decide +kernel
theorem k4013_93 : decode (qc 4013) 93 = .ok (.invokevirtual 42, 3) := by decide +kernel
theorem k4013_96 : decode (qc 4013) 96 = .ok (.ifCond .eq 16, 3) := by decide +kernel
theorem k4013_99 : decode (qc 4013) 99 = .ok (.aload_n 0, 1) := by decide +kernel
theorem k4013_100 : decode (qc 4013) 100 = .ok (.bipush 93, 2) := by decide +kernel
theorem k4013_102 : decode (qc 4013) 102 = .ok (.invokevirtual 32, 3) := by decide +kernel
theorem k4013_105 : decode (qc 4013) 105 = .ok (.ifCond .eq 7, 3) := by decide +kernel
theorem k4013_108 : decode (qc 4013) 108 = .ok (.iconst 1, 1) := by decide +kernel
theorem k4013_109 : decode (qc 4013) 109 = .ok (.goto 4, 3) := by decide +kernel
theorem k4013_112 : decode (qc 4013) 112 = .ok (.iconst 0, 1) := by decide +kernel
theorem k4013_113 : decode (qc 4013) 113 = .ok (.ireturn, 1) := by decide +kernel
theorem k4014_0 : decode (qc 4014) 0 = .ok (.iload_n 0, 1) := by decide +kernel
theorem k4014_1 : decode (qc 4014) 1 = .ok (.bipush 109, 2) := by decide +kernel
theorem k4014_3 : decode (qc 4014) 3 = .ok (.if_icmp .eq 27, 3) := by decide +kernel
theorem k4014_6 : decode (qc 4014) 6 = .ok (.iload_n 0, 1) := by decide +kernel
theorem k4014_7 : decode (qc 4014) 7 = .ok (.bipush 115, 2) := by decide +kernel
theorem k4014_9 : decode (qc 4014) 9 = .ok (.if_icmp .eq 21, 3) := by decide +kernel
theorem k4014_12 : decode (qc 4014) 12 = .ok (.iload_n 0, 1) := by decide +kernel
theorem k4014_13 : decode (qc 4014) 13 = .ok (.bipush 116, 2) := by decide +kernel
theorem k4014_15 : decode (qc 4014) 15 = .ok (.if_icmp .eq 15, 3) := by decide +kernel
theorem k4014_18 : decode (qc 4014) 18 = .ok (.iload_n 0, 1) := by decide +kernel
theorem k4014_19 : decode (qc 4014) 19 = .ok (.bipush 110, 2) := by decide +kernel
theorem k4014_21 : decode (qc 4014) 21 = .ok (.if_icmp .eq 9, 3) := by decide +kernel
theorem k4014_24 : decode (qc 4014) 24 = .ok (.iload_n 0, 1) := by decide +kernel
theorem k4014_25 : decode (qc 4014) 25 = .ok (.bipush 108, 2) := by decide +kernel
theorem k4014_27 : decode (qc 4014) 27 = .ok (.if_icmp .ne 7, 3) := by decide +kernel
theorem k4014_30 : decode (qc 4014) 30 = .ok (.iconst 1, 1) := by decide +kernel
theorem k4014_31 : decode (qc 4014) 31 = .ok (.goto 4, 3) := by decide +kernel
theorem k4014_34 : decode (qc 4014) 34 = .ok (.iconst 0, 1) := by decide +kernel
theorem k4014_35 : decode (qc 4014) 35 = .ok (.ireturn, 1) := by decide +kernel
theorem k4015_0 : decode (qc 4015) 0 = .ok (.iload_n 0, 1) := by decide +kernel
theorem k4015_1 : decode (qc 4015) 1 = .ok (.bipush 61, 2) := by decide +kernel
theorem k4015_3 : decode (qc 4015) 3 = .ok (.if_icmp .eq 15, 3) := by decide +kernel
theorem k4015_6 : decode (qc 4015) 6 = .ok (.iload_n 0, 1) := by decide +kernel
theorem k4015_7 : decode (qc 4015) 7 = .ok (.bipush 60, 2) := by decide +kernel
theorem k4015_9 : decode (qc 4015) 9 = .ok (.if_icmp .eq 9, 3) := by decide +kernel
theorem k4015_12 : decode (qc 4015) 12 = .ok (.iload_n 0, 1) := by decide +kernel
theorem k4015_13 : decode (qc 4015) 13 = .ok (.bipush 62, 2) := by decide +kernel
theorem k4015_15 : decode (qc 4015) 15 = .ok (.if_icmp .ne 7, 3) := by decide +kernel
theorem k4015_18 : decode (qc 4015) 18 = .ok (.iconst 1, 1) := by decide +kernel
theorem k4015_19 : decode (qc 4015) 19 = .ok (.goto 4, 3) := by decide +kernel
theorem k4015_22 : decode (qc 4015) 22 = .ok (.iconst 0, 1) := by decide +kernel
theorem k4015_23 : decode (qc 4015) 23 = .ok (.ireturn, 1) := by decide +kernel
theorem k4016_0 : decode (qc 4016) 0 = .ok (.aload_n 0, 1) := by decide +kernel
theorem k4016_1 : decode (qc 4016) 1 = .ok (.getfield 21, 3) := by decide +kernel
theorem k4016_4 : decode (qc 4016) 4 = .ok (.sipush 161, 3) := by decide +kernel
theorem k4016_7 : decode (qc 4016) 7 = .ok (.if_icmp .lt 5, 3) := by decide +kernel
theorem k4016_10 : decode (qc 4016) 10 = .ok (.iconst 0, 1) := by decide +kernel
theorem k4016_11 : decode (qc 4016) 11 = .ok (.ireturn, 1) := by decide +kernel
theorem k4016_12 : decode (qc 4016) 12 = .ok (.aload_n 0, 1) := by decide +kernel
theorem k4016_13 : decode (qc 4016) 13 = .ok (.getfield 11, 3) := by decide +kernel
theorem k4016_16 : decode (qc 4016) 16 = .ok (.aload_n 0, 1) := by decide +kernel
theorem k4016_17 : decode (qc 4016) 17 = .ok (.getfield 21, 3) := by decide +kernel
theorem k4016_20 : decode (qc 4016) 20 = .ok (.iload_n 1, 1) := by decide +kernel
theorem k4016_21 : decode (qc 4016) 21 = .ok (.iastore, 1) := by decide +kernel
theorem k4016_22 : decode (qc 4016) 22 = .ok (.aload_n 0, 1) := by decide +kernel
theorem k4016_23 : decode (qc 4016) 23 = .ok (.dup, 1) := by decide +kernel
theorem k4016_24 : decode (qc 4016) 24 = .ok (.getfield 21, 3) := by decide +kernel
theorem k4016_27 : decode (qc 4016) 27 = .ok (.iconst 1, 1) := by decide +kernel
theorem k4016_28 : decode (qc 4016) 28 = .ok (.iadd, 1) := by decide +kernel
theorem k4016_29 : decode (qc 4016) 29 = .ok (.putfield 21, 3) := by decide +kernel
theorem k4016_32 : decode (qc 4016) 32 = .ok (.iconst 1, 1) := by decide +kernel
theorem k4016_33 : decode (qc 4016) 33 = .ok (.ireturn, 1) := by decide +kernel
theorem k6000_0 : decode (qc 6000) 0 = .ok (.aload_n 0, 1) := by decide +kernel
theorem k6000_1 : decode (qc 6000) 1 = .ok (.invokespecial 3, 3) := by decide +kernel
theorem k6000_4 : decode (qc 6000) 4 = .ok (.aload_n 0, 1) := by decide +kernel
theorem k6000_5 : decode (qc 6000) 5 = .ok (.ldc 11, 2) := by decide +kernel
theorem k6000_7 : decode (qc 6000) 7 = .ok (.newarray .int, 2) := by decide +kernel
theorem k6000_9 : decode (qc 6000) 9 = .ok (.putfield 12, 3) := by decide +kernel
theorem k6000_12 : decode (qc 6000) 12 = .ok (.aload_n 0, 1) := by decide +kernel
theorem k6000_13 : decode (qc 6000) 13 = .ok (.iconst 3, 1) := by decide +kernel
theorem k6000_14 : decode (qc 6000) 14 = .ok (.newarray .int, 2) := by decide +kernel
theorem k6000_16 : decode (qc 6000) 16 = .ok (.putfield 16, 3) := by decide +kernel
theorem k6000_19 : decode (qc 6000) 19 = .ok (.return_, 1) := by decide +kernel
theorem k6001_0 : decode (qc 6001) 0 = .ok (.aload_n 0, 1) := by decide +kernel
theorem k6001_1 : decode (qc 6001) 1 = .ok (.aload_n 1, 1) := by decide +kernel
theorem k6001_2 : decode (qc 6001) 2 = .ok (.iload_n 2, 1) := by decide +kernel
theorem k6001_3 : decode (qc 6001) 3 = .ok (.iload_n 3, 1) := by decide +kernel
theorem k6001_4 : decode (qc 6001) 4 = .ok (.iload 4, 2) := by decide +kernel
theorem k6001_6 : decode (qc 6001) 6 = .ok (.sipush 1000, 3) := by decide +kernel
theorem k6001_9 : decode (qc 6001) 9 = .ok (.invokevirtual 19, 3) := by decide +kernel
theorem k6001_12 : decode (qc 6001) 12 = .ok (.istore 5, 2) := by decide +kernel
theorem k6001_14 : decode (qc 6001) 14 = .ok (.iload 5, 2) := by decide +kernel
theorem k6001_16 : decode (qc 6001) 16 = .ok (.ldc 23, 2) := by decide +kernel
theorem k6001_18 : decode (qc 6001) 18 = .ok (.if_icmp .ne 7, 3) := by decide +kernel
theorem k6001_21 : decode (qc 6001) 21 = .ok (.iconst (-1), 1) := by decide +kernel
theorem k6001_22 : decode (qc 6001) 22 = .ok (.goto 9, 3) := by decide +kernel
theorem k6001_25 : decode (qc 6001) 25 = .ok (.iload 5, 2) := by decide +kernel
theorem k6001_27 : decode (qc 6001) 27 = .ok (.sipush 1000, 3) := by decide +kernel
theorem k6001_30 : decode (qc 6001) 30 = .ok (.idiv, 1) := by decide +kernel
theorem k6001_31 : decode (qc 6001) 31 = .ok (.ireturn, 1) := by decide +kernel
theorem k6002_0 : decode (qc 6002) 0 = .ok (.aload_n 0, 1) := by decide +kernel
theorem k6002_1 : decode (qc 6002) 1 = .ok (.aload_n 1, 1) := by decide +kernel
theorem k6002_2 : decode (qc 6002) 2 = .ok (.iload_n 2, 1) := by decide +kernel
theorem k6002_3 : decode (qc 6002) 3 = .ok (.iconst (-1), 1) := by decide +kernel
theorem k6002_4 : decode (qc 6002) 4 = .ok (.iload_n 3, 1) := by decide +kernel
theorem k6002_5 : decode (qc 6002) 5 = .ok (.sipush 1000, 3) := by decide +kernel
theorem k6002_8 : decode (qc 6002) 8 = .ok (.invokevirtual 19, 3) := by decide +kernel
theorem k6002_11 : decode (qc 6002) 11 = .ok (.istore 4, 2) := by decide +kernel
theorem k6002_13 : decode (qc 6002) 13 = .ok (.iload 4, 2) := by decide +kernel
theorem k6002_15 : decode (qc 6002) 15 = .ok (.ldc 23, 2) := by decide +kernel
theorem k6002_17 : decode (qc 6002) 17 = .ok (.if_icmp .ne 7, 3) := by decide +kernel
theorem k6002_20 : decode (qc 6002) 20 = .ok (.iconst (-1), 1) := by decide +kernel
theorem k6002_21 : decode (qc 6002) 21 = .ok (.goto 9, 3) := by decide +kernel
theorem k6002_24 : decode (qc 6002) 24 = .ok (.iload 4, 2) := by decide +kernel
theorem k6002_26 : decode (qc 6002) 26 = .ok (.sipush 1000, 3) := by decide +kernel
theorem k6002_29 : decode (qc 6002) 29 = .ok (.irem, 1) := by decide +kernel
theorem k6002_30 : decode (qc 6002) 30 = .ok (.ireturn, 1) := by decide +kernel
theorem k6003_0 : decode (qc 6003) 0 = .ok (.aload_n 0, 1) := by decide +kernel
theorem k6003_1 : decode (qc 6003) 1 = .ok (.aload_n 1, 1) := by decide +kernel
theorem k6003_2 : decode (qc 6003) 2 = .ok (.iload_n 2, 1) := by decide +kernel
theorem k6003_3 : decode (qc 6003) 3 = .ok (.iconst (-1), 1) := by decide +kernel
theorem k6003_4 : decode (qc 6003) 4 = .ok (.iload_n 3, 1) := by decide +kernel
theorem k6003_5 : decode (qc 6003) 5 = .ok (.iconst 0, 1) := by decide +kernel
theorem k6003_6 : decode (qc 6003) 6 = .ok (.invokevirtual 19, 3) := by decide +kernel
theorem k6003_9 : decode (qc 6003) 9 = .ok (.istore 4, 2) := by decide +kernel
theorem k6003_11 : decode (qc 6003) 11 = .ok (.iload 4, 2) := by decide +kernel
theorem k6003_13 : decode (qc 6003) 13 = .ok (.ldc 23, 2) := by decide +kernel
theorem k6003_15 : decode (qc 6003) 15 = .ok (.if_icmp .ne 7, 3) := by decide +kernel
theorem k6003_18 : decode (qc 6003) 18 = .ok (.iconst (-1), 1) := by decide +kernel
theorem k6003_19 : decode (qc 6003) 19 = .ok (.goto 5, 3) := by decide +kernel
theorem k6003_22 : decode (qc 6003) 22 = .ok (.iload 4, 2) := by decide +kernel
theorem k6003_24 : decode (qc 6003) 24 = .ok (.ireturn, 1) := by decide +kernel
theorem k6004_0 : decode (qc 6004) 0 = .ok (.aload_n 0, 1) := by decide +kernel
theorem k6004_1 : decode (qc 6004) 1 = .ok (.aload_n 1, 1) := by decide +kernel
theorem k6004_2 : decode (qc 6004) 2 = .ok (.putfield 24, 3) := by decide +kernel
theorem k6004_5 : decode (qc 6004) 5 = .ok (.aload_n 0, 1) := by decide +kernel
theorem k6004_6 : decode (qc 6004) 6 = .ok (.iload_n 2, 1) := by decide +kernel
theorem k6004_7 : decode (qc 6004) 7 = .ok (.putfield 28, 3) := by decide +kernel
theorem k6004_10 : decode (qc 6004) 10 = .ok (.aload_n 0, 1) := by decide +kernel
theorem k6004_11 : decode (qc 6004) 11 = .ok (.iload_n 3, 1) := by decide +kernel
theorem k6004_12 : decode (qc 6004) 12 = .ok (.putfield 32, 3) := by decide +kernel
theorem k6004_15 : decode (qc 6004) 15 = .ok (.aload_n 0, 1) := by decide +kernel
theorem k6004_16 : decode (qc 6004) 16 = .ok (.iload 4, 2) := by decide +kernel
theorem k6004_18 : decode (qc 6004) 18 = .ok (.iconst 1, 1) := by decide +kernel
theorem k6004_19 : decode (qc 6004) 19 = .ok (.if_icmp .ne 7, 3) := by decide +kernel
theorem k6004_22 : decode (qc 6004) 22 = .ok (.iconst 1, 1) := by decide +kernel
theorem k6004_23 : decode (qc 6004) 23 = .ok (.goto 4, 3) := by decide +kernel
theorem k6004_26 : decode (qc 6004) 26 = .ok (.iconst 0, 1) := by decide +kernel
theorem k6004_27 : decode (qc 6004) 27 = .ok (.putfield 35, 3) := by decide +kernel
theorem k6004_30 : decode (qc 6004) 30 = .ok (.aload_n 0, 1) := by decide +kernel
theorem k6004_31 : decode (qc 6004) 31 = .ok (.iload 5, 2) := by decide +kernel
theorem k6004_33 : decode (qc 6004) 33 = .ok (.putfield 39, 3) := by decide +kernel
theorem k6004_36 : decode (qc 6004) 36 = .ok (.aload_n 0, 1) := by decide +kernel
theorem k6004_37 : decode (qc 6004) 37 = .ok (.invokevirtual 42, 3) := by decide +kernel
theorem k6004_40 : decode (qc 6004) 40 = .ok (.ldc 23, 2) := by decide +kernel
theorem k6004_42 : decode (qc 6004) 42 = .ok (.istore 6, 2) := by decide +kernel
theorem k6004_44 : decode (qc 6004) 44 = .ok (.iconst 1, 1) := by decide +kernel
theorem k6004_45 : decode (qc 6004) 45 = .ok (.aload_n 1, 1) := by decide +kernel
theorem k6004_46 : decode (qc 6004) 46 = .ok (.getfield 45, 3) := by decide +kernel
theorem k6004_49 : decode (qc 6004) 49 = .ok (.ishl, 1) := by decide +kernel
theorem k6004_50 : decode (qc 6004) 50 = .ok (.iconst 1, 1) := by decide +kernel
theorem k6004_51 : decode (qc 6004) 51 = .ok (.isub, 1) := by decide +kernel
theorem k6004_52 : decode (qc 6004) 52 = .ok (.istore 7, 2) := by decide +kernel
theorem k6004_54 : decode (qc 6004) 54 = .ok (.iconst 0, 1) := by decide +kernel
theorem k6004_55 : decode (qc 6004) 55 = .ok (.istore 8, 2) := by decide +kernel
theorem k6004_57 : decode (qc 6004) 57 = .ok (.iload 8, 2) := by decide +kernel
theorem k6004_59 : decode (qc 6004) 59 = .ok (.aload_n 0, 1) := by decide +kernel
theorem k6004_60 : decode (qc 6004) 60 = .ok (.getfield 50, 3) := by decide +kernel
theorem k6004_63 : decode (qc 6004) 63 = .ok (.if_icmp .ge 58, 3) := by decide +kernel
theorem k6004_66 : decode (qc 6004) 66 = .ok (.aload_n 0, 1) := by decide +kernel
theorem k6004_67 : decode (qc 6004) 67 = .ok (.getfield 12, 3) := by decide +kernel
theorem k6004_70 : decode (qc 6004) 70 = .ok (.iload 8, 2) := by decide +kernel
theorem k6004_72 : decode (qc 6004) 72 = .ok (.iaload, 1) := by decide +kernel
theorem k6004_73 : decode (qc 6004) 73 = .ok (.ldc 23, 2) := by decide +kernel
theorem k6004_75 : decode (qc 6004) 75 = .ok (.if_icmp .eq 40, 3) := by decide +kernel
theorem k6004_78 : decode (qc 6004) 78 = .ok (.aload_n 0, 1) := by decide +kernel
theorem k6004_79 : decode (qc 6004) 79 = .ok (.iload 8, 2) := by decide +kernel
theorem k6004_81 : decode (qc 6004) 81 = .ok (.invokevirtual 53, 3) := by decide +kernel
theorem k6004_84 : decode (qc 6004) 84 = .ok (.aload_n 0, 1) := by decide +kernel
theorem k6004_85 : decode (qc 6004) 85 = .ok (.getfield 57, 3) := by decide +kernel
theorem k6004_88 : decode (qc 6004) 88 = .ok (.iload 7, 2) := by decide +kernel
theorem k6004_90 : decode (qc 6004) 90 = .ok (.if_icmp .ne 17, 3) := by decide +kernel
theorem k6004_93 : decode (qc 6004) 93 = .ok (.iload 6, 2) := by decide +kernel
theorem k6004_95 : decode (qc 6004) 95 = .ok (.aload_n 0, 1) := by decide +kernel
theorem k6004_96 : decode (qc 6004) 96 = .ok (.getfield 60, 3) := by decide +kernel
theorem k6004_99 : decode (qc 6004) 99 = .ok (.invokestatic 63, 3) := by decide +kernel
theorem k6004_102 : decode (qc 6004) 102 = .ok (.istore 6, 2) := by decide +kernel
theorem k6004_104 : decode (qc 6004) 104 = .ok (.goto 11, 3) := by decide +kernel
theorem k6004_107 : decode (qc 6004) 107 = .ok (.aload_n 0, 1) := by decide +kernel
theorem k6004_108 : decode (qc 6004) 108 = .ok (.invokevirtual 69, 3) := by decide +kernel
theorem k6004_111 : decode (qc 6004) 111 = .ok (.aload_n 0, 1) := by decide +kernel
theorem k6004_112 : decode (qc 6004) 112 = .ok (.invokevirtual 72, 3) := by decide +kernel
theorem k6004_115 : decode (qc 6004) 115 = .ok (.iinc 8 1, 3) := by decide +kernel
theorem k6004_118 : decode (qc 6004) 118 = .ok (.goto (-61), 3) := by decide +kernel
theorem k6004_121 : decode (qc 6004) 121 = .ok (.iload 6, 2) := by decide +kernel
theorem k6004_123 : decode (qc 6004) 123 = .ok (.ireturn, 1) := by decide +kernel
theorem k6005_0 : decode (qc 6005) 0 = .ok (.aload_n 0, 1) := by decide +kernel
theorem k6005_1 : decode (qc 6005) 1 = .ok (.iconst 1, 1) := by decide +kernel
theorem k6005_2 : decode (qc 6005) 2 = .ok (.putfield 75, 3) := by decide +kernel
theorem k6005_5 : decode (qc 6005) 5 = .ok (.iconst 0, 1) := by decide +kernel
theorem k6005_6 : decode (qc 6005) 6 = .ok (.istore_n 1, 1) := by decide +kernel
theorem k6005_7 : decode (qc 6005) 7 = .ok (.iload_n 1, 1) := by decide +kernel
theorem k6005_8 : decode (qc 6005) 8 = .ok (.aload_n 0, 1) := by decide +kernel
theorem k6005_9 : decode (qc 6005) 9 = .ok (.getfield 24, 3) := by decide +kernel
theorem k6005_12 : decode (qc 6005) 12 = .ok (.getfield 78, 3) := by decide +kernel
theorem k6005_15 : decode (qc 6005) 15 = .ok (.if_icmp .ge 25, 3) := by decide +kernel
theorem k6005_18 : decode (qc 6005) 18 = .ok (.aload_n 0, 1) := by decide +kernel
theorem k6005_19 : decode (qc 6005) 19 = .ok (.dup, 1) := by decide +kernel
theorem k6005_20 : decode (qc 6005) 20 = .ok (.getfield 75, 3) := by decide +kernel
theorem k6005_23 : decode (qc 6005) 23 = .ok (.aload_n 0, 1) := by decide +kernel
theorem k6005_24 : decode (qc 6005) 24 = .ok (.getfield 24, 3) := by decide +kernel
theorem k6005_27 : decode (qc 6005) 27 = .ok (.getfield 81, 3) := by decide +kernel
theorem k6005_30 : decode (qc 6005) 30 = .ok (.imul, 1) := by decide +kernel
theorem k6005_31 : decode (qc 6005) 31 = .ok (.putfield 75, 3) := by decide +kernel
theorem k6005_34 : decode (qc 6005) 34 = .ok (.iinc 1 1, 3) := by decide +kernel
theorem k6005_37 : decode (qc 6005) 37 = .ok (.goto (-30), 3) := by decide +kernel
theorem k6005_40 : decode (qc 6005) 40 = .ok (.aload_n 0, 1) := by decide +kernel
theorem k6005_41 : decode (qc 6005) 41 = .ok (.iconst 1, 1) := by decide +kernel
theorem k6005_42 : decode (qc 6005) 42 = .ok (.aload_n 0, 1) := by decide +kernel
theorem k6005_43 : decode (qc 6005) 43 = .ok (.getfield 24, 3) := by decide +kernel
theorem k6005_46 : decode (qc 6005) 46 = .ok (.getfield 78, 3) := by decide +kernel
theorem k6005_49 : decode (qc 6005) 49 = .ok (.ishl, 1) := by decide +kernel
theorem k6005_50 : decode (qc 6005) 50 = .ok (.putfield 84, 3) := by decide +kernel
theorem k6005_53 : decode (qc 6005) 53 = .ok (.aload_n 0, 1) := by decide +kernel
theorem k6005_54 : decode (qc 6005) 54 = .ok (.ldc 11, 2) := by decide +kernel
theorem k6005_56 : decode (qc 6005) 56 = .ok (.iconst 1, 1) := by decide +kernel
theorem k6005_57 : decode (qc 6005) 57 = .ok (.aload_n 0, 1) := by decide +kernel
theorem k6005_58 : decode (qc 6005) 58 = .ok (.getfield 24, 3) := by decide +kernel
theorem k6005_61 : decode (qc 6005) 61 = .ok (.getfield 45, 3) := by decide +kernel
theorem k6005_64 : decode (qc 6005) 64 = .ok (.ishl, 1) := by decide +kernel
theorem k6005_65 : decode (qc 6005) 65 = .ok (.aload_n 0, 1) := by decide +kernel
theorem k6005_66 : decode (qc 6005) 66 = .ok (.getfield 84, 3) := by decide +kernel
theorem k6005_69 : decode (qc 6005) 69 = .ok (.imul, 1) := by decide +kernel
theorem k6005_70 : decode (qc 6005) 70 = .ok (.aload_n 0, 1) := by decide +kernel
theorem k6005_71 : decode (qc 6005) 71 = .ok (.getfield 24, 3) := by decide +kernel
theorem k6005_74 : decode (qc 6005) 74 = .ok (.getfield 81, 3) := by decide +kernel
theorem k6005_77 : decode (qc 6005) 77 = .ok (.imul, 1) := by decide +kernel
theorem k6005_78 : decode (qc 6005) 78 = .ok (.aload_n 0, 1) := by decide +kernel
theorem k6005_79 : decode (qc 6005) 79 = .ok (.getfield 75, 3) := by decide +kernel
theorem k6005_82 : decode (qc 6005) 82 = .ok (.imul, 1) := by decide +kernel
theorem k6005_83 : decode (qc 6005) 83 = .ok (.invokestatic 63, 3) := by decide +kernel
theorem k6005_86 : decode (qc 6005) 86 = .ok (.putfield 50, 3) := by decide +kernel
theorem k6005_89 : decode (qc 6005) 89 = .ok (.iconst 0, 1) := by decide +kernel
theorem k6005_90 : decode (qc 6005) 90 = .ok (.istore_n 1, 1) := by decide +kernel
theorem k6005_91 : decode (qc 6005) 91 = .ok (.iload_n 1, 1) := by decide +kernel
theorem k6005_92 : decode (qc 6005) 92 = .ok (.aload_n 0, 1) := by decide +kernel
theorem k6005_93 : decode (qc 6005) 93 = .ok (.getfield 50, 3) := by decide +kernel
theorem k6005_96 : decode (qc 6005) 96 = .ok (.if_icmp .ge 17, 3) := by decide +kernel
theorem k6005_99 : decode (qc 6005) 99 = .ok (.aload_n 0, 1) := by decide +kernel
theorem k6005_100 : decode (qc 6005) 100 = .ok (.getfield 12, 3) := by decide +kernel
theorem k6005_103 : decode (qc 6005) 103 = .ok (.iload_n 1, 1) := by decide +kernel
theorem k6005_104 : decode (qc 6005) 104 = .ok (.ldc 23, 2) := by decide +kernel
theorem k6005_106 : decode (qc 6005) 106 = .ok (.iastore, 1) := by decide +kernel
theorem k6005_107 : decode (qc 6005) 107 = .ok (.iinc 1 1, 3) := by decide +kernel
theorem k6005_110 : decode (qc 6005) 110 = .ok (.goto (-19), 3) := by decide +kernel
theorem k6005_113 : decode (qc 6005) 113 = .ok (.iconst 0, 1) := by decide +kernel
theorem k6005_114 : decode (qc 6005) 114 = .ok (.istore_n 1, 1) := by decide +kernel
theorem k6005_115 : decode (qc 6005) 115 = .ok (.aload_n 0, 1) := by decide +kernel
theorem k6005_116 : decode (qc 6005) 116 = .ok (.getfield 24, 3) := by decide +kernel
theorem k6005_119 : decode (qc 6005) 119 = .ok (.getfield 78, 3) := by decide +kernel
theorem k6005_122 : decode (qc 6005) 122 = .ok (.iconst 1, 1) := by decide +kernel
theorem k6005_123 : decode (qc 6005) 123 = .ok (.isub, 1) := by decide +kernel
theorem k6005_124 : decode (qc 6005) 124 = .ok (.istore_n 2, 1) := by decide +kernel
theorem k6005_125 : decode (qc 6005) 125 = .ok (.iload_n 2, 1) := by decide +kernel
theorem k6005_126 : decode (qc 6005) 126 = .ok (.ifCond .lt 31, 3) := by decide +kernel
theorem k6005_129 : decode (qc 6005) 129 = .ok (.iload_n 1, 1) := by decide +kernel
theorem k6005_130 : decode (qc 6005) 130 = .ok (.aload_n 0, 1) := by decide +kernel
theorem k6005_131 : decode (qc 6005) 131 = .ok (.getfield 24, 3) := by decide +kernel
theorem k6005_134 : decode (qc 6005) 134 = .ok (.getfield 81, 3) := by decide +kernel
theorem k6005_137 : decode (qc 6005) 137 = .ok (.imul, 1) := by decide +kernel
theorem k6005_138 : decode (qc 6005) 138 = .ok (.aload_n 0, 1) := by decide +kernel
theorem k6005_139 : decode (qc 6005) 139 = .ok (.getfield 24, 3) := by decide +kernel
theorem k6005_142 : decode (qc 6005) 142 = .ok (.getfield 87, 3) := by decide +kernel
theorem k6005_145 : decode (qc 6005) 145 = .ok (.iload_n 2, 1) := by decide +kernel
theorem k6005_146 : decode (qc 6005) 146 = .ok (.aaload, 1) := by decide +kernel
theorem k6005_147 : decode (qc 6005) 147 = .ok (.iconst 0, 1) := by decide +kernel
theorem k6005_148 : decode (qc 6005) 148 = .ok (.iaload, 1) := by decide +kernel
theorem k6005_149 : decode (qc 6005) 149 = .ok (.iadd, 1) := by decide +kernel
theorem k6005_150 : decode (qc 6005) 150 = .ok (.istore_n 1, 1) := by decide +kernel
theorem k6005_151 : decode (qc 6005) 151 = .ok (.iinc 2 (-1), 3) := by decide +kernel
theorem k6005_154 : decode (qc 6005) 154 = .ok (.goto (-29), 3) := by decide +kernel
theorem k6005_157 : decode (qc 6005) 157 = .ok (.aload_n 0, 1) := by decide +kernel
theorem k6005_158 : decode (qc 6005) 158 = .ok (.iconst 0, 1) := by decide +kernel
theorem k6005_159 : decode (qc 6005) 159 = .ok (.iconst 0, 1) := by decide +kernel
theorem k6005_160 : decode (qc 6005) 160 = .ok (.aload_n 0, 1) := by decide +kernel
theorem k6005_161 : decode (qc 6005) 161 = .ok (.getfield 24, 3) := by decide +kernel
theorem k6005_164 : decode (qc 6005) 164 = .ok (.getfield 91, 3) := by decide +kernel
theorem k6005_167 : decode (qc 6005) 167 = .ok (.aload_n 0, 1) := by decide +kernel
theorem k6005_168 : decode (qc 6005) 168 = .ok (.getfield 28, 3) := by decide +kernel
theorem k6005_171 : decode (qc 6005) 171 = .ok (.aaload, 1) := by decide +kernel
theorem k6005_172 : decode (qc 6005) 172 = .ok (.iconst 0, 1) := by decide +kernel
theorem k6005_173 : decode (qc 6005) 173 = .ok (.iaload, 1) := by decide +kernel
theorem k6005_174 : decode (qc 6005) 174 = .ok (.iload_n 1, 1) := by decide +kernel
theorem k6005_175 : decode (qc 6005) 175 = .ok (.iconst 0, 1) := by decide +kernel
theorem k6005_176 : decode (qc 6005) 176 = .ok (.invokevirtual 94, 3) := by decide +kernel
theorem k6005_179 : decode (qc 6005) 179 = .ok (.return_, 1) := by decide +kernel
theorem k6006_0 : decode (qc 6006) 0 = .ok (.aload_n 0, 1) := by decide +kernel
theorem k6006_1 : decode (qc 6006) 1 = .ok (.aload_n 0, 1) := by decide +kernel
theorem k6006_2 : decode (qc 6006) 2 = .ok (.getfield 12, 3) := by decide +kernel
theorem k6006_5 : decode (qc 6006) 5 = .ok (.iload_n 1, 1) := by decide +kernel
theorem k6006_6 : decode (qc 6006) 6 = .ok (.iaload, 1) := by decide +kernel
theorem k6006_7 : decode (qc 6006) 7 = .ok (.putfield 60, 3) := by decide +kernel
theorem k6006_10 : decode (qc 6006) 10 = .ok (.iconst 1, 1) := by decide +kernel
theorem k6006_11 : decode (qc 6006) 11 = .ok (.aload_n 0, 1) := by decide +kernel
theorem k6006_12 : decode (qc 6006) 12 = .ok (.getfield 24, 3) := by decide +kernel
theorem k6006_15 : decode (qc 6006) 15 = .ok (.getfield 81, 3) := by decide +kernel
theorem k6006_18 : decode (qc 6006) 18 = .ok (.invokestatic 98, 3) := by decide +kernel
theorem k6006_21 : decode (qc 6006) 21 = .ok (.istore_n 2, 1) := by decide +kernel
theorem k6006_22 : decode (qc 6006) 22 = .ok (.iload_n 1, 1) := by decide +kernel
theorem k6006_23 : decode (qc 6006) 23 = .ok (.istore_n 3, 1) := by decide +kernel
theorem k6006_24 : decode (qc 6006) 24 = .ok (.iconst 0, 1) := by decide +kernel
theorem k6006_25 : decode (qc 6006) 25 = .ok (.istore 4, 2) := by decide +kernel
theorem k6006_27 : decode (qc 6006) 27 = .ok (.iload 4, 2) := by decide +kernel
theorem k6006_29 : decode (qc 6006) 29 = .ok (.aload_n 0, 1) := by decide +kernel
theorem k6006_30 : decode (qc 6006) 30 = .ok (.getfield 24, 3) := by decide +kernel
theorem k6006_33 : decode (qc 6006) 33 = .ok (.getfield 78, 3) := by decide +kernel
theorem k6006_36 : decode (qc 6006) 36 = .ok (.if_icmp .ge 23, 3) := by decide +kernel
theorem k6006_39 : decode (qc 6006) 39 = .ok (.aload_n 0, 1) := by decide +kernel
theorem k6006_40 : decode (qc 6006) 40 = .ok (.getfield 16, 3) := by decide +kernel
theorem k6006_43 : decode (qc 6006) 43 = .ok (.iload 4, 2) := by decide +kernel
theorem k6006_45 : decode (qc 6006) 45 = .ok (.iload_n 3, 1) := by decide +kernel
theorem k6006_46 : decode (qc 6006) 46 = .ok (.iload_n 2, 1) := by decide +kernel
theorem k6006_47 : decode (qc 6006) 47 = .ok (.irem, 1) := by decide +kernel
theorem k6006_48 : decode (qc 6006) 48 = .ok (.iastore, 1) := by decide +kernel
theorem k6006_49 : decode (qc 6006) 49 = .ok (.iload_n 3, 1) := by decide +kernel
theorem k6006_50 : decode (qc 6006) 50 = .ok (.iload_n 2, 1) := by decide +kernel
theorem k6006_51 : decode (qc 6006) 51 = .ok (.idiv, 1) := by decide +kernel
theorem k6006_52 : decode (qc 6006) 52 = .ok (.istore_n 3, 1) := by decide +kernel
theorem k6006_53 : decode (qc 6006) 53 = .ok (.iinc 4 1, 3) := by decide +kernel
theorem k6006_56 : decode (qc 6006) 56 = .ok (.goto (-29), 3) := by decide +kernel
theorem k6006_59 : decode (qc 6006) 59 = .ok (.aload_n 0, 1) := by decide +kernel
theorem k6006_60 : decode (qc 6006) 60 = .ok (.iload_n 3, 1) := by decide +kernel
theorem k6006_61 : decode (qc 6006) 61 = .ok (.iload_n 2, 1) := by decide +kernel
theorem k6006_62 : decode (qc 6006) 62 = .ok (.irem, 1) := by decide +kernel
theorem k6006_63 : decode (qc 6006) 63 = .ok (.putfield 101, 3) := by decide +kernel
theorem k6006_66 : decode (qc 6006) 66 = .ok (.iload_n 3, 1) := by decide +kernel
theorem k6006_67 : decode (qc 6006) 67 = .ok (.iload_n 2, 1) := by decide +kernel
theorem k6006_68 : decode (qc 6006) 68 = .ok (.idiv, 1) := by decide +kernel
theorem k6006_69 : decode (qc 6006) 69 = .ok (.istore_n 3, 1) := by decide +kernel
theorem k6006_70 : decode (qc 6006) 70 = .ok (.aload_n 0, 1) := by decide +kernel
theorem k6006_71 : decode (qc 6006) 71 = .ok (.iload_n 3, 1) := by decide +kernel
theorem k6006_72 : decode (qc 6006) 72 = .ok (.aload_n 0, 1) := by decide +kernel
theorem k6006_73 : decode (qc 6006) 73 = .ok (.getfield 84, 3) := by decide +kernel
theorem k6006_76 : decode (qc 6006) 76 = .ok (.iconst 1, 1) := by decide +kernel
theorem k6006_77 : decode (qc 6006) 77 = .ok (.isub, 1) := by decide +kernel
theorem k6006_78 : decode (qc 6006) 78 = .ok (.iand, 1) := by decide +kernel
theorem k6006_79 : decode (qc 6006) 79 = .ok (.putfield 104, 3) := by decide +kernel
theorem k6006_82 : decode (qc 6006) 82 = .ok (.aload_n 0, 1) := by decide +kernel
theorem k6006_83 : decode (qc 6006) 83 = .ok (.iload_n 3, 1) := by decide +kernel
theorem k6006_84 : decode (qc 6006) 84 = .ok (.aload_n 0, 1) := by decide +kernel
theorem k6006_85 : decode (qc 6006) 85 = .ok (.getfield 24, 3) := by decide +kernel
theorem k6006_88 : decode (qc 6006) 88 = .ok (.getfield 78, 3) := by decide +kernel
theorem k6006_91 : decode (qc 6006) 91 = .ok (.ishr, 1) := by decide +kernel
theorem k6006_92 : decode (qc 6006) 92 = .ok (.putfield 57, 3) := by decide +kernel
theorem k6006_95 : decode (qc 6006) 95 = .ok (.return_, 1) := by decide +kernel
theorem k6007_0 : decode (qc 6007) 0 = .ok (.iload_n 1, 1) := by decide +kernel
theorem k6007_1 : decode (qc 6007) 1 = .ok (.aload_n 0, 1) := by decide +kernel
theorem k6007_2 : decode (qc 6007) 2 = .ok (.getfield 84, 3) := by decide +kernel
theorem k6007_5 : decode (qc 6007) 5 = .ok (.imul, 1) := by decide +kernel
theorem k6007_6 : decode (qc 6007) 6 = .ok (.iload_n 2, 1) := by decide +kernel
theorem k6007_7 : decode (qc 6007) 7 = .ok (.iadd, 1) := by decide +kernel
theorem k6007_8 : decode (qc 6007) 8 = .ok (.aload_n 0, 1) := by decide +kernel
theorem k6007_9 : decode (qc 6007) 9 = .ok (.getfield 24, 3) := by decide +kernel
theorem k6007_12 : decode (qc 6007) 12 = .ok (.getfield 81, 3) := by decide +kernel
theorem k6007_15 : decode (qc 6007) 15 = .ok (.imul, 1) := by decide +kernel
theorem k6007_16 : decode (qc 6007) 16 = .ok (.iload_n 3, 1) := by decide +kernel
theorem k6007_17 : decode (qc 6007) 17 = .ok (.iadd, 1) := by decide +kernel
theorem k6007_18 : decode (qc 6007) 18 = .ok (.aload_n 0, 1) := by decide +kernel
theorem k6007_19 : decode (qc 6007) 19 = .ok (.getfield 75, 3) := by decide +kernel
theorem k6007_22 : decode (qc 6007) 22 = .ok (.imul, 1) := by decide +kernel
theorem k6007_23 : decode (qc 6007) 23 = .ok (.iload 4, 2) := by decide +kernel
theorem k6007_25 : decode (qc 6007) 25 = .ok (.iadd, 1) := by decide +kernel
theorem k6007_26 : decode (qc 6007) 26 = .ok (.istore 6, 2) := by decide +kernel
theorem k6007_28 : decode (qc 6007) 28 = .ok (.iload 6, 2) := by decide +kernel
theorem k6007_30 : decode (qc 6007) 30 = .ok (.ifCond .lt 33, 3) := by decide +kernel
theorem k6007_33 : decode (qc 6007) 33 = .ok (.iload 6, 2) := by decide +kernel
theorem k6007_35 : decode (qc 6007) 35 = .ok (.aload_n 0, 1) := by decide +kernel
theorem k6007_36 : decode (qc 6007) 36 = .ok (.getfield 50, 3) := by decide +kernel
theorem k6007_39 : decode (qc 6007) 39 = .ok (.if_icmp .ge 24, 3) := by decide +kernel
theorem k6007_42 : decode (qc 6007) 42 = .ok (.iload 5, 2) := by decide +kernel
theorem k6007_44 : decode (qc 6007) 44 = .ok (.aload_n 0, 1) := by decide +kernel
theorem k6007_45 : decode (qc 6007) 45 = .ok (.getfield 12, 3) := by decide +kernel
theorem k6007_48 : decode (qc 6007) 48 = .ok (.iload 6, 2) := by decide +kernel
theorem k6007_50 : decode (qc 6007) 50 = .ok (.iaload, 1) := by decide +kernel
theorem k6007_51 : decode (qc 6007) 51 = .ok (.if_icmp .ge 12, 3) := by decide +kernel
theorem k6007_54 : decode (qc 6007) 54 = .ok (.aload_n 0, 1) := by decide +kernel
theorem k6007_55 : decode (qc 6007) 55 = .ok (.getfield 12, 3) := by decide +kernel
theorem k6007_58 : decode (qc 6007) 58 = .ok (.iload 6, 2) := by decide +kernel
theorem k6007_60 : decode (qc 6007) 60 = .ok (.iload 5, 2) := by decide +kernel
theorem k6007_62 : decode (qc 6007) 62 = .ok (.iastore, 1) := by decide +kernel
theorem k6007_63 : decode (qc 6007) 63 = .ok (.return_, 1) := by decide +kernel
theorem k6008_0 : decode (qc 6008) 0 = .ok (.iconst 0, 1) := by decide +kernel
theorem k6008_1 : decode (qc 6008) 1 = .ok (.istore_n 1, 1) := by decide +kernel
theorem k6008_2 : decode (qc 6008) 2 = .ok (.aload_n 0, 1) := by decide +kernel
theorem k6008_3 : decode (qc 6008) 3 = .ok (.getfield 24, 3) := by decide +kernel
theorem k6008_6 : decode (qc 6008) 6 = .ok (.getfield 78, 3) := by decide +kernel
theorem k6008_9 : decode (qc 6008) 9 = .ok (.iconst 1, 1) := by decide +kernel
theorem k6008_10 : decode (qc 6008) 10 = .ok (.isub, 1) := by decide +kernel
theorem k6008_11 : decode (qc 6008) 11 = .ok (.istore_n 2, 1) := by decide +kernel
theorem k6008_12 : decode (qc 6008) 12 = .ok (.iload_n 2, 1) := by decide +kernel
theorem k6008_13 : decode (qc 6008) 13 = .ok (.ifCond .lt 26, 3) := by decide +kernel
theorem k6008_16 : decode (qc 6008) 16 = .ok (.iload_n 1, 1) := by decide +kernel
theorem k6008_17 : decode (qc 6008) 17 = .ok (.aload_n 0, 1) := by decide +kernel
theorem k6008_18 : decode (qc 6008) 18 = .ok (.getfield 24, 3) := by decide +kernel
theorem k6008_21 : decode (qc 6008) 21 = .ok (.getfield 81, 3) := by decide +kernel
theorem k6008_24 : decode (qc 6008) 24 = .ok (.imul, 1) := by decide +kernel
theorem k6008_25 : decode (qc 6008) 25 = .ok (.aload_n 0, 1) := by decide +kernel
theorem k6008_26 : decode (qc 6008) 26 = .ok (.getfield 16, 3) := by decide +kernel
theorem k6008_29 : decode (qc 6008) 29 = .ok (.iload_n 2, 1) := by decide +kernel
theorem k6008_30 : decode (qc 6008) 30 = .ok (.iaload, 1) := by decide +kernel
theorem k6008_31 : decode (qc 6008) 31 = .ok (.iadd, 1) := by decide +kernel
theorem k6008_32 : decode (qc 6008) 32 = .ok (.istore_n 1, 1) := by decide +kernel
theorem k6008_33 : decode (qc 6008) 33 = .ok (.iinc 2 (-1), 3) := by decide +kernel
theorem k6008_36 : decode (qc 6008) 36 = .ok (.goto (-24), 3) := by decide +kernel
theorem k6008_39 : decode (qc 6008) 39 = .ok (.iconst 0, 1) := by decide +kernel
theorem k6008_40 : decode (qc 6008) 40 = .ok (.istore_n 2, 1) := by decide +kernel
theorem k6008_41 : decode (qc 6008) 41 = .ok (.iload_n 2, 1) := by decide +kernel
theorem k6008_42 : decode (qc 6008) 42 = .ok (.aload_n 0, 1) := by decide +kernel
theorem k6008_43 : decode (qc 6008) 43 = .ok (.getfield 24, 3) := by decide +kernel
theorem k6008_46 : decode (qc 6008) 46 = .ok (.getfield 78, 3) := by decide +kernel
theorem k6008_49 : decode (qc 6008) 49 = .ok (.if_icmp .ge 108, 3) := by decide +kernel
theorem k6008_52 : decode (qc 6008) 52 = .ok (.iload_n 2, 1) := by decide +kernel
theorem k6008_53 : decode (qc 6008) 53 = .ok (.aload_n 0, 1) := by decide +kernel
theorem k6008_54 : decode (qc 6008) 54 = .ok (.getfield 32, 3) := by decide +kernel
theorem k6008_57 : decode (qc 6008) 57 = .ok (.if_icmp .eq 22, 3) := by decide +kernel
theorem k6008_60 : decode (qc 6008) 60 = .ok (.aload_n 0, 1) := by decide +kernel
theorem k6008_61 : decode (qc 6008) 61 = .ok (.getfield 24, 3) := by decide +kernel
theorem k6008_64 : decode (qc 6008) 64 = .ok (.aload_n 0, 1) := by decide +kernel
theorem k6008_65 : decode (qc 6008) 65 = .ok (.getfield 28, 3) := by decide +kernel
theorem k6008_68 : decode (qc 6008) 68 = .ok (.iload_n 2, 1) := by decide +kernel
theorem k6008_69 : decode (qc 6008) 69 = .ok (.invokevirtual 107, 3) := by decide +kernel
theorem k6008_72 : decode (qc 6008) 72 = .ok (.ifCond .eq 7, 3) := by decide +kernel
theorem k6008_75 : decode (qc 6008) 75 = .ok (.iconst 1, 1) := by decide +kernel
theorem k6008_76 : decode (qc 6008) 76 = .ok (.goto 4, 3) := by decide +kernel
theorem k6008_79 : decode (qc 6008) 79 = .ok (.iconst 0, 1) := by decide +kernel
theorem k6008_80 : decode (qc 6008) 80 = .ok (.istore_n 3, 1) := by decide +kernel
theorem k6008_81 : decode (qc 6008) 81 = .ok (.iload_n 3, 1) := by decide +kernel
theorem k6008_82 : decode (qc 6008) 82 = .ok (.ifCond .eq 69, 3) := by decide +kernel
theorem k6008_85 : decode (qc 6008) 85 = .ok (.aload_n 0, 1) := by decide +kernel
theorem k6008_86 : decode (qc 6008) 86 = .ok (.getfield 104, 3) := by decide +kernel
theorem k6008_89 : decode (qc 6008) 89 = .ok (.iload_n 2, 1) := by decide +kernel
theorem k6008_90 : decode (qc 6008) 90 = .ok (.ishr, 1) := by decide +kernel
theorem k6008_91 : decode (qc 6008) 91 = .ok (.iconst 1, 1) := by decide +kernel
theorem k6008_92 : decode (qc 6008) 92 = .ok (.iand, 1) := by decide +kernel
theorem k6008_93 : decode (qc 6008) 93 = .ok (.ifCond .ne 58, 3) := by decide +kernel
theorem k6008_96 : decode (qc 6008) 96 = .ok (.aload_n 0, 1) := by decide +kernel
theorem k6008_97 : decode (qc 6008) 97 = .ok (.getfield 101, 3) := by decide +kernel
theorem k6008_100 : decode (qc 6008) 100 = .ok (.aload_n 0, 1) := by decide +kernel
theorem k6008_101 : decode (qc 6008) 101 = .ok (.getfield 16, 3) := by decide +kernel
theorem k6008_104 : decode (qc 6008) 104 = .ok (.iload_n 2, 1) := by decide +kernel
theorem k6008_105 : decode (qc 6008) 105 = .ok (.iaload, 1) := by decide +kernel
theorem k6008_106 : decode (qc 6008) 106 = .ok (.isub, 1) := by decide +kernel
theorem k6008_107 : decode (qc 6008) 107 = .ok (.invokestatic 111, 3) := by decide +kernel
theorem k6008_110 : decode (qc 6008) 110 = .ok (.iconst 1, 1) := by decide +kernel
theorem k6008_111 : decode (qc 6008) 111 = .ok (.iadd, 1) := by decide +kernel
theorem k6008_112 : decode (qc 6008) 112 = .ok (.istore 4, 2) := by decide +kernel
theorem k6008_114 : decode (qc 6008) 114 = .ok (.aload_n 0, 1) := by decide +kernel
theorem k6008_115 : decode (qc 6008) 115 = .ok (.aload_n 0, 1) := by decide +kernel
theorem k6008_116 : decode (qc 6008) 116 = .ok (.getfield 57, 3) := by decide +kernel
theorem k6008_119 : decode (qc 6008) 119 = .ok (.aload_n 0, 1) := by decide +kernel
theorem k6008_120 : decode (qc 6008) 120 = .ok (.getfield 104, 3) := by decide +kernel
theorem k6008_123 : decode (qc 6008) 123 = .ok (.iconst 1, 1) := by decide +kernel
theorem k6008_124 : decode (qc 6008) 124 = .ok (.iload_n 2, 1) := by decide +kernel
theorem k6008_125 : decode (qc 6008) 125 = .ok (.ishl, 1) := by decide +kernel
theorem k6008_126 : decode (qc 6008) 126 = .ok (.ior, 1) := by decide +kernel
theorem k6008_127 : decode (qc 6008) 127 = .ok (.aload_n 0, 1) := by decide +kernel
theorem k6008_128 : decode (qc 6008) 128 = .ok (.getfield 16, 3) := by decide +kernel
theorem k6008_131 : decode (qc 6008) 131 = .ok (.iload_n 2, 1) := by decide +kernel
theorem k6008_132 : decode (qc 6008) 132 = .ok (.iaload, 1) := by decide +kernel
theorem k6008_133 : decode (qc 6008) 133 = .ok (.iload_n 1, 1) := by decide +kernel
theorem k6008_134 : decode (qc 6008) 134 = .ok (.aload_n 0, 1) := by decide +kernel
theorem k6008_135 : decode (qc 6008) 135 = .ok (.getfield 60, 3) := by decide +kernel
theorem k6008_138 : decode (qc 6008) 138 = .ok (.iload 4, 2) := by decide +kernel
theorem k6008_140 : decode (qc 6008) 140 = .ok (.aload_n 0, 1) := by decide +kernel
theorem k6008_141 : decode (qc 6008) 141 = .ok (.getfield 39, 3) := by decide +kernel
theorem k6008_144 : decode (qc 6008) 144 = .ok (.imul, 1) := by decide +kernel
theorem k6008_145 : decode (qc 6008) 145 = .ok (.iadd, 1) := by decide +kernel
theorem k6008_146 : decode (qc 6008) 146 = .ok (.iconst 1, 1) := by decide +kernel
theorem k6008_147 : decode (qc 6008) 147 = .ok (.iadd, 1) := by decide +kernel
theorem k6008_148 : decode (qc 6008) 148 = .ok (.invokevirtual 94, 3) := by decide +kernel
theorem k6008_151 : decode (qc 6008) 151 = .ok (.iinc 2 1, 3) := by decide +kernel
theorem k6008_154 : decode (qc 6008) 154 = .ok (.goto (-113), 3) := by decide +kernel
theorem k6008_157 : decode (qc 6008) 157 = .ok (.return_, 1) := by decide +kernel
theorem k6009_0 : decode (qc 6009) 0 = .ok (.iconst 0, 1) := by decide +kernel
theorem k6009_1 : decode (qc 6009) 1 = .ok (.istore_n 1, 1) := by decide +kernel
theorem k6009_2 : decode (qc 6009) 2 = .ok (.iload_n 1, 1) := by decide +kernel
theorem k6009_3 : decode (qc 6009) 3 = .ok (.aload_n 0, 1) := by decide +kernel
theorem k6009_4 : decode (qc 6009) 4 = .ok (.getfield 24, 3) := by decide +kernel
theorem k6009_7 : decode (qc 6009) 7 = .ok (.getfield 45, 3) := by decide +kernel
theorem k6009_10 : decode (qc 6009) 10 = .ok (.if_icmp .ge 127, 3) := by decide +kernel
theorem k6009_13 : decode (qc 6009) 13 = .ok (.aload_n 0, 1) := by decide +kernel
theorem k6009_14 : decode (qc 6009) 14 = .ok (.getfield 24, 3) := by decide +kernel
theorem k6009_17 : decode (qc 6009) 17 = .ok (.getfield 115, 3) := by decide +kernel
theorem k6009_20 : decode (qc 6009) 20 = .ok (.iload_n 1, 1) := by decide +kernel
theorem k6009_21 : decode (qc 6009) 21 = .ok (.aaload, 1) := by decide +kernel
theorem k6009_22 : decode (qc 6009) 22 = .ok (.iconst 3, 1) := by decide +kernel
theorem k6009_23 : decode (qc 6009) 23 = .ok (.iaload, 1) := by decide +kernel
theorem k6009_24 : decode (qc 6009) 24 = .ok (.istore_n 2, 1) := by decide +kernel
theorem k6009_25 : decode (qc 6009) 25 = .ok (.iload_n 2, 1) := by decide +kernel
theorem k6009_26 : decode (qc 6009) 26 = .ok (.iconst (-1), 1) := by decide +kernel
theorem k6009_27 : decode (qc 6009) 27 = .ok (.if_icmp .eq 15, 3) := by decide +kernel
theorem k6009_30 : decode (qc 6009) 30 = .ok (.aload_n 0, 1) := by decide +kernel
theorem k6009_31 : decode (qc 6009) 31 = .ok (.getfield 57, 3) := by decide +kernel
theorem k6009_34 : decode (qc 6009) 34 = .ok (.iload_n 2, 1) := by decide +kernel
theorem k6009_35 : decode (qc 6009) 35 = .ok (.ishr, 1) := by decide +kernel
theorem k6009_36 : decode (qc 6009) 36 = .ok (.iconst 1, 1) := by decide +kernel
theorem k6009_37 : decode (qc 6009) 37 = .ok (.iand, 1) := by decide +kernel
theorem k6009_38 : decode (qc 6009) 38 = .ok (.iconst 1, 1) := by decide +kernel
theorem k6009_39 : decode (qc 6009) 39 = .ok (.if_icmp .ne 7, 3) := by decide +kernel
theorem k6009_42 : decode (qc 6009) 42 = .ok (.iconst 1, 1) := by decide +kernel
theorem k6009_43 : decode (qc 6009) 43 = .ok (.goto 4, 3) := by decide +kernel
theorem k6009_46 : decode (qc 6009) 46 = .ok (.iconst 0, 1) := by decide +kernel
theorem k6009_47 : decode (qc 6009) 47 = .ok (.istore_n 3, 1) := by decide +kernel
theorem k6009_48 : decode (qc 6009) 48 = .ok (.iload_n 3, 1) := by decide +kernel
theorem k6009_49 : decode (qc 6009) 49 = .ok (.ifCond .eq 82, 3) := by decide +kernel
theorem k6009_52 : decode (qc 6009) 52 = .ok (.aload_n 0, 1) := by decide +kernel
theorem k6009_53 : decode (qc 6009) 53 = .ok (.getfield 57, 3) := by decide +kernel
theorem k6009_56 : decode (qc 6009) 56 = .ok (.iload_n 1, 1) := by decide +kernel
theorem k6009_57 : decode (qc 6009) 57 = .ok (.ishr, 1) := by decide +kernel
theorem k6009_58 : decode (qc 6009) 58 = .ok (.iconst 1, 1) := by decide +kernel
theorem k6009_59 : decode (qc 6009) 59 = .ok (.iand, 1) := by decide +kernel
theorem k6009_60 : decode (qc 6009) 60 = .ok (.ifCond .ne 71, 3) := by decide +kernel
theorem k6009_63 : decode (qc 6009) 63 = .ok (.iconst 1, 1) := by decide +kernel
theorem k6009_64 : decode (qc 6009) 64 = .ok (.istore 4, 2) := by decide +kernel
theorem k6009_66 : decode (qc 6009) 66 = .ok (.iload 4, 2) := by decide +kernel
theorem k6009_68 : decode (qc 6009) 68 = .ok (.aload_n 0, 1) := by decide +kernel
theorem k6009_69 : decode (qc 6009) 69 = .ok (.getfield 104, 3) := by decide +kernel
theorem k6009_72 : decode (qc 6009) 72 = .ok (.if_icmp .gt 59, 3) := by decide +kernel
theorem k6009_75 : decode (qc 6009) 75 = .ok (.iload 4, 2) := by decide +kernel
theorem k6009_77 : decode (qc 6009) 77 = .ok (.invokestatic 118, 3) := by decide +kernel
theorem k6009_80 : decode (qc 6009) 80 = .ok (.aload_n 0, 1) := by decide +kernel
theorem k6009_81 : decode (qc 6009) 81 = .ok (.getfield 24, 3) := by decide +kernel
theorem k6009_84 : decode (qc 6009) 84 = .ok (.getfield 115, 3) := by decide +kernel
theorem k6009_87 : decode (qc 6009) 87 = .ok (.iload_n 1, 1) := by decide +kernel
theorem k6009_88 : decode (qc 6009) 88 = .ok (.aaload, 1) := by decide +kernel
theorem k6009_89 : decode (qc 6009) 89 = .ok (.iconst 1, 1) := by decide +kernel
theorem k6009_90 : decode (qc 6009) 90 = .ok (.iaload, 1) := by decide +kernel
theorem k6009_91 : decode (qc 6009) 91 = .ok (.if_icmp .ne 7, 3) := by decide +kernel
theorem k6009_94 : decode (qc 6009) 94 = .ok (.iconst 1, 1) := by decide +kernel
theorem k6009_95 : decode (qc 6009) 95 = .ok (.goto 4, 3) := by decide +kernel
theorem k6009_98 : decode (qc 6009) 98 = .ok (.iconst 0, 1) := by decide +kernel
theorem k6009_99 : decode (qc 6009) 99 = .ok (.istore 5, 2) := by decide +kernel
theorem k6009_101 : decode (qc 6009) 101 = .ok (.iload 5, 2) := by decide +kernel
theorem k6009_103 : decode (qc 6009) 103 = .ok (.ifCond .eq 22, 3) := by decide +kernel
theorem k6009_106 : decode (qc 6009) 106 = .ok (.iload 4, 2) := by decide +kernel
theorem k6009_108 : decode (qc 6009) 108 = .ok (.aload_n 0, 1) := by decide +kernel
theorem k6009_109 : decode (qc 6009) 109 = .ok (.getfield 104, 3) := by decide +kernel
theorem k6009_112 : decode (qc 6009) 112 = .ok (.iconst (-1), 1) := by decide +kernel
theorem k6009_113 : decode (qc 6009) 113 = .ok (.ixor, 1) := by decide +kernel
theorem k6009_114 : decode (qc 6009) 114 = .ok (.iand, 1) := by decide +kernel
theorem k6009_115 : decode (qc 6009) 115 = .ok (.ifCond .ne 10, 3) := by decide +kernel
theorem k6009_118 : decode (qc 6009) 118 = .ok (.aload_n 0, 1) := by decide +kernel
theorem k6009_119 : decode (qc 6009) 119 = .ok (.iload_n 1, 1) := by decide +kernel
theorem k6009_120 : decode (qc 6009) 120 = .ok (.iload 4, 2) := by decide +kernel
theorem k6009_122 : decode (qc 6009) 122 = .ok (.invokevirtual 123, 3) := by decide +kernel
theorem k6009_125 : decode (qc 6009) 125 = .ok (.iinc 4 1, 3) := by decide +kernel
theorem k6009_128 : decode (qc 6009) 128 = .ok (.goto (-62), 3) := by decide +kernel
theorem k6009_131 : decode (qc 6009) 131 = .ok (.iinc 1 1, 3) := by decide +kernel
theorem k6009_134 : decode (qc 6009) 134 = .ok (.goto (-132), 3) := by decide +kernel
theorem k6009_137 : decode (qc 6009) 137 = .ok (.return_, 1) := by decide +kernel
theorem k6010_0 : decode (qc 6010) 0 = .ok (.aload_n 0, 1) := by decide +kernel
theorem k6010_1 : decode (qc 6010) 1 = .ok (.getfield 24, 3) := by decide +kernel
theorem k6010_4 : decode (qc 6010) 4 = .ok (.getfield 115, 3) := by decide +kernel
theorem k6010_7 : decode (qc 6010) 7 = .ok (.iload_n 1, 1) := by decide +kernel
theorem k6010_8 : decode (qc 6010) 8 = .ok (.aaload, 1) := by decide +kernel
theorem k6010_9 : decode (qc 6010) 9 = .ok (.iconst 2, 1) := by decide +kernel
theorem k6010_10 : decode (qc 6010) 10 = .ok (.iaload, 1) := by decide +kernel
theorem k6010_11 : decode (qc 6010) 11 = .ok (.istore_n 3, 1) := by decide +kernel
theorem k6010_12 : decode (qc 6010) 12 = .ok (.iconst 0, 1) := by decide +kernel
theorem k6010_13 : decode (qc 6010) 13 = .ok (.istore 4, 2) := by decide +kernel
theorem k6010_15 : decode (qc 6010) 15 = .ok (.aload_n 0, 1) := by decide +kernel
theorem k6010_16 : decode (qc 6010) 16 = .ok (.getfield 24, 3) := by decide +kernel
theorem k6010_19 : decode (qc 6010) 19 = .ok (.getfield 78, 3) := by decide +kernel
theorem k6010_22 : decode (qc 6010) 22 = .ok (.iconst 1, 1) := by decide +kernel
theorem k6010_23 : decode (qc 6010) 23 = .ok (.isub, 1) := by decide +kernel
theorem k6010_24 : decode (qc 6010) 24 = .ok (.istore 5, 2) := by decide +kernel
theorem k6010_26 : decode (qc 6010) 26 = .ok (.iload 5, 2) := by decide +kernel
theorem k6010_28 : decode (qc 6010) 28 = .ok (.ifCond .lt 85, 3) := by decide +kernel
theorem k6010_31 : decode (qc 6010) 31 = .ok (.iload_n 2, 1) := by decide +kernel
theorem k6010_32 : decode (qc 6010) 32 = .ok (.iload 5, 2) := by decide +kernel
theorem k6010_34 : decode (qc 6010) 34 = .ok (.ishr, 1) := by decide +kernel
theorem k6010_35 : decode (qc 6010) 35 = .ok (.iconst 1, 1) := by decide +kernel
theorem k6010_36 : decode (qc 6010) 36 = .ok (.iand, 1) := by decide +kernel
theorem k6010_37 : decode (qc 6010) 37 = .ok (.iconst 1, 1) := by decide +kernel
theorem k6010_38 : decode (qc 6010) 38 = .ok (.if_icmp .ne 7, 3) := by decide +kernel
theorem k6010_41 : decode (qc 6010) 41 = .ok (.iconst 1, 1) := by decide +kernel
theorem k6010_42 : decode (qc 6010) 42 = .ok (.goto 4, 3) := by decide +kernel
theorem k6010_45 : decode (qc 6010) 45 = .ok (.iconst 0, 1) := by decide +kernel
theorem k6010_46 : decode (qc 6010) 46 = .ok (.istore 6, 2) := by decide +kernel
theorem k6010_48 : decode (qc 6010) 48 = .ok (.iload 6, 2) := by decide +kernel
theorem k6010_50 : decode (qc 6010) 50 = .ok (.ifCond .eq 17, 3) := by decide +kernel
theorem k6010_53 : decode (qc 6010) 53 = .ok (.aload_n 0, 1) := by decide +kernel
theorem k6010_54 : decode (qc 6010) 54 = .ok (.getfield 24, 3) := by decide +kernel
theorem k6010_57 : decode (qc 6010) 57 = .ok (.getfield 115, 3) := by decide +kernel
theorem k6010_60 : decode (qc 6010) 60 = .ok (.iload_n 1, 1) := by decide +kernel
theorem k6010_61 : decode (qc 6010) 61 = .ok (.aaload, 1) := by decide +kernel
theorem k6010_62 : decode (qc 6010) 62 = .ok (.iconst 0, 1) := by decide +kernel
theorem k6010_63 : decode (qc 6010) 63 = .ok (.iaload, 1) := by decide +kernel
theorem k6010_64 : decode (qc 6010) 64 = .ok (.goto 10, 3) := by decide +kernel
theorem k6010_67 : decode (qc 6010) 67 = .ok (.aload_n 0, 1) := by decide +kernel
theorem k6010_68 : decode (qc 6010) 68 = .ok (.getfield 16, 3) := by decide +kernel
theorem k6010_71 : decode (qc 6010) 71 = .ok (.iload 5, 2) := by decide +kernel
theorem k6010_73 : decode (qc 6010) 73 = .ok (.iaload, 1) := by decide +kernel
theorem k6010_74 : decode (qc 6010) 74 = .ok (.istore 7, 2) := by decide +kernel
theorem k6010_76 : decode (qc 6010) 76 = .ok (.iload_n 3, 1) := by decide +kernel
theorem k6010_77 : decode (qc 6010) 77 = .ok (.iload 7, 2) := by decide +kernel
theorem k6010_79 : decode (qc 6010) 79 = .ok (.aload_n 0, 1) := by decide +kernel
theorem k6010_80 : decode (qc 6010) 80 = .ok (.getfield 16, 3) := by decide +kernel
theorem k6010_83 : decode (qc 6010) 83 = .ok (.iload 5, 2) := by decide +kernel
theorem k6010_85 : decode (qc 6010) 85 = .ok (.iaload, 1) := by decide +kernel
theorem k6010_86 : decode (qc 6010) 86 = .ok (.isub, 1) := by decide +kernel
theorem k6010_87 : decode (qc 6010) 87 = .ok (.invokestatic 111, 3) := by decide +kernel
theorem k6010_90 : decode (qc 6010) 90 = .ok (.iadd, 1) := by decide +kernel
theorem k6010_91 : decode (qc 6010) 91 = .ok (.istore_n 3, 1) := by decide +kernel
theorem k6010_92 : decode (qc 6010) 92 = .ok (.iload 4, 2) := by decide +kernel
theorem k6010_94 : decode (qc 6010) 94 = .ok (.aload_n 0, 1) := by decide +kernel
theorem k6010_95 : decode (qc 6010) 95 = .ok (.getfield 24, 3) := by decide +kernel
theorem k6010_98 : decode (qc 6010) 98 = .ok (.getfield 81, 3) := by decide +kernel
theorem k6010_101 : decode (qc 6010) 101 = .ok (.imul, 1) := by decide +kernel
theorem k6010_102 : decode (qc 6010) 102 = .ok (.iload 7, 2) := by decide +kernel
theorem k6010_104 : decode (qc 6010) 104 = .ok (.iadd, 1) := by decide +kernel
theorem k6010_105 : decode (qc 6010) 105 = .ok (.istore 4, 2) := by decide +kernel
theorem k6010_107 : decode (qc 6010) 107 = .ok (.iinc 5 (-1), 3) := by decide +kernel
theorem k6010_110 : decode (qc 6010) 110 = .ok (.goto (-84), 3) := by decide +kernel
theorem k6010_113 : decode (qc 6010) 113 = .ok (.aload_n 0, 1) := by decide +kernel
theorem k6010_114 : decode (qc 6010) 114 = .ok (.getfield 35, 3) := by decide +kernel
theorem k6010_117 : decode (qc 6010) 117 = .ok (.ifCond .eq 14, 3) := by decide +kernel
theorem k6010_120 : decode (qc 6010) 120 = .ok (.aload_n 0, 1) := by decide +kernel
theorem k6010_121 : decode (qc 6010) 121 = .ok (.getfield 104, 3) := by decide +kernel
theorem k6010_124 : decode (qc 6010) 124 = .ok (.iload_n 2, 1) := by decide +kernel
theorem k6010_125 : decode (qc 6010) 125 = .ok (.iconst (-1), 1) := by decide +kernel
theorem k6010_126 : decode (qc 6010) 126 = .ok (.ixor, 1) := by decide +kernel
theorem k6010_127 : decode (qc 6010) 127 = .ok (.iand, 1) := by decide +kernel
theorem k6010_128 : decode (qc 6010) 128 = .ok (.goto 7, 3) := by decide +kernel
theorem k6010_131 : decode (qc 6010) 131 = .ok (.aload_n 0, 1) := by decide +kernel
theorem k6010_132 : decode (qc 6010) 132 = .ok (.getfield 104, 3) := by decide +kernel
theorem k6010_135 : decode (qc 6010) 135 = .ok (.istore 5, 2) := by decide +kernel
theorem k6010_137 : decode (qc 6010) 137 = .ok (.aload_n 0, 1) := by decide +kernel
theorem k6010_138 : decode (qc 6010) 138 = .ok (.aload_n 0, 1) := by decide +kernel
theorem k6010_139 : decode (qc 6010) 139 = .ok (.getfield 57, 3) := by decide +kernel
theorem k6010_142 : decode (qc 6010) 142 = .ok (.iconst 1, 1) := by decide +kernel
theorem k6010_143 : decode (qc 6010) 143 = .ok (.iload_n 1, 1) := by decide +kernel
theorem k6010_144 : decode (qc 6010) 144 = .ok (.ishl, 1) := by decide +kernel
theorem k6010_145 : decode (qc 6010) 145 = .ok (.ior, 1) := by decide +kernel
theorem k6010_146 : decode (qc 6010) 146 = .ok (.iload 5, 2) := by decide +kernel
theorem k6010_148 : decode (qc 6010) 148 = .ok (.aload_n 0, 1) := by decide +kernel
theorem k6010_149 : decode (qc 6010) 149 = .ok (.getfield 101, 3) := by decide +kernel
theorem k6010_152 : decode (qc 6010) 152 = .ok (.iload 4, 2) := by decide +kernel
theorem k6010_154 : decode (qc 6010) 154 = .ok (.aload_n 0, 1) := by decide +kernel
theorem k6010_155 : decode (qc 6010) 155 = .ok (.getfield 60, 3) := by decide +kernel
theorem k6010_158 : decode (qc 6010) 158 = .ok (.iload_n 3, 1) := by decide +kernel
theorem k6010_159 : decode (qc 6010) 159 = .ok (.aload_n 0, 1) := by decide +kernel
theorem k6010_160 : decode (qc 6010) 160 = .ok (.getfield 39, 3) := by decide +kernel
theorem k6010_163 : decode (qc 6010) 163 = .ok (.imul, 1) := by decide +kernel
theorem k6010_164 : decode (qc 6010) 164 = .ok (.iadd, 1) := by decide +kernel
theorem k6010_165 : decode (qc 6010) 165 = .ok (.invokevirtual 94, 3) := by decide +kernel
theorem k6010_168 : decode (qc 6010) 168 = .ok (.return_, 1) := by decide +kernel
