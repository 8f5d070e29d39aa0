/-! decode rows -/
theorem k11000_0 : decode (qc 11000) 0 = .ok (.aload_n 0, 1) := by decide +kernel
theorem k11000_1 : decode (qc 11000) 1 = .ok (.invokespecial 1, 3) := by decide +kernel
theorem k11000_4 : decode (qc 11000) 4 = .ok (.aload_n 0, 1) := by decide +kernel
theorem k11000_5 : decode (qc 11000) 5 = .ok (.new 7, 3) := by decide +kernel
theorem k11000_8 : decode (qc 11000) 8 = .ok (.dup, 1) := by decide +kernel
theorem k11000_9 : decode (qc 11000) 9 = .ok (.invokespecial 9, 3) := by decide +kernel
theorem k11000_12 : decode (qc 11000) 12 = .ok (.putfield 10, 3) := by decide +kernel
theorem k11000_15 : decode (qc 11000) 15 = .ok (.aload_n 0, 1) := by decide +kernel
theorem k11000_16 : decode (qc 11000) 16 = .ok (.new 16, 3) := by decide +kernel
theorem k11000_19 : decode (qc 11000) 19 = .ok (.dup, 1) := by decide +kernel
theorem k11000_20 : decode (qc 11000) 20 = .ok (.aload_n 0, 1) := by decide +kernel
theorem k11000_21 : decode (qc 11000) 21 = .ok (.getfield 10, 3) := by decide +kernel
theorem k11000_24 : decode (qc 11000) 24 = .ok (.invokespecial 18, 3) := by decide +kernel
theorem k11000_27 : decode (qc 11000) 27 = .ok (.putfield 21, 3) := by decide +kernel
theorem k11000_30 : decode (qc 11000) 30 = .ok (.aload_n 0, 1) := by decide +kernel
theorem k11000_31 : decode (qc 11000) 31 = .ok (.new 25, 3) := by decide +kernel
theorem k11000_34 : decode (qc 11000) 34 = .ok (.dup, 1) := by decide +kernel
theorem k11000_35 : decode (qc 11000) 35 = .ok (.aload_n 0, 1) := by decide +kernel
theorem k11000_36 : decode (qc 11000) 36 = .ok (.getfield 10, 3) := by decide +kernel
theorem k11000_39 : decode (qc 11000) 39 = .ok (.invokespecial 27, 3) := by decide +kernel
theorem k11000_42 : decode (qc 11000) 42 = .ok (.putfield 28, 3) := by decide +kernel
theorem k11000_45 : decode (qc 11000) 45 = .ok (.aload_n 0, 1) := by decide +kernel
theorem k11000_46 : decode (qc 11000) 46 = .ok (.new 32, 3) := by decide +kernel
theorem k11000_49 : decode (qc 11000) 49 = .ok (.dup, 1) := by decide +kernel
theorem k11000_50 : decode (qc 11000) 50 = .ok (.invokespecial 34, 3) := by decide +kernel
theorem k11000_53 : decode (qc 11000) 53 = .ok (.putfield 35, 3) := by decide +kernel
theorem k11000_56 : decode (qc 11000) 56 = .ok (.aload_n 0, 1) := by decide +kernel
theorem k11000_57 : decode (qc 11000) 57 = .ok (.iconst 4, 1) := by decide +kernel
theorem k11000_58 : decode (qc 11000) 58 = .ok (.anewarray 39, 3) := by decide +kernel
theorem k11000_61 : decode (qc 11000) 61 = .ok (.dup, 1) := by decide +kernel
theorem k11000_62 : decode (qc 11000) 62 = .ok (.iconst 0, 1) := by decide +kernel
theorem k11000_63 : decode (qc 11000) 63 = .ok (.new 39, 3) := by decide +kernel
theorem k11000_66 : decode (qc 11000) 66 = .ok (.dup, 1) := by decide +kernel
theorem k11000_67 : decode (qc 11000) 67 = .ok (.invokespecial 41, 3) := by decide +kernel
theorem k11000_70 : decode (qc 11000) 70 = .ok (.aastore, 1) := by decide +kernel
theorem k11000_71 : decode (qc 11000) 71 = .ok (.dup, 1) := by decide +kernel
theorem k11000_72 : decode (qc 11000) 72 = .ok (.iconst 1, 1) := by decide +kernel
theorem k11000_73 : decode (qc 11000) 73 = .ok (.new 39, 3) := by decide +kernel
theorem k11000_76 : decode (qc 11000) 76 = .ok (.dup, 1) := by decide +kernel
theorem k11000_77 : decode (qc 11000) 77 = .ok (.invokespecial 41, 3) := by decide +kernel
theorem k11000_80 : decode (qc 11000) 80 = .ok (.aastore, 1) := by decide +kernel
theorem k11000_81 : decode (qc 11000) 81 = .ok (.dup, 1) := by decide +kernel
theorem k11000_82 : decode (qc 11000) 82 = .ok (.iconst 2, 1) := by decide +kernel
theorem k11000_83 : decode (qc 11000) 83 = .ok (.new 39, 3) := by decide +kernel
theorem k11000_86 : decode (qc 11000) 86 = .ok (.dup, 1) := by decide +kernel
theorem k11000_87 : decode (qc 11000) 87 = .ok (.invokespecial 41, 3) := by decide +kernel
theorem k11000_90 : decode (qc 11000) 90 = .ok (.aastore, 1) := by decide +kernel
theorem k11000_91 : decode (qc 11000) 91 = .ok (.dup, 1) := by decide +kernel
theorem k11000_92 : decode (qc 11000) 92 = .ok (.iconst 3, 1) := by decide +kernel
theorem k11000_93 : decode (qc 11000) 93 = .ok (.new 39, 3) := by decide +kernel
theorem k11000_96 : decode (qc 11000) 96 = .ok (.dup, 1) := by decide +kernel
theorem k11000_97 : decode (qc 11000) 97 = .ok (.invokespecial 41, 3) := by decide +kernel
theorem k11000_100 : decode (qc 11000) 100 = .ok (.aastore, 1) := by decide +kernel
theorem k11000_101 : decode (qc 11000) 101 = .ok (.putfield 42, 3) := by decide +kernel
theorem k11000_104 : decode (qc 11000) 104 = .ok (.aload_n 0, 1) := by decide +kernel
theorem k11000_105 : decode (qc 11000) 105 = .ok (.iconst (-1), 1) := by decide +kernel
theorem k11000_106 : decode (qc 11000) 106 = .ok (.putfield 46, 3) := by decide +kernel
theorem k11000_109 : decode (qc 11000) 109 = .ok (.aload_n 0, 1) := by decide +kernel
theorem k11000_110 : decode (qc 11000) 110 = .ok (.new 50, 3) := by decide +kernel
theorem k11000_113 : decode (qc 11000) 113 = .ok (.dup, 1) := by decide +kernel
theorem k11000_114 : decode (qc 11000) 114 = .ok (.invokespecial 52, 3) := by decide +kernel
theorem k11000_117 : decode (qc 11000) 117 = .ok (.putfield 53, 3) := by decide +kernel
theorem k11000_120 : decode (qc 11000) 120 = .ok (.aload_n 0, 1) := by decide +kernel
theorem k11000_121 : decode (qc 11000) 121 = .ok (.new 57, 3) := by decide +kernel
theorem k11000_124 : decode (qc 11000) 124 = .ok (.dup, 1) := by decide +kernel
theorem k11000_125 : decode (qc 11000) 125 = .ok (.invokespecial 59, 3) := by decide +kernel
theorem k11000_128 : decode (qc 11000) 128 = .ok (.putfield 60, 3) := by decide +kernel
theorem k11000_131 : decode (qc 11000) 131 = .ok (.aload_n 0, 1) := by decide +kernel
theorem k11000_132 : decode (qc 11000) 132 = .ok (.new 50, 3) := by decide +kernel
theorem k11000_135 : decode (qc 11000) 135 = .ok (.dup, 1) := by decide +kernel
theorem k11000_136 : decode (qc 11000) 136 = .ok (.invokespecial 52, 3) := by decide +kernel
theorem k11000_139 : decode (qc 11000) 139 = .ok (.putfield 64, 3) := by decide +kernel
theorem k11000_142 : decode (qc 11000) 142 = .ok (.aload_n 0, 1) := by decide +kernel
theorem k11000_143 : decode (qc 11000) 143 = .ok (.new 57, 3) := by decide +kernel
theorem k11000_146 : decode (qc 11000) 146 = .ok (.dup, 1) := by decide +kernel
theorem k11000_147 : decode (qc 11000) 147 = .ok (.invokespecial 59, 3) := by decide +kernel
theorem k11000_150 : decode (qc 11000) 150 = .ok (.putfield 67, 3) := by decide +kernel
theorem k11000_153 : decode (qc 11000) 153 = .ok (.aload_n 0, 1) := by decide +kernel
theorem k11000_154 : decode (qc 11000) 154 = .ok (.new 70, 3) := by decide +kernel
theorem k11000_157 : decode (qc 11000) 157 = .ok (.dup, 1) := by decide +kernel
theorem k11000_158 : decode (qc 11000) 158 = .ok (.invokespecial 72, 3) := by decide +kernel
theorem k11000_161 : decode (qc 11000) 161 = .ok (.putfield 73, 3) := by decide +kernel
theorem k11000_164 : decode (qc 11000) 164 = .ok (.aload_n 0, 1) := by decide +kernel
theorem k11000_165 : decode (qc 11000) 165 = .ok (.iconst 5, 1) := by decide +kernel
theorem k11000_166 : decode (qc 11000) 166 = .ok (.newarray .int, 2) := by decide +kernel
theorem k11000_168 : decode (qc 11000) 168 = .ok (.putfield 77, 3) := by decide +kernel
theorem k11000_171 : decode (qc 11000) 171 = .ok (.return_, 1) := by decide +kernel
theorem k11001_0 : decode (qc 11001) 0 = .ok (.iload_n 1, 1) := by decide +kernel
theorem k11001_1 : decode (qc 11001) 1 = .ok (.invokestatic 81, 3) := by decide +kernel
theorem k11001_4 : decode (qc 11001) 4 = .ok (.iload_n 2, 1) := by decide +kernel
theorem k11001_5 : decode (qc 11001) 5 = .ok (.invokestatic 81, 3) := by decide +kernel
theorem k11001_8 : decode (qc 11001) 8 = .ok (.iadd, 1) := by decide +kernel
theorem k11001_9 : decode (qc 11001) 9 = .ok (.iload_n 3, 1) := by decide +kernel
theorem k11001_10 : decode (qc 11001) 10 = .ok (.invokestatic 81, 3) := by decide +kernel
theorem k11001_13 : decode (qc 11001) 13 = .ok (.iadd, 1) := by decide +kernel
theorem k11001_14 : decode (qc 11001) 14 = .ok (.iload 4, 2) := by decide +kernel
theorem k11001_16 : decode (qc 11001) 16 = .ok (.invokestatic 81, 3) := by decide +kernel
theorem k11001_19 : decode (qc 11001) 19 = .ok (.iadd, 1) := by decide +kernel
theorem k11001_20 : decode (qc 11001) 20 = .ok (.iload 5, 2) := by decide +kernel
theorem k11001_22 : decode (qc 11001) 22 = .ok (.invokestatic 81, 3) := by decide +kernel
theorem k11001_25 : decode (qc 11001) 25 = .ok (.iadd, 1) := by decide +kernel
theorem k11001_26 : decode (qc 11001) 26 = .ok (.istore 6, 2) := by decide +kernel
theorem k11001_28 : decode (qc 11001) 28 = .ok (.aload_n 0, 1) := by decide +kernel
theorem k11001_29 : decode (qc 11001) 29 = .ok (.getfield 10, 3) := by decide +kernel
theorem k11001_32 : decode (qc 11001) 32 = .ok (.getfield 85, 3) := by decide +kernel
theorem k11001_35 : decode (qc 11001) 35 = .ok (.iload 6, 2) := by decide +kernel
theorem k11001_37 : decode (qc 11001) 37 = .ok (.iadd, 1) := by decide +kernel
theorem k11001_38 : decode (qc 11001) 38 = .ok (.sipush 160, 3) := by decide +kernel
theorem k11001_41 : decode (qc 11001) 41 = .ok (.if_icmp .le 5, 3) := by decide +kernel
theorem k11001_44 : decode (qc 11001) 44 = .ok (.iconst (-1), 1) := by decide +kernel
theorem k11001_45 : decode (qc 11001) 45 = .ok (.ireturn, 1) := by decide +kernel
theorem k11001_46 : decode (qc 11001) 46 = .ok (.aload_n 0, 1) := by decide +kernel
theorem k11001_47 : decode (qc 11001) 47 = .ok (.getfield 10, 3) := by decide +kernel
theorem k11001_50 : decode (qc 11001) 50 = .ok (.iload_n 1, 1) := by decide +kernel
theorem k11001_51 : decode (qc 11001) 51 = .ok (.invokevirtual 88, 3) := by decide +kernel
theorem k11001_54 : decode (qc 11001) 54 = .ok (.aload_n 0, 1) := by decide +kernel
theorem k11001_55 : decode (qc 11001) 55 = .ok (.getfield 10, 3) := by decide +kernel
theorem k11001_58 : decode (qc 11001) 58 = .ok (.iload_n 2, 1) := by decide +kernel
theorem k11001_59 : decode (qc 11001) 59 = .ok (.invokevirtual 88, 3) := by decide +kernel
theorem k11001_62 : decode (qc 11001) 62 = .ok (.aload_n 0, 1) := by decide +kernel
theorem k11001_63 : decode (qc 11001) 63 = .ok (.getfield 10, 3) := by decide +kernel
theorem k11001_66 : decode (qc 11001) 66 = .ok (.iload_n 3, 1) := by decide +kernel
theorem k11001_67 : decode (qc 11001) 67 = .ok (.invokevirtual 88, 3) := by decide +kernel
theorem k11001_70 : decode (qc 11001) 70 = .ok (.aload_n 0, 1) := by decide +kernel
theorem k11001_71 : decode (qc 11001) 71 = .ok (.getfield 10, 3) := by decide +kernel
theorem k11001_74 : decode (qc 11001) 74 = .ok (.iload 4, 2) := by decide +kernel
theorem k11001_76 : decode (qc 11001) 76 = .ok (.invokevirtual 88, 3) := by decide +kernel
theorem k11001_79 : decode (qc 11001) 79 = .ok (.aload_n 0, 1) := by decide +kernel
theorem k11001_80 : decode (qc 11001) 80 = .ok (.getfield 10, 3) := by decide +kernel
theorem k11001_83 : decode (qc 11001) 83 = .ok (.iload 5, 2) := by decide +kernel
theorem k11001_85 : decode (qc 11001) 85 = .ok (.invokevirtual 88, 3) := by decide +kernel
theorem k11001_88 : decode (qc 11001) 88 = .ok (.aload_n 0, 1) := by decide +kernel
theorem k11001_89 : decode (qc 11001) 89 = .ok (.getfield 10, 3) := by decide +kernel
theorem k11001_92 : decode (qc 11001) 92 = .ok (.getfield 85, 3) := by decide +kernel
theorem k11001_95 : decode (qc 11001) 95 = .ok (.ireturn, 1) := by decide +kernel
theorem k11002_0 : decode (qc 11002) 0 = .ok (.iload_n 1, 1) := by decide +kernel
theorem k11002_1 : decode (qc 11002) 1 = .ok (.ifCond .lt 14, 3) := by decide +kernel
theorem k11002_4 : decode (qc 11002) 4 = .ok (.iload_n 1, 1) := by decide +kernel
theorem k11002_5 : decode (qc 11002) 5 = .ok (.aload_n 0, 1) := by decide +kernel
theorem k11002_6 : decode (qc 11002) 6 = .ok (.getfield 10, 3) := by decide +kernel
theorem k11002_9 : decode (qc 11002) 9 = .ok (.getfield 85, 3) := by decide +kernel
theorem k11002_12 : decode (qc 11002) 12 = .ok (.if_icmp .le 5, 3) := by decide +kernel
theorem k11002_15 : decode (qc 11002) 15 = .ok (.iconst 0, 1) := by decide +kernel
theorem k11002_16 : decode (qc 11002) 16 = .ok (.ireturn, 1) := by decide +kernel
theorem k11002_17 : decode (qc 11002) 17 = .ok (.aload_n 0, 1) := by decide +kernel
theorem k11002_18 : decode (qc 11002) 18 = .ok (.getfield 10, 3) := by decide +kernel
theorem k11002_21 : decode (qc 11002) 21 = .ok (.iload_n 1, 1) := by decide +kernel
theorem k11002_22 : decode (qc 11002) 22 = .ok (.putfield 85, 3) := by decide +kernel
theorem k11002_25 : decode (qc 11002) 25 = .ok (.iconst 1, 1) := by decide +kernel
theorem k11002_26 : decode (qc 11002) 26 = .ok (.ireturn, 1) := by decide +kernel
theorem k11003_0 : decode (qc 11003) 0 = .ok (.iload_n 1, 1) := by decide +kernel
theorem k11003_1 : decode (qc 11003) 1 = .ok (.ifCond .ne 25, 3) := by decide +kernel
theorem k11003_4 : decode (qc 11003) 4 = .ok (.aload_n 0, 1) := by decide +kernel
theorem k11003_5 : decode (qc 11003) 5 = .ok (.getfield 21, 3) := by decide +kernel
theorem k11003_8 : decode (qc 11003) 8 = .ok (.invokevirtual 92, 3) := by decide +kernel
theorem k11003_11 : decode (qc 11003) 11 = .ok (.ifCond .eq 7, 3) := by decide +kernel
theorem k11003_14 : decode (qc 11003) 14 = .ok (.iconst (-1), 1) := by decide +kernel
theorem k11003_15 : decode (qc 11003) 15 = .ok (.goto 10, 3) := by decide +kernel
theorem k11003_18 : decode (qc 11003) 18 = .ok (.aload_n 0, 1) := by decide +kernel
theorem k11003_19 : decode (qc 11003) 19 = .ok (.getfield 21, 3) := by decide +kernel
theorem k11003_22 : decode (qc 11003) 22 = .ok (.getfield 96, 3) := by decide +kernel
theorem k11003_25 : decode (qc 11003) 25 = .ok (.ireturn, 1) := by decide +kernel
theorem k11003_26 : decode (qc 11003) 26 = .ok (.iload_n 1, 1) := by decide +kernel
theorem k11003_27 : decode (qc 11003) 27 = .ok (.iconst 1, 1) := by decide +kernel
theorem k11003_28 : decode (qc 11003) 28 = .ok (.if_icmp .ne 25, 3) := by decide +kernel
theorem k11003_31 : decode (qc 11003) 31 = .ok (.aload_n 0, 1) := by decide +kernel
theorem k11003_32 : decode (qc 11003) 32 = .ok (.getfield 28, 3) := by decide +kernel
theorem k11003_35 : decode (qc 11003) 35 = .ok (.invokevirtual 99, 3) := by decide +kernel
theorem k11003_38 : decode (qc 11003) 38 = .ok (.ifCond .eq 7, 3) := by decide +kernel
theorem k11003_41 : decode (qc 11003) 41 = .ok (.iconst (-1), 1) := by decide +kernel
theorem k11003_42 : decode (qc 11003) 42 = .ok (.goto 10, 3) := by decide +kernel
theorem k11003_45 : decode (qc 11003) 45 = .ok (.aload_n 0, 1) := by decide +kernel
theorem k11003_46 : decode (qc 11003) 46 = .ok (.getfield 28, 3) := by decide +kernel
theorem k11003_49 : decode (qc 11003) 49 = .ok (.getfield 102, 3) := by decide +kernel
theorem k11003_52 : decode (qc 11003) 52 = .ok (.ireturn, 1) := by decide +kernel
theorem k11003_53 : decode (qc 11003) 53 = .ok (.bipush (-2), 2) := by decide +kernel
theorem k11003_55 : decode (qc 11003) 55 = .ok (.ireturn, 1) := by decide +kernel
theorem k11004_0 : decode (qc 11004) 0 = .ok (.iload_n 1, 1) := by decide +kernel
theorem k11004_1 : decode (qc 11004) 1 = .ok (.ifCond .ne 62, 3) := by decide +kernel
theorem k11004_4 : decode (qc 11004) 4 = .ok (.aload_n 0, 1) := by decide +kernel
theorem k11004_5 : decode (qc 11004) 5 = .ok (.getfield 21, 3) := by decide +kernel
theorem k11004_8 : decode (qc 11004) 8 = .ok (.invokevirtual 92, 3) := by decide +kernel
theorem k11004_11 : decode (qc 11004) 11 = .ok (.ifCond .eq 52, 3) := by decide +kernel
theorem k11004_14 : decode (qc 11004) 14 = .ok (.aload_n 0, 1) := by decide +kernel
theorem k11004_15 : decode (qc 11004) 15 = .ok (.getfield 35, 3) := by decide +kernel
theorem k11004_18 : decode (qc 11004) 18 = .ok (.aload_n 0, 1) := by decide +kernel
theorem k11004_19 : decode (qc 11004) 19 = .ok (.getfield 21, 3) := by decide +kernel
theorem k11004_22 : decode (qc 11004) 22 = .ok (.getfield 103, 3) := by decide +kernel
theorem k11004_25 : decode (qc 11004) 25 = .ok (.invokevirtual 106, 3) := by decide +kernel
theorem k11004_28 : decode (qc 11004) 28 = .ok (.aload_n 0, 1) := by decide +kernel
theorem k11004_29 : decode (qc 11004) 29 = .ok (.getfield 53, 3) := by decide +kernel
theorem k11004_32 : decode (qc 11004) 32 = .ok (.invokevirtual 110, 3) := by decide +kernel
theorem k11004_35 : decode (qc 11004) 35 = .ok (.aload_n 0, 1) := by decide +kernel
theorem k11004_36 : decode (qc 11004) 36 = .ok (.getfield 60, 3) := by decide +kernel
theorem k11004_39 : decode (qc 11004) 39 = .ok (.invokevirtual 113, 3) := by decide +kernel
theorem k11004_42 : decode (qc 11004) 42 = .ok (.aload_n 0, 1) := by decide +kernel
theorem k11004_43 : decode (qc 11004) 43 = .ok (.iconst 0, 1) := by decide +kernel
theorem k11004_44 : decode (qc 11004) 44 = .ok (.putfield 114, 3) := by decide +kernel
theorem k11004_47 : decode (qc 11004) 47 = .ok (.aload_n 0, 1) := by decide +kernel
theorem k11004_48 : decode (qc 11004) 48 = .ok (.getfield 10, 3) := by decide +kernel
theorem k11004_51 : decode (qc 11004) 51 = .ok (.iconst 0, 1) := by decide +kernel
theorem k11004_52 : decode (qc 11004) 52 = .ok (.putfield 85, 3) := by decide +kernel
theorem k11004_55 : decode (qc 11004) 55 = .ok (.aload_n 0, 1) := by decide +kernel
theorem k11004_56 : decode (qc 11004) 56 = .ok (.getfield 35, 3) := by decide +kernel
theorem k11004_59 : decode (qc 11004) 59 = .ok (.getfield 118, 3) := by decide +kernel
theorem k11004_62 : decode (qc 11004) 62 = .ok (.ireturn, 1) := by decide +kernel
theorem k11004_63 : decode (qc 11004) 63 = .ok (.iload_n 1, 1) := by decide +kernel
theorem k11004_64 : decode (qc 11004) 64 = .ok (.iconst 1, 1) := by decide +kernel
theorem k11004_65 : decode (qc 11004) 65 = .ok (.if_icmp .ne 72, 3) := by decide +kernel
theorem k11004_68 : decode (qc 11004) 68 = .ok (.aload_n 0, 1) := by decide +kernel
theorem k11004_69 : decode (qc 11004) 69 = .ok (.getfield 121, 3) := by decide +kernel
theorem k11004_72 : decode (qc 11004) 72 = .ok (.iconst 4, 1) := by decide +kernel
theorem k11004_73 : decode (qc 11004) 73 = .ok (.if_icmp .ge 64, 3) := by decide +kernel
theorem k11004_76 : decode (qc 11004) 76 = .ok (.aload_n 0, 1) := by decide +kernel
theorem k11004_77 : decode (qc 11004) 77 = .ok (.getfield 28, 3) := by decide +kernel
theorem k11004_80 : decode (qc 11004) 80 = .ok (.invokevirtual 99, 3) := by decide +kernel
theorem k11004_83 : decode (qc 11004) 83 = .ok (.ifCond .eq 54, 3) := by decide +kernel
theorem k11004_86 : decode (qc 11004) 86 = .ok (.aload_n 0, 1) := by decide +kernel
theorem k11004_87 : decode (qc 11004) 87 = .ok (.getfield 42, 3) := by decide +kernel
theorem k11004_90 : decode (qc 11004) 90 = .ok (.aload_n 0, 1) := by decide +kernel
theorem k11004_91 : decode (qc 11004) 91 = .ok (.getfield 121, 3) := by decide +kernel
theorem k11004_94 : decode (qc 11004) 94 = .ok (.aaload, 1) := by decide +kernel
theorem k11004_95 : decode (qc 11004) 95 = .ok (.aload_n 0, 1) := by decide +kernel
theorem k11004_96 : decode (qc 11004) 96 = .ok (.getfield 28, 3) := by decide +kernel
theorem k11004_99 : decode (qc 11004) 99 = .ok (.getfield 124, 3) := by decide +kernel
theorem k11004_102 : decode (qc 11004) 102 = .ok (.aload_n 0, 1) := by decide +kernel
theorem k11004_103 : decode (qc 11004) 103 = .ok (.getfield 28, 3) := by decide +kernel
theorem k11004_106 : decode (qc 11004) 106 = .ok (.getfield 127, 3) := by decide +kernel
theorem k11004_109 : decode (qc 11004) 109 = .ok (.invokevirtual 130, 3) := by decide +kernel
theorem k11004_112 : decode (qc 11004) 112 = .ok (.aload_n 0, 1) := by decide +kernel
theorem k11004_113 : decode (qc 11004) 113 = .ok (.getfield 10, 3) := by decide +kernel
theorem k11004_116 : decode (qc 11004) 116 = .ok (.iconst 0, 1) := by decide +kernel
theorem k11004_117 : decode (qc 11004) 117 = .ok (.putfield 85, 3) := by decide +kernel
theorem k11004_120 : decode (qc 11004) 120 = .ok (.aload_n 0, 1) := by decide +kernel
theorem k11004_121 : decode (qc 11004) 121 = .ok (.dup, 1) := by decide +kernel
theorem k11004_122 : decode (qc 11004) 122 = .ok (.getfield 121, 3) := by decide +kernel
theorem k11004_125 : decode (qc 11004) 125 = .ok (.iconst 1, 1) := by decide +kernel
theorem k11004_126 : decode (qc 11004) 126 = .ok (.iadd, 1) := by decide +kernel
theorem k11004_127 : decode (qc 11004) 127 = .ok (.putfield 121, 3) := by decide +kernel
theorem k11004_130 : decode (qc 11004) 130 = .ok (.aload_n 0, 1) := by decide +kernel
theorem k11004_131 : decode (qc 11004) 131 = .ok (.getfield 121, 3) := by decide +kernel
theorem k11004_134 : decode (qc 11004) 134 = .ok (.iconst 1, 1) := by decide +kernel
theorem k11004_135 : decode (qc 11004) 135 = .ok (.isub, 1) := by decide +kernel
theorem k11004_136 : decode (qc 11004) 136 = .ok (.ireturn, 1) := by decide +kernel
theorem k11004_137 : decode (qc 11004) 137 = .ok (.iconst (-1), 1) := by decide +kernel
theorem k11004_138 : decode (qc 11004) 138 = .ok (.ireturn, 1) := by decide +kernel
theorem k11005_0 : decode (qc 11005) 0 = .ok (.aload_n 0, 1) := by decide +kernel
theorem k11005_1 : decode (qc 11005) 1 = .ok (.iload_n 1, 1) := by decide +kernel
theorem k11005_2 : decode (qc 11005) 2 = .ok (.invokevirtual 133, 3) := by decide +kernel
theorem k11005_5 : decode (qc 11005) 5 = .ok (.ifCond .eq 12, 3) := by decide +kernel
theorem k11005_8 : decode (qc 11005) 8 = .ok (.iload_n 2, 1) := by decide +kernel
theorem k11005_9 : decode (qc 11005) 9 = .ok (.ifCond .lt 8, 3) := by decide +kernel
theorem k11005_12 : decode (qc 11005) 12 = .ok (.iload_n 2, 1) := by decide +kernel
theorem k11005_13 : decode (qc 11005) 13 = .ok (.iconst 2, 1) := by decide +kernel
theorem k11005_14 : decode (qc 11005) 14 = .ok (.if_icmp .le 11, 3) := by decide +kernel
theorem k11005_17 : decode (qc 11005) 17 = .ok (.new 137, 3) := by decide +kernel
theorem k11005_20 : decode (qc 11005) 20 = .ok (.dup, 1) := by decide +kernel
theorem k11005_21 : decode (qc 11005) 21 = .ok (.invokespecial 139, 3) := by decide +kernel
theorem k11005_24 : decode (qc 11005) 24 = .ok (.athrow, 1) := by decide +kernel
theorem k11005_25 : decode (qc 11005) 25 = .ok (.aload_n 0, 1) := by decide +kernel
theorem k11005_26 : decode (qc 11005) 26 = .ok (.getfield 35, 3) := by decide +kernel
theorem k11005_29 : decode (qc 11005) 29 = .ok (.getfield 140, 3) := by decide +kernel
theorem k11005_32 : decode (qc 11005) 32 = .ok (.iload_n 1, 1) := by decide +kernel
theorem k11005_33 : decode (qc 11005) 33 = .ok (.aaload, 1) := by decide +kernel
theorem k11005_34 : decode (qc 11005) 34 = .ok (.iload_n 2, 1) := by decide +kernel
theorem k11005_35 : decode (qc 11005) 35 = .ok (.iaload, 1) := by decide +kernel
theorem k11005_36 : decode (qc 11005) 36 = .ok (.ireturn, 1) := by decide +kernel
theorem k11006_0 : decode (qc 11006) 0 = .ok (.aload_n 0, 1) := by decide +kernel
theorem k11006_1 : decode (qc 11006) 1 = .ok (.iload_n 1, 1) := by decide +kernel
theorem k11006_2 : decode (qc 11006) 2 = .ok (.invokevirtual 144, 3) := by decide +kernel
theorem k11006_5 : decode (qc 11006) 5 = .ok (.ifCond .eq 17, 3) := by decide +kernel
theorem k11006_8 : decode (qc 11006) 8 = .ok (.aload_n 0, 1) := by decide +kernel
theorem k11006_9 : decode (qc 11006) 9 = .ok (.getfield 35, 3) := by decide +kernel
theorem k11006_12 : decode (qc 11006) 12 = .ok (.getfield 147, 3) := by decide +kernel
theorem k11006_15 : decode (qc 11006) 15 = .ok (.iload_n 1, 1) := by decide +kernel
theorem k11006_16 : decode (qc 11006) 16 = .ok (.aaload, 1) := by decide +kernel
theorem k11006_17 : decode (qc 11006) 17 = .ok (.iconst 0, 1) := by decide +kernel
theorem k11006_18 : decode (qc 11006) 18 = .ok (.iaload, 1) := by decide +kernel
theorem k11006_19 : decode (qc 11006) 19 = .ok (.goto 4, 3) := by decide +kernel
theorem k11006_22 : decode (qc 11006) 22 = .ok (.iconst (-1), 1) := by decide +kernel
theorem k11006_23 : decode (qc 11006) 23 = .ok (.ireturn, 1) := by decide +kernel
theorem k11007_0 : decode (qc 11007) 0 = .ok (.iload_n 1, 1) := by decide +kernel
theorem k11007_1 : decode (qc 11007) 1 = .ok (.ifCond .lt 23, 3) := by decide +kernel
theorem k11007_4 : decode (qc 11007) 4 = .ok (.iload_n 1, 1) := by decide +kernel
theorem k11007_5 : decode (qc 11007) 5 = .ok (.aload_n 0, 1) := by decide +kernel
theorem k11007_6 : decode (qc 11007) 6 = .ok (.getfield 35, 3) := by decide +kernel
theorem k11007_9 : decode (qc 11007) 9 = .ok (.getfield 150, 3) := by decide +kernel
theorem k11007_12 : decode (qc 11007) 12 = .ok (.if_icmp .ge 12, 3) := by decide +kernel
theorem k11007_15 : decode (qc 11007) 15 = .ok (.iload_n 2, 1) := by decide +kernel
theorem k11007_16 : decode (qc 11007) 16 = .ok (.ifCond .lt 8, 3) := by decide +kernel
theorem k11007_19 : decode (qc 11007) 19 = .ok (.iload_n 2, 1) := by decide +kernel
theorem k11007_20 : decode (qc 11007) 20 = .ok (.iconst 3, 1) := by decide +kernel
theorem k11007_21 : decode (qc 11007) 21 = .ok (.if_icmp .le 6, 3) := by decide +kernel
theorem k11007_24 : decode (qc 11007) 24 = .ok (.ldc 153, 2) := by decide +kernel
theorem k11007_26 : decode (qc 11007) 26 = .ok (.ireturn, 1) := by decide +kernel
theorem k11007_27 : decode (qc 11007) 27 = .ok (.aload_n 0, 1) := by decide +kernel
theorem k11007_28 : decode (qc 11007) 28 = .ok (.getfield 35, 3) := by decide +kernel
theorem k11007_31 : decode (qc 11007) 31 = .ok (.getfield 154, 3) := by decide +kernel
theorem k11007_34 : decode (qc 11007) 34 = .ok (.iload_n 1, 1) := by decide +kernel
theorem k11007_35 : decode (qc 11007) 35 = .ok (.aaload, 1) := by decide +kernel
theorem k11007_36 : decode (qc 11007) 36 = .ok (.iload_n 2, 1) := by decide +kernel
theorem k11007_37 : decode (qc 11007) 37 = .ok (.iaload, 1) := by decide +kernel
theorem k11007_38 : decode (qc 11007) 38 = .ok (.ireturn, 1) := by decide +kernel
theorem k11008_0 : decode (qc 11008) 0 = .ok (.iload_n 1, 1) := by decide +kernel
theorem k11008_1 : decode (qc 11008) 1 = .ok (.ifCond .ne 31, 3) := by decide +kernel
theorem k11008_4 : decode (qc 11008) 4 = .ok (.iload_n 2, 1) := by decide +kernel
theorem k11008_5 : decode (qc 11008) 5 = .ok (.iconst (-1), 1) := by decide +kernel
theorem k11008_6 : decode (qc 11008) 6 = .ok (.if_icmp .lt 26, 3) := by decide +kernel
theorem k11008_9 : decode (qc 11008) 9 = .ok (.iload_n 2, 1) := by decide +kernel
theorem k11008_10 : decode (qc 11008) 10 = .ok (.aload_n 0, 1) := by decide +kernel
theorem k11008_11 : decode (qc 11008) 11 = .ok (.getfield 121, 3) := by decide +kernel
theorem k11008_14 : decode (qc 11008) 14 = .ok (.if_icmp .ge 18, 3) := by decide +kernel
theorem k11008_17 : decode (qc 11008) 17 = .ok (.aload_n 0, 1) := by decide +kernel
theorem k11008_18 : decode (qc 11008) 18 = .ok (.iload_n 2, 1) := by decide +kernel
theorem k11008_19 : decode (qc 11008) 19 = .ok (.putfield 46, 3) := by decide +kernel
theorem k11008_22 : decode (qc 11008) 22 = .ok (.aload_n 0, 1) := by decide +kernel
theorem k11008_23 : decode (qc 11008) 23 = .ok (.getfield 53, 3) := by decide +kernel
theorem k11008_26 : decode (qc 11008) 26 = .ok (.iconst 0, 1) := by decide +kernel
theorem k11008_27 : decode (qc 11008) 27 = .ok (.putfield 157, 3) := by decide +kernel
theorem k11008_30 : decode (qc 11008) 30 = .ok (.iconst 1, 1) := by decide +kernel
theorem k11008_31 : decode (qc 11008) 31 = .ok (.ireturn, 1) := by decide +kernel
theorem k11008_32 : decode (qc 11008) 32 = .ok (.iload_n 1, 1) := by decide +kernel
theorem k11008_33 : decode (qc 11008) 33 = .ok (.iconst 1, 1) := by decide +kernel
theorem k11008_34 : decode (qc 11008) 34 = .ok (.if_icmp .ne 21, 3) := by decide +kernel
theorem k11008_37 : decode (qc 11008) 37 = .ok (.iload_n 2, 1) := by decide +kernel
theorem k11008_38 : decode (qc 11008) 38 = .ok (.ifCond .lt 17, 3) := by decide +kernel
theorem k11008_41 : decode (qc 11008) 41 = .ok (.iload_n 2, 1) := by decide +kernel
theorem k11008_42 : decode (qc 11008) 42 = .ok (.sipush 999, 3) := by decide +kernel
theorem k11008_45 : decode (qc 11008) 45 = .ok (.if_icmp .gt 10, 3) := by decide +kernel
theorem k11008_48 : decode (qc 11008) 48 = .ok (.aload_n 0, 1) := by decide +kernel
theorem k11008_49 : decode (qc 11008) 49 = .ok (.iload_n 2, 1) := by decide +kernel
theorem k11008_50 : decode (qc 11008) 50 = .ok (.putfield 160, 3) := by decide +kernel
theorem k11008_53 : decode (qc 11008) 53 = .ok (.iconst 1, 1) := by decide +kernel
theorem k11008_54 : decode (qc 11008) 54 = .ok (.ireturn, 1) := by decide +kernel
theorem k11008_55 : decode (qc 11008) 55 = .ok (.iload_n 1, 1) := by decide +kernel
theorem k11008_56 : decode (qc 11008) 56 = .ok (.iconst 2, 1) := by decide +kernel
theorem k11008_57 : decode (qc 11008) 57 = .ok (.if_icmp .ne 19, 3) := by decide +kernel
theorem k11008_60 : decode (qc 11008) 60 = .ok (.iload_n 2, 1) := by decide +kernel
theorem k11008_61 : decode (qc 11008) 61 = .ok (.ifCond .lt 15, 3) := by decide +kernel
theorem k11008_64 : decode (qc 11008) 64 = .ok (.iload_n 2, 1) := by decide +kernel
theorem k11008_65 : decode (qc 11008) 65 = .ok (.iconst 1, 1) := by decide +kernel
theorem k11008_66 : decode (qc 11008) 66 = .ok (.if_icmp .gt 10, 3) := by decide +kernel
theorem k11008_69 : decode (qc 11008) 69 = .ok (.aload_n 0, 1) := by decide +kernel
theorem k11008_70 : decode (qc 11008) 70 = .ok (.iload_n 2, 1) := by decide +kernel
theorem k11008_71 : decode (qc 11008) 71 = .ok (.putfield 163, 3) := by decide +kernel
theorem k11008_74 : decode (qc 11008) 74 = .ok (.iconst 1, 1) := by decide +kernel
theorem k11008_75 : decode (qc 11008) 75 = .ok (.ireturn, 1) := by decide +kernel
theorem k11008_76 : decode (qc 11008) 76 = .ok (.iconst 0, 1) := by decide +kernel
theorem k11008_77 : decode (qc 11008) 77 = .ok (.ireturn, 1) := by decide +kernel
theorem k11009_0 : decode (qc 11009) 0 = .ok (.aload_n 0, 1) := by decide +kernel
theorem k11009_1 : decode (qc 11009) 1 = .ok (.iload_n 1, 1) := by decide +kernel
theorem k11009_2 : decode (qc 11009) 2 = .ok (.invokevirtual 144, 3) := by decide +kernel
theorem k11009_5 : decode (qc 11009) 5 = .ok (.ifCond .ne 16, 3) := by decide +kernel
theorem k11009_8 : decode (qc 11009) 8 = .ok (.aload_n 0, 1) := by decide +kernel
theorem k11009_9 : decode (qc 11009) 9 = .ok (.iload_n 1, 1) := by decide +kernel
theorem k11009_10 : decode (qc 11009) 10 = .ok (.bipush 10, 2) := by decide +kernel
theorem k11009_12 : decode (qc 11009) 12 = .ok (.isub, 1) := by decide +kernel
theorem k11009_13 : decode (qc 11009) 13 = .ok (.invokevirtual 133, 3) := by decide +kernel
theorem k11009_16 : decode (qc 11009) 16 = .ok (.ifCond .ne 5, 3) := by decide +kernel
theorem k11009_19 : decode (qc 11009) 19 = .ok (.iconst (-1), 1) := by decide +kernel
theorem k11009_20 : decode (qc 11009) 20 = .ok (.ireturn, 1) := by decide +kernel
theorem k11009_21 : decode (qc 11009) 21 = .ok (.aload_n 0, 1) := by decide +kernel
theorem k11009_22 : decode (qc 11009) 22 = .ok (.iload_n 2, 1) := by decide +kernel
theorem k11009_23 : decode (qc 11009) 23 = .ok (.invokevirtual 133, 3) := by decide +kernel
theorem k11009_26 : decode (qc 11009) 26 = .ok (.ifCond .eq 11, 3) := by decide +kernel
theorem k11009_29 : decode (qc 11009) 29 = .ok (.iload_n 1, 1) := by decide +kernel
theorem k11009_30 : decode (qc 11009) 30 = .ok (.bipush 10, 2) := by decide +kernel
theorem k11009_32 : decode (qc 11009) 32 = .ok (.iload_n 2, 1) := by decide +kernel
theorem k11009_33 : decode (qc 11009) 33 = .ok (.iadd, 1) := by decide +kernel
theorem k11009_34 : decode (qc 11009) 34 = .ok (.if_icmp .ne 5, 3) := by decide +kernel
theorem k11009_37 : decode (qc 11009) 37 = .ok (.iconst (-1), 1) := by decide +kernel
theorem k11009_38 : decode (qc 11009) 38 = .ok (.ireturn, 1) := by decide +kernel
theorem k11009_39 : decode (qc 11009) 39 = .ok (.iload_n 3, 1) := by decide +kernel
theorem k11009_40 : decode (qc 11009) 40 = .ok (.iconst 0, 1) := by decide +kernel
theorem k11009_41 : decode (qc 11009) 41 = .ok (.aload_n 0, 1) := by decide +kernel
theorem k11009_42 : decode (qc 11009) 42 = .ok (.getfield 53, 3) := by decide +kernel
theorem k11009_45 : decode (qc 11009) 45 = .ok (.invokevirtual 166, 3) := by decide +kernel
theorem k11009_48 : decode (qc 11009) 48 = .ok (.invokestatic 170, 3) := by decide +kernel
theorem k11009_51 : decode (qc 11009) 51 = .ok (.if_icmp .lt 10, 3) := by decide +kernel
theorem k11009_54 : decode (qc 11009) 54 = .ok (.iload_n 3, 1) := by decide +kernel
theorem k11009_55 : decode (qc 11009) 55 = .ok (.sipush 999, 3) := by decide +kernel
theorem k11009_58 : decode (qc 11009) 58 = .ok (.if_icmp .le 5, 3) := by decide +kernel
theorem k11009_61 : decode (qc 11009) 61 = .ok (.iconst (-1), 1) := by decide +kernel
theorem k11009_62 : decode (qc 11009) 62 = .ok (.ireturn, 1) := by decide +kernel
theorem k11009_63 : decode (qc 11009) 63 = .ok (.aload_n 0, 1) := by decide +kernel
theorem k11009_64 : decode (qc 11009) 64 = .ok (.getfield 53, 3) := by decide +kernel
theorem k11009_67 : decode (qc 11009) 67 = .ok (.getfield 176, 3) := by decide +kernel
theorem k11009_70 : decode (qc 11009) 70 = .ok (.bipush 40, 2) := by decide +kernel
theorem k11009_72 : decode (qc 11009) 72 = .ok (.if_icmp .lt 5, 3) := by decide +kernel
theorem k11009_75 : decode (qc 11009) 75 = .ok (.iconst (-1), 1) := by decide +kernel
theorem k11009_76 : decode (qc 11009) 76 = .ok (.ireturn, 1) := by decide +kernel
theorem k11009_77 : decode (qc 11009) 77 = .ok (.aload_n 0, 1) := by decide +kernel
theorem k11009_78 : decode (qc 11009) 78 = .ok (.getfield 53, 3) := by decide +kernel
theorem k11009_81 : decode (qc 11009) 81 = .ok (.iload_n 1, 1) := by decide +kernel
theorem k11009_82 : decode (qc 11009) 82 = .ok (.iload_n 2, 1) := by decide +kernel
theorem k11009_83 : decode (qc 11009) 83 = .ok (.iload_n 3, 1) := by decide +kernel
theorem k11009_84 : decode (qc 11009) 84 = .ok (.invokevirtual 177, 3) := by decide +kernel
theorem k11009_87 : decode (qc 11009) 87 = .ok (.aload_n 0, 1) := by decide +kernel
theorem k11009_88 : decode (qc 11009) 88 = .ok (.getfield 53, 3) := by decide +kernel
theorem k11009_91 : decode (qc 11009) 91 = .ok (.getfield 176, 3) := by decide +kernel
theorem k11009_94 : decode (qc 11009) 94 = .ok (.ireturn, 1) := by decide +kernel
theorem k11010_0 : decode (qc 11010) 0 = .ok (.iload_n 1, 1) := by decide +kernel
theorem k11010_1 : decode (qc 11010) 1 = .ok (.ifCond .lt 14, 3) := by decide +kernel
theorem k11010_4 : decode (qc 11010) 4 = .ok (.iload_n 1, 1) := by decide +kernel
theorem k11010_5 : decode (qc 11010) 5 = .ok (.aload_n 0, 1) := by decide +kernel
theorem k11010_6 : decode (qc 11010) 6 = .ok (.getfield 53, 3) := by decide +kernel
theorem k11010_9 : decode (qc 11010) 9 = .ok (.getfield 176, 3) := by decide +kernel
theorem k11010_12 : decode (qc 11010) 12 = .ok (.if_icmp .lt 5, 3) := by decide +kernel
theorem k11010_15 : decode (qc 11010) 15 = .ok (.iconst (-1), 1) := by decide +kernel
theorem k11010_16 : decode (qc 11010) 16 = .ok (.ireturn, 1) := by decide +kernel
theorem k11010_17 : decode (qc 11010) 17 = .ok (.aload_n 0, 1) := by decide +kernel
theorem k11010_18 : decode (qc 11010) 18 = .ok (.getfield 53, 3) := by decide +kernel
theorem k11010_21 : decode (qc 11010) 21 = .ok (.aload_n 0, 1) := by decide +kernel
theorem k11010_22 : decode (qc 11010) 22 = .ok (.getfield 35, 3) := by decide +kernel
theorem k11010_25 : decode (qc 11010) 25 = .ok (.aload_n 0, 1) := by decide +kernel
theorem k11010_26 : decode (qc 11010) 26 = .ok (.invokevirtual 181, 3) := by decide +kernel
theorem k11010_29 : decode (qc 11010) 29 = .ok (.invokevirtual 185, 3) := by decide +kernel
theorem k11010_32 : decode (qc 11010) 32 = .ok (.aload_n 0, 1) := by decide +kernel
theorem k11010_33 : decode (qc 11010) 33 = .ok (.getfield 53, 3) := by decide +kernel
theorem k11010_36 : decode (qc 11010) 36 = .ok (.getfield 189, 3) := by decide +kernel
theorem k11010_39 : decode (qc 11010) 39 = .ok (.iload_n 1, 1) := by decide +kernel
theorem k11010_40 : decode (qc 11010) 40 = .ok (.baload, 1) := by decide +kernel
theorem k11010_41 : decode (qc 11010) 41 = .ok (.ifCond .eq 7, 3) := by decide +kernel
theorem k11010_44 : decode (qc 11010) 44 = .ok (.iconst 1, 1) := by decide +kernel
theorem k11010_45 : decode (qc 11010) 45 = .ok (.goto 4, 3) := by decide +kernel
theorem k11010_48 : decode (qc 11010) 48 = .ok (.iconst 0, 1) := by decide +kernel
theorem k11010_49 : decode (qc 11010) 49 = .ok (.ireturn, 1) := by decide +kernel
theorem k11011_0 : decode (qc 11011) 0 = .ok (.aload_n 0, 1) := by decide +kernel
theorem k11011_1 : decode (qc 11011) 1 = .ok (.getfield 53, 3) := by decide +kernel
theorem k11011_4 : decode (qc 11011) 4 = .ok (.getfield 176, 3) := by decide +kernel
theorem k11011_7 : decode (qc 11011) 7 = .ok (.ifCond .gt 5, 3) := by decide +kernel
theorem k11011_10 : decode (qc 11011) 10 = .ok (.iconst (-1), 1) := by decide +kernel
theorem k11011_11 : decode (qc 11011) 11 = .ok (.ireturn, 1) := by decide +kernel
theorem k11011_12 : decode (qc 11011) 12 = .ok (.aload_n 0, 1) := by decide +kernel
theorem k11011_13 : decode (qc 11011) 13 = .ok (.getfield 53, 3) := by decide +kernel
theorem k11011_16 : decode (qc 11011) 16 = .ok (.invokevirtual 193, 3) := by decide +kernel
theorem k11011_19 : decode (qc 11011) 19 = .ok (.aload_n 0, 1) := by decide +kernel
theorem k11011_20 : decode (qc 11011) 20 = .ok (.getfield 53, 3) := by decide +kernel
theorem k11011_23 : decode (qc 11011) 23 = .ok (.getfield 176, 3) := by decide +kernel
theorem k11011_26 : decode (qc 11011) 26 = .ok (.ireturn, 1) := by decide +kernel
theorem k11012_0 : decode (qc 11012) 0 = .ok (.aload_n 0, 1) := by decide +kernel
theorem k11012_1 : decode (qc 11012) 1 = .ok (.iload_n 1, 1) := by decide +kernel
theorem k11012_2 : decode (qc 11012) 2 = .ok (.invokevirtual 133, 3) := by decide +kernel
theorem k11012_5 : decode (qc 11012) 5 = .ok (.ifCond .eq 7, 3) := by decide +kernel
theorem k11012_8 : decode (qc 11012) 8 = .ok (.iload_n 2, 1) := by decide +kernel
theorem k11012_9 : decode (qc 11012) 9 = .ok (.ifCond .ge 6, 3) := by decide +kernel
theorem k11012_12 : decode (qc 11012) 12 = .ok (.ldc 153, 2) := by decide +kernel
theorem k11012_14 : decode (qc 11012) 14 = .ok (.ireturn, 1) := by decide +kernel
theorem k11012_15 : decode (qc 11012) 15 = .ok (.aload_n 0, 1) := by decide +kernel
theorem k11012_16 : decode (qc 11012) 16 = .ok (.iload_n 2, 1) := by decide +kernel
theorem k11012_17 : decode (qc 11012) 17 = .ok (.invokevirtual 196, 3) := by decide +kernel
theorem k11012_20 : decode (qc 11012) 20 = .ok (.aload_n 0, 1) := by decide +kernel
theorem k11012_21 : decode (qc 11012) 21 = .ok (.getfield 73, 3) := by decide +kernel
theorem k11012_24 : decode (qc 11012) 24 = .ok (.getfield 199, 3) := by decide +kernel
theorem k11012_27 : decode (qc 11012) 27 = .ok (.iload_n 1, 1) := by decide +kernel
theorem k11012_28 : decode (qc 11012) 28 = .ok (.iaload, 1) := by decide +kernel
theorem k11012_29 : decode (qc 11012) 29 = .ok (.ireturn, 1) := by decide +kernel
theorem k11013_0 : decode (qc 11013) 0 = .ok (.aload_n 0, 1) := by decide +kernel
theorem k11013_1 : decode (qc 11013) 1 = .ok (.iload_n 1, 1) := by decide +kernel
theorem k11013_2 : decode (qc 11013) 2 = .ok (.invokevirtual 133, 3) := by decide +kernel
theorem k11013_5 : decode (qc 11013) 5 = .ok (.ifCond .eq 7, 3) := by decide +kernel
theorem k11013_8 : decode (qc 11013) 8 = .ok (.iload_n 2, 1) := by decide +kernel
theorem k11013_9 : decode (qc 11013) 9 = .ok (.ifCond .ge 6, 3) := by decide +kernel
theorem k11013_12 : decode (qc 11013) 12 = .ok (.ldc 153, 2) := by decide +kernel
theorem k11013_14 : decode (qc 11013) 14 = .ok (.ireturn, 1) := by decide +kernel
theorem k11013_15 : decode (qc 11013) 15 = .ok (.aload_n 0, 1) := by decide +kernel
theorem k11013_16 : decode (qc 11013) 16 = .ok (.iload_n 2, 1) := by decide +kernel
theorem k11013_17 : decode (qc 11013) 17 = .ok (.invokevirtual 196, 3) := by decide +kernel
theorem k11013_20 : decode (qc 11013) 20 = .ok (.aload_n 0, 1) := by decide +kernel
theorem k11013_21 : decode (qc 11013) 21 = .ok (.getfield 73, 3) := by decide +kernel
theorem k11013_24 : decode (qc 11013) 24 = .ok (.iload_n 1, 1) := by decide +kernel
theorem k11013_25 : decode (qc 11013) 25 = .ok (.invokevirtual 202, 3) := by decide +kernel
theorem k11013_28 : decode (qc 11013) 28 = .ok (.ireturn, 1) := by decide +kernel
theorem k11014_0 : decode (qc 11014) 0 = .ok (.aload_n 0, 1) := by decide +kernel
theorem k11014_1 : decode (qc 11014) 1 = .ok (.iload_n 1, 1) := by decide +kernel
theorem k11014_2 : decode (qc 11014) 2 = .ok (.invokevirtual 144, 3) := by decide +kernel
theorem k11014_5 : decode (qc 11014) 5 = .ok (.ifCond .eq 7, 3) := by decide +kernel
theorem k11014_8 : decode (qc 11014) 8 = .ok (.iload_n 2, 1) := by decide +kernel
theorem k11014_9 : decode (qc 11014) 9 = .ok (.ifCond .ge 5, 3) := by decide +kernel
theorem k11014_12 : decode (qc 11014) 12 = .ok (.iconst (-1), 1) := by decide +kernel
theorem k11014_13 : decode (qc 11014) 13 = .ok (.ireturn, 1) := by decide +kernel
theorem k11014_14 : decode (qc 11014) 14 = .ok (.aload_n 0, 1) := by decide +kernel
theorem k11014_15 : decode (qc 11014) 15 = .ok (.iload_n 2, 1) := by decide +kernel
theorem k11014_16 : decode (qc 11014) 16 = .ok (.invokevirtual 196, 3) := by decide +kernel
theorem k11014_19 : decode (qc 11014) 19 = .ok (.aload_n 0, 1) := by decide +kernel
theorem k11014_20 : decode (qc 11014) 20 = .ok (.getfield 73, 3) := by decide +kernel
theorem k11014_23 : decode (qc 11014) 23 = .ok (.iload_n 1, 1) := by decide +kernel
theorem k11014_24 : decode (qc 11014) 24 = .ok (.invokevirtual 205, 3) := by decide +kernel
theorem k11014_27 : decode (qc 11014) 27 = .ok (.ireturn, 1) := by decide +kernel
theorem k11015_0 : decode (qc 11015) 0 = .ok (.aload_n 0, 1) := by decide +kernel
theorem k11015_1 : decode (qc 11015) 1 = .ok (.iload_n 1, 1) := by decide +kernel
theorem k11015_2 : decode (qc 11015) 2 = .ok (.invokevirtual 133, 3) := by decide +kernel
theorem k11015_5 : decode (qc 11015) 5 = .ok (.ifCond .eq 7, 3) := by decide +kernel
theorem k11015_8 : decode (qc 11015) 8 = .ok (.iload_n 2, 1) := by decide +kernel
theorem k11015_9 : decode (qc 11015) 9 = .ok (.ifCond .ge 5, 3) := by decide +kernel
theorem k11015_12 : decode (qc 11015) 12 = .ok (.iconst (-1), 1) := by decide +kernel
theorem k11015_13 : decode (qc 11015) 13 = .ok (.ireturn, 1) := by decide +kernel
theorem k11015_14 : decode (qc 11015) 14 = .ok (.aload_n 0, 1) := by decide +kernel
theorem k11015_15 : decode (qc 11015) 15 = .ok (.iload_n 2, 1) := by decide +kernel
theorem k11015_16 : decode (qc 11015) 16 = .ok (.invokevirtual 196, 3) := by decide +kernel
theorem k11015_19 : decode (qc 11015) 19 = .ok (.iconst 0, 1) := by decide +kernel
theorem k11015_20 : decode (qc 11015) 20 = .ok (.istore_n 3, 1) := by decide +kernel
theorem k11015_21 : decode (qc 11015) 21 = .ok (.iconst 0, 1) := by decide +kernel
theorem k11015_22 : decode (qc 11015) 22 = .ok (.istore 4, 2) := by decide +kernel
theorem k11015_24 : decode (qc 11015) 24 = .ok (.iload 4, 2) := by decide +kernel
theorem k11015_26 : decode (qc 11015) 26 = .ok (.aload_n 0, 1) := by decide +kernel
theorem k11015_27 : decode (qc 11015) 27 = .ok (.getfield 35, 3) := by decide +kernel
theorem k11015_30 : decode (qc 11015) 30 = .ok (.getfield 118, 3) := by decide +kernel
theorem k11015_33 : decode (qc 11015) 33 = .ok (.if_icmp .ge 35, 3) := by decide +kernel
theorem k11015_36 : decode (qc 11015) 36 = .ok (.iload 4, 2) := by decide +kernel
theorem k11015_38 : decode (qc 11015) 38 = .ok (.iload_n 1, 1) := by decide +kernel
theorem k11015_39 : decode (qc 11015) 39 = .ok (.if_icmp .eq 23, 3) := by decide +kernel
theorem k11015_42 : decode (qc 11015) 42 = .ok (.aload_n 0, 1) := by decide +kernel
theorem k11015_43 : decode (qc 11015) 43 = .ok (.getfield 73, 3) := by decide +kernel
theorem k11015_46 : decode (qc 11015) 46 = .ok (.iload 4, 2) := by decide +kernel
theorem k11015_48 : decode (qc 11015) 48 = .ok (.iload_n 1, 1) := by decide +kernel
theorem k11015_49 : decode (qc 11015) 49 = .ok (.invokevirtual 208, 3) := by decide +kernel
theorem k11015_52 : decode (qc 11015) 52 = .ok (.ifCond .eq 10, 3) := by decide +kernel
theorem k11015_55 : decode (qc 11015) 55 = .ok (.iload_n 3, 1) := by decide +kernel
theorem k11015_56 : decode (qc 11015) 56 = .ok (.iconst 1, 1) := by decide +kernel
theorem k11015_57 : decode (qc 11015) 57 = .ok (.iload 4, 2) := by decide +kernel
theorem k11015_59 : decode (qc 11015) 59 = .ok (.ishl, 1) := by decide +kernel
theorem k11015_60 : decode (qc 11015) 60 = .ok (.ior, 1) := by decide +kernel
theorem k11015_61 : decode (qc 11015) 61 = .ok (.istore_n 3, 1) := by decide +kernel
theorem k11015_62 : decode (qc 11015) 62 = .ok (.iinc 4 1, 3) := by decide +kernel
theorem k11015_65 : decode (qc 11015) 65 = .ok (.goto (-41), 3) := by decide +kernel
theorem k11015_68 : decode (qc 11015) 68 = .ok (.iload_n 3, 1) := by decide +kernel
theorem k11015_69 : decode (qc 11015) 69 = .ok (.ireturn, 1) := by decide +kernel
theorem k11016_0 : decode (qc 11016) 0 = .ok (.iload_n 2, 1) := by decide +kernel
theorem k11016_1 : decode (qc 11016) 1 = .ok (.invokestatic 212, 3) := by decide +kernel
theorem k11016_4 : decode (qc 11016) 4 = .ok (.ifCond .eq 7, 3) := by decide +kernel
theorem k11016_7 : decode (qc 11016) 7 = .ok (.iload_n 1, 1) := by decide +kernel
theorem k11016_8 : decode (qc 11016) 8 = .ok (.ifCond .ge 5, 3) := by decide +kernel
theorem k11016_11 : decode (qc 11016) 11 = .ok (.iconst (-1), 1) := by decide +kernel
theorem k11016_12 : decode (qc 11016) 12 = .ok (.ireturn, 1) := by decide +kernel
theorem k11016_13 : decode (qc 11016) 13 = .ok (.aload_n 0, 1) := by decide +kernel
theorem k11016_14 : decode (qc 11016) 14 = .ok (.iload_n 1, 1) := by decide +kernel
theorem k11016_15 : decode (qc 11016) 15 = .ok (.invokevirtual 196, 3) := by decide +kernel
theorem k11016_18 : decode (qc 11016) 18 = .ok (.iconst 0, 1) := by decide +kernel
theorem k11016_19 : decode (qc 11016) 19 = .ok (.istore_n 3, 1) := by decide +kernel
theorem k11016_20 : decode (qc 11016) 20 = .ok (.iconst (-1), 1) := by decide +kernel
theorem k11016_21 : decode (qc 11016) 21 = .ok (.istore 4, 2) := by decide +kernel
theorem k11016_23 : decode (qc 11016) 23 = .ok (.iconst 0, 1) := by decide +kernel
theorem k11016_24 : decode (qc 11016) 24 = .ok (.istore 5, 2) := by decide +kernel
theorem k11016_26 : decode (qc 11016) 26 = .ok (.iload 5, 2) := by decide +kernel
theorem k11016_28 : decode (qc 11016) 28 = .ok (.aload_n 0, 1) := by decide +kernel
theorem k11016_29 : decode (qc 11016) 29 = .ok (.getfield 35, 3) := by decide +kernel
theorem k11016_32 : decode (qc 11016) 32 = .ok (.getfield 118, 3) := by decide +kernel
theorem k11016_35 : decode (qc 11016) 35 = .ok (.if_icmp .ge 33, 3) := by decide +kernel
theorem k11016_38 : decode (qc 11016) 38 = .ok (.aload_n 0, 1) := by decide +kernel
theorem k11016_39 : decode (qc 11016) 39 = .ok (.getfield 73, 3) := by decide +kernel
theorem k11016_42 : decode (qc 11016) 42 = .ok (.iload 5, 2) := by decide +kernel
theorem k11016_44 : decode (qc 11016) 44 = .ok (.invokevirtual 215, 3) := by decide +kernel
theorem k11016_47 : decode (qc 11016) 47 = .ok (.istore 6, 2) := by decide +kernel
theorem k11016_49 : decode (qc 11016) 49 = .ok (.iload 6, 2) := by decide +kernel
theorem k11016_51 : decode (qc 11016) 51 = .ok (.iload_n 3, 1) := by decide +kernel
theorem k11016_52 : decode (qc 11016) 52 = .ok (.if_icmp .le 10, 3) := by decide +kernel
theorem k11016_55 : decode (qc 11016) 55 = .ok (.iload 6, 2) := by decide +kernel
theorem k11016_57 : decode (qc 11016) 57 = .ok (.istore_n 3, 1) := by decide +kernel
theorem k11016_58 : decode (qc 11016) 58 = .ok (.iload 5, 2) := by decide +kernel
theorem k11016_60 : decode (qc 11016) 60 = .ok (.istore 4, 2) := by decide +kernel
theorem k11016_62 : decode (qc 11016) 62 = .ok (.iinc 5 1, 3) := by decide +kernel
theorem k11016_65 : decode (qc 11016) 65 = .ok (.goto (-39), 3) := by decide +kernel
theorem k11016_68 : decode (qc 11016) 68 = .ok (.iload 4, 2) := by decide +kernel
theorem k11016_70 : decode (qc 11016) 70 = .ok (.iconst (-1), 1) := by decide +kernel
theorem k11016_71 : decode (qc 11016) 71 = .ok (.if_icmp .eq 7, 3) := by decide +kernel
theorem k11016_74 : decode (qc 11016) 74 = .ok (.iload_n 2, 1) := by decide +kernel
theorem k11016_75 : decode (qc 11016) 75 = .ok (.ifCond .ne 8, 3) := by decide +kernel
theorem k11016_78 : decode (qc 11016) 78 = .ok (.iload 4, 2) := by decide +kernel
theorem k11016_80 : decode (qc 11016) 80 = .ok (.goto 4, 3) := by decide +kernel
theorem k11016_83 : decode (qc 11016) 83 = .ok (.iload_n 3, 1) := by decide +kernel
theorem k11016_84 : decode (qc 11016) 84 = .ok (.ireturn, 1) := by decide +kernel
theorem k11017_0 : decode (qc 11017) 0 = .ok (.aload_n 0, 1) := by decide +kernel
theorem k11017_1 : decode (qc 11017) 1 = .ok (.iload_n 1, 1) := by decide +kernel
theorem k11017_2 : decode (qc 11017) 2 = .ok (.invokevirtual 144, 3) := by decide +kernel
theorem k11017_5 : decode (qc 11017) 5 = .ok (.ifCond .eq 14, 3) := by decide +kernel
theorem k11017_8 : decode (qc 11017) 8 = .ok (.iload_n 3, 1) := by decide +kernel
theorem k11017_9 : decode (qc 11017) 9 = .ok (.invokestatic 212, 3) := by decide +kernel
theorem k11017_12 : decode (qc 11017) 12 = .ok (.ifCond .eq 7, 3) := by decide +kernel
theorem k11017_15 : decode (qc 11017) 15 = .ok (.iload_n 2, 1) := by decide +kernel
theorem k11017_16 : decode (qc 11017) 16 = .ok (.ifCond .ge 5, 3) := by decide +kernel
theorem k11017_19 : decode (qc 11017) 19 = .ok (.iconst (-1), 1) := by decide +kernel
theorem k11017_20 : decode (qc 11017) 20 = .ok (.ireturn, 1) := by decide +kernel
theorem k11017_21 : decode (qc 11017) 21 = .ok (.aload_n 0, 1) := by decide +kernel
theorem k11017_22 : decode (qc 11017) 22 = .ok (.iload_n 2, 1) := by decide +kernel
theorem k11017_23 : decode (qc 11017) 23 = .ok (.invokevirtual 196, 3) := by decide +kernel
theorem k11017_26 : decode (qc 11017) 26 = .ok (.iconst (-1), 1) := by decide +kernel
theorem k11017_27 : decode (qc 11017) 27 = .ok (.istore 4, 2) := by decide +kernel
theorem k11017_29 : decode (qc 11017) 29 = .ok (.iconst (-1), 1) := by decide +kernel
theorem k11017_30 : decode (qc 11017) 30 = .ok (.istore 5, 2) := by decide +kernel
theorem k11017_32 : decode (qc 11017) 32 = .ok (.iconst 0, 1) := by decide +kernel
theorem k11017_33 : decode (qc 11017) 33 = .ok (.istore 6, 2) := by decide +kernel
theorem k11017_35 : decode (qc 11017) 35 = .ok (.iload 6, 2) := by decide +kernel
theorem k11017_37 : decode (qc 11017) 37 = .ok (.aload_n 0, 1) := by decide +kernel
theorem k11017_38 : decode (qc 11017) 38 = .ok (.getfield 35, 3) := by decide +kernel
theorem k11017_41 : decode (qc 11017) 41 = .ok (.getfield 118, 3) := by decide +kernel
theorem k11017_44 : decode (qc 11017) 44 = .ok (.if_icmp .ge 47, 3) := by decide +kernel
theorem k11017_47 : decode (qc 11017) 47 = .ok (.aload_n 0, 1) := by decide +kernel
theorem k11017_48 : decode (qc 11017) 48 = .ok (.getfield 35, 3) := by decide +kernel
theorem k11017_51 : decode (qc 11017) 51 = .ok (.iload_n 1, 1) := by decide +kernel
theorem k11017_52 : decode (qc 11017) 52 = .ok (.iload 6, 2) := by decide +kernel
theorem k11017_54 : decode (qc 11017) 54 = .ok (.invokevirtual 218, 3) := by decide +kernel
theorem k11017_57 : decode (qc 11017) 57 = .ok (.ifCond .eq 28, 3) := by decide +kernel
theorem k11017_60 : decode (qc 11017) 60 = .ok (.aload_n 0, 1) := by decide +kernel
theorem k11017_61 : decode (qc 11017) 61 = .ok (.iload_n 1, 1) := by decide +kernel
theorem k11017_62 : decode (qc 11017) 62 = .ok (.iload 6, 2) := by decide +kernel
theorem k11017_64 : decode (qc 11017) 64 = .ok (.iload_n 1, 1) := by decide +kernel
theorem k11017_65 : decode (qc 11017) 65 = .ok (.invokevirtual 221, 3) := by decide +kernel
theorem k11017_68 : decode (qc 11017) 68 = .ok (.istore 7, 2) := by decide +kernel
theorem k11017_70 : decode (qc 11017) 70 = .ok (.iload 7, 2) := by decide +kernel
theorem k11017_72 : decode (qc 11017) 72 = .ok (.iload 4, 2) := by decide +kernel
theorem k11017_74 : decode (qc 11017) 74 = .ok (.if_icmp .le 11, 3) := by decide +kernel
theorem k11017_77 : decode (qc 11017) 77 = .ok (.iload 7, 2) := by decide +kernel
theorem k11017_79 : decode (qc 11017) 79 = .ok (.istore 4, 2) := by decide +kernel
theorem k11017_81 : decode (qc 11017) 81 = .ok (.iload 6, 2) := by decide +kernel
theorem k11017_83 : decode (qc 11017) 83 = .ok (.istore 5, 2) := by decide +kernel
theorem k11017_85 : decode (qc 11017) 85 = .ok (.iinc 6 1, 3) := by decide +kernel
theorem k11017_88 : decode (qc 11017) 88 = .ok (.goto (-53), 3) := by decide +kernel
theorem k11017_91 : decode (qc 11017) 91 = .ok (.iload_n 3, 1) := by decide +kernel
theorem k11017_92 : decode (qc 11017) 92 = .ok (.ifCond .ne 8, 3) := by decide +kernel
theorem k11017_95 : decode (qc 11017) 95 = .ok (.iload 5, 2) := by decide +kernel
theorem k11017_97 : decode (qc 11017) 97 = .ok (.goto 5, 3) := by decide +kernel
theorem k11017_100 : decode (qc 11017) 100 = .ok (.iload 4, 2) := by decide +kernel
theorem k11017_102 : decode (qc 11017) 102 = .ok (.ireturn, 1) := by decide +kernel
theorem k11018_0 : decode (qc 11018) 0 = .ok (.aload_n 0, 1) := by decide +kernel
theorem k11018_1 : decode (qc 11018) 1 = .ok (.iload_n 1, 1) := by decide +kernel
theorem k11018_2 : decode (qc 11018) 2 = .ok (.invokevirtual 144, 3) := by decide +kernel
theorem k11018_5 : decode (qc 11018) 5 = .ok (.ifCond .eq 16, 3) := by decide +kernel
theorem k11018_8 : decode (qc 11018) 8 = .ok (.aload_n 0, 1) := by decide +kernel
theorem k11018_9 : decode (qc 11018) 9 = .ok (.iload_n 2, 1) := by decide +kernel
theorem k11018_10 : decode (qc 11018) 10 = .ok (.invokevirtual 144, 3) := by decide +kernel
theorem k11018_13 : decode (qc 11018) 13 = .ok (.ifCond .eq 8, 3) := by decide +kernel
theorem k11018_16 : decode (qc 11018) 16 = .ok (.iload_n 1, 1) := by decide +kernel
theorem k11018_17 : decode (qc 11018) 17 = .ok (.iload_n 2, 1) := by decide +kernel
theorem k11018_18 : decode (qc 11018) 18 = .ok (.if_icmp .ne 5, 3) := by decide +kernel
theorem k11018_21 : decode (qc 11018) 21 = .ok (.iconst (-1), 1) := by decide +kernel
theorem k11018_22 : decode (qc 11018) 22 = .ok (.ireturn, 1) := by decide +kernel
theorem k11018_23 : decode (qc 11018) 23 = .ok (.iload 4, 2) := by decide +kernel
theorem k11018_25 : decode (qc 11018) 25 = .ok (.invokestatic 212, 3) := by decide +kernel
theorem k11018_28 : decode (qc 11018) 28 = .ok (.ifCond .eq 7, 3) := by decide +kernel
theorem k11018_31 : decode (qc 11018) 31 = .ok (.iload_n 3, 1) := by decide +kernel
theorem k11018_32 : decode (qc 11018) 32 = .ok (.ifCond .ge 5, 3) := by decide +kernel
theorem k11018_35 : decode (qc 11018) 35 = .ok (.iconst (-1), 1) := by decide +kernel
theorem k11018_36 : decode (qc 11018) 36 = .ok (.ireturn, 1) := by decide +kernel
theorem k11018_37 : decode (qc 11018) 37 = .ok (.aload_n 0, 1) := by decide +kernel
theorem k11018_38 : decode (qc 11018) 38 = .ok (.iload_n 3, 1) := by decide +kernel
theorem k11018_39 : decode (qc 11018) 39 = .ok (.invokevirtual 196, 3) := by decide +kernel
theorem k11018_42 : decode (qc 11018) 42 = .ok (.iconst (-1), 1) := by decide +kernel
theorem k11018_43 : decode (qc 11018) 43 = .ok (.istore 5, 2) := by decide +kernel
theorem k11018_45 : decode (qc 11018) 45 = .ok (.iconst (-1), 1) := by decide +kernel
theorem k11018_46 : decode (qc 11018) 46 = .ok (.istore 6, 2) := by decide +kernel
theorem k11018_48 : decode (qc 11018) 48 = .ok (.iconst 0, 1) := by decide +kernel
theorem k11018_49 : decode (qc 11018) 49 = .ok (.istore 7, 2) := by decide +kernel
theorem k11018_51 : decode (qc 11018) 51 = .ok (.iload 7, 2) := by decide +kernel
theorem k11018_53 : decode (qc 11018) 53 = .ok (.aload_n 0, 1) := by decide +kernel
theorem k11018_54 : decode (qc 11018) 54 = .ok (.getfield 35, 3) := by decide +kernel
theorem k11018_57 : decode (qc 11018) 57 = .ok (.getfield 118, 3) := by decide +kernel
theorem k11018_60 : decode (qc 11018) 60 = .ok (.if_icmp .ge 53, 3) := by decide +kernel
theorem k11018_63 : decode (qc 11018) 63 = .ok (.aload_n 0, 1) := by decide +kernel
theorem k11018_64 : decode (qc 11018) 64 = .ok (.getfield 35, 3) := by decide +kernel
theorem k11018_67 : decode (qc 11018) 67 = .ok (.iload_n 1, 1) := by decide +kernel
theorem k11018_68 : decode (qc 11018) 68 = .ok (.iload 7, 2) := by decide +kernel
theorem k11018_70 : decode (qc 11018) 70 = .ok (.invokevirtual 218, 3) := by decide +kernel
theorem k11018_73 : decode (qc 11018) 73 = .ok (.ifCond .eq 34, 3) := by decide +kernel
theorem k11018_76 : decode (qc 11018) 76 = .ok (.aload_n 0, 1) := by decide +kernel
theorem k11018_77 : decode (qc 11018) 77 = .ok (.iload_n 1, 1) := by decide +kernel
theorem k11018_78 : decode (qc 11018) 78 = .ok (.iload 7, 2) := by decide +kernel
theorem k11018_80 : decode (qc 11018) 80 = .ok (.iload_n 2, 1) := by decide +kernel
theorem k11018_81 : decode (qc 11018) 81 = .ok (.invokevirtual 221, 3) := by decide +kernel
theorem k11018_84 : decode (qc 11018) 84 = .ok (.istore 8, 2) := by decide +kernel
theorem k11018_86 : decode (qc 11018) 86 = .ok (.iload 6, 2) := by decide +kernel
theorem k11018_88 : decode (qc 11018) 88 = .ok (.iconst (-1), 1) := by decide +kernel
theorem k11018_89 : decode (qc 11018) 89 = .ok (.if_icmp .eq 10, 3) := by decide +kernel
theorem k11018_92 : decode (qc 11018) 92 = .ok (.iload 8, 2) := by decide +kernel
theorem k11018_94 : decode (qc 11018) 94 = .ok (.iload 5, 2) := by decide +kernel
theorem k11018_96 : decode (qc 11018) 96 = .ok (.if_icmp .ge 11, 3) := by decide +kernel
theorem k11018_99 : decode (qc 11018) 99 = .ok (.iload 8, 2) := by decide +kernel
theorem k11018_101 : decode (qc 11018) 101 = .ok (.istore 5, 2) := by decide +kernel
theorem k11018_103 : decode (qc 11018) 103 = .ok (.iload 7, 2) := by decide +kernel
theorem k11018_105 : decode (qc 11018) 105 = .ok (.istore 6, 2) := by decide +kernel
theorem k11018_107 : decode (qc 11018) 107 = .ok (.iinc 7 1, 3) := by decide +kernel
theorem k11018_110 : decode (qc 11018) 110 = .ok (.goto (-59), 3) := by decide +kernel
theorem k11018_113 : decode (qc 11018) 113 = .ok (.iload 4, 2) := by decide +kernel
theorem k11018_115 : decode (qc 11018) 115 = .ok (.ifCond .ne 8, 3) := by decide +kernel
theorem k11018_118 : decode (qc 11018) 118 = .ok (.iload 6, 2) := by decide +kernel
theorem k11018_120 : decode (qc 11018) 120 = .ok (.goto 5, 3) := by decide +kernel
theorem k11018_123 : decode (qc 11018) 123 = .ok (.iload 5, 2) := by decide +kernel
theorem k11018_125 : decode (qc 11018) 125 = .ok (.ireturn, 1) := by decide +kernel
theorem k11019_0 : decode (qc 11019) 0 = .ok (.aload_n 0, 1) := by decide +kernel
theorem k11019_1 : decode (qc 11019) 1 = .ok (.iload_n 1, 1) := by decide +kernel
theorem k11019_2 : decode (qc 11019) 2 = .ok (.invokevirtual 144, 3) := by decide +kernel
theorem k11019_5 : decode (qc 11019) 5 = .ok (.ifCond .eq 11, 3) := by decide +kernel
theorem k11019_8 : decode (qc 11019) 8 = .ok (.iload_n 2, 1) := by decide +kernel
theorem k11019_9 : decode (qc 11019) 9 = .ok (.iload_n 3, 1) := by decide +kernel
theorem k11019_10 : decode (qc 11019) 10 = .ok (.invokestatic 225, 3) := by decide +kernel
theorem k11019_13 : decode (qc 11019) 13 = .ok (.ifCond .ne 5, 3) := by decide +kernel
theorem k11019_16 : decode (qc 11019) 16 = .ok (.iconst (-1), 1) := by decide +kernel
theorem k11019_17 : decode (qc 11019) 17 = .ok (.ireturn, 1) := by decide +kernel
theorem k11019_18 : decode (qc 11019) 18 = .ok (.aload_n 0, 1) := by decide +kernel
theorem k11019_19 : decode (qc 11019) 19 = .ok (.iload_n 1, 1) := by decide +kernel
theorem k11019_20 : decode (qc 11019) 20 = .ok (.iload_n 2, 1) := by decide +kernel
theorem k11019_21 : decode (qc 11019) 21 = .ok (.iload_n 3, 1) := by decide +kernel
theorem k11019_22 : decode (qc 11019) 22 = .ok (.invokevirtual 228, 3) := by decide +kernel
theorem k11019_25 : decode (qc 11019) 25 = .ok (.iconst 0, 1) := by decide +kernel
theorem k11019_26 : decode (qc 11019) 26 = .ok (.istore 4, 2) := by decide +kernel
theorem k11019_28 : decode (qc 11019) 28 = .ok (.iconst 0, 1) := by decide +kernel
theorem k11019_29 : decode (qc 11019) 29 = .ok (.istore 5, 2) := by decide +kernel
theorem k11019_31 : decode (qc 11019) 31 = .ok (.iload 5, 2) := by decide +kernel
theorem k11019_33 : decode (qc 11019) 33 = .ok (.aload_n 0, 1) := by decide +kernel
theorem k11019_34 : decode (qc 11019) 34 = .ok (.getfield 35, 3) := by decide +kernel
theorem k11019_37 : decode (qc 11019) 37 = .ok (.getfield 118, 3) := by decide +kernel
theorem k11019_40 : decode (qc 11019) 40 = .ok (.if_icmp .ge 34, 3) := by decide +kernel
theorem k11019_43 : decode (qc 11019) 43 = .ok (.iload 4, 2) := by decide +kernel
theorem k11019_45 : decode (qc 11019) 45 = .ok (.aload_n 0, 1) := by decide +kernel
theorem k11019_46 : decode (qc 11019) 46 = .ok (.getfield 77, 3) := by decide +kernel
theorem k11019_49 : decode (qc 11019) 49 = .ok (.iload 5, 2) := by decide +kernel
theorem k11019_51 : decode (qc 11019) 51 = .ok (.iaload, 1) := by decide +kernel
theorem k11019_52 : decode (qc 11019) 52 = .ok (.aload_n 0, 1) := by decide +kernel
theorem k11019_53 : decode (qc 11019) 53 = .ok (.getfield 35, 3) := by decide +kernel
theorem k11019_56 : decode (qc 11019) 56 = .ok (.getfield 140, 3) := by decide +kernel
theorem k11019_59 : decode (qc 11019) 59 = .ok (.iload 5, 2) := by decide +kernel
theorem k11019_61 : decode (qc 11019) 61 = .ok (.aaload, 1) := by decide +kernel
theorem k11019_62 : decode (qc 11019) 62 = .ok (.iconst 2, 1) := by decide +kernel
theorem k11019_63 : decode (qc 11019) 63 = .ok (.iaload, 1) := by decide +kernel
theorem k11019_64 : decode (qc 11019) 64 = .ok (.imul, 1) := by decide +kernel
theorem k11019_65 : decode (qc 11019) 65 = .ok (.iadd, 1) := by decide +kernel
theorem k11019_66 : decode (qc 11019) 66 = .ok (.istore 4, 2) := by decide +kernel
theorem k11019_68 : decode (qc 11019) 68 = .ok (.iinc 5 1, 3) := by decide +kernel
theorem k11019_71 : decode (qc 11019) 71 = .ok (.goto (-40), 3) := by decide +kernel
theorem k11019_74 : decode (qc 11019) 74 = .ok (.iload 4, 2) := by decide +kernel
theorem k11019_76 : decode (qc 11019) 76 = .ok (.ireturn, 1) := by decide +kernel
theorem k11020_0 : decode (qc 11020) 0 = .ok (.aload_n 0, 1) := by decide +kernel
theorem k11020_1 : decode (qc 11020) 1 = .ok (.invokevirtual 231, 3) := by decide +kernel
theorem k11020_4 : decode (qc 11020) 4 = .ok (.ifCond .ne 6, 3) := by decide +kernel
theorem k11020_7 : decode (qc 11020) 7 = .ok (.ldc 153, 2) := by decide +kernel
theorem k11020_9 : decode (qc 11020) 9 = .ok (.ireturn, 1) := by decide +kernel
theorem k11020_10 : decode (qc 11020) 10 = .ok (.aload_n 0, 1) := by decide +kernel
theorem k11020_11 : decode (qc 11020) 11 = .ok (.iload_n 1, 1) := by decide +kernel
theorem k11020_12 : decode (qc 11020) 12 = .ok (.invokevirtual 144, 3) := by decide +kernel
theorem k11020_15 : decode (qc 11020) 15 = .ok (.ifCond .eq 12, 3) := by decide +kernel
theorem k11020_18 : decode (qc 11020) 18 = .ok (.iload_n 2, 1) := by decide +kernel
theorem k11020_19 : decode (qc 11020) 19 = .ok (.ifCond .lt 8, 3) := by decide +kernel
theorem k11020_22 : decode (qc 11020) 22 = .ok (.iload_n 2, 1) := by decide +kernel
theorem k11020_23 : decode (qc 11020) 23 = .ok (.iconst 2, 1) := by decide +kernel
theorem k11020_24 : decode (qc 11020) 24 = .ok (.if_icmp .le 5, 3) := by decide +kernel
theorem k11020_27 : decode (qc 11020) 27 = .ok (.iconst (-1), 1) := by decide +kernel
theorem k11020_28 : decode (qc 11020) 28 = .ok (.ireturn, 1) := by decide +kernel
theorem k11020_29 : decode (qc 11020) 29 = .ok (.aload_n 0, 1) := by decide +kernel
theorem k11020_30 : decode (qc 11020) 30 = .ok (.invokevirtual 234, 3) := by decide +kernel
theorem k11020_33 : decode (qc 11020) 33 = .ok (.astore_n 3, 1) := by decide +kernel
theorem k11020_34 : decode (qc 11020) 34 = .ok (.iload_n 2, 1) := by decide +kernel
theorem k11020_35 : decode (qc 11020) 35 = .ok (.ifCond .ne 18, 3) := by decide +kernel
theorem k11020_38 : decode (qc 11020) 38 = .ok (.aload_n 3, 1) := by decide +kernel
theorem k11020_39 : decode (qc 11020) 39 = .ok (.aload_n 0, 1) := by decide +kernel
theorem k11020_40 : decode (qc 11020) 40 = .ok (.getfield 35, 3) := by decide +kernel
theorem k11020_43 : decode (qc 11020) 43 = .ok (.iload_n 1, 1) := by decide +kernel
theorem k11020_44 : decode (qc 11020) 44 = .ok (.iconst (-1), 1) := by decide +kernel
theorem k11020_45 : decode (qc 11020) 45 = .ok (.aload_n 0, 1) := by decide +kernel
theorem k11020_46 : decode (qc 11020) 46 = .ok (.getfield 163, 3) := by decide +kernel
theorem k11020_49 : decode (qc 11020) 49 = .ok (.invokevirtual 238, 3) := by decide +kernel
theorem k11020_52 : decode (qc 11020) 52 = .ok (.ireturn, 1) := by decide +kernel
theorem k11020_53 : decode (qc 11020) 53 = .ok (.iload_n 2, 1) := by decide +kernel
theorem k11020_54 : decode (qc 11020) 54 = .ok (.iconst 1, 1) := by decide +kernel
theorem k11020_55 : decode (qc 11020) 55 = .ok (.if_icmp .ne 19, 3) := by decide +kernel
theorem k11020_58 : decode (qc 11020) 58 = .ok (.aload_n 3, 1) := by decide +kernel
theorem k11020_59 : decode (qc 11020) 59 = .ok (.aload_n 0, 1) := by decide +kernel
theorem k11020_60 : decode (qc 11020) 60 = .ok (.getfield 35, 3) := by decide +kernel
theorem k11020_63 : decode (qc 11020) 63 = .ok (.iload_n 1, 1) := by decide +kernel
theorem k11020_64 : decode (qc 11020) 64 = .ok (.aload_n 0, 1) := by decide +kernel
theorem k11020_65 : decode (qc 11020) 65 = .ok (.getfield 163, 3) := by decide +kernel
theorem k11020_68 : decode (qc 11020) 68 = .ok (.invokevirtual 244, 3) := by decide +kernel
theorem k11020_71 : decode (qc 11020) 71 = .ok (.goto 16, 3) := by decide +kernel
theorem k11020_74 : decode (qc 11020) 74 = .ok (.aload_n 3, 1) := by decide +kernel
theorem k11020_75 : decode (qc 11020) 75 = .ok (.aload_n 0, 1) := by decide +kernel
theorem k11020_76 : decode (qc 11020) 76 = .ok (.getfield 35, 3) := by decide +kernel
theorem k11020_79 : decode (qc 11020) 79 = .ok (.iload_n 1, 1) := by decide +kernel
theorem k11020_80 : decode (qc 11020) 80 = .ok (.aload_n 0, 1) := by decide +kernel
theorem k11020_81 : decode (qc 11020) 81 = .ok (.getfield 163, 3) := by decide +kernel
theorem k11020_84 : decode (qc 11020) 84 = .ok (.invokevirtual 248, 3) := by decide +kernel
theorem k11020_87 : decode (qc 11020) 87 = .ok (.ireturn, 1) := by decide +kernel
theorem k11021_0 : decode (qc 11021) 0 = .ok (.aload_n 0, 1) := by decide +kernel
theorem k11021_1 : decode (qc 11021) 1 = .ok (.iload_n 1, 1) := by decide +kernel
theorem k11021_2 : decode (qc 11021) 2 = .ok (.invokevirtual 144, 3) := by decide +kernel
theorem k11021_5 : decode (qc 11021) 5 = .ok (.ifCond .ne 5, 3) := by decide +kernel
theorem k11021_8 : decode (qc 11021) 8 = .ok (.iconst (-1), 1) := by decide +kernel
theorem k11021_9 : decode (qc 11021) 9 = .ok (.ireturn, 1) := by decide +kernel
theorem k11021_10 : decode (qc 11021) 10 = .ok (.iconst 0, 1) := by decide +kernel
theorem k11021_11 : decode (qc 11021) 11 = .ok (.istore_n 2, 1) := by decide +kernel
theorem k11021_12 : decode (qc 11021) 12 = .ok (.iconst 0, 1) := by decide +kernel
theorem k11021_13 : decode (qc 11021) 13 = .ok (.istore_n 3, 1) := by decide +kernel
theorem k11021_14 : decode (qc 11021) 14 = .ok (.iload_n 3, 1) := by decide +kernel
theorem k11021_15 : decode (qc 11021) 15 = .ok (.aload_n 0, 1) := by decide +kernel
theorem k11021_16 : decode (qc 11021) 16 = .ok (.getfield 35, 3) := by decide +kernel
theorem k11021_19 : decode (qc 11021) 19 = .ok (.getfield 118, 3) := by decide +kernel
theorem k11021_22 : decode (qc 11021) 22 = .ok (.if_icmp .ge 24, 3) := by decide +kernel
theorem k11021_25 : decode (qc 11021) 25 = .ok (.aload_n 0, 1) := by decide +kernel
theorem k11021_26 : decode (qc 11021) 26 = .ok (.getfield 35, 3) := by decide +kernel
theorem k11021_29 : decode (qc 11021) 29 = .ok (.iload_n 1, 1) := by decide +kernel
theorem k11021_30 : decode (qc 11021) 30 = .ok (.iload_n 3, 1) := by decide +kernel
theorem k11021_31 : decode (qc 11021) 31 = .ok (.invokevirtual 218, 3) := by decide +kernel
theorem k11021_34 : decode (qc 11021) 34 = .ok (.ifCond .eq 6, 3) := by decide +kernel
theorem k11021_37 : decode (qc 11021) 37 = .ok (.iinc 2 1, 3) := by decide +kernel
theorem k11021_40 : decode (qc 11021) 40 = .ok (.iinc 3 1, 3) := by decide +kernel
theorem k11021_43 : decode (qc 11021) 43 = .ok (.goto (-29), 3) := by decide +kernel
theorem k11021_46 : decode (qc 11021) 46 = .ok (.iconst 0, 1) := by decide +kernel
theorem k11021_47 : decode (qc 11021) 47 = .ok (.istore_n 3, 1) := by decide +kernel
theorem k11021_48 : decode (qc 11021) 48 = .ok (.iconst 0, 1) := by decide +kernel
theorem k11021_49 : decode (qc 11021) 49 = .ok (.istore 4, 2) := by decide +kernel
theorem k11021_51 : decode (qc 11021) 51 = .ok (.iload 4, 2) := by decide +kernel
theorem k11021_53 : decode (qc 11021) 53 = .ok (.aload_n 0, 1) := by decide +kernel
theorem k11021_54 : decode (qc 11021) 54 = .ok (.getfield 35, 3) := by decide +kernel
theorem k11021_57 : decode (qc 11021) 57 = .ok (.getfield 150, 3) := by decide +kernel
theorem k11021_60 : decode (qc 11021) 60 = .ok (.if_icmp .ge 74, 3) := by decide +kernel
theorem k11021_63 : decode (qc 11021) 63 = .ok (.aload_n 0, 1) := by decide +kernel
theorem k11021_64 : decode (qc 11021) 64 = .ok (.getfield 35, 3) := by decide +kernel
theorem k11021_67 : decode (qc 11021) 67 = .ok (.getfield 154, 3) := by decide +kernel
theorem k11021_70 : decode (qc 11021) 70 = .ok (.iload 4, 2) := by decide +kernel
theorem k11021_72 : decode (qc 11021) 72 = .ok (.aaload, 1) := by decide +kernel
theorem k11021_73 : decode (qc 11021) 73 = .ok (.iconst 3, 1) := by decide +kernel
theorem k11021_74 : decode (qc 11021) 74 = .ok (.iaload, 1) := by decide +kernel
theorem k11021_75 : decode (qc 11021) 75 = .ok (.istore 5, 2) := by decide +kernel
theorem k11021_77 : decode (qc 11021) 77 = .ok (.iload 5, 2) := by decide +kernel
theorem k11021_79 : decode (qc 11021) 79 = .ok (.iconst (-1), 1) := by decide +kernel
theorem k11021_80 : decode (qc 11021) 80 = .ok (.if_icmp .eq 17, 3) := by decide +kernel
theorem k11021_83 : decode (qc 11021) 83 = .ok (.iload_n 3, 1) := by decide +kernel
theorem k11021_84 : decode (qc 11021) 84 = .ok (.iload 5, 2) := by decide +kernel
theorem k11021_86 : decode (qc 11021) 86 = .ok (.ishr, 1) := by decide +kernel
theorem k11021_87 : decode (qc 11021) 87 = .ok (.iconst 1, 1) := by decide +kernel
theorem k11021_88 : decode (qc 11021) 88 = .ok (.iand, 1) := by decide +kernel
theorem k11021_89 : decode (qc 11021) 89 = .ok (.iconst 1, 1) := by decide +kernel
theorem k11021_90 : decode (qc 11021) 90 = .ok (.if_icmp .ne 7, 3) := by decide +kernel
theorem k11021_93 : decode (qc 11021) 93 = .ok (.iconst 1, 1) := by decide +kernel
theorem k11021_94 : decode (qc 11021) 94 = .ok (.goto 4, 3) := by decide +kernel
theorem k11021_97 : decode (qc 11021) 97 = .ok (.iconst 0, 1) := by decide +kernel
theorem k11021_98 : decode (qc 11021) 98 = .ok (.istore 6, 2) := by decide +kernel
theorem k11021_100 : decode (qc 11021) 100 = .ok (.iload 6, 2) := by decide +kernel
theorem k11021_102 : decode (qc 11021) 102 = .ok (.ifCond .ne 19, 3) := by decide +kernel
theorem k11021_105 : decode (qc 11021) 105 = .ok (.aload_n 0, 1) := by decide +kernel
theorem k11021_106 : decode (qc 11021) 106 = .ok (.getfield 35, 3) := by decide +kernel
theorem k11021_109 : decode (qc 11021) 109 = .ok (.getfield 154, 3) := by decide +kernel
theorem k11021_112 : decode (qc 11021) 112 = .ok (.iload 4, 2) := by decide +kernel
theorem k11021_114 : decode (qc 11021) 114 = .ok (.aaload, 1) := by decide +kernel
theorem k11021_115 : decode (qc 11021) 115 = .ok (.iconst 1, 1) := by decide +kernel
theorem k11021_116 : decode (qc 11021) 116 = .ok (.iaload, 1) := by decide +kernel
theorem k11021_117 : decode (qc 11021) 117 = .ok (.iload_n 2, 1) := by decide +kernel
theorem k11021_118 : decode (qc 11021) 118 = .ok (.if_icmp .le 10, 3) := by decide +kernel
theorem k11021_121 : decode (qc 11021) 121 = .ok (.iload_n 3, 1) := by decide +kernel
theorem k11021_122 : decode (qc 11021) 122 = .ok (.iconst 1, 1) := by decide +kernel
theorem k11021_123 : decode (qc 11021) 123 = .ok (.iload 4, 2) := by decide +kernel
theorem k11021_125 : decode (qc 11021) 125 = .ok (.ishl, 1) := by decide +kernel
theorem k11021_126 : decode (qc 11021) 126 = .ok (.ior, 1) := by decide +kernel
theorem k11021_127 : decode (qc 11021) 127 = .ok (.istore_n 3, 1) := by decide +kernel
theorem k11021_128 : decode (qc 11021) 128 = .ok (.iinc 4 1, 3) := by decide +kernel
theorem k11021_131 : decode (qc 11021) 131 = .ok (.goto (-80), 3) := by decide +kernel
theorem k11021_134 : decode (qc 11021) 134 = .ok (.iload_n 3, 1) := by decide +kernel
theorem k11021_135 : decode (qc 11021) 135 = .ok (.ireturn, 1) := by decide +kernel
theorem k11022_0 : decode (qc 11022) 0 = .ok (.aload_n 0, 1) := by decide +kernel
theorem k11022_1 : decode (qc 11022) 1 = .ok (.invokevirtual 231, 3) := by decide +kernel
theorem k11022_4 : decode (qc 11022) 4 = .ok (.ifCond .ne 6, 3) := by decide +kernel
theorem k11022_7 : decode (qc 11022) 7 = .ok (.ldc 153, 2) := by decide +kernel
theorem k11022_9 : decode (qc 11022) 9 = .ok (.ireturn, 1) := by decide +kernel
theorem k11022_10 : decode (qc 11022) 10 = .ok (.aload_n 0, 1) := by decide +kernel
theorem k11022_11 : decode (qc 11022) 11 = .ok (.iload_n 1, 1) := by decide +kernel
theorem k11022_12 : decode (qc 11022) 12 = .ok (.invokevirtual 144, 3) := by decide +kernel
theorem k11022_15 : decode (qc 11022) 15 = .ok (.ifCond .eq 11, 3) := by decide +kernel
theorem k11022_18 : decode (qc 11022) 18 = .ok (.aload_n 0, 1) := by decide +kernel
theorem k11022_19 : decode (qc 11022) 19 = .ok (.iload_n 2, 1) := by decide +kernel
theorem k11022_20 : decode (qc 11022) 20 = .ok (.invokevirtual 133, 3) := by decide +kernel
theorem k11022_23 : decode (qc 11022) 23 = .ok (.ifCond .ne 5, 3) := by decide +kernel
theorem k11022_26 : decode (qc 11022) 26 = .ok (.iconst (-1), 1) := by decide +kernel
theorem k11022_27 : decode (qc 11022) 27 = .ok (.ireturn, 1) := by decide +kernel
theorem k11022_28 : decode (qc 11022) 28 = .ok (.aload_n 0, 1) := by decide +kernel
theorem k11022_29 : decode (qc 11022) 29 = .ok (.invokevirtual 234, 3) := by decide +kernel
theorem k11022_32 : decode (qc 11022) 32 = .ok (.aload_n 0, 1) := by decide +kernel
theorem k11022_33 : decode (qc 11022) 33 = .ok (.getfield 35, 3) := by decide +kernel
theorem k11022_36 : decode (qc 11022) 36 = .ok (.iload_n 1, 1) := by decide +kernel
theorem k11022_37 : decode (qc 11022) 37 = .ok (.iload_n 2, 1) := by decide +kernel
theorem k11022_38 : decode (qc 11022) 38 = .ok (.aload_n 0, 1) := by decide +kernel
theorem k11022_39 : decode (qc 11022) 39 = .ok (.getfield 163, 3) := by decide +kernel
theorem k11022_42 : decode (qc 11022) 42 = .ok (.invokevirtual 238, 3) := by decide +kernel
theorem k11022_45 : decode (qc 11022) 45 = .ok (.ireturn, 1) := by decide +kernel
theorem k11023_0 : decode (qc 11023) 0 = .ok (.aload_n 0, 1) := by decide +kernel
theorem k11023_1 : decode (qc 11023) 1 = .ok (.invokevirtual 231, 3) := by decide +kernel
theorem k11023_4 : decode (qc 11023) 4 = .ok (.ifCond .ne 6, 3) := by decide +kernel
theorem k11023_7 : decode (qc 11023) 7 = .ok (.ldc 153, 2) := by decide +kernel
theorem k11023_9 : decode (qc 11023) 9 = .ok (.ireturn, 1) := by decide +kernel
theorem k11023_10 : decode (qc 11023) 10 = .ok (.aload_n 0, 1) := by decide +kernel
theorem k11023_11 : decode (qc 11023) 11 = .ok (.iload_n 1, 1) := by decide +kernel
theorem k11023_12 : decode (qc 11023) 12 = .ok (.invokevirtual 144, 3) := by decide +kernel
theorem k11023_15 : decode (qc 11023) 15 = .ok (.ifCond .ne 5, 3) := by decide +kernel
theorem k11023_18 : decode (qc 11023) 18 = .ok (.iconst (-1), 1) := by decide +kernel
theorem k11023_19 : decode (qc 11023) 19 = .ok (.ireturn, 1) := by decide +kernel
theorem k11023_20 : decode (qc 11023) 20 = .ok (.aload_n 0, 1) := by decide +kernel
theorem k11023_21 : decode (qc 11023) 21 = .ok (.invokevirtual 234, 3) := by decide +kernel
theorem k11023_24 : decode (qc 11023) 24 = .ok (.astore_n 2, 1) := by decide +kernel
theorem k11023_25 : decode (qc 11023) 25 = .ok (.aload_n 2, 1) := by decide +kernel
theorem k11023_26 : decode (qc 11023) 26 = .ok (.aload_n 0, 1) := by decide +kernel
theorem k11023_27 : decode (qc 11023) 27 = .ok (.getfield 35, 3) := by decide +kernel
theorem k11023_30 : decode (qc 11023) 30 = .ok (.iload_n 1, 1) := by decide +kernel
theorem k11023_31 : decode (qc 11023) 31 = .ok (.iconst (-1), 1) := by decide +kernel
theorem k11023_32 : decode (qc 11023) 32 = .ok (.aload_n 0, 1) := by decide +kernel
theorem k11023_33 : decode (qc 11023) 33 = .ok (.getfield 163, 3) := by decide +kernel
theorem k11023_36 : decode (qc 11023) 36 = .ok (.invokevirtual 238, 3) := by decide +kernel
theorem k11023_39 : decode (qc 11023) 39 = .ok (.iconst (-1), 1) := by decide +kernel
theorem k11023_40 : decode (qc 11023) 40 = .ok (.if_icmp .ne 5, 3) := by decide +kernel
theorem k11023_43 : decode (qc 11023) 43 = .ok (.iconst (-1), 1) := by decide +kernel
theorem k11023_44 : decode (qc 11023) 44 = .ok (.ireturn, 1) := by decide +kernel
theorem k11023_45 : decode (qc 11023) 45 = .ok (.iconst (-1), 1) := by decide +kernel
theorem k11023_46 : decode (qc 11023) 46 = .ok (.istore_n 3, 1) := by decide +kernel
theorem k11023_47 : decode (qc 11023) 47 = .ok (.iconst (-1), 1) := by decide +kernel
theorem k11023_48 : decode (qc 11023) 48 = .ok (.istore 4, 2) := by decide +kernel
theorem k11023_50 : decode (qc 11023) 50 = .ok (.iconst 0, 1) := by decide +kernel
theorem k11023_51 : decode (qc 11023) 51 = .ok (.istore 5, 2) := by decide +kernel
theorem k11023_53 : decode (qc 11023) 53 = .ok (.iload 5, 2) := by decide +kernel
theorem k11023_55 : decode (qc 11023) 55 = .ok (.aload_n 0, 1) := by decide +kernel
theorem k11023_56 : decode (qc 11023) 56 = .ok (.getfield 35, 3) := by decide +kernel
theorem k11023_59 : decode (qc 11023) 59 = .ok (.getfield 118, 3) := by decide +kernel
theorem k11023_62 : decode (qc 11023) 62 = .ok (.if_icmp .ge 48, 3) := by decide +kernel
theorem k11023_65 : decode (qc 11023) 65 = .ok (.aload_n 2, 1) := by decide +kernel
theorem k11023_66 : decode (qc 11023) 66 = .ok (.aload_n 0, 1) := by decide +kernel
theorem k11023_67 : decode (qc 11023) 67 = .ok (.getfield 35, 3) := by decide +kernel
theorem k11023_70 : decode (qc 11023) 70 = .ok (.iload_n 1, 1) := by decide +kernel
theorem k11023_71 : decode (qc 11023) 71 = .ok (.iload 5, 2) := by decide +kernel
theorem k11023_73 : decode (qc 11023) 73 = .ok (.aload_n 0, 1) := by decide +kernel
theorem k11023_74 : decode (qc 11023) 74 = .ok (.getfield 163, 3) := by decide +kernel
theorem k11023_77 : decode (qc 11023) 77 = .ok (.invokevirtual 238, 3) := by decide +kernel
theorem k11023_80 : decode (qc 11023) 80 = .ok (.istore 6, 2) := by decide +kernel
theorem k11023_82 : decode (qc 11023) 82 = .ok (.iload 6, 2) := by decide +kernel
theorem k11023_84 : decode (qc 11023) 84 = .ok (.iconst (-1), 1) := by decide +kernel
theorem k11023_85 : decode (qc 11023) 85 = .ok (.if_icmp .ne 6, 3) := by decide +kernel
theorem k11023_88 : decode (qc 11023) 88 = .ok (.iload 5, 2) := by decide +kernel
theorem k11023_90 : decode (qc 11023) 90 = .ok (.ireturn, 1) := by decide +kernel
theorem k11023_91 : decode (qc 11023) 91 = .ok (.iload 6, 2) := by decide +kernel
theorem k11023_93 : decode (qc 11023) 93 = .ok (.iload_n 3, 1) := by decide +kernel
theorem k11023_94 : decode (qc 11023) 94 = .ok (.if_icmp .le 10, 3) := by decide +kernel
theorem k11023_97 : decode (qc 11023) 97 = .ok (.iload 6, 2) := by decide +kernel
theorem k11023_99 : decode (qc 11023) 99 = .ok (.istore_n 3, 1) := by decide +kernel
theorem k11023_100 : decode (qc 11023) 100 = .ok (.iload 5, 2) := by decide +kernel
theorem k11023_102 : decode (qc 11023) 102 = .ok (.istore 4, 2) := by decide +kernel
theorem k11023_104 : decode (qc 11023) 104 = .ok (.iinc 5 1, 3) := by decide +kernel
theorem k11023_107 : decode (qc 11023) 107 = .ok (.goto (-54), 3) := by decide +kernel
theorem k11023_110 : decode (qc 11023) 110 = .ok (.iload 4, 2) := by decide +kernel
theorem k11023_112 : decode (qc 11023) 112 = .ok (.ireturn, 1) := by decide +kernel
theorem k11024_0 : decode (qc 11024) 0 = .ok (.aload_n 0, 1) := by decide +kernel
theorem k11024_1 : decode (qc 11024) 1 = .ok (.iload_n 1, 1) := by decide +kernel
theorem k11024_2 : decode (qc 11024) 2 = .ok (.invokevirtual 144, 3) := by decide +kernel
theorem k11024_5 : decode (qc 11024) 5 = .ok (.ifCond .eq 16, 3) := by decide +kernel
theorem k11024_8 : decode (qc 11024) 8 = .ok (.aload_n 0, 1) := by decide +kernel
theorem k11024_9 : decode (qc 11024) 9 = .ok (.iload_n 2, 1) := by decide +kernel
theorem k11024_10 : decode (qc 11024) 10 = .ok (.invokevirtual 144, 3) := by decide +kernel
theorem k11024_13 : decode (qc 11024) 13 = .ok (.ifCond .eq 8, 3) := by decide +kernel
theorem k11024_16 : decode (qc 11024) 16 = .ok (.iload_n 1, 1) := by decide +kernel
theorem k11024_17 : decode (qc 11024) 17 = .ok (.iload_n 2, 1) := by decide +kernel
theorem k11024_18 : decode (qc 11024) 18 = .ok (.if_icmp .ne 6, 3) := by decide +kernel
theorem k11024_21 : decode (qc 11024) 21 = .ok (.ldc 153, 2) := by decide +kernel
theorem k11024_23 : decode (qc 11024) 23 = .ok (.ireturn, 1) := by decide +kernel
theorem k11024_24 : decode (qc 11024) 24 = .ok (.iload_n 3, 1) := by decide +kernel
theorem k11024_25 : decode (qc 11024) 25 = .ok (.iconst 1, 1) := by decide +kernel
theorem k11024_26 : decode (qc 11024) 26 = .ok (.if_icmp .lt 17, 3) := by decide +kernel
theorem k11024_29 : decode (qc 11024) 29 = .ok (.iload_n 3, 1) := by decide +kernel
theorem k11024_30 : decode (qc 11024) 30 = .ok (.bipush 8, 2) := by decide +kernel
theorem k11024_32 : decode (qc 11024) 32 = .ok (.if_icmp .gt 11, 3) := by decide +kernel
theorem k11024_35 : decode (qc 11024) 35 = .ok (.iload 4, 2) := by decide +kernel
theorem k11024_37 : decode (qc 11024) 37 = .ok (.invokestatic 212, 3) := by decide +kernel
theorem k11024_40 : decode (qc 11024) 40 = .ok (.ifCond .ne 6, 3) := by decide +kernel
theorem k11024_43 : decode (qc 11024) 43 = .ok (.ldc 153, 2) := by decide +kernel
theorem k11024_45 : decode (qc 11024) 45 = .ok (.ireturn, 1) := by decide +kernel
theorem k11024_46 : decode (qc 11024) 46 = .ok (.aload_n 0, 1) := by decide +kernel
theorem k11024_47 : decode (qc 11024) 47 = .ok (.getfield 251, 3) := by decide +kernel
theorem k11024_50 : decode (qc 11024) 50 = .ok (.ifnonnull 14, 3) := by decide +kernel
theorem k11024_53 : decode (qc 11024) 53 = .ok (.aload_n 0, 1) := by decide +kernel
theorem k11024_54 : decode (qc 11024) 54 = .ok (.new 255, 3) := by decide +kernel
theorem k11024_57 : decode (qc 11024) 57 = .ok (.dup, 1) := by decide +kernel
theorem k11024_58 : decode (qc 11024) 58 = .ok (.invokespecial 257, 3) := by decide +kernel
theorem k11024_61 : decode (qc 11024) 61 = .ok (.putfield 251, 3) := by decide +kernel
theorem k11024_64 : decode (qc 11024) 64 = .ok (.aload_n 0, 1) := by decide +kernel
theorem k11024_65 : decode (qc 11024) 65 = .ok (.getfield 251, 3) := by decide +kernel
theorem k11024_68 : decode (qc 11024) 68 = .ok (.aload_n 0, 1) := by decide +kernel
theorem k11024_69 : decode (qc 11024) 69 = .ok (.getfield 35, 3) := by decide +kernel
theorem k11024_72 : decode (qc 11024) 72 = .ok (.iload_n 1, 1) := by decide +kernel
theorem k11024_73 : decode (qc 11024) 73 = .ok (.iload_n 2, 1) := by decide +kernel
theorem k11024_74 : decode (qc 11024) 74 = .ok (.iload_n 3, 1) := by decide +kernel
theorem k11024_75 : decode (qc 11024) 75 = .ok (.invokevirtual 258, 3) := by decide +kernel
theorem k11024_78 : decode (qc 11024) 78 = .ok (.iload 4, 2) := by decide +kernel
theorem k11024_80 : decode (qc 11024) 80 = .ok (.ifCond .ne 13, 3) := by decide +kernel
theorem k11024_83 : decode (qc 11024) 83 = .ok (.aload_n 0, 1) := by decide +kernel
theorem k11024_84 : decode (qc 11024) 84 = .ok (.getfield 251, 3) := by decide +kernel
theorem k11024_87 : decode (qc 11024) 87 = .ok (.getfield 262, 3) := by decide +kernel
theorem k11024_90 : decode (qc 11024) 90 = .ok (.goto 10, 3) := by decide +kernel
theorem k11024_93 : decode (qc 11024) 93 = .ok (.aload_n 0, 1) := by decide +kernel
theorem k11024_94 : decode (qc 11024) 94 = .ok (.getfield 251, 3) := by decide +kernel
theorem k11024_97 : decode (qc 11024) 97 = .ok (.getfield 265, 3) := by decide +kernel
theorem k11024_100 : decode (qc 11024) 100 = .ok (.ireturn, 1) := by decide +kernel
theorem k11025_0 : decode (qc 11025) 0 = .ok (.aload_n 0, 1) := by decide +kernel
theorem k11025_1 : decode (qc 11025) 1 = .ok (.iload_n 1, 1) := by decide +kernel
theorem k11025_2 : decode (qc 11025) 2 = .ok (.invokevirtual 133, 3) := by decide +kernel
theorem k11025_5 : decode (qc 11025) 5 = .ok (.ifCond .ne 5, 3) := by decide +kernel
theorem k11025_8 : decode (qc 11025) 8 = .ok (.iconst 0, 1) := by decide +kernel
theorem k11025_9 : decode (qc 11025) 9 = .ok (.ireturn, 1) := by decide +kernel
theorem k11025_10 : decode (qc 11025) 10 = .ok (.iload_n 2, 1) := by decide +kernel
theorem k11025_11 : decode (qc 11025) 11 = .ok (.iconst (-1), 1) := by decide +kernel
theorem k11025_12 : decode (qc 11025) 12 = .ok (.if_icmp .eq 19, 3) := by decide +kernel
theorem k11025_15 : decode (qc 11025) 15 = .ok (.iload_n 2, 1) := by decide +kernel
theorem k11025_16 : decode (qc 11025) 16 = .ok (.bipush 9, 2) := by decide +kernel
theorem k11025_18 : decode (qc 11025) 18 = .ok (.if_icmp .eq 13, 3) := by decide +kernel
theorem k11025_21 : decode (qc 11025) 21 = .ok (.aload_n 0, 1) := by decide +kernel
theorem k11025_22 : decode (qc 11025) 22 = .ok (.iload_n 2, 1) := by decide +kernel
theorem k11025_23 : decode (qc 11025) 23 = .ok (.invokevirtual 144, 3) := by decide +kernel
theorem k11025_26 : decode (qc 11025) 26 = .ok (.ifCond .ne 5, 3) := by decide +kernel
theorem k11025_29 : decode (qc 11025) 29 = .ok (.iconst 0, 1) := by decide +kernel
theorem k11025_30 : decode (qc 11025) 30 = .ok (.ireturn, 1) := by decide +kernel
theorem k11025_31 : decode (qc 11025) 31 = .ok (.aload_n 0, 1) := by decide +kernel
theorem k11025_32 : decode (qc 11025) 32 = .ok (.getfield 60, 3) := by decide +kernel
theorem k11025_35 : decode (qc 11025) 35 = .ok (.getfield 268, 3) := by decide +kernel
theorem k11025_38 : decode (qc 11025) 38 = .ok (.iload_n 1, 1) := by decide +kernel
theorem k11025_39 : decode (qc 11025) 39 = .ok (.iload_n 2, 1) := by decide +kernel
theorem k11025_40 : decode (qc 11025) 40 = .ok (.iastore, 1) := by decide +kernel
theorem k11025_41 : decode (qc 11025) 41 = .ok (.iconst 1, 1) := by decide +kernel
theorem k11025_42 : decode (qc 11025) 42 = .ok (.ireturn, 1) := by decide +kernel
theorem k11026_0 : decode (qc 11026) 0 = .ok (.aload_n 0, 1) := by decide +kernel
theorem k11026_1 : decode (qc 11026) 1 = .ok (.invokevirtual 271, 3) := by decide +kernel
theorem k11026_4 : decode (qc 11026) 4 = .ok (.ifCond .eq 13, 3) := by decide +kernel
theorem k11026_7 : decode (qc 11026) 7 = .ok (.iload_n 1, 1) := by decide +kernel
theorem k11026_8 : decode (qc 11026) 8 = .ok (.ifCond .lt 9, 3) := by decide +kernel
theorem k11026_11 : decode (qc 11026) 11 = .ok (.iload_n 1, 1) := by decide +kernel
theorem k11026_12 : decode (qc 11026) 12 = .ok (.bipush 12, 2) := by decide +kernel
theorem k11026_14 : decode (qc 11026) 14 = .ok (.if_icmp .le 7, 3) := by decide +kernel
theorem k11026_17 : decode (qc 11026) 17 = .ok (.ldc2_w 274, 3) := by decide +kernel
theorem k11026_20 : decode (qc 11026) 20 = .ok (.lreturn, 1) := by decide +kernel
theorem k11026_21 : decode (qc 11026) 21 = .ok (.aload_n 0, 1) := by decide +kernel
theorem k11026_22 : decode (qc 11026) 22 = .ok (.getfield 60, 3) := by decide +kernel
theorem k11026_25 : decode (qc 11026) 25 = .ok (.aload_n 0, 1) := by decide +kernel
theorem k11026_26 : decode (qc 11026) 26 = .ok (.getfield 35, 3) := by decide +kernel
theorem k11026_29 : decode (qc 11026) 29 = .ok (.iload_n 1, 1) := by decide +kernel
theorem k11026_30 : decode (qc 11026) 30 = .ok (.invokevirtual 276, 3) := by decide +kernel
theorem k11026_33 : decode (qc 11026) 33 = .ok (.lreturn, 1) := by decide +kernel
theorem k11027_0 : decode (qc 11027) 0 = .ok (.iconst (-1), 1) := by decide +kernel
theorem k11027_1 : decode (qc 11027) 1 = .ok (.istore_n 1, 1) := by decide +kernel
theorem k11027_2 : decode (qc 11027) 2 = .ok (.iconst 1, 1) := by decide +kernel
theorem k11027_3 : decode (qc 11027) 3 = .ok (.istore_n 2, 1) := by decide +kernel
theorem k11027_4 : decode (qc 11027) 4 = .ok (.iload_n 2, 1) := by decide +kernel
theorem k11027_5 : decode (qc 11027) 5 = .ok (.iconst 1, 1) := by decide +kernel
theorem k11027_6 : decode (qc 11027) 6 = .ok (.aload_n 0, 1) := by decide +kernel
theorem k11027_7 : decode (qc 11027) 7 = .ok (.getfield 35, 3) := by decide +kernel
theorem k11027_10 : decode (qc 11027) 10 = .ok (.getfield 280, 3) := by decide +kernel
theorem k11027_13 : decode (qc 11027) 13 = .ok (.ishl, 1) := by decide +kernel
theorem k11027_14 : decode (qc 11027) 14 = .ok (.if_icmp .ge 45, 3) := by decide +kernel
theorem k11027_17 : decode (qc 11027) 17 = .ok (.iload_n 1, 1) := by decide +kernel
theorem k11027_18 : decode (qc 11027) 18 = .ok (.iconst (-1), 1) := by decide +kernel
theorem k11027_19 : decode (qc 11027) 19 = .ok (.if_icmp .eq 14, 3) := by decide +kernel
theorem k11027_22 : decode (qc 11027) 22 = .ok (.iload_n 2, 1) := by decide +kernel
theorem k11027_23 : decode (qc 11027) 23 = .ok (.invokestatic 283, 3) := by decide +kernel
theorem k11027_26 : decode (qc 11027) 26 = .ok (.iload_n 1, 1) := by decide +kernel
theorem k11027_27 : decode (qc 11027) 27 = .ok (.invokestatic 283, 3) := by decide +kernel
theorem k11027_30 : decode (qc 11027) 30 = .ok (.if_icmp .ge 7, 3) := by decide +kernel
theorem k11027_33 : decode (qc 11027) 33 = .ok (.iconst 1, 1) := by decide +kernel
theorem k11027_34 : decode (qc 11027) 34 = .ok (.goto 4, 3) := by decide +kernel
theorem k11027_37 : decode (qc 11027) 37 = .ok (.iconst 0, 1) := by decide +kernel
theorem k11027_38 : decode (qc 11027) 38 = .ok (.istore_n 3, 1) := by decide +kernel
theorem k11027_39 : decode (qc 11027) 39 = .ok (.iload_n 3, 1) := by decide +kernel
theorem k11027_40 : decode (qc 11027) 40 = .ok (.ifCond .eq 13, 3) := by decide +kernel
theorem k11027_43 : decode (qc 11027) 43 = .ok (.aload_n 0, 1) := by decide +kernel
theorem k11027_44 : decode (qc 11027) 44 = .ok (.iload_n 2, 1) := by decide +kernel
theorem k11027_45 : decode (qc 11027) 45 = .ok (.invokevirtual 288, 3) := by decide +kernel
theorem k11027_48 : decode (qc 11027) 48 = .ok (.ifCond .eq 5, 3) := by decide +kernel
theorem k11027_51 : decode (qc 11027) 51 = .ok (.iload_n 2, 1) := by decide +kernel
theorem k11027_52 : decode (qc 11027) 52 = .ok (.istore_n 1, 1) := by decide +kernel
theorem k11027_53 : decode (qc 11027) 53 = .ok (.iinc 2 1, 3) := by decide +kernel
theorem k11027_56 : decode (qc 11027) 56 = .ok (.goto (-52), 3) := by decide +kernel
theorem k11027_59 : decode (qc 11027) 59 = .ok (.iload_n 1, 1) := by decide +kernel
theorem k11027_60 : decode (qc 11027) 60 = .ok (.ireturn, 1) := by decide +kernel
theorem k11028_0 : decode (qc 11028) 0 = .ok (.aload_n 0, 1) := by decide +kernel
theorem k11028_1 : decode (qc 11028) 1 = .ok (.invokevirtual 271, 3) := by decide +kernel
theorem k11028_4 : decode (qc 11028) 4 = .ok (.ifCond .eq 22, 3) := by decide +kernel
theorem k11028_7 : decode (qc 11028) 7 = .ok (.iload_n 1, 1) := by decide +kernel
theorem k11028_8 : decode (qc 11028) 8 = .ok (.iconst 1, 1) := by decide +kernel
theorem k11028_9 : decode (qc 11028) 9 = .ok (.if_icmp .lt 17, 3) := by decide +kernel
theorem k11028_12 : decode (qc 11028) 12 = .ok (.iload_n 1, 1) := by decide +kernel
theorem k11028_13 : decode (qc 11028) 13 = .ok (.bipush 40, 2) := by decide +kernel
theorem k11028_15 : decode (qc 11028) 15 = .ok (.aload_n 0, 1) := by decide +kernel
theorem k11028_16 : decode (qc 11028) 16 = .ok (.getfield 53, 3) := by decide +kernel
theorem k11028_19 : decode (qc 11028) 19 = .ok (.getfield 176, 3) := by decide +kernel
theorem k11028_22 : decode (qc 11028) 22 = .ok (.isub, 1) := by decide +kernel
theorem k11028_23 : decode (qc 11028) 23 = .ok (.if_icmp .le 5, 3) := by decide +kernel
theorem k11028_26 : decode (qc 11028) 26 = .ok (.iconst (-1), 1) := by decide +kernel
theorem k11028_27 : decode (qc 11028) 27 = .ok (.ireturn, 1) := by decide +kernel
theorem k11028_28 : decode (qc 11028) 28 = .ok (.aload_n 0, 1) := by decide +kernel
theorem k11028_29 : decode (qc 11028) 29 = .ok (.getfield 53, 3) := by decide +kernel
theorem k11028_32 : decode (qc 11028) 32 = .ok (.invokevirtual 166, 3) := by decide +kernel
theorem k11028_35 : decode (qc 11028) 35 = .ok (.istore 4, 2) := by decide +kernel
theorem k11028_37 : decode (qc 11028) 37 = .ok (.iload 4, 2) := by decide +kernel
theorem k11028_39 : decode (qc 11028) 39 = .ok (.iload_n 1, 1) := by decide +kernel
theorem k11028_40 : decode (qc 11028) 40 = .ok (.iadd, 1) := by decide +kernel
theorem k11028_41 : decode (qc 11028) 41 = .ok (.sipush 999, 3) := by decide +kernel
theorem k11028_44 : decode (qc 11028) 44 = .ok (.if_icmp .le 5, 3) := by decide +kernel
theorem k11028_47 : decode (qc 11028) 47 = .ok (.iconst (-1), 1) := by decide +kernel
theorem k11028_48 : decode (qc 11028) 48 = .ok (.ireturn, 1) := by decide +kernel
theorem k11028_49 : decode (qc 11028) 49 = .ok (.lload_n 2, 1) := by decide +kernel
theorem k11028_50 : decode (qc 11028) 50 = .ok (.lstore 5, 2) := by decide +kernel
theorem k11028_52 : decode (qc 11028) 52 = .ok (.iconst 0, 1) := by decide +kernel
theorem k11028_53 : decode (qc 11028) 53 = .ok (.istore 7, 2) := by decide +kernel
theorem k11028_55 : decode (qc 11028) 55 = .ok (.iload 7, 2) := by decide +kernel
theorem k11028_57 : decode (qc 11028) 57 = .ok (.iload_n 1, 1) := by decide +kernel
theorem k11028_58 : decode (qc 11028) 58 = .ok (.if_icmp .ge 77, 3) := by decide +kernel
theorem k11028_61 : decode (qc 11028) 61 = .ok (.lload 5, 2) := by decide +kernel
theorem k11028_63 : decode (qc 11028) 63 = .ok (.ldc2_w 291, 3) := by decide +kernel
theorem k11028_66 : decode (qc 11028) 66 = .ok (.lmul, 1) := by decide +kernel
theorem k11028_67 : decode (qc 11028) 67 = .ok (.ldc2_w 293, 3) := by decide +kernel
theorem k11028_70 : decode (qc 11028) 70 = .ok (.ladd, 1) := by decide +kernel
theorem k11028_71 : decode (qc 11028) 71 = .ok (.lstore 5, 2) := by decide +kernel
theorem k11028_73 : decode (qc 11028) 73 = .ok (.lload 5, 2) := by decide +kernel
theorem k11028_75 : decode (qc 11028) 75 = .ok (.aload_n 0, 1) := by decide +kernel
theorem k11028_76 : decode (qc 11028) 76 = .ok (.getfield 35, 3) := by decide +kernel
theorem k11028_79 : decode (qc 11028) 79 = .ok (.getfield 280, 3) := by decide +kernel
theorem k11028_82 : decode (qc 11028) 82 = .ok (.invokestatic 295, 3) := by decide +kernel
theorem k11028_85 : decode (qc 11028) 85 = .ok (.istore 8, 2) := by decide +kernel
theorem k11028_87 : decode (qc 11028) 87 = .ok (.lload 5, 2) := by decide +kernel
theorem k11028_89 : decode (qc 11028) 89 = .ok (.ldc2_w 291, 3) := by decide +kernel
theorem k11028_92 : decode (qc 11028) 92 = .ok (.lmul, 1) := by decide +kernel
theorem k11028_93 : decode (qc 11028) 93 = .ok (.ldc2_w 293, 3) := by decide +kernel
theorem k11028_96 : decode (qc 11028) 96 = .ok (.ladd, 1) := by decide +kernel
theorem k11028_97 : decode (qc 11028) 97 = .ok (.lstore 5, 2) := by decide +kernel
theorem k11028_99 : decode (qc 11028) 99 = .ok (.lload 5, 2) := by decide +kernel
theorem k11028_101 : decode (qc 11028) 101 = .ok (.aload_n 0, 1) := by decide +kernel
theorem k11028_102 : decode (qc 11028) 102 = .ok (.getfield 35, 3) := by decide +kernel
theorem k11028_105 : decode (qc 11028) 105 = .ok (.getfield 118, 3) := by decide +kernel
theorem k11028_108 : decode (qc 11028) 108 = .ok (.invokestatic 295, 3) := by decide +kernel
theorem k11028_111 : decode (qc 11028) 111 = .ok (.istore 9, 2) := by decide +kernel
theorem k11028_113 : decode (qc 11028) 113 = .ok (.iinc 4 1, 3) := by decide +kernel
theorem k11028_116 : decode (qc 11028) 116 = .ok (.aload_n 0, 1) := by decide +kernel
theorem k11028_117 : decode (qc 11028) 117 = .ok (.getfield 53, 3) := by decide +kernel
theorem k11028_120 : decode (qc 11028) 120 = .ok (.iload 8, 2) := by decide +kernel
theorem k11028_122 : decode (qc 11028) 122 = .ok (.iload 9, 2) := by decide +kernel
theorem k11028_124 : decode (qc 11028) 124 = .ok (.iload 4, 2) := by decide +kernel
theorem k11028_126 : decode (qc 11028) 126 = .ok (.invokevirtual 177, 3) := by decide +kernel
theorem k11028_129 : decode (qc 11028) 129 = .ok (.iinc 7 1, 3) := by decide +kernel
theorem k11028_132 : decode (qc 11028) 132 = .ok (.goto (-77), 3) := by decide +kernel
theorem k11028_135 : decode (qc 11028) 135 = .ok (.aload_n 0, 1) := by decide +kernel
theorem k11028_136 : decode (qc 11028) 136 = .ok (.getfield 53, 3) := by decide +kernel
theorem k11028_139 : decode (qc 11028) 139 = .ok (.getfield 176, 3) := by decide +kernel
theorem k11028_142 : decode (qc 11028) 142 = .ok (.ireturn, 1) := by decide +kernel
theorem k11029_0 : decode (qc 11029) 0 = .ok (.aload_n 0, 1) := by decide +kernel
theorem k11029_1 : decode (qc 11029) 1 = .ok (.iload_n 1, 1) := by decide +kernel
theorem k11029_2 : decode (qc 11029) 2 = .ok (.invokevirtual 133, 3) := by decide +kernel
theorem k11029_5 : decode (qc 11029) 5 = .ok (.ifCond .eq 12, 3) := by decide +kernel
theorem k11029_8 : decode (qc 11029) 8 = .ok (.iload_n 2, 1) := by decide +kernel
theorem k11029_9 : decode (qc 11029) 9 = .ok (.ifCond .lt 8, 3) := by decide +kernel
theorem k11029_12 : decode (qc 11029) 12 = .ok (.iload_n 3, 1) := by decide +kernel
theorem k11029_13 : decode (qc 11029) 13 = .ok (.iconst (-1), 1) := by decide +kernel
theorem k11029_14 : decode (qc 11029) 14 = .ok (.if_icmp .ge 6, 3) := by decide +kernel
theorem k11029_17 : decode (qc 11029) 17 = .ok (.ldc 153, 2) := by decide +kernel
theorem k11029_19 : decode (qc 11029) 19 = .ok (.ireturn, 1) := by decide +kernel
theorem k11029_20 : decode (qc 11029) 20 = .ok (.aload_n 0, 1) := by decide +kernel
theorem k11029_21 : decode (qc 11029) 21 = .ok (.iload_n 2, 1) := by decide +kernel
theorem k11029_22 : decode (qc 11029) 22 = .ok (.invokevirtual 196, 3) := by decide +kernel
theorem k11029_25 : decode (qc 11029) 25 = .ok (.aload_n 0, 1) := by decide +kernel
theorem k11029_26 : decode (qc 11029) 26 = .ok (.getfield 73, 3) := by decide +kernel
theorem k11029_29 : decode (qc 11029) 29 = .ok (.iload_n 1, 1) := by decide +kernel
theorem k11029_30 : decode (qc 11029) 30 = .ok (.invokevirtual 215, 3) := by decide +kernel
theorem k11029_33 : decode (qc 11029) 33 = .ok (.istore 4, 2) := by decide +kernel
theorem k11029_35 : decode (qc 11029) 35 = .ok (.iload 4, 2) := by decide +kernel
theorem k11029_37 : decode (qc 11029) 37 = .ok (.ifCond .eq 9, 3) := by decide +kernel
theorem k11029_40 : decode (qc 11029) 40 = .ok (.iload_n 3, 1) := by decide +kernel
theorem k11029_41 : decode (qc 11029) 41 = .ok (.iload 4, 2) := by decide +kernel
theorem k11029_43 : decode (qc 11029) 43 = .ok (.if_icmp .lt 5, 3) := by decide +kernel
theorem k11029_46 : decode (qc 11029) 46 = .ok (.iconst (-1), 1) := by decide +kernel
theorem k11029_47 : decode (qc 11029) 47 = .ok (.ireturn, 1) := by decide +kernel
theorem k11029_48 : decode (qc 11029) 48 = .ok (.iload_n 3, 1) := by decide +kernel
theorem k11029_49 : decode (qc 11029) 49 = .ok (.iconst (-1), 1) := by decide +kernel
theorem k11029_50 : decode (qc 11029) 50 = .ok (.if_icmp .ne 8, 3) := by decide +kernel
theorem k11029_53 : decode (qc 11029) 53 = .ok (.iload 4, 2) := by decide +kernel
theorem k11029_55 : decode (qc 11029) 55 = .ok (.goto 14, 3) := by decide +kernel
theorem k11029_58 : decode (qc 11029) 58 = .ok (.aload_n 0, 1) := by decide +kernel
theorem k11029_59 : decode (qc 11029) 59 = .ok (.getfield 73, 3) := by decide +kernel
theorem k11029_62 : decode (qc 11029) 62 = .ok (.iload_n 1, 1) := by decide +kernel
theorem k11029_63 : decode (qc 11029) 63 = .ok (.iload_n 3, 1) := by decide +kernel
theorem k11029_64 : decode (qc 11029) 64 = .ok (.iconst 1, 1) := by decide +kernel
theorem k11029_65 : decode (qc 11029) 65 = .ok (.iadd, 1) := by decide +kernel
theorem k11029_66 : decode (qc 11029) 66 = .ok (.invokevirtual 299, 3) := by decide +kernel
theorem k11029_69 : decode (qc 11029) 69 = .ok (.ireturn, 1) := by decide +kernel
theorem k11030_0 : decode (qc 11030) 0 = .ok (.aload_n 0, 1) := by decide +kernel
theorem k11030_1 : decode (qc 11030) 1 = .ok (.iload_n 1, 1) := by decide +kernel
theorem k11030_2 : decode (qc 11030) 2 = .ok (.invokevirtual 144, 3) := by decide +kernel
theorem k11030_5 : decode (qc 11030) 5 = .ok (.ifCond .eq 14, 3) := by decide +kernel
theorem k11030_8 : decode (qc 11030) 8 = .ok (.iload_n 3, 1) := by decide +kernel
theorem k11030_9 : decode (qc 11030) 9 = .ok (.invokestatic 212, 3) := by decide +kernel
theorem k11030_12 : decode (qc 11030) 12 = .ok (.ifCond .eq 7, 3) := by decide +kernel
theorem k11030_15 : decode (qc 11030) 15 = .ok (.iload_n 2, 1) := by decide +kernel
theorem k11030_16 : decode (qc 11030) 16 = .ok (.ifCond .ge 5, 3) := by decide +kernel
theorem k11030_19 : decode (qc 11030) 19 = .ok (.iconst (-1), 1) := by decide +kernel
theorem k11030_20 : decode (qc 11030) 20 = .ok (.ireturn, 1) := by decide +kernel
theorem k11030_21 : decode (qc 11030) 21 = .ok (.aload_n 0, 1) := by decide +kernel
theorem k11030_22 : decode (qc 11030) 22 = .ok (.iload_n 2, 1) := by decide +kernel
theorem k11030_23 : decode (qc 11030) 23 = .ok (.invokevirtual 196, 3) := by decide +kernel
theorem k11030_26 : decode (qc 11030) 26 = .ok (.iconst (-1), 1) := by decide +kernel
theorem k11030_27 : decode (qc 11030) 27 = .ok (.istore 4, 2) := by decide +kernel
theorem k11030_29 : decode (qc 11030) 29 = .ok (.iconst 0, 1) := by decide +kernel
theorem k11030_30 : decode (qc 11030) 30 = .ok (.istore 5, 2) := by decide +kernel
theorem k11030_32 : decode (qc 11030) 32 = .ok (.iload 5, 2) := by decide +kernel
theorem k11030_34 : decode (qc 11030) 34 = .ok (.iconst 1, 1) := by decide +kernel
theorem k11030_35 : decode (qc 11030) 35 = .ok (.aload_n 0, 1) := by decide +kernel
theorem k11030_36 : decode (qc 11030) 36 = .ok (.getfield 35, 3) := by decide +kernel
theorem k11030_39 : decode (qc 11030) 39 = .ok (.getfield 118, 3) := by decide +kernel
theorem k11030_42 : decode (qc 11030) 42 = .ok (.ishl, 1) := by decide +kernel
theorem k11030_43 : decode (qc 11030) 43 = .ok (.if_icmp .ge 70, 3) := by decide +kernel
theorem k11030_46 : decode (qc 11030) 46 = .ok (.iload 4, 2) := by decide +kernel
theorem k11030_48 : decode (qc 11030) 48 = .ok (.iconst (-1), 1) := by decide +kernel
theorem k11030_49 : decode (qc 11030) 49 = .ok (.if_icmp .eq 16, 3) := by decide +kernel
theorem k11030_52 : decode (qc 11030) 52 = .ok (.iload 5, 2) := by decide +kernel
theorem k11030_54 : decode (qc 11030) 54 = .ok (.invokestatic 283, 3) := by decide +kernel
theorem k11030_57 : decode (qc 11030) 57 = .ok (.iload 4, 2) := by decide +kernel
theorem k11030_59 : decode (qc 11030) 59 = .ok (.invokestatic 283, 3) := by decide +kernel
theorem k11030_62 : decode (qc 11030) 62 = .ok (.if_icmp .ge 7, 3) := by decide +kernel
theorem k11030_65 : decode (qc 11030) 65 = .ok (.iconst 1, 1) := by decide +kernel
theorem k11030_66 : decode (qc 11030) 66 = .ok (.goto 4, 3) := by decide +kernel
theorem k11030_69 : decode (qc 11030) 69 = .ok (.iconst 0, 1) := by decide +kernel
theorem k11030_70 : decode (qc 11030) 70 = .ok (.istore 6, 2) := by decide +kernel
theorem k11030_72 : decode (qc 11030) 72 = .ok (.iload 6, 2) := by decide +kernel
theorem k11030_74 : decode (qc 11030) 74 = .ok (.ifCond .eq 33, 3) := by decide +kernel
theorem k11030_77 : decode (qc 11030) 77 = .ok (.aload_n 0, 1) := by decide +kernel
theorem k11030_78 : decode (qc 11030) 78 = .ok (.getfield 35, 3) := by decide +kernel
theorem k11030_81 : decode (qc 11030) 81 = .ok (.iload_n 1, 1) := by decide +kernel
theorem k11030_82 : decode (qc 11030) 82 = .ok (.iload 5, 2) := by decide +kernel
theorem k11030_84 : decode (qc 11030) 84 = .ok (.invokevirtual 302, 3) := by decide +kernel
theorem k11030_87 : decode (qc 11030) 87 = .ok (.ifCond .eq 20, 3) := by decide +kernel
theorem k11030_90 : decode (qc 11030) 90 = .ok (.aload_n 0, 1) := by decide +kernel
theorem k11030_91 : decode (qc 11030) 91 = .ok (.getfield 73, 3) := by decide +kernel
theorem k11030_94 : decode (qc 11030) 94 = .ok (.iload_n 1, 1) := by decide +kernel
theorem k11030_95 : decode (qc 11030) 95 = .ok (.iload 5, 2) := by decide +kernel
theorem k11030_97 : decode (qc 11030) 97 = .ok (.invokevirtual 305, 3) := by decide +kernel
theorem k11030_100 : decode (qc 11030) 100 = .ok (.ifCond .eq 7, 3) := by decide +kernel
theorem k11030_103 : decode (qc 11030) 103 = .ok (.iload 5, 2) := by decide +kernel
theorem k11030_105 : decode (qc 11030) 105 = .ok (.istore 4, 2) := by decide +kernel
theorem k11030_107 : decode (qc 11030) 107 = .ok (.iinc 5 1, 3) := by decide +kernel
theorem k11030_110 : decode (qc 11030) 110 = .ok (.goto (-78), 3) := by decide +kernel
theorem k11030_113 : decode (qc 11030) 113 = .ok (.iload 4, 2) := by decide +kernel
theorem k11030_115 : decode (qc 11030) 115 = .ok (.iconst (-1), 1) := by decide +kernel
theorem k11030_116 : decode (qc 11030) 116 = .ok (.if_icmp .eq 8, 3) := by decide +kernel
theorem k11030_119 : decode (qc 11030) 119 = .ok (.iload_n 3, 1) := by decide +kernel
theorem k11030_120 : decode (qc 11030) 120 = .ok (.iconst 1, 1) := by decide +kernel
theorem k11030_121 : decode (qc 11030) 121 = .ok (.if_icmp .ne 8, 3) := by decide +kernel
theorem k11030_124 : decode (qc 11030) 124 = .ok (.iload 4, 2) := by decide +kernel
theorem k11030_126 : decode (qc 11030) 126 = .ok (.goto 8, 3) := by decide +kernel
theorem k11030_129 : decode (qc 11030) 129 = .ok (.iload 4, 2) := by decide +kernel
theorem k11030_131 : decode (qc 11030) 131 = .ok (.invokestatic 283, 3) := by decide +kernel
theorem k11030_134 : decode (qc 11030) 134 = .ok (.ireturn, 1) := by decide +kernel
theorem k11031_0 : decode (qc 11031) 0 = .ok (.aload_n 0, 1) := by decide +kernel
theorem k11031_1 : decode (qc 11031) 1 = .ok (.iload_n 1, 1) := by decide +kernel
theorem k11031_2 : decode (qc 11031) 2 = .ok (.invokevirtual 133, 3) := by decide +kernel
theorem k11031_5 : decode (qc 11031) 5 = .ok (.ifCond .eq 11, 3) := by decide +kernel
theorem k11031_8 : decode (qc 11031) 8 = .ok (.iload_n 2, 1) := by decide +kernel
theorem k11031_9 : decode (qc 11031) 9 = .ok (.iload_n 3, 1) := by decide +kernel
theorem k11031_10 : decode (qc 11031) 10 = .ok (.invokestatic 225, 3) := by decide +kernel
theorem k11031_13 : decode (qc 11031) 13 = .ok (.ifCond .ne 5, 3) := by decide +kernel
theorem k11031_16 : decode (qc 11031) 16 = .ok (.iconst (-1), 1) := by decide +kernel
theorem k11031_17 : decode (qc 11031) 17 = .ok (.ireturn, 1) := by decide +kernel
theorem k11031_18 : decode (qc 11031) 18 = .ok (.iconst (-1), 1) := by decide +kernel
theorem k11031_19 : decode (qc 11031) 19 = .ok (.istore 4, 2) := by decide +kernel
theorem k11031_21 : decode (qc 11031) 21 = .ok (.iload_n 2, 1) := by decide +kernel
theorem k11031_22 : decode (qc 11031) 22 = .ok (.ifCond .le 20, 3) := by decide +kernel
theorem k11031_25 : decode (qc 11031) 25 = .ok (.aload_n 0, 1) := by decide +kernel
theorem k11031_26 : decode (qc 11031) 26 = .ok (.iload_n 2, 1) := by decide +kernel
theorem k11031_27 : decode (qc 11031) 27 = .ok (.iconst 1, 1) := by decide +kernel
theorem k11031_28 : decode (qc 11031) 28 = .ok (.isub, 1) := by decide +kernel
theorem k11031_29 : decode (qc 11031) 29 = .ok (.invokevirtual 196, 3) := by decide +kernel
theorem k11031_32 : decode (qc 11031) 32 = .ok (.aload_n 0, 1) := by decide +kernel
theorem k11031_33 : decode (qc 11031) 33 = .ok (.getfield 73, 3) := by decide +kernel
theorem k11031_36 : decode (qc 11031) 36 = .ok (.iload_n 1, 1) := by decide +kernel
theorem k11031_37 : decode (qc 11031) 37 = .ok (.invokevirtual 202, 3) := by decide +kernel
theorem k11031_40 : decode (qc 11031) 40 = .ok (.istore 4, 2) := by decide +kernel
theorem k11031_42 : decode (qc 11031) 42 = .ok (.iconst 0, 1) := by decide +kernel
theorem k11031_43 : decode (qc 11031) 43 = .ok (.istore 5, 2) := by decide +kernel
theorem k11031_45 : decode (qc 11031) 45 = .ok (.iload_n 2, 1) := by decide +kernel
theorem k11031_46 : decode (qc 11031) 46 = .ok (.istore 6, 2) := by decide +kernel
theorem k11031_48 : decode (qc 11031) 48 = .ok (.iload 6, 2) := by decide +kernel
theorem k11031_50 : decode (qc 11031) 50 = .ok (.iload_n 3, 1) := by decide +kernel
theorem k11031_51 : decode (qc 11031) 51 = .ok (.if_icmp .gt 58, 3) := by decide +kernel
theorem k11031_54 : decode (qc 11031) 54 = .ok (.aload_n 0, 1) := by decide +kernel
theorem k11031_55 : decode (qc 11031) 55 = .ok (.iload 6, 2) := by decide +kernel
theorem k11031_57 : decode (qc 11031) 57 = .ok (.invokevirtual 196, 3) := by decide +kernel
theorem k11031_60 : decode (qc 11031) 60 = .ok (.aload_n 0, 1) := by decide +kernel
theorem k11031_61 : decode (qc 11031) 61 = .ok (.getfield 73, 3) := by decide +kernel
theorem k11031_64 : decode (qc 11031) 64 = .ok (.iload_n 1, 1) := by decide +kernel
theorem k11031_65 : decode (qc 11031) 65 = .ok (.invokevirtual 202, 3) := by decide +kernel
theorem k11031_68 : decode (qc 11031) 68 = .ok (.istore 7, 2) := by decide +kernel
theorem k11031_70 : decode (qc 11031) 70 = .ok (.iload 7, 2) := by decide +kernel
theorem k11031_72 : decode (qc 11031) 72 = .ok (.iload 4, 2) := by decide +kernel
theorem k11031_74 : decode (qc 11031) 74 = .ok (.if_icmp .eq 6, 3) := by decide +kernel
theorem k11031_77 : decode (qc 11031) 77 = .ok (.iinc 5 1, 3) := by decide +kernel
theorem k11031_80 : decode (qc 11031) 80 = .ok (.iload 7, 2) := by decide +kernel
theorem k11031_82 : decode (qc 11031) 82 = .ok (.istore 4, 2) := by decide +kernel
theorem k11031_84 : decode (qc 11031) 84 = .ok (.iload 6, 2) := by decide +kernel
theorem k11031_86 : decode (qc 11031) 86 = .ok (.iconst 1, 1) := by decide +kernel
theorem k11031_87 : decode (qc 11031) 87 = .ok (.iadd, 1) := by decide +kernel
theorem k11031_88 : decode (qc 11031) 88 = .ok (.aload_n 0, 1) := by decide +kernel
theorem k11031_89 : decode (qc 11031) 89 = .ok (.getfield 53, 3) := by decide +kernel
theorem k11031_92 : decode (qc 11031) 92 = .ok (.iload 6, 2) := by decide +kernel
theorem k11031_94 : decode (qc 11031) 94 = .ok (.aload_n 0, 1) := by decide +kernel
theorem k11031_95 : decode (qc 11031) 95 = .ok (.getfield 160, 3) := by decide +kernel
theorem k11031_98 : decode (qc 11031) 98 = .ok (.invokevirtual 308, 3) := by decide +kernel
theorem k11031_101 : decode (qc 11031) 101 = .ok (.invokestatic 170, 3) := by decide +kernel
theorem k11031_104 : decode (qc 11031) 104 = .ok (.istore 6, 2) := by decide +kernel
theorem k11031_106 : decode (qc 11031) 106 = .ok (.goto (-58), 3) := by decide +kernel
theorem k11031_109 : decode (qc 11031) 109 = .ok (.iload 5, 2) := by decide +kernel
theorem k11031_111 : decode (qc 11031) 111 = .ok (.ireturn, 1) := by decide +kernel
theorem k11032_0 : decode (qc 11032) 0 = .ok (.iload_n 2, 1) := by decide +kernel
theorem k11032_1 : decode (qc 11032) 1 = .ok (.invokestatic 212, 3) := by decide +kernel
theorem k11032_4 : decode (qc 11032) 4 = .ok (.ifCond .eq 7, 3) := by decide +kernel
theorem k11032_7 : decode (qc 11032) 7 = .ok (.iload_n 1, 1) := by decide +kernel
theorem k11032_8 : decode (qc 11032) 8 = .ok (.ifCond .ge 5, 3) := by decide +kernel
theorem k11032_11 : decode (qc 11032) 11 = .ok (.iconst (-1), 1) := by decide +kernel
theorem k11032_12 : decode (qc 11032) 12 = .ok (.ireturn, 1) := by decide +kernel
theorem k11032_13 : decode (qc 11032) 13 = .ok (.aload_n 0, 1) := by decide +kernel
theorem k11032_14 : decode (qc 11032) 14 = .ok (.iload_n 1, 1) := by decide +kernel
theorem k11032_15 : decode (qc 11032) 15 = .ok (.invokevirtual 196, 3) := by decide +kernel
theorem k11032_18 : decode (qc 11032) 18 = .ok (.iconst 0, 1) := by decide +kernel
theorem k11032_19 : decode (qc 11032) 19 = .ok (.istore_n 3, 1) := by decide +kernel
theorem k11032_20 : decode (qc 11032) 20 = .ok (.iload_n 3, 1) := by decide +kernel
theorem k11032_21 : decode (qc 11032) 21 = .ok (.aload_n 0, 1) := by decide +kernel
theorem k11032_22 : decode (qc 11032) 22 = .ok (.getfield 35, 3) := by decide +kernel
theorem k11032_25 : decode (qc 11032) 25 = .ok (.getfield 118, 3) := by decide +kernel
theorem k11032_28 : decode (qc 11032) 28 = .ok (.if_icmp .ge 23, 3) := by decide +kernel
theorem k11032_31 : decode (qc 11032) 31 = .ok (.aload_n 0, 1) := by decide +kernel
theorem k11032_32 : decode (qc 11032) 32 = .ok (.getfield 77, 3) := by decide +kernel
theorem k11032_35 : decode (qc 11032) 35 = .ok (.iload_n 3, 1) := by decide +kernel
theorem k11032_36 : decode (qc 11032) 36 = .ok (.aload_n 0, 1) := by decide +kernel
theorem k11032_37 : decode (qc 11032) 37 = .ok (.getfield 73, 3) := by decide +kernel
theorem k11032_40 : decode (qc 11032) 40 = .ok (.iload_n 3, 1) := by decide +kernel
theorem k11032_41 : decode (qc 11032) 41 = .ok (.invokevirtual 202, 3) := by decide +kernel
theorem k11032_44 : decode (qc 11032) 44 = .ok (.iastore, 1) := by decide +kernel
theorem k11032_45 : decode (qc 11032) 45 = .ok (.iinc 3 1, 3) := by decide +kernel
theorem k11032_48 : decode (qc 11032) 48 = .ok (.goto (-28), 3) := by decide +kernel
theorem k11032_51 : decode (qc 11032) 51 = .ok (.iconst 0, 1) := by decide +kernel
theorem k11032_52 : decode (qc 11032) 52 = .ok (.istore_n 3, 1) := by decide +kernel
theorem k11032_53 : decode (qc 11032) 53 = .ok (.iconst (-1), 1) := by decide +kernel
theorem k11032_54 : decode (qc 11032) 54 = .ok (.istore 4, 2) := by decide +kernel
theorem k11032_56 : decode (qc 11032) 56 = .ok (.iconst 0, 1) := by decide +kernel
theorem k11032_57 : decode (qc 11032) 57 = .ok (.istore 5, 2) := by decide +kernel
theorem k11032_59 : decode (qc 11032) 59 = .ok (.iload 5, 2) := by decide +kernel
theorem k11032_61 : decode (qc 11032) 61 = .ok (.aload_n 0, 1) := by decide +kernel
theorem k11032_62 : decode (qc 11032) 62 = .ok (.getfield 53, 3) := by decide +kernel
theorem k11032_65 : decode (qc 11032) 65 = .ok (.getfield 176, 3) := by decide +kernel
theorem k11032_68 : decode (qc 11032) 68 = .ok (.if_icmp .ge 45, 3) := by decide +kernel
theorem k11032_71 : decode (qc 11032) 71 = .ok (.aload_n 0, 1) := by decide +kernel
theorem k11032_72 : decode (qc 11032) 72 = .ok (.getfield 53, 3) := by decide +kernel
theorem k11032_75 : decode (qc 11032) 75 = .ok (.getfield 311, 3) := by decide +kernel
theorem k11032_78 : decode (qc 11032) 78 = .ok (.iload 5, 2) := by decide +kernel
theorem k11032_80 : decode (qc 11032) 80 = .ok (.iaload, 1) := by decide +kernel
theorem k11032_81 : decode (qc 11032) 81 = .ok (.iload_n 1, 1) := by decide +kernel
theorem k11032_82 : decode (qc 11032) 82 = .ok (.if_icmp .gt 31, 3) := by decide +kernel
theorem k11032_85 : decode (qc 11032) 85 = .ok (.aload_n 0, 1) := by decide +kernel
theorem k11032_86 : decode (qc 11032) 86 = .ok (.iload 5, 2) := by decide +kernel
theorem k11032_88 : decode (qc 11032) 88 = .ok (.iload_n 1, 1) := by decide +kernel
theorem k11032_89 : decode (qc 11032) 89 = .ok (.invokevirtual 314, 3) := by decide +kernel
theorem k11032_92 : decode (qc 11032) 92 = .ok (.istore 6, 2) := by decide +kernel
theorem k11032_94 : decode (qc 11032) 94 = .ok (.iload 6, 2) := by decide +kernel
theorem k11032_96 : decode (qc 11032) 96 = .ok (.iload_n 3, 1) := by decide +kernel
theorem k11032_97 : decode (qc 11032) 97 = .ok (.if_icmp .le 10, 3) := by decide +kernel
theorem k11032_100 : decode (qc 11032) 100 = .ok (.iload 6, 2) := by decide +kernel
theorem k11032_102 : decode (qc 11032) 102 = .ok (.istore_n 3, 1) := by decide +kernel
theorem k11032_103 : decode (qc 11032) 103 = .ok (.iload 5, 2) := by decide +kernel
theorem k11032_105 : decode (qc 11032) 105 = .ok (.istore 4, 2) := by decide +kernel
theorem k11032_107 : decode (qc 11032) 107 = .ok (.iinc 5 1, 3) := by decide +kernel
theorem k11032_110 : decode (qc 11032) 110 = .ok (.goto (-51), 3) := by decide +kernel
theorem k11032_113 : decode (qc 11032) 113 = .ok (.iload 4, 2) := by decide +kernel
theorem k11032_115 : decode (qc 11032) 115 = .ok (.iconst (-1), 1) := by decide +kernel
theorem k11032_116 : decode (qc 11032) 116 = .ok (.if_icmp .eq 7, 3) := by decide +kernel
theorem k11032_119 : decode (qc 11032) 119 = .ok (.iload_n 2, 1) := by decide +kernel
theorem k11032_120 : decode (qc 11032) 120 = .ok (.ifCond .ne 8, 3) := by decide +kernel
theorem k11032_123 : decode (qc 11032) 123 = .ok (.iload 4, 2) := by decide +kernel
theorem k11032_125 : decode (qc 11032) 125 = .ok (.goto 4, 3) := by decide +kernel
theorem k11032_128 : decode (qc 11032) 128 = .ok (.iload_n 3, 1) := by decide +kernel
theorem k11032_129 : decode (qc 11032) 129 = .ok (.ireturn, 1) := by decide +kernel
theorem k11033_0 : decode (qc 11033) 0 = .ok (.aload_n 0, 1) := by decide +kernel
theorem k11033_1 : decode (qc 11033) 1 = .ok (.iload_n 1, 1) := by decide +kernel
theorem k11033_2 : decode (qc 11033) 2 = .ok (.invokevirtual 144, 3) := by decide +kernel
theorem k11033_5 : decode (qc 11033) 5 = .ok (.ifCond .eq 19, 3) := by decide +kernel
theorem k11033_8 : decode (qc 11033) 8 = .ok (.iload_n 2, 1) := by decide +kernel
theorem k11033_9 : decode (qc 11033) 9 = .ok (.iload_n 3, 1) := by decide +kernel
theorem k11033_10 : decode (qc 11033) 10 = .ok (.invokestatic 225, 3) := by decide +kernel
theorem k11033_13 : decode (qc 11033) 13 = .ok (.ifCond .eq 11, 3) := by decide +kernel
theorem k11033_16 : decode (qc 11033) 16 = .ok (.iload 4, 2) := by decide +kernel
theorem k11033_18 : decode (qc 11033) 18 = .ok (.invokestatic 212, 3) := by decide +kernel
theorem k11033_21 : decode (qc 11033) 21 = .ok (.ifCond .ne 6, 3) := by decide +kernel
theorem k11033_24 : decode (qc 11033) 24 = .ok (.ldc 153, 2) := by decide +kernel
theorem k11033_26 : decode (qc 11033) 26 = .ok (.ireturn, 1) := by decide +kernel
theorem k11033_27 : decode (qc 11033) 27 = .ok (.iconst 0, 1) := by decide +kernel
theorem k11033_28 : decode (qc 11033) 28 = .ok (.istore 5, 2) := by decide +kernel
theorem k11033_30 : decode (qc 11033) 30 = .ok (.iconst (-1), 1) := by decide +kernel
theorem k11033_31 : decode (qc 11033) 31 = .ok (.istore 6, 2) := by decide +kernel
theorem k11033_33 : decode (qc 11033) 33 = .ok (.iload_n 2, 1) := by decide +kernel
theorem k11033_34 : decode (qc 11033) 34 = .ok (.istore 7, 2) := by decide +kernel
theorem k11033_36 : decode (qc 11033) 36 = .ok (.iload_n 2, 1) := by decide +kernel
theorem k11033_37 : decode (qc 11033) 37 = .ok (.istore 8, 2) := by decide +kernel
theorem k11033_39 : decode (qc 11033) 39 = .ok (.iload 8, 2) := by decide +kernel
theorem k11033_41 : decode (qc 11033) 41 = .ok (.iload_n 3, 1) := by decide +kernel
theorem k11033_42 : decode (qc 11033) 42 = .ok (.if_icmp .ge 81, 3) := by decide +kernel
theorem k11033_45 : decode (qc 11033) 45 = .ok (.aload_n 0, 1) := by decide +kernel
theorem k11033_46 : decode (qc 11033) 46 = .ok (.iload 8, 2) := by decide +kernel
theorem k11033_48 : decode (qc 11033) 48 = .ok (.invokevirtual 196, 3) := by decide +kernel
theorem k11033_51 : decode (qc 11033) 51 = .ok (.iload 8, 2) := by decide +kernel
theorem k11033_53 : decode (qc 11033) 53 = .ok (.iconst 1, 1) := by decide +kernel
theorem k11033_54 : decode (qc 11033) 54 = .ok (.iadd, 1) := by decide +kernel
theorem k11033_55 : decode (qc 11033) 55 = .ok (.iload_n 3, 1) := by decide +kernel
theorem k11033_56 : decode (qc 11033) 56 = .ok (.aload_n 0, 1) := by decide +kernel
theorem k11033_57 : decode (qc 11033) 57 = .ok (.getfield 53, 3) := by decide +kernel
theorem k11033_60 : decode (qc 11033) 60 = .ok (.iload 8, 2) := by decide +kernel
theorem k11033_62 : decode (qc 11033) 62 = .ok (.aload_n 0, 1) := by decide +kernel
theorem k11033_63 : decode (qc 11033) 63 = .ok (.getfield 160, 3) := by decide +kernel
theorem k11033_66 : decode (qc 11033) 66 = .ok (.invokevirtual 308, 3) := by decide +kernel
theorem k11033_69 : decode (qc 11033) 69 = .ok (.invokestatic 317, 3) := by decide +kernel
theorem k11033_72 : decode (qc 11033) 72 = .ok (.invokestatic 170, 3) := by decide +kernel
theorem k11033_75 : decode (qc 11033) 75 = .ok (.istore 9, 2) := by decide +kernel
theorem k11033_77 : decode (qc 11033) 77 = .ok (.aload_n 0, 1) := by decide +kernel
theorem k11033_78 : decode (qc 11033) 78 = .ok (.getfield 73, 3) := by decide +kernel
theorem k11033_81 : decode (qc 11033) 81 = .ok (.iload_n 1, 1) := by decide +kernel
theorem k11033_82 : decode (qc 11033) 82 = .ok (.invokevirtual 205, 3) := by decide +kernel
theorem k11033_85 : decode (qc 11033) 85 = .ok (.ifCond .eq 10, 3) := by decide +kernel
theorem k11033_88 : decode (qc 11033) 88 = .ok (.iload 9, 2) := by decide +kernel
theorem k11033_90 : decode (qc 11033) 90 = .ok (.istore 7, 2) := by decide +kernel
theorem k11033_92 : decode (qc 11033) 92 = .ok (.goto 24, 3) := by decide +kernel
theorem k11033_95 : decode (qc 11033) 95 = .ok (.iload 9, 2) := by decide +kernel
theorem k11033_97 : decode (qc 11033) 97 = .ok (.iload 7, 2) := by decide +kernel
theorem k11033_99 : decode (qc 11033) 99 = .ok (.isub, 1) := by decide +kernel
theorem k11033_100 : decode (qc 11033) 100 = .ok (.iload 5, 2) := by decide +kernel
theorem k11033_102 : decode (qc 11033) 102 = .ok (.if_icmp .le 14, 3) := by decide +kernel
theorem k11033_105 : decode (qc 11033) 105 = .ok (.iload 9, 2) := by decide +kernel
theorem k11033_107 : decode (qc 11033) 107 = .ok (.iload 7, 2) := by decide +kernel
theorem k11033_109 : decode (qc 11033) 109 = .ok (.isub, 1) := by decide +kernel
theorem k11033_110 : decode (qc 11033) 110 = .ok (.istore 5, 2) := by decide +kernel
theorem k11033_112 : decode (qc 11033) 112 = .ok (.iload 7, 2) := by decide +kernel
theorem k11033_114 : decode (qc 11033) 114 = .ok (.istore 6, 2) := by decide +kernel
theorem k11033_116 : decode (qc 11033) 116 = .ok (.iload 9, 2) := by decide +kernel
theorem k11033_118 : decode (qc 11033) 118 = .ok (.istore 8, 2) := by decide +kernel
theorem k11033_120 : decode (qc 11033) 120 = .ok (.goto (-81), 3) := by decide +kernel
theorem k11033_123 : decode (qc 11033) 123 = .ok (.iload 4, 2) := by decide +kernel
theorem k11033_125 : decode (qc 11033) 125 = .ok (.ifCond .ne 8, 3) := by decide +kernel
theorem k11033_128 : decode (qc 11033) 128 = .ok (.iload 5, 2) := by decide +kernel
theorem k11033_130 : decode (qc 11033) 130 = .ok (.goto 5, 3) := by decide +kernel
theorem k11033_133 : decode (qc 11033) 133 = .ok (.iload 6, 2) := by decide +kernel
theorem k11033_135 : decode (qc 11033) 135 = .ok (.ireturn, 1) := by decide +kernel
theorem k11034_0 : decode (qc 11034) 0 = .ok (.aload_n 0, 1) := by decide +kernel
theorem k11034_1 : decode (qc 11034) 1 = .ok (.iload_n 1, 1) := by decide +kernel
theorem k11034_2 : decode (qc 11034) 2 = .ok (.invokevirtual 144, 3) := by decide +kernel
theorem k11034_5 : decode (qc 11034) 5 = .ok (.ifCond .eq 19, 3) := by decide +kernel
theorem k11034_8 : decode (qc 11034) 8 = .ok (.iload_n 2, 1) := by decide +kernel
theorem k11034_9 : decode (qc 11034) 9 = .ok (.iload_n 3, 1) := by decide +kernel
theorem k11034_10 : decode (qc 11034) 10 = .ok (.invokestatic 225, 3) := by decide +kernel
theorem k11034_13 : decode (qc 11034) 13 = .ok (.ifCond .eq 11, 3) := by decide +kernel
theorem k11034_16 : decode (qc 11034) 16 = .ok (.iload 4, 2) := by decide +kernel
theorem k11034_18 : decode (qc 11034) 18 = .ok (.invokestatic 212, 3) := by decide +kernel
theorem k11034_21 : decode (qc 11034) 21 = .ok (.ifCond .ne 5, 3) := by decide +kernel
theorem k11034_24 : decode (qc 11034) 24 = .ok (.iconst (-1), 1) := by decide +kernel
theorem k11034_25 : decode (qc 11034) 25 = .ok (.ireturn, 1) := by decide +kernel
theorem k11034_26 : decode (qc 11034) 26 = .ok (.aload_n 0, 1) := by decide +kernel
theorem k11034_27 : decode (qc 11034) 27 = .ok (.iload_n 1, 1) := by decide +kernel
theorem k11034_28 : decode (qc 11034) 28 = .ok (.iload_n 2, 1) := by decide +kernel
theorem k11034_29 : decode (qc 11034) 29 = .ok (.iload_n 3, 1) := by decide +kernel
theorem k11034_30 : decode (qc 11034) 30 = .ok (.invokevirtual 228, 3) := by decide +kernel
theorem k11034_33 : decode (qc 11034) 33 = .ok (.iconst 0, 1) := by decide +kernel
theorem k11034_34 : decode (qc 11034) 34 = .ok (.istore 5, 2) := by decide +kernel
theorem k11034_36 : decode (qc 11034) 36 = .ok (.iconst (-1), 1) := by decide +kernel
theorem k11034_37 : decode (qc 11034) 37 = .ok (.istore 6, 2) := by decide +kernel
theorem k11034_39 : decode (qc 11034) 39 = .ok (.iconst 0, 1) := by decide +kernel
theorem k11034_40 : decode (qc 11034) 40 = .ok (.istore 7, 2) := by decide +kernel
theorem k11034_42 : decode (qc 11034) 42 = .ok (.iload 7, 2) := by decide +kernel
theorem k11034_44 : decode (qc 11034) 44 = .ok (.aload_n 0, 1) := by decide +kernel
theorem k11034_45 : decode (qc 11034) 45 = .ok (.getfield 35, 3) := by decide +kernel
theorem k11034_48 : decode (qc 11034) 48 = .ok (.getfield 118, 3) := by decide +kernel
theorem k11034_51 : decode (qc 11034) 51 = .ok (.if_icmp .ge 34, 3) := by decide +kernel
theorem k11034_54 : decode (qc 11034) 54 = .ok (.aload_n 0, 1) := by decide +kernel
theorem k11034_55 : decode (qc 11034) 55 = .ok (.getfield 77, 3) := by decide +kernel
theorem k11034_58 : decode (qc 11034) 58 = .ok (.iload 7, 2) := by decide +kernel
theorem k11034_60 : decode (qc 11034) 60 = .ok (.iaload, 1) := by decide +kernel
theorem k11034_61 : decode (qc 11034) 61 = .ok (.iload 5, 2) := by decide +kernel
theorem k11034_63 : decode (qc 11034) 63 = .ok (.if_icmp .le 16, 3) := by decide +kernel
theorem k11034_66 : decode (qc 11034) 66 = .ok (.aload_n 0, 1) := by decide +kernel
theorem k11034_67 : decode (qc 11034) 67 = .ok (.getfield 77, 3) := by decide +kernel
theorem k11034_70 : decode (qc 11034) 70 = .ok (.iload 7, 2) := by decide +kernel
theorem k11034_72 : decode (qc 11034) 72 = .ok (.iaload, 1) := by decide +kernel
theorem k11034_73 : decode (qc 11034) 73 = .ok (.istore 5, 2) := by decide +kernel
theorem k11034_75 : decode (qc 11034) 75 = .ok (.iload 7, 2) := by decide +kernel
theorem k11034_77 : decode (qc 11034) 77 = .ok (.istore 6, 2) := by decide +kernel
theorem k11034_79 : decode (qc 11034) 79 = .ok (.iinc 7 1, 3) := by decide +kernel
theorem k11034_82 : decode (qc 11034) 82 = .ok (.goto (-40), 3) := by decide +kernel
theorem k11034_85 : decode (qc 11034) 85 = .ok (.iload 6, 2) := by decide +kernel
theorem k11034_87 : decode (qc 11034) 87 = .ok (.iconst (-1), 1) := by decide +kernel
theorem k11034_88 : decode (qc 11034) 88 = .ok (.if_icmp .eq 8, 3) := by decide +kernel
theorem k11034_91 : decode (qc 11034) 91 = .ok (.iload 4, 2) := by decide +kernel
theorem k11034_93 : decode (qc 11034) 93 = .ok (.ifCond .ne 8, 3) := by decide +kernel
theorem k11034_96 : decode (qc 11034) 96 = .ok (.iload 6, 2) := by decide +kernel
theorem k11034_98 : decode (qc 11034) 98 = .ok (.goto 5, 3) := by decide +kernel
theorem k11034_101 : decode (qc 11034) 101 = .ok (.iload 5, 2) := by decide +kernel
theorem k11034_103 : decode (qc 11034) 103 = .ok (.ireturn, 1) := by decide +kernel
theorem k11035_0 : decode (qc 11035) 0 = .ok (.aload_n 0, 1) := by decide +kernel
theorem k11035_1 : decode (qc 11035) 1 = .ok (.invokevirtual 271, 3) := by decide +kernel
theorem k11035_4 : decode (qc 11035) 4 = .ok (.ifCond .ne 5, 3) := by decide +kernel
theorem k11035_7 : decode (qc 11035) 7 = .ok (.iconst (-1), 1) := by decide +kernel
theorem k11035_8 : decode (qc 11035) 8 = .ok (.ireturn, 1) := by decide +kernel
theorem k11035_9 : decode (qc 11035) 9 = .ok (.aload_n 0, 1) := by decide +kernel
theorem k11035_10 : decode (qc 11035) 10 = .ok (.getfield 64, 3) := by decide +kernel
theorem k11035_13 : decode (qc 11035) 13 = .ok (.aload_n 0, 1) := by decide +kernel
theorem k11035_14 : decode (qc 11035) 14 = .ok (.getfield 53, 3) := by decide +kernel
theorem k11035_17 : decode (qc 11035) 17 = .ok (.invokevirtual 320, 3) := by decide +kernel
theorem k11035_20 : decode (qc 11035) 20 = .ok (.aload_n 0, 1) := by decide +kernel
theorem k11035_21 : decode (qc 11035) 21 = .ok (.getfield 67, 3) := by decide +kernel
theorem k11035_24 : decode (qc 11035) 24 = .ok (.aload_n 0, 1) := by decide +kernel
theorem k11035_25 : decode (qc 11035) 25 = .ok (.getfield 60, 3) := by decide +kernel
theorem k11035_28 : decode (qc 11035) 28 = .ok (.invokevirtual 323, 3) := by decide +kernel
theorem k11035_31 : decode (qc 11035) 31 = .ok (.aload_n 0, 1) := by decide +kernel
theorem k11035_32 : decode (qc 11035) 32 = .ok (.iconst 1, 1) := by decide +kernel
theorem k11035_33 : decode (qc 11035) 33 = .ok (.putfield 114, 3) := by decide +kernel
theorem k11035_36 : decode (qc 11035) 36 = .ok (.aload_n 0, 1) := by decide +kernel
theorem k11035_37 : decode (qc 11035) 37 = .ok (.getfield 53, 3) := by decide +kernel
theorem k11035_40 : decode (qc 11035) 40 = .ok (.getfield 176, 3) := by decide +kernel
theorem k11035_43 : decode (qc 11035) 43 = .ok (.ireturn, 1) := by decide +kernel
theorem k11036_0 : decode (qc 11036) 0 = .ok (.aload_n 0, 1) := by decide +kernel
theorem k11036_1 : decode (qc 11036) 1 = .ok (.getfield 114, 3) := by decide +kernel
theorem k11036_4 : decode (qc 11036) 4 = .ok (.ifCond .ne 5, 3) := by decide +kernel
theorem k11036_7 : decode (qc 11036) 7 = .ok (.iconst (-1), 1) := by decide +kernel
theorem k11036_8 : decode (qc 11036) 8 = .ok (.ireturn, 1) := by decide +kernel
theorem k11036_9 : decode (qc 11036) 9 = .ok (.aload_n 0, 1) := by decide +kernel
theorem k11036_10 : decode (qc 11036) 10 = .ok (.getfield 53, 3) := by decide +kernel
theorem k11036_13 : decode (qc 11036) 13 = .ok (.aload_n 0, 1) := by decide +kernel
theorem k11036_14 : decode (qc 11036) 14 = .ok (.getfield 64, 3) := by decide +kernel
theorem k11036_17 : decode (qc 11036) 17 = .ok (.invokevirtual 320, 3) := by decide +kernel
theorem k11036_20 : decode (qc 11036) 20 = .ok (.aload_n 0, 1) := by decide +kernel
theorem k11036_21 : decode (qc 11036) 21 = .ok (.getfield 60, 3) := by decide +kernel
theorem k11036_24 : decode (qc 11036) 24 = .ok (.aload_n 0, 1) := by decide +kernel
theorem k11036_25 : decode (qc 11036) 25 = .ok (.getfield 67, 3) := by decide +kernel
theorem k11036_28 : decode (qc 11036) 28 = .ok (.invokevirtual 323, 3) := by decide +kernel
theorem k11036_31 : decode (qc 11036) 31 = .ok (.aload_n 0, 1) := by decide +kernel
theorem k11036_32 : decode (qc 11036) 32 = .ok (.getfield 53, 3) := by decide +kernel
theorem k11036_35 : decode (qc 11036) 35 = .ok (.getfield 176, 3) := by decide +kernel
theorem k11036_38 : decode (qc 11036) 38 = .ok (.ireturn, 1) := by decide +kernel
theorem k11037_0 : decode (qc 11037) 0 = .ok (.iload_n 1, 1) := by decide +kernel
theorem k11037_1 : decode (qc 11037) 1 = .ok (.tableswitch 123 0 9 #[55, 63, 71, 79, 87, 92, 100, 108, 113, 118], 55) := by decide +kernel
theorem k11037_56 : decode (qc 11037) 56 = .ok (.aload_n 0, 1) := by decide +kernel
theorem k11037_57 : decode (qc 11037) 57 = .ok (.getfield 35, 3) := by decide +kernel
theorem k11037_60 : decode (qc 11037) 60 = .ok (.getfield 326, 3) := by decide +kernel
theorem k11037_63 : decode (qc 11037) 63 = .ok (.ireturn, 1) := by decide +kernel
theorem k11037_64 : decode (qc 11037) 64 = .ok (.aload_n 0, 1) := by decide +kernel
theorem k11037_65 : decode (qc 11037) 65 = .ok (.getfield 35, 3) := by decide +kernel
theorem k11037_68 : decode (qc 11037) 68 = .ok (.getfield 118, 3) := by decide +kernel
theorem k11037_71 : decode (qc 11037) 71 = .ok (.ireturn, 1) := by decide +kernel
theorem k11037_72 : decode (qc 11037) 72 = .ok (.aload_n 0, 1) := by decide +kernel
theorem k11037_73 : decode (qc 11037) 73 = .ok (.getfield 35, 3) := by decide +kernel
theorem k11037_76 : decode (qc 11037) 76 = .ok (.getfield 280, 3) := by decide +kernel
theorem k11037_79 : decode (qc 11037) 79 = .ok (.ireturn, 1) := by decide +kernel
theorem k11037_80 : decode (qc 11037) 80 = .ok (.aload_n 0, 1) := by decide +kernel
theorem k11037_81 : decode (qc 11037) 81 = .ok (.getfield 35, 3) := by decide +kernel
theorem k11037_84 : decode (qc 11037) 84 = .ok (.getfield 150, 3) := by decide +kernel
theorem k11037_87 : decode (qc 11037) 87 = .ok (.ireturn, 1) := by decide +kernel
theorem k11037_88 : decode (qc 11037) 88 = .ok (.aload_n 0, 1) := by decide +kernel
theorem k11037_89 : decode (qc 11037) 89 = .ok (.getfield 121, 3) := by decide +kernel
theorem k11037_92 : decode (qc 11037) 92 = .ok (.ireturn, 1) := by decide +kernel
theorem k11037_93 : decode (qc 11037) 93 = .ok (.aload_n 0, 1) := by decide +kernel
theorem k11037_94 : decode (qc 11037) 94 = .ok (.getfield 10, 3) := by decide +kernel
theorem k11037_97 : decode (qc 11037) 97 = .ok (.getfield 85, 3) := by decide +kernel
theorem k11037_100 : decode (qc 11037) 100 = .ok (.ireturn, 1) := by decide +kernel
theorem k11037_101 : decode (qc 11037) 101 = .ok (.aload_n 0, 1) := by decide +kernel
theorem k11037_102 : decode (qc 11037) 102 = .ok (.getfield 53, 3) := by decide +kernel
theorem k11037_105 : decode (qc 11037) 105 = .ok (.getfield 176, 3) := by decide +kernel
theorem k11037_108 : decode (qc 11037) 108 = .ok (.ireturn, 1) := by decide +kernel
theorem k11037_109 : decode (qc 11037) 109 = .ok (.aload_n 0, 1) := by decide +kernel
theorem k11037_110 : decode (qc 11037) 110 = .ok (.getfield 46, 3) := by decide +kernel
theorem k11037_113 : decode (qc 11037) 113 = .ok (.ireturn, 1) := by decide +kernel
theorem k11037_114 : decode (qc 11037) 114 = .ok (.aload_n 0, 1) := by decide +kernel
theorem k11037_115 : decode (qc 11037) 115 = .ok (.getfield 160, 3) := by decide +kernel
theorem k11037_118 : decode (qc 11037) 118 = .ok (.ireturn, 1) := by decide +kernel
theorem k11037_119 : decode (qc 11037) 119 = .ok (.aload_n 0, 1) := by decide +kernel
theorem k11037_120 : decode (qc 11037) 120 = .ok (.getfield 163, 3) := by decide +kernel
theorem k11037_123 : decode (qc 11037) 123 = .ok (.ireturn, 1) := by decide +kernel
theorem k11037_124 : decode (qc 11037) 124 = .ok (.ldc 153, 2) := by decide +kernel
theorem k11037_126 : decode (qc 11037) 126 = .ok (.ireturn, 1) := by decide +kernel
theorem k11038_0 : decode (qc 11038) 0 = .ok (.aload_n 0, 1) := by decide +kernel
theorem k11038_1 : decode (qc 11038) 1 = .ok (.getfield 35, 3) := by decide +kernel
theorem k11038_4 : decode (qc 11038) 4 = .ok (.getfield 118, 3) := by decide +kernel
theorem k11038_7 : decode (qc 11038) 7 = .ok (.ifCond .le 7, 3) := by decide +kernel
theorem k11038_10 : decode (qc 11038) 10 = .ok (.iconst 1, 1) := by decide +kernel
theorem k11038_11 : decode (qc 11038) 11 = .ok (.goto 4, 3) := by decide +kernel
theorem k11038_14 : decode (qc 11038) 14 = .ok (.iconst 0, 1) := by decide +kernel
theorem k11038_15 : decode (qc 11038) 15 = .ok (.ireturn, 1) := by decide +kernel
theorem k11039_0 : decode (qc 11039) 0 = .ok (.iload_n 1, 1) := by decide +kernel
theorem k11039_1 : decode (qc 11039) 1 = .ok (.ifCond .lt 18, 3) := by decide +kernel
theorem k11039_4 : decode (qc 11039) 4 = .ok (.iload_n 1, 1) := by decide +kernel
theorem k11039_5 : decode (qc 11039) 5 = .ok (.aload_n 0, 1) := by decide +kernel
theorem k11039_6 : decode (qc 11039) 6 = .ok (.getfield 35, 3) := by decide +kernel
theorem k11039_9 : decode (qc 11039) 9 = .ok (.getfield 118, 3) := by decide +kernel
theorem k11039_12 : decode (qc 11039) 12 = .ok (.if_icmp .ge 7, 3) := by decide +kernel
theorem k11039_15 : decode (qc 11039) 15 = .ok (.iconst 1, 1) := by decide +kernel
theorem k11039_16 : decode (qc 11039) 16 = .ok (.goto 4, 3) := by decide +kernel
theorem k11039_19 : decode (qc 11039) 19 = .ok (.iconst 0, 1) := by decide +kernel
theorem k11039_20 : decode (qc 11039) 20 = .ok (.ireturn, 1) := by decide +kernel
theorem k11040_0 : decode (qc 11040) 0 = .ok (.iload_n 1, 1) := by decide +kernel
theorem k11040_1 : decode (qc 11040) 1 = .ok (.ifCond .lt 18, 3) := by decide +kernel
theorem k11040_4 : decode (qc 11040) 4 = .ok (.iload_n 1, 1) := by decide +kernel
theorem k11040_5 : decode (qc 11040) 5 = .ok (.aload_n 0, 1) := by decide +kernel
theorem k11040_6 : decode (qc 11040) 6 = .ok (.getfield 35, 3) := by decide +kernel
theorem k11040_9 : decode (qc 11040) 9 = .ok (.getfield 280, 3) := by decide +kernel
theorem k11040_12 : decode (qc 11040) 12 = .ok (.if_icmp .ge 7, 3) := by decide +kernel
theorem k11040_15 : decode (qc 11040) 15 = .ok (.iconst 1, 1) := by decide +kernel
theorem k11040_16 : decode (qc 11040) 16 = .ok (.goto 4, 3) := by decide +kernel
theorem k11040_19 : decode (qc 11040) 19 = .ok (.iconst 0, 1) := by decide +kernel
theorem k11040_20 : decode (qc 11040) 20 = .ok (.ireturn, 1) := by decide +kernel
theorem k11041_0 : decode (qc 11041) 0 = .ok (.iload_n 0, 1) := by decide +kernel
theorem k11041_1 : decode (qc 11041) 1 = .ok (.ifCond .eq 8, 3) := by decide +kernel
theorem k11041_4 : decode (qc 11041) 4 = .ok (.iload_n 0, 1) := by decide +kernel
theorem k11041_5 : decode (qc 11041) 5 = .ok (.iconst 1, 1) := by decide +kernel
theorem k11041_6 : decode (qc 11041) 6 = .ok (.if_icmp .ne 7, 3) := by decide +kernel
theorem k11041_9 : decode (qc 11041) 9 = .ok (.iconst 1, 1) := by decide +kernel
theorem k11041_10 : decode (qc 11041) 10 = .ok (.goto 4, 3) := by decide +kernel
theorem k11041_13 : decode (qc 11041) 13 = .ok (.iconst 0, 1) := by decide +kernel
theorem k11041_14 : decode (qc 11041) 14 = .ok (.ireturn, 1) := by decide +kernel
theorem k11042_0 : decode (qc 11042) 0 = .ok (.iload_n 0, 1) := by decide +kernel
theorem k11042_1 : decode (qc 11042) 1 = .ok (.ifCond .lt 19, 3) := by decide +kernel
theorem k11042_4 : decode (qc 11042) 4 = .ok (.iload_n 1, 1) := by decide +kernel
theorem k11042_5 : decode (qc 11042) 5 = .ok (.iload_n 0, 1) := by decide +kernel
theorem k11042_6 : decode (qc 11042) 6 = .ok (.if_icmp .lt 14, 3) := by decide +kernel
theorem k11042_9 : decode (qc 11042) 9 = .ok (.iload_n 1, 1) := by decide +kernel
theorem k11042_10 : decode (qc 11042) 10 = .ok (.sipush 1000, 3) := by decide +kernel
theorem k11042_13 : decode (qc 11042) 13 = .ok (.if_icmp .gt 7, 3) := by decide +kernel
theorem k11042_16 : decode (qc 11042) 16 = .ok (.iconst 1, 1) := by decide +kernel
theorem k11042_17 : decode (qc 11042) 17 = .ok (.goto 4, 3) := by decide +kernel
theorem k11042_20 : decode (qc 11042) 20 = .ok (.iconst 0, 1) := by decide +kernel
theorem k11042_21 : decode (qc 11042) 21 = .ok (.ireturn, 1) := by decide +kernel
theorem k11043_0 : decode (qc 11043) 0 = .ok (.aload_n 0, 1) := by decide +kernel
theorem k11043_1 : decode (qc 11043) 1 = .ok (.getfield 46, 3) := by decide +kernel
theorem k11043_4 : decode (qc 11043) 4 = .ok (.ifCond .lt 26, 3) := by decide +kernel
theorem k11043_7 : decode (qc 11043) 7 = .ok (.aload_n 0, 1) := by decide +kernel
theorem k11043_8 : decode (qc 11043) 8 = .ok (.getfield 46, 3) := by decide +kernel
theorem k11043_11 : decode (qc 11043) 11 = .ok (.aload_n 0, 1) := by decide +kernel
theorem k11043_12 : decode (qc 11043) 12 = .ok (.getfield 121, 3) := by decide +kernel
theorem k11043_15 : decode (qc 11043) 15 = .ok (.if_icmp .ge 15, 3) := by decide +kernel
theorem k11043_18 : decode (qc 11043) 18 = .ok (.aload_n 0, 1) := by decide +kernel
theorem k11043_19 : decode (qc 11043) 19 = .ok (.getfield 42, 3) := by decide +kernel
theorem k11043_22 : decode (qc 11043) 22 = .ok (.aload_n 0, 1) := by decide +kernel
theorem k11043_23 : decode (qc 11043) 23 = .ok (.getfield 46, 3) := by decide +kernel
theorem k11043_26 : decode (qc 11043) 26 = .ok (.aaload, 1) := by decide +kernel
theorem k11043_27 : decode (qc 11043) 27 = .ok (.goto 4, 3) := by decide +kernel
theorem k11043_30 : decode (qc 11043) 30 = .ok (.aconst_null, 1) := by decide +kernel
theorem k11043_31 : decode (qc 11043) 31 = .ok (.areturn, 1) := by decide +kernel
theorem k11044_0 : decode (qc 11044) 0 = .ok (.aload_n 0, 1) := by decide +kernel
theorem k11044_1 : decode (qc 11044) 1 = .ok (.getfield 53, 3) := by decide +kernel
theorem k11044_4 : decode (qc 11044) 4 = .ok (.aload_n 0, 1) := by decide +kernel
theorem k11044_5 : decode (qc 11044) 5 = .ok (.getfield 35, 3) := by decide +kernel
theorem k11044_8 : decode (qc 11044) 8 = .ok (.aload_n 0, 1) := by decide +kernel
theorem k11044_9 : decode (qc 11044) 9 = .ok (.invokevirtual 181, 3) := by decide +kernel
theorem k11044_12 : decode (qc 11044) 12 = .ok (.invokevirtual 185, 3) := by decide +kernel
theorem k11044_15 : decode (qc 11044) 15 = .ok (.aload_n 0, 1) := by decide +kernel
theorem k11044_16 : decode (qc 11044) 16 = .ok (.getfield 73, 3) := by decide +kernel
theorem k11044_19 : decode (qc 11044) 19 = .ok (.aload_n 0, 1) := by decide +kernel
theorem k11044_20 : decode (qc 11044) 20 = .ok (.getfield 53, 3) := by decide +kernel
theorem k11044_23 : decode (qc 11044) 23 = .ok (.aload_n 0, 1) := by decide +kernel
theorem k11044_24 : decode (qc 11044) 24 = .ok (.getfield 53, 3) := by decide +kernel
theorem k11044_27 : decode (qc 11044) 27 = .ok (.getfield 189, 3) := by decide +kernel
theorem k11044_30 : decode (qc 11044) 30 = .ok (.aload_n 0, 1) := by decide +kernel
theorem k11044_31 : decode (qc 11044) 31 = .ok (.getfield 35, 3) := by decide +kernel
theorem k11044_34 : decode (qc 11044) 34 = .ok (.getfield 118, 3) := by decide +kernel
theorem k11044_37 : decode (qc 11044) 37 = .ok (.iload_n 1, 1) := by decide +kernel
theorem k11044_38 : decode (qc 11044) 38 = .ok (.aload_n 0, 1) := by decide +kernel
theorem k11044_39 : decode (qc 11044) 39 = .ok (.getfield 160, 3) := by decide +kernel
theorem k11044_42 : decode (qc 11044) 42 = .ok (.invokevirtual 329, 3) := by decide +kernel
theorem k11044_45 : decode (qc 11044) 45 = .ok (.return_, 1) := by decide +kernel
theorem k11045_0 : decode (qc 11045) 0 = .ok (.aload_n 0, 1) := by decide +kernel
theorem k11045_1 : decode (qc 11045) 1 = .ok (.getfield 73, 3) := by decide +kernel
theorem k11045_4 : decode (qc 11045) 4 = .ok (.getfield 199, 3) := by decide +kernel
theorem k11045_7 : decode (qc 11045) 7 = .ok (.iload_n 2, 1) := by decide +kernel
theorem k11045_8 : decode (qc 11045) 8 = .ok (.iaload, 1) := by decide +kernel
theorem k11045_9 : decode (qc 11045) 9 = .ok (.istore 4, 2) := by decide +kernel
theorem k11045_11 : decode (qc 11045) 11 = .ok (.aload_n 0, 1) := by decide +kernel
theorem k11045_12 : decode (qc 11045) 12 = .ok (.getfield 73, 3) := by decide +kernel
theorem k11045_15 : decode (qc 11045) 15 = .ok (.getfield 199, 3) := by decide +kernel
theorem k11045_18 : decode (qc 11045) 18 = .ok (.iload_n 2, 1) := by decide +kernel
theorem k11045_19 : decode (qc 11045) 19 = .ok (.iload_n 1, 1) := by decide +kernel
theorem k11045_20 : decode (qc 11045) 20 = .ok (.iastore, 1) := by decide +kernel
theorem k11045_21 : decode (qc 11045) 21 = .ok (.aload_n 0, 1) := by decide +kernel
theorem k11045_22 : decode (qc 11045) 22 = .ok (.getfield 73, 3) := by decide +kernel
theorem k11045_25 : decode (qc 11045) 25 = .ok (.iload_n 3, 1) := by decide +kernel
theorem k11045_26 : decode (qc 11045) 26 = .ok (.invokevirtual 205, 3) := by decide +kernel
theorem k11045_29 : decode (qc 11045) 29 = .ok (.invokestatic 283, 3) := by decide +kernel
theorem k11045_32 : decode (qc 11045) 32 = .ok (.istore 5, 2) := by decide +kernel
theorem k11045_34 : decode (qc 11045) 34 = .ok (.aload_n 0, 1) := by decide +kernel
theorem k11045_35 : decode (qc 11045) 35 = .ok (.getfield 73, 3) := by decide +kernel
theorem k11045_38 : decode (qc 11045) 38 = .ok (.getfield 199, 3) := by decide +kernel
theorem k11045_41 : decode (qc 11045) 41 = .ok (.iload_n 2, 1) := by decide +kernel
theorem k11045_42 : decode (qc 11045) 42 = .ok (.iload 4, 2) := by decide +kernel
theorem k11045_44 : decode (qc 11045) 44 = .ok (.iastore, 1) := by decide +kernel
theorem k11045_45 : decode (qc 11045) 45 = .ok (.iload 5, 2) := by decide +kernel
theorem k11045_47 : decode (qc 11045) 47 = .ok (.ireturn, 1) := by decide +kernel
theorem k11046_0 : decode (qc 11046) 0 = .ok (.iconst 0, 1) := by decide +kernel
theorem k11046_1 : decode (qc 11046) 1 = .ok (.istore 4, 2) := by decide +kernel
theorem k11046_3 : decode (qc 11046) 3 = .ok (.iload 4, 2) := by decide +kernel
theorem k11046_5 : decode (qc 11046) 5 = .ok (.iconst 5, 1) := by decide +kernel
theorem k11046_6 : decode (qc 11046) 6 = .ok (.if_icmp .ge 17, 3) := by decide +kernel
theorem k11046_9 : decode (qc 11046) 9 = .ok (.aload_n 0, 1) := by decide +kernel
theorem k11046_10 : decode (qc 11046) 10 = .ok (.getfield 77, 3) := by decide +kernel
theorem k11046_13 : decode (qc 11046) 13 = .ok (.iload 4, 2) := by decide +kernel
theorem k11046_15 : decode (qc 11046) 15 = .ok (.iconst 0, 1) := by decide +kernel
theorem k11046_16 : decode (qc 11046) 16 = .ok (.iastore, 1) := by decide +kernel
theorem k11046_17 : decode (qc 11046) 17 = .ok (.iinc 4 1, 3) := by decide +kernel
theorem k11046_20 : decode (qc 11046) 20 = .ok (.goto (-17), 3) := by decide +kernel
theorem k11046_23 : decode (qc 11046) 23 = .ok (.iload_n 2, 1) := by decide +kernel
theorem k11046_24 : decode (qc 11046) 24 = .ok (.istore 4, 2) := by decide +kernel
theorem k11046_26 : decode (qc 11046) 26 = .ok (.iload 4, 2) := by decide +kernel
theorem k11046_28 : decode (qc 11046) 28 = .ok (.iload_n 3, 1) := by decide +kernel
theorem k11046_29 : decode (qc 11046) 29 = .ok (.if_icmp .ge 96, 3) := by decide +kernel
theorem k11046_32 : decode (qc 11046) 32 = .ok (.aload_n 0, 1) := by decide +kernel
theorem k11046_33 : decode (qc 11046) 33 = .ok (.iload 4, 2) := by decide +kernel
theorem k11046_35 : decode (qc 11046) 35 = .ok (.invokevirtual 196, 3) := by decide +kernel
theorem k11046_38 : decode (qc 11046) 38 = .ok (.iload 4, 2) := by decide +kernel
theorem k11046_40 : decode (qc 11046) 40 = .ok (.iconst 1, 1) := by decide +kernel
theorem k11046_41 : decode (qc 11046) 41 = .ok (.iadd, 1) := by decide +kernel
theorem k11046_42 : decode (qc 11046) 42 = .ok (.iload_n 3, 1) := by decide +kernel
theorem k11046_43 : decode (qc 11046) 43 = .ok (.aload_n 0, 1) := by decide +kernel
theorem k11046_44 : decode (qc 11046) 44 = .ok (.getfield 53, 3) := by decide +kernel
theorem k11046_47 : decode (qc 11046) 47 = .ok (.iload 4, 2) := by decide +kernel
theorem k11046_49 : decode (qc 11046) 49 = .ok (.aload_n 0, 1) := by decide +kernel
theorem k11046_50 : decode (qc 11046) 50 = .ok (.getfield 160, 3) := by decide +kernel
theorem k11046_53 : decode (qc 11046) 53 = .ok (.invokevirtual 308, 3) := by decide +kernel
theorem k11046_56 : decode (qc 11046) 56 = .ok (.invokestatic 317, 3) := by decide +kernel
theorem k11046_59 : decode (qc 11046) 59 = .ok (.invokestatic 170, 3) := by decide +kernel
theorem k11046_62 : decode (qc 11046) 62 = .ok (.istore 5, 2) := by decide +kernel
theorem k11046_64 : decode (qc 11046) 64 = .ok (.aload_n 0, 1) := by decide +kernel
theorem k11046_65 : decode (qc 11046) 65 = .ok (.getfield 73, 3) := by decide +kernel
theorem k11046_68 : decode (qc 11046) 68 = .ok (.iload_n 1, 1) := by decide +kernel
theorem k11046_69 : decode (qc 11046) 69 = .ok (.invokevirtual 205, 3) := by decide +kernel
theorem k11046_72 : decode (qc 11046) 72 = .ok (.istore 6, 2) := by decide +kernel
theorem k11046_74 : decode (qc 11046) 74 = .ok (.iconst 0, 1) := by decide +kernel
theorem k11046_75 : decode (qc 11046) 75 = .ok (.istore 7, 2) := by decide +kernel
theorem k11046_77 : decode (qc 11046) 77 = .ok (.iload 7, 2) := by decide +kernel
theorem k11046_79 : decode (qc 11046) 79 = .ok (.aload_n 0, 1) := by decide +kernel
theorem k11046_80 : decode (qc 11046) 80 = .ok (.getfield 35, 3) := by decide +kernel
theorem k11046_83 : decode (qc 11046) 83 = .ok (.getfield 118, 3) := by decide +kernel
theorem k11046_86 : decode (qc 11046) 86 = .ok (.if_icmp .ge 32, 3) := by decide +kernel
theorem k11046_89 : decode (qc 11046) 89 = .ok (.aload_n 0, 1) := by decide +kernel
theorem k11046_90 : decode (qc 11046) 90 = .ok (.getfield 77, 3) := by decide +kernel
theorem k11046_93 : decode (qc 11046) 93 = .ok (.iload 7, 2) := by decide +kernel
theorem k11046_95 : decode (qc 11046) 95 = .ok (.dup2, 1) := by decide +kernel
theorem k11046_96 : decode (qc 11046) 96 = .ok (.iaload, 1) := by decide +kernel
theorem k11046_97 : decode (qc 11046) 97 = .ok (.iload 6, 2) := by decide +kernel
theorem k11046_99 : decode (qc 11046) 99 = .ok (.iload 7, 2) := by decide +kernel
theorem k11046_101 : decode (qc 11046) 101 = .ok (.ishr, 1) := by decide +kernel
theorem k11046_102 : decode (qc 11046) 102 = .ok (.iconst 1, 1) := by decide +kernel
theorem k11046_103 : decode (qc 11046) 103 = .ok (.iand, 1) := by decide +kernel
theorem k11046_104 : decode (qc 11046) 104 = .ok (.iload 5, 2) := by decide +kernel
theorem k11046_106 : decode (qc 11046) 106 = .ok (.iload 4, 2) := by decide +kernel
theorem k11046_108 : decode (qc 11046) 108 = .ok (.isub, 1) := by decide +kernel
theorem k11046_109 : decode (qc 11046) 109 = .ok (.imul, 1) := by decide +kernel
theorem k11046_110 : decode (qc 11046) 110 = .ok (.iadd, 1) := by decide +kernel
theorem k11046_111 : decode (qc 11046) 111 = .ok (.iastore, 1) := by decide +kernel
theorem k11046_112 : decode (qc 11046) 112 = .ok (.iinc 7 1, 3) := by decide +kernel
theorem k11046_115 : decode (qc 11046) 115 = .ok (.goto (-38), 3) := by decide +kernel
theorem k11046_118 : decode (qc 11046) 118 = .ok (.iload 5, 2) := by decide +kernel
theorem k11046_120 : decode (qc 11046) 120 = .ok (.istore 4, 2) := by decide +kernel
theorem k11046_122 : decode (qc 11046) 122 = .ok (.goto (-96), 3) := by decide +kernel
theorem k11046_125 : decode (qc 11046) 125 = .ok (.return_, 1) := by decide +kernel
theorem k11047_0 : decode (qc 11047) 0 = .ok (.aload_n 0, 1) := by decide +kernel
theorem k11047_1 : decode (qc 11047) 1 = .ok (.getfield 53, 3) := by decide +kernel
theorem k11047_4 : decode (qc 11047) 4 = .ok (.iload_n 1, 1) := by decide +kernel
theorem k11047_5 : decode (qc 11047) 5 = .ok (.aload_n 0, 1) := by decide +kernel
theorem k11047_6 : decode (qc 11047) 6 = .ok (.getfield 35, 3) := by decide +kernel
theorem k11047_9 : decode (qc 11047) 9 = .ok (.aload_n 0, 1) := by decide +kernel
theorem k11047_10 : decode (qc 11047) 10 = .ok (.invokevirtual 181, 3) := by decide +kernel
theorem k11047_13 : decode (qc 11047) 13 = .ok (.invokevirtual 333, 3) := by decide +kernel
theorem k11047_16 : decode (qc 11047) 16 = .ok (.aload_n 0, 1) := by decide +kernel
theorem k11047_17 : decode (qc 11047) 17 = .ok (.getfield 73, 3) := by decide +kernel
theorem k11047_20 : decode (qc 11047) 20 = .ok (.aload_n 0, 1) := by decide +kernel
theorem k11047_21 : decode (qc 11047) 21 = .ok (.getfield 53, 3) := by decide +kernel
theorem k11047_24 : decode (qc 11047) 24 = .ok (.aload_n 0, 1) := by decide +kernel
theorem k11047_25 : decode (qc 11047) 25 = .ok (.getfield 53, 3) := by decide +kernel
theorem k11047_28 : decode (qc 11047) 28 = .ok (.getfield 337, 3) := by decide +kernel
theorem k11047_31 : decode (qc 11047) 31 = .ok (.aload_n 0, 1) := by decide +kernel
theorem k11047_32 : decode (qc 11047) 32 = .ok (.getfield 35, 3) := by decide +kernel
theorem k11047_35 : decode (qc 11047) 35 = .ok (.getfield 118, 3) := by decide +kernel
theorem k11047_38 : decode (qc 11047) 38 = .ok (.iload_n 2, 1) := by decide +kernel
theorem k11047_39 : decode (qc 11047) 39 = .ok (.aload_n 0, 1) := by decide +kernel
theorem k11047_40 : decode (qc 11047) 40 = .ok (.getfield 160, 3) := by decide +kernel
theorem k11047_43 : decode (qc 11047) 43 = .ok (.invokevirtual 329, 3) := by decide +kernel
theorem k11047_46 : decode (qc 11047) 46 = .ok (.iconst 0, 1) := by decide +kernel
theorem k11047_47 : decode (qc 11047) 47 = .ok (.istore_n 3, 1) := by decide +kernel
theorem k11047_48 : decode (qc 11047) 48 = .ok (.iconst 0, 1) := by decide +kernel
theorem k11047_49 : decode (qc 11047) 49 = .ok (.istore 4, 2) := by decide +kernel
theorem k11047_51 : decode (qc 11047) 51 = .ok (.iload 4, 2) := by decide +kernel
theorem k11047_53 : decode (qc 11047) 53 = .ok (.aload_n 0, 1) := by decide +kernel
theorem k11047_54 : decode (qc 11047) 54 = .ok (.getfield 35, 3) := by decide +kernel
theorem k11047_57 : decode (qc 11047) 57 = .ok (.getfield 118, 3) := by decide +kernel
theorem k11047_60 : decode (qc 11047) 60 = .ok (.if_icmp .ge 31, 3) := by decide +kernel
theorem k11047_63 : decode (qc 11047) 63 = .ok (.aload_n 0, 1) := by decide +kernel
theorem k11047_64 : decode (qc 11047) 64 = .ok (.getfield 73, 3) := by decide +kernel
theorem k11047_67 : decode (qc 11047) 67 = .ok (.iload 4, 2) := by decide +kernel
theorem k11047_69 : decode (qc 11047) 69 = .ok (.invokevirtual 202, 3) := by decide +kernel
theorem k11047_72 : decode (qc 11047) 72 = .ok (.aload_n 0, 1) := by decide +kernel
theorem k11047_73 : decode (qc 11047) 73 = .ok (.getfield 77, 3) := by decide +kernel
theorem k11047_76 : decode (qc 11047) 76 = .ok (.iload 4, 2) := by decide +kernel
theorem k11047_78 : decode (qc 11047) 78 = .ok (.iaload, 1) := by decide +kernel
theorem k11047_79 : decode (qc 11047) 79 = .ok (.if_icmp .eq 6, 3) := by decide +kernel
theorem k11047_82 : decode (qc 11047) 82 = .ok (.iinc 3 1, 3) := by decide +kernel
theorem k11047_85 : decode (qc 11047) 85 = .ok (.iinc 4 1, 3) := by decide +kernel
theorem k11047_88 : decode (qc 11047) 88 = .ok (.goto (-37), 3) := by decide +kernel
theorem k11047_91 : decode (qc 11047) 91 = .ok (.iload_n 3, 1) := by decide +kernel
theorem k11047_92 : decode (qc 11047) 92 = .ok (.ireturn, 1) := by decide +kernel
theorem k11048_0 : decode (qc 11048) 0 = .ok (.aload_n 0, 1) := by decide +kernel
theorem k11048_1 : decode (qc 11048) 1 = .ok (.invokevirtual 271, 3) := by decide +kernel
theorem k11048_4 : decode (qc 11048) 4 = .ok (.ifCond .eq 29, 3) := by decide +kernel
theorem k11048_7 : decode (qc 11048) 7 = .ok (.aload_n 0, 1) := by decide +kernel
theorem k11048_8 : decode (qc 11048) 8 = .ok (.getfield 35, 3) := by decide +kernel
theorem k11048_11 : decode (qc 11048) 11 = .ok (.getfield 118, 3) := by decide +kernel
theorem k11048_14 : decode (qc 11048) 14 = .ok (.iconst 3, 1) := by decide +kernel
theorem k11048_15 : decode (qc 11048) 15 = .ok (.if_icmp .gt 18, 3) := by decide +kernel
theorem k11048_18 : decode (qc 11048) 18 = .ok (.aload_n 0, 1) := by decide +kernel
theorem k11048_19 : decode (qc 11048) 19 = .ok (.getfield 35, 3) := by decide +kernel
theorem k11048_22 : decode (qc 11048) 22 = .ok (.getfield 326, 3) := by decide +kernel
theorem k11048_25 : decode (qc 11048) 25 = .ok (.iconst 5, 1) := by decide +kernel
theorem k11048_26 : decode (qc 11048) 26 = .ok (.if_icmp .gt 7, 3) := by decide +kernel
theorem k11048_29 : decode (qc 11048) 29 = .ok (.iconst 1, 1) := by decide +kernel
theorem k11048_30 : decode (qc 11048) 30 = .ok (.goto 4, 3) := by decide +kernel
theorem k11048_33 : decode (qc 11048) 33 = .ok (.iconst 0, 1) := by decide +kernel
theorem k11048_34 : decode (qc 11048) 34 = .ok (.ireturn, 1) := by decide +kernel
theorem k11049_0 : decode (qc 11049) 0 = .ok (.aload_n 0, 1) := by decide +kernel
theorem k11049_1 : decode (qc 11049) 1 = .ok (.getfield 340, 3) := by decide +kernel
theorem k11049_4 : decode (qc 11049) 4 = .ok (.ifnonnull 14, 3) := by decide +kernel
theorem k11049_7 : decode (qc 11049) 7 = .ok (.aload_n 0, 1) := by decide +kernel
theorem k11049_8 : decode (qc 11049) 8 = .ok (.new 239, 3) := by decide +kernel
theorem k11049_11 : decode (qc 11049) 11 = .ok (.dup, 1) := by decide +kernel
theorem k11049_12 : decode (qc 11049) 12 = .ok (.invokespecial 344, 3) := by decide +kernel
theorem k11049_15 : decode (qc 11049) 15 = .ok (.putfield 340, 3) := by decide +kernel
theorem k11049_18 : decode (qc 11049) 18 = .ok (.aload_n 0, 1) := by decide +kernel
theorem k11049_19 : decode (qc 11049) 19 = .ok (.getfield 340, 3) := by decide +kernel
theorem k11049_22 : decode (qc 11049) 22 = .ok (.areturn, 1) := by decide +kernel
theorem k11050_0 : decode (qc 11050) 0 = .ok (.iconst 0, 1) := by decide +kernel
theorem k11050_1 : decode (qc 11050) 1 = .ok (.istore_n 2, 1) := by decide +kernel
theorem k11050_2 : decode (qc 11050) 2 = .ok (.iload_n 2, 1) := by decide +kernel
theorem k11050_3 : decode (qc 11050) 3 = .ok (.aload_n 0, 1) := by decide +kernel
theorem k11050_4 : decode (qc 11050) 4 = .ok (.getfield 35, 3) := by decide +kernel
theorem k11050_7 : decode (qc 11050) 7 = .ok (.getfield 118, 3) := by decide +kernel
theorem k11050_10 : decode (qc 11050) 10 = .ok (.if_icmp .ge 63, 3) := by decide +kernel
theorem k11050_13 : decode (qc 11050) 13 = .ok (.iconst 0, 1) := by decide +kernel
theorem k11050_14 : decode (qc 11050) 14 = .ok (.istore_n 3, 1) := by decide +kernel
theorem k11050_15 : decode (qc 11050) 15 = .ok (.iconst 0, 1) := by decide +kernel
theorem k11050_16 : decode (qc 11050) 16 = .ok (.istore 4, 2) := by decide +kernel
theorem k11050_18 : decode (qc 11050) 18 = .ok (.iload 4, 2) := by decide +kernel
theorem k11050_20 : decode (qc 11050) 20 = .ok (.aload_n 0, 1) := by decide +kernel
theorem k11050_21 : decode (qc 11050) 21 = .ok (.getfield 35, 3) := by decide +kernel
theorem k11050_24 : decode (qc 11050) 24 = .ok (.getfield 280, 3) := by decide +kernel
theorem k11050_27 : decode (qc 11050) 27 = .ok (.if_icmp .ge 34, 3) := by decide +kernel
theorem k11050_30 : decode (qc 11050) 30 = .ok (.iload_n 1, 1) := by decide +kernel
theorem k11050_31 : decode (qc 11050) 31 = .ok (.iload 4, 2) := by decide +kernel
theorem k11050_33 : decode (qc 11050) 33 = .ok (.ishr, 1) := by decide +kernel
theorem k11050_34 : decode (qc 11050) 34 = .ok (.iconst 1, 1) := by decide +kernel
theorem k11050_35 : decode (qc 11050) 35 = .ok (.iand, 1) := by decide +kernel
theorem k11050_36 : decode (qc 11050) 36 = .ok (.iconst 1, 1) := by decide +kernel
theorem k11050_37 : decode (qc 11050) 37 = .ok (.if_icmp .ne 18, 3) := by decide +kernel
theorem k11050_40 : decode (qc 11050) 40 = .ok (.aload_n 0, 1) := by decide +kernel
theorem k11050_41 : decode (qc 11050) 41 = .ok (.getfield 35, 3) := by decide +kernel
theorem k11050_44 : decode (qc 11050) 44 = .ok (.iload 4, 2) := by decide +kernel
theorem k11050_46 : decode (qc 11050) 46 = .ok (.iload_n 2, 1) := by decide +kernel
theorem k11050_47 : decode (qc 11050) 47 = .ok (.invokevirtual 218, 3) := by decide +kernel
theorem k11050_50 : decode (qc 11050) 50 = .ok (.ifCond .eq 5, 3) := by decide +kernel
theorem k11050_53 : decode (qc 11050) 53 = .ok (.iconst 1, 1) := by decide +kernel
theorem k11050_54 : decode (qc 11050) 54 = .ok (.istore_n 3, 1) := by decide +kernel
theorem k11050_55 : decode (qc 11050) 55 = .ok (.iinc 4 1, 3) := by decide +kernel
theorem k11050_58 : decode (qc 11050) 58 = .ok (.goto (-40), 3) := by decide +kernel
theorem k11050_61 : decode (qc 11050) 61 = .ok (.iload_n 3, 1) := by decide +kernel
theorem k11050_62 : decode (qc 11050) 62 = .ok (.ifCond .ne 5, 3) := by decide +kernel
theorem k11050_65 : decode (qc 11050) 65 = .ok (.iconst 0, 1) := by decide +kernel
theorem k11050_66 : decode (qc 11050) 66 = .ok (.ireturn, 1) := by decide +kernel
theorem k11050_67 : decode (qc 11050) 67 = .ok (.iinc 2 1, 3) := by decide +kernel
theorem k11050_70 : decode (qc 11050) 70 = .ok (.goto (-68), 3) := by decide +kernel
theorem k11050_73 : decode (qc 11050) 73 = .ok (.iconst 1, 1) := by decide +kernel
theorem k11050_74 : decode (qc 11050) 74 = .ok (.ireturn, 1) := by decide +kernel
theorem k11051_0 : decode (qc 11051) 0 = .ok (.iload_n 2, 1) := by decide +kernel
theorem k11051_1 : decode (qc 11051) 1 = .ok (.ifCond .le 14, 3) := by decide +kernel
theorem k11051_4 : decode (qc 11051) 4 = .ok (.lload_n 0, 1) := by decide +kernel
theorem k11051_5 : decode (qc 11051) 5 = .ok (.bipush 33, 2) := by decide +kernel
theorem k11051_7 : decode (qc 11051) 7 = .ok (.lushr, 1) := by decide +kernel
theorem k11051_8 : decode (qc 11051) 8 = .ok (.iload_n 2, 1) := by decide +kernel
theorem k11051_9 : decode (qc 11051) 9 = .ok (.i2l, 1) := by decide +kernel
theorem k11051_10 : decode (qc 11051) 10 = .ok (.lrem, 1) := by decide +kernel
theorem k11051_11 : decode (qc 11051) 11 = .ok (.l2i, 1) := by decide +kernel
theorem k11051_12 : decode (qc 11051) 12 = .ok (.goto 4, 3) := by decide +kernel
theorem k11051_15 : decode (qc 11051) 15 = .ok (.iconst 0, 1) := by decide +kernel
theorem k11051_16 : decode (qc 11051) 16 = .ok (.ireturn, 1) := by decide +kernel
theorem k11052_0 : decode (qc 11052) 0 = .ok (.iconst 0, 1) := by decide +kernel
theorem k11052_1 : decode (qc 11052) 1 = .ok (.istore_n 1, 1) := by decide +kernel
theorem k11052_2 : decode (qc 11052) 2 = .ok (.bipush 24, 2) := by decide +kernel
theorem k11052_4 : decode (qc 11052) 4 = .ok (.istore_n 2, 1) := by decide +kernel
theorem k11052_5 : decode (qc 11052) 5 = .ok (.iload_n 2, 1) := by decide +kernel
theorem k11052_6 : decode (qc 11052) 6 = .ok (.ifCond .lt 22, 3) := by decide +kernel
theorem k11052_9 : decode (qc 11052) 9 = .ok (.iload_n 0, 1) := by decide +kernel
theorem k11052_10 : decode (qc 11052) 10 = .ok (.iload_n 2, 1) := by decide +kernel
theorem k11052_11 : decode (qc 11052) 11 = .ok (.iushr, 1) := by decide +kernel
theorem k11052_12 : decode (qc 11052) 12 = .ok (.sipush 255, 3) := by decide +kernel
theorem k11052_15 : decode (qc 11052) 15 = .ok (.iand, 1) := by decide +kernel
theorem k11052_16 : decode (qc 11052) 16 = .ok (.ifCond .eq 6, 3) := by decide +kernel
theorem k11052_19 : decode (qc 11052) 19 = .ok (.iinc 1 1, 3) := by decide +kernel
theorem k11052_22 : decode (qc 11052) 22 = .ok (.iinc 2 (-8), 3) := by decide +kernel
theorem k11052_25 : decode (qc 11052) 25 = .ok (.goto (-20), 3) := by decide +kernel
theorem k11052_28 : decode (qc 11052) 28 = .ok (.iload_n 1, 1) := by decide +kernel
theorem k11052_29 : decode (qc 11052) 29 = .ok (.ireturn, 1) := by decide +kernel
