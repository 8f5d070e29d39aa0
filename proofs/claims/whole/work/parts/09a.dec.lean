/-! decode rows -/
theorem k1000_0 : decode (qc 1000) 0 = .ok (.aload_n 0, 1) := by decide +kernel
theorem k1000_1 : decode (qc 1000) 1 = .ok (.invokespecial 3, 3) := by decide +kernel
theorem k1000_4 : decode (qc 1000) 4 = .ok (.aload_n 0, 1) := by decide +kernel
theorem k1000_5 : decode (qc 1000) 5 = .ok (.iconst 5, 1) := by decide +kernel
theorem k1000_6 : decode (qc 1000) 6 = .ok (.iconst 3, 1) := by decide +kernel
theorem k1000_7 : decode (qc 1000) 7 = .ok (.multianewarray 9 2, 4) := by decide +kernel
theorem k1000_11 : decode (qc 1000) 11 = .ok (.putfield 11, 3) := by decide +kernel
theorem k1000_14 : decode (qc 1000) 14 = .ok (.aload_n 0, 1) := by decide +kernel
theorem k1000_15 : decode (qc 1000) 15 = .ok (.iconst 3, 1) := by decide +kernel
theorem k1000_16 : decode (qc 1000) 16 = .ok (.iconst 1, 1) := by decide +kernel
theorem k1000_17 : decode (qc 1000) 17 = .ok (.multianewarray 9 2, 4) := by decide +kernel
theorem k1000_21 : decode (qc 1000) 21 = .ok (.putfield 16, 3) := by decide +kernel
theorem k1000_24 : decode (qc 1000) 24 = .ok (.aload_n 0, 1) := by decide +kernel
theorem k1000_25 : decode (qc 1000) 25 = .ok (.iconst 4, 1) := by decide +kernel
theorem k1000_26 : decode (qc 1000) 26 = .ok (.iconst 4, 1) := by decide +kernel
theorem k1000_27 : decode (qc 1000) 27 = .ok (.multianewarray 9 2, 4) := by decide +kernel
theorem k1000_31 : decode (qc 1000) 31 = .ok (.putfield 19, 3) := by decide +kernel
theorem k1000_34 : decode (qc 1000) 34 = .ok (.return_, 1) := by decide +kernel
theorem k1001_0 : decode (qc 1001) 0 = .ok (.aload_n 0, 1) := by decide +kernel
theorem k1001_1 : decode (qc 1001) 1 = .ok (.iconst 0, 1) := by decide +kernel
theorem k1001_2 : decode (qc 1001) 2 = .ok (.putfield 22, 3) := by decide +kernel
theorem k1001_5 : decode (qc 1001) 5 = .ok (.aload_n 0, 1) := by decide +kernel
theorem k1001_6 : decode (qc 1001) 6 = .ok (.iconst 0, 1) := by decide +kernel
theorem k1001_7 : decode (qc 1001) 7 = .ok (.putfield 26, 3) := by decide +kernel
theorem k1001_10 : decode (qc 1001) 10 = .ok (.aload_n 0, 1) := by decide +kernel
theorem k1001_11 : decode (qc 1001) 11 = .ok (.iconst 0, 1) := by decide +kernel
theorem k1001_12 : decode (qc 1001) 12 = .ok (.putfield 29, 3) := by decide +kernel
theorem k1001_15 : decode (qc 1001) 15 = .ok (.aload_n 0, 1) := by decide +kernel
theorem k1001_16 : decode (qc 1001) 16 = .ok (.iconst 0, 1) := by decide +kernel
theorem k1001_17 : decode (qc 1001) 17 = .ok (.putfield 32, 3) := by decide +kernel
theorem k1001_20 : decode (qc 1001) 20 = .ok (.iconst 0, 1) := by decide +kernel
theorem k1001_21 : decode (qc 1001) 21 = .ok (.istore_n 1, 1) := by decide +kernel
theorem k1001_22 : decode (qc 1001) 22 = .ok (.iload_n 1, 1) := by decide +kernel
theorem k1001_23 : decode (qc 1001) 23 = .ok (.iconst 5, 1) := by decide +kernel
theorem k1001_24 : decode (qc 1001) 24 = .ok (.if_icmp .ge 36, 3) := by decide +kernel
theorem k1001_27 : decode (qc 1001) 27 = .ok (.aload_n 0, 1) := by decide +kernel
theorem k1001_28 : decode (qc 1001) 28 = .ok (.getfield 11, 3) := by decide +kernel
theorem k1001_31 : decode (qc 1001) 31 = .ok (.iload_n 1, 1) := by decide +kernel
theorem k1001_32 : decode (qc 1001) 32 = .ok (.aaload, 1) := by decide +kernel
theorem k1001_33 : decode (qc 1001) 33 = .ok (.iconst 0, 1) := by decide +kernel
theorem k1001_34 : decode (qc 1001) 34 = .ok (.iconst 0, 1) := by decide +kernel
theorem k1001_35 : decode (qc 1001) 35 = .ok (.iastore, 1) := by decide +kernel
theorem k1001_36 : decode (qc 1001) 36 = .ok (.aload_n 0, 1) := by decide +kernel
theorem k1001_37 : decode (qc 1001) 37 = .ok (.getfield 11, 3) := by decide +kernel
theorem k1001_40 : decode (qc 1001) 40 = .ok (.iload_n 1, 1) := by decide +kernel
theorem k1001_41 : decode (qc 1001) 41 = .ok (.aaload, 1) := by decide +kernel
theorem k1001_42 : decode (qc 1001) 42 = .ok (.iconst 1, 1) := by decide +kernel
theorem k1001_43 : decode (qc 1001) 43 = .ok (.iconst (-1), 1) := by decide +kernel
theorem k1001_44 : decode (qc 1001) 44 = .ok (.iastore, 1) := by decide +kernel
theorem k1001_45 : decode (qc 1001) 45 = .ok (.aload_n 0, 1) := by decide +kernel
theorem k1001_46 : decode (qc 1001) 46 = .ok (.getfield 11, 3) := by decide +kernel
theorem k1001_49 : decode (qc 1001) 49 = .ok (.iload_n 1, 1) := by decide +kernel
theorem k1001_50 : decode (qc 1001) 50 = .ok (.aaload, 1) := by decide +kernel
theorem k1001_51 : decode (qc 1001) 51 = .ok (.iconst 2, 1) := by decide +kernel
theorem k1001_52 : decode (qc 1001) 52 = .ok (.iconst 1, 1) := by decide +kernel
theorem k1001_53 : decode (qc 1001) 53 = .ok (.iastore, 1) := by decide +kernel
theorem k1001_54 : decode (qc 1001) 54 = .ok (.iinc 1 1, 3) := by decide +kernel
theorem k1001_57 : decode (qc 1001) 57 = .ok (.goto (-35), 3) := by decide +kernel
theorem k1001_60 : decode (qc 1001) 60 = .ok (.iconst 0, 1) := by decide +kernel
theorem k1001_61 : decode (qc 1001) 61 = .ok (.istore_n 1, 1) := by decide +kernel
theorem k1001_62 : decode (qc 1001) 62 = .ok (.iload_n 1, 1) := by decide +kernel
theorem k1001_63 : decode (qc 1001) 63 = .ok (.iconst 3, 1) := by decide +kernel
theorem k1001_64 : decode (qc 1001) 64 = .ok (.if_icmp .ge 18, 3) := by decide +kernel
theorem k1001_67 : decode (qc 1001) 67 = .ok (.aload_n 0, 1) := by decide +kernel
theorem k1001_68 : decode (qc 1001) 68 = .ok (.getfield 16, 3) := by decide +kernel
theorem k1001_71 : decode (qc 1001) 71 = .ok (.iload_n 1, 1) := by decide +kernel
theorem k1001_72 : decode (qc 1001) 72 = .ok (.aaload, 1) := by decide +kernel
theorem k1001_73 : decode (qc 1001) 73 = .ok (.iconst 0, 1) := by decide +kernel
theorem k1001_74 : decode (qc 1001) 74 = .ok (.iconst 0, 1) := by decide +kernel
theorem k1001_75 : decode (qc 1001) 75 = .ok (.iastore, 1) := by decide +kernel
theorem k1001_76 : decode (qc 1001) 76 = .ok (.iinc 1 1, 3) := by decide +kernel
theorem k1001_79 : decode (qc 1001) 79 = .ok (.goto (-17), 3) := by decide +kernel
theorem k1001_82 : decode (qc 1001) 82 = .ok (.iconst 0, 1) := by decide +kernel
theorem k1001_83 : decode (qc 1001) 83 = .ok (.istore_n 1, 1) := by decide +kernel
theorem k1001_84 : decode (qc 1001) 84 = .ok (.iload_n 1, 1) := by decide +kernel
theorem k1001_85 : decode (qc 1001) 85 = .ok (.iconst 4, 1) := by decide +kernel
theorem k1001_86 : decode (qc 1001) 86 = .ok (.if_icmp .ge 45, 3) := by decide +kernel
theorem k1001_89 : decode (qc 1001) 89 = .ok (.aload_n 0, 1) := by decide +kernel
theorem k1001_90 : decode (qc 1001) 90 = .ok (.getfield 19, 3) := by decide +kernel
theorem k1001_93 : decode (qc 1001) 93 = .ok (.iload_n 1, 1) := by decide +kernel
theorem k1001_94 : decode (qc 1001) 94 = .ok (.aaload, 1) := by decide +kernel
theorem k1001_95 : decode (qc 1001) 95 = .ok (.iconst 0, 1) := by decide +kernel
theorem k1001_96 : decode (qc 1001) 96 = .ok (.iconst 0, 1) := by decide +kernel
theorem k1001_97 : decode (qc 1001) 97 = .ok (.iastore, 1) := by decide +kernel
theorem k1001_98 : decode (qc 1001) 98 = .ok (.aload_n 0, 1) := by decide +kernel
theorem k1001_99 : decode (qc 1001) 99 = .ok (.getfield 19, 3) := by decide +kernel
theorem k1001_102 : decode (qc 1001) 102 = .ok (.iload_n 1, 1) := by decide +kernel
theorem k1001_103 : decode (qc 1001) 103 = .ok (.aaload, 1) := by decide +kernel
theorem k1001_104 : decode (qc 1001) 104 = .ok (.iconst 1, 1) := by decide +kernel
theorem k1001_105 : decode (qc 1001) 105 = .ok (.iconst 1, 1) := by decide +kernel
theorem k1001_106 : decode (qc 1001) 106 = .ok (.iastore, 1) := by decide +kernel
theorem k1001_107 : decode (qc 1001) 107 = .ok (.aload_n 0, 1) := by decide +kernel
theorem k1001_108 : decode (qc 1001) 108 = .ok (.getfield 19, 3) := by decide +kernel
theorem k1001_111 : decode (qc 1001) 111 = .ok (.iload_n 1, 1) := by decide +kernel
theorem k1001_112 : decode (qc 1001) 112 = .ok (.aaload, 1) := by decide +kernel
theorem k1001_113 : decode (qc 1001) 113 = .ok (.iconst 2, 1) := by decide +kernel
theorem k1001_114 : decode (qc 1001) 114 = .ok (.iconst 5, 1) := by decide +kernel
theorem k1001_115 : decode (qc 1001) 115 = .ok (.iastore, 1) := by decide +kernel
theorem k1001_116 : decode (qc 1001) 116 = .ok (.aload_n 0, 1) := by decide +kernel
theorem k1001_117 : decode (qc 1001) 117 = .ok (.getfield 19, 3) := by decide +kernel
theorem k1001_120 : decode (qc 1001) 120 = .ok (.iload_n 1, 1) := by decide +kernel
theorem k1001_121 : decode (qc 1001) 121 = .ok (.aaload, 1) := by decide +kernel
theorem k1001_122 : decode (qc 1001) 122 = .ok (.iconst 3, 1) := by decide +kernel
theorem k1001_123 : decode (qc 1001) 123 = .ok (.iconst (-1), 1) := by decide +kernel
theorem k1001_124 : decode (qc 1001) 124 = .ok (.iastore, 1) := by decide +kernel
theorem k1001_125 : decode (qc 1001) 125 = .ok (.iinc 1 1, 3) := by decide +kernel
theorem k1001_128 : decode (qc 1001) 128 = .ok (.goto (-44), 3) := by decide +kernel
theorem k1001_131 : decode (qc 1001) 131 = .ok (.return_, 1) := by decide +kernel
theorem k1002_0 : decode (qc 1002) 0 = .ok (.aload_n 0, 1) := by decide +kernel
theorem k1002_1 : decode (qc 1002) 1 = .ok (.aload_n 1, 1) := by decide +kernel
theorem k1002_2 : decode (qc 1002) 2 = .ok (.getfield 22, 3) := by decide +kernel
theorem k1002_5 : decode (qc 1002) 5 = .ok (.putfield 22, 3) := by decide +kernel
theorem k1002_8 : decode (qc 1002) 8 = .ok (.aload_n 0, 1) := by decide +kernel
theorem k1002_9 : decode (qc 1002) 9 = .ok (.aload_n 1, 1) := by decide +kernel
theorem k1002_10 : decode (qc 1002) 10 = .ok (.getfield 26, 3) := by decide +kernel
theorem k1002_13 : decode (qc 1002) 13 = .ok (.putfield 26, 3) := by decide +kernel
theorem k1002_16 : decode (qc 1002) 16 = .ok (.aload_n 0, 1) := by decide +kernel
theorem k1002_17 : decode (qc 1002) 17 = .ok (.aload_n 1, 1) := by decide +kernel
theorem k1002_18 : decode (qc 1002) 18 = .ok (.getfield 29, 3) := by decide +kernel
theorem k1002_21 : decode (qc 1002) 21 = .ok (.putfield 29, 3) := by decide +kernel
theorem k1002_24 : decode (qc 1002) 24 = .ok (.aload_n 0, 1) := by decide +kernel
theorem k1002_25 : decode (qc 1002) 25 = .ok (.aload_n 1, 1) := by decide +kernel
theorem k1002_26 : decode (qc 1002) 26 = .ok (.getfield 32, 3) := by decide +kernel
theorem k1002_29 : decode (qc 1002) 29 = .ok (.putfield 32, 3) := by decide +kernel
theorem k1002_32 : decode (qc 1002) 32 = .ok (.iconst 0, 1) := by decide +kernel
theorem k1002_33 : decode (qc 1002) 33 = .ok (.istore_n 2, 1) := by decide +kernel
theorem k1002_34 : decode (qc 1002) 34 = .ok (.iload_n 2, 1) := by decide +kernel
theorem k1002_35 : decode (qc 1002) 35 = .ok (.iconst 5, 1) := by decide +kernel
theorem k1002_36 : decode (qc 1002) 36 = .ok (.if_icmp .ge 27, 3) := by decide +kernel
theorem k1002_39 : decode (qc 1002) 39 = .ok (.aload_n 1, 1) := by decide +kernel
theorem k1002_40 : decode (qc 1002) 40 = .ok (.getfield 11, 3) := by decide +kernel
theorem k1002_43 : decode (qc 1002) 43 = .ok (.iload_n 2, 1) := by decide +kernel
theorem k1002_44 : decode (qc 1002) 44 = .ok (.aaload, 1) := by decide +kernel
theorem k1002_45 : decode (qc 1002) 45 = .ok (.iconst 0, 1) := by decide +kernel
theorem k1002_46 : decode (qc 1002) 46 = .ok (.aload_n 0, 1) := by decide +kernel
theorem k1002_47 : decode (qc 1002) 47 = .ok (.getfield 11, 3) := by decide +kernel
theorem k1002_50 : decode (qc 1002) 50 = .ok (.iload_n 2, 1) := by decide +kernel
theorem k1002_51 : decode (qc 1002) 51 = .ok (.aaload, 1) := by decide +kernel
theorem k1002_52 : decode (qc 1002) 52 = .ok (.iconst 0, 1) := by decide +kernel
theorem k1002_53 : decode (qc 1002) 53 = .ok (.iconst 3, 1) := by decide +kernel
theorem k1002_54 : decode (qc 1002) 54 = .ok (.invokestatic 35, 3) := by decide +kernel
theorem k1002_57 : decode (qc 1002) 57 = .ok (.iinc 2 1, 3) := by decide +kernel
theorem k1002_60 : decode (qc 1002) 60 = .ok (.goto (-26), 3) := by decide +kernel
theorem k1002_63 : decode (qc 1002) 63 = .ok (.iconst 0, 1) := by decide +kernel
theorem k1002_64 : decode (qc 1002) 64 = .ok (.istore_n 2, 1) := by decide +kernel
theorem k1002_65 : decode (qc 1002) 65 = .ok (.iload_n 2, 1) := by decide +kernel
theorem k1002_66 : decode (qc 1002) 66 = .ok (.iconst 3, 1) := by decide +kernel
theorem k1002_67 : decode (qc 1002) 67 = .ok (.if_icmp .ge 25, 3) := by decide +kernel
theorem k1002_70 : decode (qc 1002) 70 = .ok (.aload_n 0, 1) := by decide +kernel
theorem k1002_71 : decode (qc 1002) 71 = .ok (.getfield 16, 3) := by decide +kernel
theorem k1002_74 : decode (qc 1002) 74 = .ok (.iload_n 2, 1) := by decide +kernel
theorem k1002_75 : decode (qc 1002) 75 = .ok (.aaload, 1) := by decide +kernel
theorem k1002_76 : decode (qc 1002) 76 = .ok (.iconst 0, 1) := by decide +kernel
theorem k1002_77 : decode (qc 1002) 77 = .ok (.aload_n 1, 1) := by decide +kernel
theorem k1002_78 : decode (qc 1002) 78 = .ok (.getfield 16, 3) := by decide +kernel
theorem k1002_81 : decode (qc 1002) 81 = .ok (.iload_n 2, 1) := by decide +kernel
theorem k1002_82 : decode (qc 1002) 82 = .ok (.aaload, 1) := by decide +kernel
theorem k1002_83 : decode (qc 1002) 83 = .ok (.iconst 0, 1) := by decide +kernel
theorem k1002_84 : decode (qc 1002) 84 = .ok (.iaload, 1) := by decide +kernel
theorem k1002_85 : decode (qc 1002) 85 = .ok (.iastore, 1) := by decide +kernel
theorem k1002_86 : decode (qc 1002) 86 = .ok (.iinc 2 1, 3) := by decide +kernel
theorem k1002_89 : decode (qc 1002) 89 = .ok (.goto (-24), 3) := by decide +kernel
theorem k1002_92 : decode (qc 1002) 92 = .ok (.iconst 0, 1) := by decide +kernel
theorem k1002_93 : decode (qc 1002) 93 = .ok (.istore_n 2, 1) := by decide +kernel
theorem k1002_94 : decode (qc 1002) 94 = .ok (.iload_n 2, 1) := by decide +kernel
theorem k1002_95 : decode (qc 1002) 95 = .ok (.iconst 4, 1) := by decide +kernel
theorem k1002_96 : decode (qc 1002) 96 = .ok (.if_icmp .ge 27, 3) := by decide +kernel
theorem k1002_99 : decode (qc 1002) 99 = .ok (.aload_n 1, 1) := by decide +kernel
theorem k1002_100 : decode (qc 1002) 100 = .ok (.getfield 19, 3) := by decide +kernel
theorem k1002_103 : decode (qc 1002) 103 = .ok (.iload_n 2, 1) := by decide +kernel
theorem k1002_104 : decode (qc 1002) 104 = .ok (.aaload, 1) := by decide +kernel
theorem k1002_105 : decode (qc 1002) 105 = .ok (.iconst 0, 1) := by decide +kernel
theorem k1002_106 : decode (qc 1002) 106 = .ok (.aload_n 0, 1) := by decide +kernel
theorem k1002_107 : decode (qc 1002) 107 = .ok (.getfield 19, 3) := by decide +kernel
theorem k1002_110 : decode (qc 1002) 110 = .ok (.iload_n 2, 1) := by decide +kernel
theorem k1002_111 : decode (qc 1002) 111 = .ok (.aaload, 1) := by decide +kernel
theorem k1002_112 : decode (qc 1002) 112 = .ok (.iconst 0, 1) := by decide +kernel
theorem k1002_113 : decode (qc 1002) 113 = .ok (.iconst 4, 1) := by decide +kernel
theorem k1002_114 : decode (qc 1002) 114 = .ok (.invokestatic 35, 3) := by decide +kernel
theorem k1002_117 : decode (qc 1002) 117 = .ok (.iinc 2 1, 3) := by decide +kernel
theorem k1002_120 : decode (qc 1002) 120 = .ok (.goto (-26), 3) := by decide +kernel
theorem k1002_123 : decode (qc 1002) 123 = .ok (.return_, 1) := by decide +kernel
theorem k1003_0 : decode (qc 1003) 0 = .ok (.aload_n 0, 1) := by decide +kernel
theorem k1003_1 : decode (qc 1003) 1 = .ok (.getfield 26, 3) := by decide +kernel
theorem k1003_4 : decode (qc 1003) 4 = .ok (.iconst 1, 1) := by decide +kernel
theorem k1003_5 : decode (qc 1003) 5 = .ok (.if_icmp .lt 11, 3) := by decide +kernel
theorem k1003_8 : decode (qc 1003) 8 = .ok (.aload_n 0, 1) := by decide +kernel
theorem k1003_9 : decode (qc 1003) 9 = .ok (.getfield 29, 3) := by decide +kernel
theorem k1003_12 : decode (qc 1003) 12 = .ok (.iconst 1, 1) := by decide +kernel
theorem k1003_13 : decode (qc 1003) 13 = .ok (.if_icmp .ge 5, 3) := by decide +kernel
theorem k1003_16 : decode (qc 1003) 16 = .ok (.iconst 0, 1) := by decide +kernel
theorem k1003_17 : decode (qc 1003) 17 = .ok (.ireturn, 1) := by decide +kernel
theorem k1003_18 : decode (qc 1003) 18 = .ok (.iconst 0, 1) := by decide +kernel
theorem k1003_19 : decode (qc 1003) 19 = .ok (.istore_n 1, 1) := by decide +kernel
theorem k1003_20 : decode (qc 1003) 20 = .ok (.iload_n 1, 1) := by decide +kernel
theorem k1003_21 : decode (qc 1003) 21 = .ok (.aload_n 0, 1) := by decide +kernel
theorem k1003_22 : decode (qc 1003) 22 = .ok (.getfield 26, 3) := by decide +kernel
theorem k1003_25 : decode (qc 1003) 25 = .ok (.if_icmp .ge 26, 3) := by decide +kernel
theorem k1003_28 : decode (qc 1003) 28 = .ok (.aload_n 0, 1) := by decide +kernel
theorem k1003_29 : decode (qc 1003) 29 = .ok (.getfield 11, 3) := by decide +kernel
theorem k1003_32 : decode (qc 1003) 32 = .ok (.iload_n 1, 1) := by decide +kernel
theorem k1003_33 : decode (qc 1003) 33 = .ok (.aaload, 1) := by decide +kernel
theorem k1003_34 : decode (qc 1003) 34 = .ok (.iconst 1, 1) := by decide +kernel
theorem k1003_35 : decode (qc 1003) 35 = .ok (.iaload, 1) := by decide +kernel
theorem k1003_36 : decode (qc 1003) 36 = .ok (.aload_n 0, 1) := by decide +kernel
theorem k1003_37 : decode (qc 1003) 37 = .ok (.getfield 29, 3) := by decide +kernel
theorem k1003_40 : decode (qc 1003) 40 = .ok (.if_icmp .lt 5, 3) := by decide +kernel
theorem k1003_43 : decode (qc 1003) 43 = .ok (.iconst 0, 1) := by decide +kernel
theorem k1003_44 : decode (qc 1003) 44 = .ok (.ireturn, 1) := by decide +kernel
theorem k1003_45 : decode (qc 1003) 45 = .ok (.iinc 1 1, 3) := by decide +kernel
theorem k1003_48 : decode (qc 1003) 48 = .ok (.goto (-28), 3) := by decide +kernel
theorem k1003_51 : decode (qc 1003) 51 = .ok (.iconst 1, 1) := by decide +kernel
theorem k1003_52 : decode (qc 1003) 52 = .ok (.ireturn, 1) := by decide +kernel
theorem k1004_0 : decode (qc 1004) 0 = .ok (.aload_n 0, 1) := by decide +kernel
theorem k1004_1 : decode (qc 1004) 1 = .ok (.getfield 11, 3) := by decide +kernel
theorem k1004_4 : decode (qc 1004) 4 = .ok (.iload_n 2, 1) := by decide +kernel
theorem k1004_5 : decode (qc 1004) 5 = .ok (.aaload, 1) := by decide +kernel
theorem k1004_6 : decode (qc 1004) 6 = .ok (.iconst 1, 1) := by decide +kernel
theorem k1004_7 : decode (qc 1004) 7 = .ok (.iaload, 1) := by decide +kernel
theorem k1004_8 : decode (qc 1004) 8 = .ok (.iload_n 1, 1) := by decide +kernel
theorem k1004_9 : decode (qc 1004) 9 = .ok (.if_icmp .eq 7, 3) := by decide +kernel
theorem k1004_12 : decode (qc 1004) 12 = .ok (.iconst 1, 1) := by decide +kernel
theorem k1004_13 : decode (qc 1004) 13 = .ok (.goto 4, 3) := by decide +kernel
theorem k1004_16 : decode (qc 1004) 16 = .ok (.iconst 0, 1) := by decide +kernel
theorem k1004_17 : decode (qc 1004) 17 = .ok (.ireturn, 1) := by decide +kernel
theorem k1005_0 : decode (qc 1005) 0 = .ok (.iconst 0, 1) := by decide +kernel
theorem k1005_1 : decode (qc 1005) 1 = .ok (.istore_n 3, 1) := by decide +kernel
theorem k1005_2 : decode (qc 1005) 2 = .ok (.iload_n 3, 1) := by decide +kernel
theorem k1005_3 : decode (qc 1005) 3 = .ok (.aload_n 0, 1) := by decide +kernel
theorem k1005_4 : decode (qc 1005) 4 = .ok (.getfield 26, 3) := by decide +kernel
theorem k1005_7 : decode (qc 1005) 7 = .ok (.if_icmp .ge 29, 3) := by decide +kernel
theorem k1005_10 : decode (qc 1005) 10 = .ok (.iload_n 2, 1) := by decide +kernel
theorem k1005_11 : decode (qc 1005) 11 = .ok (.iload_n 3, 1) := by decide +kernel
theorem k1005_12 : decode (qc 1005) 12 = .ok (.ishr, 1) := by decide +kernel
theorem k1005_13 : decode (qc 1005) 13 = .ok (.iconst 1, 1) := by decide +kernel
theorem k1005_14 : decode (qc 1005) 14 = .ok (.iand, 1) := by decide +kernel
theorem k1005_15 : decode (qc 1005) 15 = .ok (.iconst 1, 1) := by decide +kernel
theorem k1005_16 : decode (qc 1005) 16 = .ok (.if_icmp .ne 14, 3) := by decide +kernel
theorem k1005_19 : decode (qc 1005) 19 = .ok (.aload_n 0, 1) := by decide +kernel
theorem k1005_20 : decode (qc 1005) 20 = .ok (.iload_n 1, 1) := by decide +kernel
theorem k1005_21 : decode (qc 1005) 21 = .ok (.iload_n 3, 1) := by decide +kernel
theorem k1005_22 : decode (qc 1005) 22 = .ok (.invokevirtual 41, 3) := by decide +kernel
theorem k1005_25 : decode (qc 1005) 25 = .ok (.ifCond .ne 5, 3) := by decide +kernel
theorem k1005_28 : decode (qc 1005) 28 = .ok (.iconst 0, 1) := by decide +kernel
theorem k1005_29 : decode (qc 1005) 29 = .ok (.ireturn, 1) := by decide +kernel
theorem k1005_30 : decode (qc 1005) 30 = .ok (.iinc 3 1, 3) := by decide +kernel
theorem k1005_33 : decode (qc 1005) 33 = .ok (.goto (-31), 3) := by decide +kernel
theorem k1005_36 : decode (qc 1005) 36 = .ok (.iconst 1, 1) := by decide +kernel
theorem k1005_37 : decode (qc 1005) 37 = .ok (.ireturn, 1) := by decide +kernel
theorem k3000_0 : decode (qc 3000) 0 = .ok (.aload_n 0, 1) := by decide +kernel
theorem k3000_1 : decode (qc 3000) 1 = .ok (.invokespecial 3, 3) := by decide +kernel
theorem k3000_4 : decode (qc 3000) 4 = .ok (.aload_n 0, 1) := by decide +kernel
theorem k3000_5 : decode (qc 3000) 5 = .ok (.sipush 161, 3) := by decide +kernel
theorem k3000_8 : decode (qc 3000) 8 = .ok (.newarray .int, 2) := by decide +kernel
theorem k3000_10 : decode (qc 3000) 10 = .ok (.putfield 11, 3) := by decide +kernel
theorem k3000_13 : decode (qc 3000) 13 = .ok (.aload_n 0, 1) := by decide +kernel
theorem k3000_14 : decode (qc 3000) 14 = .ok (.sipush 161, 3) := by decide +kernel
theorem k3000_17 : decode (qc 3000) 17 = .ok (.newarray .int, 2) := by decide +kernel
theorem k3000_19 : decode (qc 3000) 19 = .ok (.putfield 15, 3) := by decide +kernel
theorem k3000_22 : decode (qc 3000) 22 = .ok (.return_, 1) := by decide +kernel
theorem k3001_0 : decode (qc 3001) 0 = .ok (.aload_n 0, 1) := by decide +kernel
theorem k3001_1 : decode (qc 3001) 1 = .ok (.iload_n 2, 1) := by decide +kernel
theorem k3001_2 : decode (qc 3001) 2 = .ok (.sipush 161, 3) := by decide +kernel
theorem k3001_5 : decode (qc 3001) 5 = .ok (.aload_n 1, 1) := by decide +kernel
theorem k3001_6 : decode (qc 3001) 6 = .ok (.arraylength, 1) := by decide +kernel
theorem k3001_7 : decode (qc 3001) 7 = .ok (.invokestatic 18, 3) := by decide +kernel
theorem k3001_10 : decode (qc 3001) 10 = .ok (.invokestatic 18, 3) := by decide +kernel
theorem k3001_13 : decode (qc 3001) 13 = .ok (.putfield 24, 3) := by decide +kernel
theorem k3001_16 : decode (qc 3001) 16 = .ok (.aload_n 1, 1) := by decide +kernel
theorem k3001_17 : decode (qc 3001) 17 = .ok (.iconst 0, 1) := by decide +kernel
theorem k3001_18 : decode (qc 3001) 18 = .ok (.aload_n 0, 1) := by decide +kernel
theorem k3001_19 : decode (qc 3001) 19 = .ok (.getfield 11, 3) := by decide +kernel
theorem k3001_22 : decode (qc 3001) 22 = .ok (.iconst 0, 1) := by decide +kernel
theorem k3001_23 : decode (qc 3001) 23 = .ok (.aload_n 0, 1) := by decide +kernel
theorem k3001_24 : decode (qc 3001) 24 = .ok (.getfield 24, 3) := by decide +kernel
theorem k3001_27 : decode (qc 3001) 27 = .ok (.invokestatic 28, 3) := by decide +kernel
theorem k3001_30 : decode (qc 3001) 30 = .ok (.return_, 1) := by decide +kernel
theorem k3002_0 : decode (qc 3002) 0 = .ok (.aload_n 0, 1) := by decide +kernel
theorem k3002_1 : decode (qc 3002) 1 = .ok (.iconst 0, 1) := by decide +kernel
theorem k3002_2 : decode (qc 3002) 2 = .ok (.putfield 34, 3) := by decide +kernel
theorem k3002_5 : decode (qc 3002) 5 = .ok (.iconst 1, 1) := by decide +kernel
theorem k3002_6 : decode (qc 3002) 6 = .ok (.istore 6, 2) := by decide +kernel
theorem k3002_8 : decode (qc 3002) 8 = .ok (.iconst 0, 1) := by decide +kernel
theorem k3002_9 : decode (qc 3002) 9 = .ok (.istore 7, 2) := by decide +kernel
theorem k3002_11 : decode (qc 3002) 11 = .ok (.iload 7, 2) := by decide +kernel
theorem k3002_13 : decode (qc 3002) 13 = .ok (.aload_n 0, 1) := by decide +kernel
theorem k3002_14 : decode (qc 3002) 14 = .ok (.getfield 24, 3) := by decide +kernel
theorem k3002_17 : decode (qc 3002) 17 = .ok (.if_icmp .ge 179, 3) := by decide +kernel
theorem k3002_20 : decode (qc 3002) 20 = .ok (.aload_n 0, 1) := by decide +kernel
theorem k3002_21 : decode (qc 3002) 21 = .ok (.getfield 11, 3) := by decide +kernel
theorem k3002_24 : decode (qc 3002) 24 = .ok (.iload 7, 2) := by decide +kernel
theorem k3002_26 : decode (qc 3002) 26 = .ok (.iaload, 1) := by decide +kernel
theorem k3002_27 : decode (qc 3002) 27 = .ok (.ineg, 1) := by decide +kernel
theorem k3002_28 : decode (qc 3002) 28 = .ok (.istore 8, 2) := by decide +kernel
theorem k3002_30 : decode (qc 3002) 30 = .ok (.iload 6, 2) := by decide +kernel
theorem k3002_32 : decode (qc 3002) 32 = .ok (.ifCond .ne 20, 3) := by decide +kernel
theorem k3002_35 : decode (qc 3002) 35 = .ok (.iload 8, 2) := by decide +kernel
theorem k3002_37 : decode (qc 3002) 37 = .ok (.bipush 59, 2) := by decide +kernel
theorem k3002_39 : decode (qc 3002) 39 = .ok (.if_icmp .ne 7, 3) := by decide +kernel
theorem k3002_42 : decode (qc 3002) 42 = .ok (.iconst 1, 1) := by decide +kernel
theorem k3002_43 : decode (qc 3002) 43 = .ok (.goto 4, 3) := by decide +kernel
theorem k3002_46 : decode (qc 3002) 46 = .ok (.iconst 0, 1) := by decide +kernel
theorem k3002_47 : decode (qc 3002) 47 = .ok (.istore 6, 2) := by decide +kernel
theorem k3002_49 : decode (qc 3002) 49 = .ok (.goto 141, 3) := by decide +kernel
theorem k3002_52 : decode (qc 3002) 52 = .ok (.iload 8, 2) := by decide +kernel
theorem k3002_54 : decode (qc 3002) 54 = .ok (.ifCond .gt 17, 3) := by decide +kernel
theorem k3002_57 : decode (qc 3002) 57 = .ok (.aload_n 0, 1) := by decide +kernel
theorem k3002_58 : decode (qc 3002) 58 = .ok (.aload_n 0, 1) := by decide +kernel
theorem k3002_59 : decode (qc 3002) 59 = .ok (.getfield 11, 3) := by decide +kernel
theorem k3002_62 : decode (qc 3002) 62 = .ok (.iload 7, 2) := by decide +kernel
theorem k3002_64 : decode (qc 3002) 64 = .ok (.iaload, 1) := by decide +kernel
theorem k3002_65 : decode (qc 3002) 65 = .ok (.invokevirtual 37, 3) := by decide +kernel
theorem k3002_68 : decode (qc 3002) 68 = .ok (.goto 122, 3) := by decide +kernel
theorem k3002_71 : decode (qc 3002) 71 = .ok (.iload 8, 2) := by decide +kernel
theorem k3002_73 : decode (qc 3002) 73 = .ok (.bipush 59, 2) := by decide +kernel
theorem k3002_75 : decode (qc 3002) 75 = .ok (.if_icmp .ne 8, 3) := by decide +kernel
theorem k3002_78 : decode (qc 3002) 78 = .ok (.aload_n 0, 1) := by decide +kernel
theorem k3002_79 : decode (qc 3002) 79 = .ok (.invokevirtual 41, 3) := by decide +kernel
theorem k3002_82 : decode (qc 3002) 82 = .ok (.ireturn, 1) := by decide +kernel
theorem k3002_83 : decode (qc 3002) 83 = .ok (.iload 8, 2) := by decide +kernel
theorem k3002_85 : decode (qc 3002) 85 = .ok (.bipush 63, 2) := by decide +kernel
theorem k3002_87 : decode (qc 3002) 87 = .ok (.if_icmp .ne 20, 3) := by decide +kernel
theorem k3002_90 : decode (qc 3002) 90 = .ok (.aload_n 0, 1) := by decide +kernel
theorem k3002_91 : decode (qc 3002) 91 = .ok (.invokevirtual 41, 3) := by decide +kernel
theorem k3002_94 : decode (qc 3002) 94 = .ok (.ifCond .eq 7, 3) := by decide +kernel
theorem k3002_97 : decode (qc 3002) 97 = .ok (.iconst 1, 1) := by decide +kernel
theorem k3002_98 : decode (qc 3002) 98 = .ok (.goto 4, 3) := by decide +kernel
theorem k3002_101 : decode (qc 3002) 101 = .ok (.iconst 0, 1) := by decide +kernel
theorem k3002_102 : decode (qc 3002) 102 = .ok (.istore 6, 2) := by decide +kernel
theorem k3002_104 : decode (qc 3002) 104 = .ok (.goto 86, 3) := by decide +kernel
theorem k3002_107 : decode (qc 3002) 107 = .ok (.iload 8, 2) := by decide +kernel
theorem k3002_109 : decode (qc 3002) 109 = .ok (.bipush 109, 2) := by decide +kernel
theorem k3002_111 : decode (qc 3002) 111 = .ok (.if_icmp .ne 11, 3) := by decide +kernel
theorem k3002_114 : decode (qc 3002) 114 = .ok (.aload_n 0, 1) := by decide +kernel
theorem k3002_115 : decode (qc 3002) 115 = .ok (.iload_n 1, 1) := by decide +kernel
theorem k3002_116 : decode (qc 3002) 116 = .ok (.invokevirtual 37, 3) := by decide +kernel
theorem k3002_119 : decode (qc 3002) 119 = .ok (.goto 71, 3) := by decide +kernel
theorem k3002_122 : decode (qc 3002) 122 = .ok (.iload 8, 2) := by decide +kernel
theorem k3002_124 : decode (qc 3002) 124 = .ok (.bipush 115, 2) := by decide +kernel
theorem k3002_126 : decode (qc 3002) 126 = .ok (.if_icmp .ne 11, 3) := by decide +kernel
theorem k3002_129 : decode (qc 3002) 129 = .ok (.aload_n 0, 1) := by decide +kernel
theorem k3002_130 : decode (qc 3002) 130 = .ok (.iload_n 2, 1) := by decide +kernel
theorem k3002_131 : decode (qc 3002) 131 = .ok (.invokevirtual 37, 3) := by decide +kernel
theorem k3002_134 : decode (qc 3002) 134 = .ok (.goto 56, 3) := by decide +kernel
theorem k3002_137 : decode (qc 3002) 137 = .ok (.iload 8, 2) := by decide +kernel
theorem k3002_139 : decode (qc 3002) 139 = .ok (.bipush 116, 2) := by decide +kernel
theorem k3002_141 : decode (qc 3002) 141 = .ok (.if_icmp .ne 11, 3) := by decide +kernel
theorem k3002_144 : decode (qc 3002) 144 = .ok (.aload_n 0, 1) := by decide +kernel
theorem k3002_145 : decode (qc 3002) 145 = .ok (.iload_n 3, 1) := by decide +kernel
theorem k3002_146 : decode (qc 3002) 146 = .ok (.invokevirtual 37, 3) := by decide +kernel
theorem k3002_149 : decode (qc 3002) 149 = .ok (.goto 41, 3) := by decide +kernel
theorem k3002_152 : decode (qc 3002) 152 = .ok (.iload 8, 2) := by decide +kernel
theorem k3002_154 : decode (qc 3002) 154 = .ok (.bipush 110, 2) := by decide +kernel
theorem k3002_156 : decode (qc 3002) 156 = .ok (.if_icmp .ne 12, 3) := by decide +kernel
theorem k3002_159 : decode (qc 3002) 159 = .ok (.aload_n 0, 1) := by decide +kernel
theorem k3002_160 : decode (qc 3002) 160 = .ok (.iload 4, 2) := by decide +kernel
theorem k3002_162 : decode (qc 3002) 162 = .ok (.invokevirtual 37, 3) := by decide +kernel
theorem k3002_165 : decode (qc 3002) 165 = .ok (.goto 25, 3) := by decide +kernel
theorem k3002_168 : decode (qc 3002) 168 = .ok (.iload 8, 2) := by decide +kernel
theorem k3002_170 : decode (qc 3002) 170 = .ok (.bipush 108, 2) := by decide +kernel
theorem k3002_172 : decode (qc 3002) 172 = .ok (.if_icmp .ne 12, 3) := by decide +kernel
theorem k3002_175 : decode (qc 3002) 175 = .ok (.aload_n 0, 1) := by decide +kernel
theorem k3002_176 : decode (qc 3002) 176 = .ok (.iload 5, 2) := by decide +kernel
theorem k3002_178 : decode (qc 3002) 178 = .ok (.invokevirtual 37, 3) := by decide +kernel
theorem k3002_181 : decode (qc 3002) 181 = .ok (.goto 9, 3) := by decide +kernel
theorem k3002_184 : decode (qc 3002) 184 = .ok (.aload_n 0, 1) := by decide +kernel
theorem k3002_185 : decode (qc 3002) 185 = .ok (.iload 8, 2) := by decide +kernel
theorem k3002_187 : decode (qc 3002) 187 = .ok (.invokevirtual 45, 3) := by decide +kernel
theorem k3002_190 : decode (qc 3002) 190 = .ok (.iinc 7 1, 3) := by decide +kernel
theorem k3002_193 : decode (qc 3002) 193 = .ok (.goto (-182), 3) := by decide +kernel
theorem k3002_196 : decode (qc 3002) 196 = .ok (.iconst 0, 1) := by decide +kernel
theorem k3002_197 : decode (qc 3002) 197 = .ok (.ireturn, 1) := by decide +kernel
theorem k3004_0 : decode (qc 3004) 0 = .ok (.aload_n 0, 1) := by decide +kernel
theorem k3004_1 : decode (qc 3004) 1 = .ok (.invokevirtual 41, 3) := by decide +kernel
theorem k3004_4 : decode (qc 3004) 4 = .ok (.istore_n 2, 1) := by decide +kernel
theorem k3004_5 : decode (qc 3004) 5 = .ok (.iload_n 1, 1) := by decide +kernel
theorem k3004_6 : decode (qc 3004) 6 = .ok (.bipush 33, 2) := by decide +kernel
theorem k3004_8 : decode (qc 3004) 8 = .ok (.if_icmp .ne 17, 3) := by decide +kernel
theorem k3004_11 : decode (qc 3004) 11 = .ok (.aload_n 0, 1) := by decide +kernel
theorem k3004_12 : decode (qc 3004) 12 = .ok (.iload_n 2, 1) := by decide +kernel
theorem k3004_13 : decode (qc 3004) 13 = .ok (.ifCond .ne 7, 3) := by decide +kernel
theorem k3004_16 : decode (qc 3004) 16 = .ok (.iconst 1, 1) := by decide +kernel
theorem k3004_17 : decode (qc 3004) 17 = .ok (.goto 4, 3) := by decide +kernel
theorem k3004_20 : decode (qc 3004) 20 = .ok (.iconst 0, 1) := by decide +kernel
theorem k3004_21 : decode (qc 3004) 21 = .ok (.invokevirtual 37, 3) := by decide +kernel
theorem k3004_24 : decode (qc 3004) 24 = .ok (.return_, 1) := by decide +kernel
theorem k3004_25 : decode (qc 3004) 25 = .ok (.aload_n 0, 1) := by decide +kernel
theorem k3004_26 : decode (qc 3004) 26 = .ok (.invokevirtual 41, 3) := by decide +kernel
theorem k3004_29 : decode (qc 3004) 29 = .ok (.istore_n 3, 1) := by decide +kernel
theorem k3004_30 : decode (qc 3004) 30 = .ok (.iload_n 1, 1) := by decide +kernel
theorem k3004_31 : decode (qc 3004) 31 = .ok (.lookupswitch 120 #[(38, 49), (60, 86), (61, 69), (62, 103), (124, 59)], 49) := by decide +kernel
theorem k3004_80 : decode (qc 3004) 80 = .ok (.aload_n 0, 1) := by decide +kernel
theorem k3004_81 : decode (qc 3004) 81 = .ok (.iload_n 3, 1) := by decide +kernel
theorem k3004_82 : decode (qc 3004) 82 = .ok (.iload_n 2, 1) := by decide +kernel
theorem k3004_83 : decode (qc 3004) 83 = .ok (.iand, 1) := by decide +kernel
theorem k3004_84 : decode (qc 3004) 84 = .ok (.invokevirtual 37, 3) := by decide +kernel
theorem k3004_87 : decode (qc 3004) 87 = .ok (.goto 76, 3) := by decide +kernel
theorem k3004_90 : decode (qc 3004) 90 = .ok (.aload_n 0, 1) := by decide +kernel
theorem k3004_91 : decode (qc 3004) 91 = .ok (.iload_n 3, 1) := by decide +kernel
theorem k3004_92 : decode (qc 3004) 92 = .ok (.iload_n 2, 1) := by decide +kernel
theorem k3004_93 : decode (qc 3004) 93 = .ok (.ior, 1) := by decide +kernel
theorem k3004_94 : decode (qc 3004) 94 = .ok (.invokevirtual 37, 3) := by decide +kernel
theorem k3004_97 : decode (qc 3004) 97 = .ok (.goto 66, 3) := by decide +kernel
theorem k3004_100 : decode (qc 3004) 100 = .ok (.aload_n 0, 1) := by decide +kernel
theorem k3004_101 : decode (qc 3004) 101 = .ok (.iload_n 3, 1) := by decide +kernel
theorem k3004_102 : decode (qc 3004) 102 = .ok (.iload_n 2, 1) := by decide +kernel
theorem k3004_103 : decode (qc 3004) 103 = .ok (.if_icmp .ne 7, 3) := by decide +kernel
theorem k3004_106 : decode (qc 3004) 106 = .ok (.iconst 1, 1) := by decide +kernel
theorem k3004_107 : decode (qc 3004) 107 = .ok (.goto 4, 3) := by decide +kernel
theorem k3004_110 : decode (qc 3004) 110 = .ok (.iconst 0, 1) := by decide +kernel
theorem k3004_111 : decode (qc 3004) 111 = .ok (.invokevirtual 37, 3) := by decide +kernel
theorem k3004_114 : decode (qc 3004) 114 = .ok (.goto 49, 3) := by decide +kernel
theorem k3004_117 : decode (qc 3004) 117 = .ok (.aload_n 0, 1) := by decide +kernel
theorem k3004_118 : decode (qc 3004) 118 = .ok (.iload_n 3, 1) := by decide +kernel
theorem k3004_119 : decode (qc 3004) 119 = .ok (.iload_n 2, 1) := by decide +kernel
theorem k3004_120 : decode (qc 3004) 120 = .ok (.if_icmp .ge 7, 3) := by decide +kernel
theorem k3004_123 : decode (qc 3004) 123 = .ok (.iconst 1, 1) := by decide +kernel
theorem k3004_124 : decode (qc 3004) 124 = .ok (.goto 4, 3) := by decide +kernel
theorem k3004_127 : decode (qc 3004) 127 = .ok (.iconst 0, 1) := by decide +kernel
theorem k3004_128 : decode (qc 3004) 128 = .ok (.invokevirtual 37, 3) := by decide +kernel
theorem k3004_131 : decode (qc 3004) 131 = .ok (.goto 32, 3) := by decide +kernel
theorem k3004_134 : decode (qc 3004) 134 = .ok (.aload_n 0, 1) := by decide +kernel
theorem k3004_135 : decode (qc 3004) 135 = .ok (.iload_n 3, 1) := by decide +kernel
theorem k3004_136 : decode (qc 3004) 136 = .ok (.iload_n 2, 1) := by decide +kernel
theorem k3004_137 : decode (qc 3004) 137 = .ok (.if_icmp .le 7, 3) := by decide +kernel
theorem k3004_140 : decode (qc 3004) 140 = .ok (.iconst 1, 1) := by decide +kernel
theorem k3004_141 : decode (qc 3004) 141 = .ok (.goto 4, 3) := by decide +kernel
theorem k3004_144 : decode (qc 3004) 144 = .ok (.iconst 0, 1) := by decide +kernel
theorem k3004_145 : decode (qc 3004) 145 = .ok (.invokevirtual 37, 3) := by decide +kernel
theorem k3004_148 : decode (qc 3004) 148 = .ok (.goto 15, 3) := by decide +kernel
theorem k3004_151 : decode (qc 3004) 151 = .ok (.aload_n 0, 1) := by decide +kernel
theorem k3004_152 : decode (qc 3004) 152 = .ok (.iload_n 1, 1) := by decide +kernel
theorem k3004_153 : decode (qc 3004) 153 = .ok (.iload_n 3, 1) := by decide +kernel
theorem k3004_154 : decode (qc 3004) 154 = .ok (.i2l, 1) := by decide +kernel
theorem k3004_155 : decode (qc 3004) 155 = .ok (.iload_n 2, 1) := by decide +kernel
theorem k3004_156 : decode (qc 3004) 156 = .ok (.i2l, 1) := by decide +kernel
theorem k3004_157 : decode (qc 3004) 157 = .ok (.invokestatic 48, 3) := by decide +kernel
theorem k3004_160 : decode (qc 3004) 160 = .ok (.invokevirtual 37, 3) := by decide +kernel
theorem k3004_163 : decode (qc 3004) 163 = .ok (.return_, 1) := by decide +kernel
theorem k3005_0 : decode (qc 3005) 0 = .ok (.iload_n 0, 1) := by decide +kernel
theorem k3005_1 : decode (qc 3005) 1 = .ok (.bipush 43, 2) := by decide +kernel
theorem k3005_3 : decode (qc 3005) 3 = .ok (.if_icmp .ne 11, 3) := by decide +kernel
theorem k3005_6 : decode (qc 3005) 6 = .ok (.lload_n 1, 1) := by decide +kernel
theorem k3005_7 : decode (qc 3005) 7 = .ok (.lload_n 3, 1) := by decide +kernel
theorem k3005_8 : decode (qc 3005) 8 = .ok (.ladd, 1) := by decide +kernel
theorem k3005_9 : decode (qc 3005) 9 = .ok (.lstore 5, 2) := by decide +kernel
theorem k3005_11 : decode (qc 3005) 11 = .ok (.goto 46, 3) := by decide +kernel
theorem k3005_14 : decode (qc 3005) 14 = .ok (.iload_n 0, 1) := by decide +kernel
theorem k3005_15 : decode (qc 3005) 15 = .ok (.bipush 45, 2) := by decide +kernel
theorem k3005_17 : decode (qc 3005) 17 = .ok (.if_icmp .ne 11, 3) := by decide +kernel
theorem k3005_20 : decode (qc 3005) 20 = .ok (.lload_n 1, 1) := by decide +kernel
theorem k3005_21 : decode (qc 3005) 21 = .ok (.lload_n 3, 1) := by decide +kernel
theorem k3005_22 : decode (qc 3005) 22 = .ok (.lsub, 1) := by decide +kernel
theorem k3005_23 : decode (qc 3005) 23 = .ok (.lstore 5, 2) := by decide +kernel
theorem k3005_25 : decode (qc 3005) 25 = .ok (.goto 32, 3) := by decide +kernel
theorem k3005_28 : decode (qc 3005) 28 = .ok (.iload_n 0, 1) := by decide +kernel
theorem k3005_29 : decode (qc 3005) 29 = .ok (.bipush 42, 2) := by decide +kernel
theorem k3005_31 : decode (qc 3005) 31 = .ok (.if_icmp .ne 11, 3) := by decide +kernel
theorem k3005_34 : decode (qc 3005) 34 = .ok (.lload_n 1, 1) := by decide +kernel
theorem k3005_35 : decode (qc 3005) 35 = .ok (.lload_n 3, 1) := by decide +kernel
theorem k3005_36 : decode (qc 3005) 36 = .ok (.lmul, 1) := by decide +kernel
theorem k3005_37 : decode (qc 3005) 37 = .ok (.lstore 5, 2) := by decide +kernel
theorem k3005_39 : decode (qc 3005) 39 = .ok (.goto 18, 3) := by decide +kernel
theorem k3005_42 : decode (qc 3005) 42 = .ok (.lload_n 3, 1) := by decide +kernel
theorem k3005_43 : decode (qc 3005) 43 = .ok (.lconst 0, 1) := by decide +kernel
theorem k3005_44 : decode (qc 3005) 44 = .ok (.lcmp, 1) := by decide +kernel
theorem k3005_45 : decode (qc 3005) 45 = .ok (.ifCond .ne 7, 3) := by decide +kernel
theorem k3005_48 : decode (qc 3005) 48 = .ok (.lconst 0, 1) := by decide +kernel
theorem k3005_49 : decode (qc 3005) 49 = .ok (.goto 6, 3) := by decide +kernel
theorem k3005_52 : decode (qc 3005) 52 = .ok (.lload_n 1, 1) := by decide +kernel
theorem k3005_53 : decode (qc 3005) 53 = .ok (.lload_n 3, 1) := by decide +kernel
theorem k3005_54 : decode (qc 3005) 54 = .ok (.ldiv, 1) := by decide +kernel
theorem k3005_55 : decode (qc 3005) 55 = .ok (.lstore 5, 2) := by decide +kernel
theorem k3005_57 : decode (qc 3005) 57 = .ok (.ldc2_w 52, 3) := by decide +kernel
theorem k3005_60 : decode (qc 3005) 60 = .ok (.ldc2_w 54, 3) := by decide +kernel
theorem k3005_63 : decode (qc 3005) 63 = .ok (.lload 5, 2) := by decide +kernel
theorem k3005_65 : decode (qc 3005) 65 = .ok (.invokestatic 56, 3) := by decide +kernel
theorem k3005_68 : decode (qc 3005) 68 = .ok (.invokestatic 59, 3) := by decide +kernel
theorem k3005_71 : decode (qc 3005) 71 = .ok (.l2i, 1) := by decide +kernel
theorem k3005_72 : decode (qc 3005) 72 = .ok (.ireturn, 1) := by decide +kernel
theorem k3006_0 : decode (qc 3006) 0 = .ok (.aload_n 0, 1) := by decide +kernel
theorem k3006_1 : decode (qc 3006) 1 = .ok (.getfield 34, 3) := by decide +kernel
theorem k3006_4 : decode (qc 3006) 4 = .ok (.sipush 161, 3) := by decide +kernel
theorem k3006_7 : decode (qc 3006) 7 = .ok (.if_icmp .ge 23, 3) := by decide +kernel
theorem k3006_10 : decode (qc 3006) 10 = .ok (.aload_n 0, 1) := by decide +kernel
theorem k3006_11 : decode (qc 3006) 11 = .ok (.getfield 15, 3) := by decide +kernel
theorem k3006_14 : decode (qc 3006) 14 = .ok (.aload_n 0, 1) := by decide +kernel
theorem k3006_15 : decode (qc 3006) 15 = .ok (.getfield 34, 3) := by decide +kernel
theorem k3006_18 : decode (qc 3006) 18 = .ok (.iload_n 1, 1) := by decide +kernel
theorem k3006_19 : decode (qc 3006) 19 = .ok (.iastore, 1) := by decide +kernel
theorem k3006_20 : decode (qc 3006) 20 = .ok (.aload_n 0, 1) := by decide +kernel
theorem k3006_21 : decode (qc 3006) 21 = .ok (.dup, 1) := by decide +kernel
theorem k3006_22 : decode (qc 3006) 22 = .ok (.getfield 34, 3) := by decide +kernel
theorem k3006_25 : decode (qc 3006) 25 = .ok (.iconst 1, 1) := by decide +kernel
theorem k3006_26 : decode (qc 3006) 26 = .ok (.iadd, 1) := by decide +kernel
theorem k3006_27 : decode (qc 3006) 27 = .ok (.putfield 34, 3) := by decide +kernel
theorem k3006_30 : decode (qc 3006) 30 = .ok (.return_, 1) := by decide +kernel
theorem k3007_0 : decode (qc 3007) 0 = .ok (.aload_n 0, 1) := by decide +kernel
theorem k3007_1 : decode (qc 3007) 1 = .ok (.getfield 34, 3) := by decide +kernel
theorem k3007_4 : decode (qc 3007) 4 = .ok (.ifCond .gt 5, 3) := by decide +kernel
theorem k3007_7 : decode (qc 3007) 7 = .ok (.iconst 0, 1) := by decide +kernel
theorem k3007_8 : decode (qc 3007) 8 = .ok (.ireturn, 1) := by decide +kernel
theorem k3007_9 : decode (qc 3007) 9 = .ok (.aload_n 0, 1) := by decide +kernel
theorem k3007_10 : decode (qc 3007) 10 = .ok (.dup, 1) := by decide +kernel
theorem k3007_11 : decode (qc 3007) 11 = .ok (.getfield 34, 3) := by decide +kernel
theorem k3007_14 : decode (qc 3007) 14 = .ok (.iconst 1, 1) := by decide +kernel
theorem k3007_15 : decode (qc 3007) 15 = .ok (.isub, 1) := by decide +kernel
theorem k3007_16 : decode (qc 3007) 16 = .ok (.putfield 34, 3) := by decide +kernel
theorem k3007_19 : decode (qc 3007) 19 = .ok (.aload_n 0, 1) := by decide +kernel
theorem k3007_20 : decode (qc 3007) 20 = .ok (.getfield 15, 3) := by decide +kernel
theorem k3007_23 : decode (qc 3007) 23 = .ok (.aload_n 0, 1) := by decide +kernel
theorem k3007_24 : decode (qc 3007) 24 = .ok (.getfield 34, 3) := by decide +kernel
theorem k3007_27 : decode (qc 3007) 27 = .ok (.iaload, 1) := by decide +kernel
theorem k3007_28 : decode (qc 3007) 28 = .ok (.ireturn, 1) := by decide +kernel
theorem k5000_0 : decode (qc 5000) 0 = .ok (.aload_n 0, 1) := by decide +kernel
theorem k5000_1 : decode (qc 5000) 1 = .ok (.invokespecial 3, 3) := by decide +kernel
theorem k5000_4 : decode (qc 5000) 4 = .ok (.aload_n 0, 1) := by decide +kernel
theorem k5000_5 : decode (qc 5000) 5 = .ok (.iconst 5, 1) := by decide +kernel
theorem k5000_6 : decode (qc 5000) 6 = .ok (.newarray .int, 2) := by decide +kernel
theorem k5000_8 : decode (qc 5000) 8 = .ok (.putfield 9, 3) := by decide +kernel
theorem k5000_11 : decode (qc 5000) 11 = .ok (.aload_n 0, 1) := by decide +kernel
theorem k5000_12 : decode (qc 5000) 12 = .ok (.iconst 5, 1) := by decide +kernel
theorem k5000_13 : decode (qc 5000) 13 = .ok (.newarray .int, 2) := by decide +kernel
theorem k5000_15 : decode (qc 5000) 15 = .ok (.putfield 15, 3) := by decide +kernel
theorem k5000_18 : decode (qc 5000) 18 = .ok (.return_, 1) := by decide +kernel
theorem k5001_0 : decode (qc 5001) 0 = .ok (.aload_n 0, 1) := by decide +kernel
theorem k5001_1 : decode (qc 5001) 1 = .ok (.iload_n 3, 1) := by decide +kernel
theorem k5001_2 : decode (qc 5001) 2 = .ok (.putfield 18, 3) := by decide +kernel
theorem k5001_5 : decode (qc 5001) 5 = .ok (.iconst 0, 1) := by decide +kernel
theorem k5001_6 : decode (qc 5001) 6 = .ok (.istore 6, 2) := by decide +kernel
theorem k5001_8 : decode (qc 5001) 8 = .ok (.iload 6, 2) := by decide +kernel
theorem k5001_10 : decode (qc 5001) 10 = .ok (.iconst 5, 1) := by decide +kernel
theorem k5001_11 : decode (qc 5001) 11 = .ok (.if_icmp .ge 17, 3) := by decide +kernel
theorem k5001_14 : decode (qc 5001) 14 = .ok (.aload_n 0, 1) := by decide +kernel
theorem k5001_15 : decode (qc 5001) 15 = .ok (.getfield 9, 3) := by decide +kernel
theorem k5001_18 : decode (qc 5001) 18 = .ok (.iload 6, 2) := by decide +kernel
theorem k5001_20 : decode (qc 5001) 20 = .ok (.iconst (-1), 1) := by decide +kernel
theorem k5001_21 : decode (qc 5001) 21 = .ok (.iastore, 1) := by decide +kernel
theorem k5001_22 : decode (qc 5001) 22 = .ok (.iinc 6 1, 3) := by decide +kernel
theorem k5001_25 : decode (qc 5001) 25 = .ok (.goto (-17), 3) := by decide +kernel
theorem k5001_28 : decode (qc 5001) 28 = .ok (.iconst 0, 1) := by decide +kernel
theorem k5001_29 : decode (qc 5001) 29 = .ok (.istore 6, 2) := by decide +kernel
theorem k5001_31 : decode (qc 5001) 31 = .ok (.iload 6, 2) := by decide +kernel
theorem k5001_33 : decode (qc 5001) 33 = .ok (.aload_n 1, 1) := by decide +kernel
theorem k5001_34 : decode (qc 5001) 34 = .ok (.getfield 22, 3) := by decide +kernel
theorem k5001_37 : decode (qc 5001) 37 = .ok (.if_icmp .ge 83, 3) := by decide +kernel
theorem k5001_40 : decode (qc 5001) 40 = .ok (.aload_n 1, 1) := by decide +kernel
theorem k5001_41 : decode (qc 5001) 41 = .ok (.getfield 27, 3) := by decide +kernel
theorem k5001_44 : decode (qc 5001) 44 = .ok (.iload 6, 2) := by decide +kernel
theorem k5001_46 : decode (qc 5001) 46 = .ok (.iaload, 1) := by decide +kernel
theorem k5001_47 : decode (qc 5001) 47 = .ok (.iload 4, 2) := by decide +kernel
theorem k5001_49 : decode (qc 5001) 49 = .ok (.if_icmp .gt 71, 3) := by decide +kernel
theorem k5001_52 : decode (qc 5001) 52 = .ok (.aload_n 2, 1) := by decide +kernel
theorem k5001_53 : decode (qc 5001) 53 = .ok (.iload 6, 2) := by decide +kernel
theorem k5001_55 : decode (qc 5001) 55 = .ok (.baload, 1) := by decide +kernel
theorem k5001_56 : decode (qc 5001) 56 = .ok (.ifCond .eq 58, 3) := by decide +kernel
theorem k5001_59 : decode (qc 5001) 59 = .ok (.iload 5, 2) := by decide +kernel
theorem k5001_61 : decode (qc 5001) 61 = .ok (.ifCond .eq 18, 3) := by decide +kernel
theorem k5001_64 : decode (qc 5001) 64 = .ok (.iload 4, 2) := by decide +kernel
theorem k5001_66 : decode (qc 5001) 66 = .ok (.aload_n 1, 1) := by decide +kernel
theorem k5001_67 : decode (qc 5001) 67 = .ok (.getfield 27, 3) := by decide +kernel
theorem k5001_70 : decode (qc 5001) 70 = .ok (.iload 6, 2) := by decide +kernel
theorem k5001_72 : decode (qc 5001) 72 = .ok (.iaload, 1) := by decide +kernel
theorem k5001_73 : decode (qc 5001) 73 = .ok (.isub, 1) := by decide +kernel
theorem k5001_74 : decode (qc 5001) 74 = .ok (.iload 5, 2) := by decide +kernel
theorem k5001_76 : decode (qc 5001) 76 = .ok (.if_icmp .ge 7, 3) := by decide +kernel
theorem k5001_79 : decode (qc 5001) 79 = .ok (.iconst 1, 1) := by decide +kernel
theorem k5001_80 : decode (qc 5001) 80 = .ok (.goto 4, 3) := by decide +kernel
theorem k5001_83 : decode (qc 5001) 83 = .ok (.iconst 0, 1) := by decide +kernel
theorem k5001_84 : decode (qc 5001) 84 = .ok (.istore 7, 2) := by decide +kernel
theorem k5001_86 : decode (qc 5001) 86 = .ok (.aload_n 0, 1) := by decide +kernel
theorem k5001_87 : decode (qc 5001) 87 = .ok (.getfield 9, 3) := by decide +kernel
theorem k5001_90 : decode (qc 5001) 90 = .ok (.aload_n 1, 1) := by decide +kernel
theorem k5001_91 : decode (qc 5001) 91 = .ok (.getfield 30, 3) := by decide +kernel
theorem k5001_94 : decode (qc 5001) 94 = .ok (.iload 6, 2) := by decide +kernel
theorem k5001_96 : decode (qc 5001) 96 = .ok (.iaload, 1) := by decide +kernel
theorem k5001_97 : decode (qc 5001) 97 = .ok (.iload 7, 2) := by decide +kernel
theorem k5001_99 : decode (qc 5001) 99 = .ok (.ifCond .eq 13, 3) := by decide +kernel
theorem k5001_102 : decode (qc 5001) 102 = .ok (.aload_n 1, 1) := by decide +kernel
theorem k5001_103 : decode (qc 5001) 103 = .ok (.getfield 33, 3) := by decide +kernel
theorem k5001_106 : decode (qc 5001) 106 = .ok (.iload 6, 2) := by decide +kernel
theorem k5001_108 : decode (qc 5001) 108 = .ok (.iaload, 1) := by decide +kernel
theorem k5001_109 : decode (qc 5001) 109 = .ok (.goto 4, 3) := by decide +kernel
theorem k5001_112 : decode (qc 5001) 112 = .ok (.iconst (-1), 1) := by decide +kernel
theorem k5001_113 : decode (qc 5001) 113 = .ok (.iastore, 1) := by decide +kernel
theorem k5001_114 : decode (qc 5001) 114 = .ok (.iinc 6 1, 3) := by decide +kernel
theorem k5001_117 : decode (qc 5001) 117 = .ok (.goto (-86), 3) := by decide +kernel
theorem k5001_120 : decode (qc 5001) 120 = .ok (.return_, 1) := by decide +kernel
theorem k5002_0 : decode (qc 5002) 0 = .ok (.bipush 10, 2) := by decide +kernel
theorem k5002_2 : decode (qc 5002) 2 = .ok (.iload_n 1, 1) := by decide +kernel
theorem k5002_3 : decode (qc 5002) 3 = .ok (.iadd, 1) := by decide +kernel
theorem k5002_4 : decode (qc 5002) 4 = .ok (.istore_n 2, 1) := by decide +kernel
theorem k5002_5 : decode (qc 5002) 5 = .ok (.iconst 0, 1) := by decide +kernel
theorem k5002_6 : decode (qc 5002) 6 = .ok (.istore_n 3, 1) := by decide +kernel
theorem k5002_7 : decode (qc 5002) 7 = .ok (.iload_n 3, 1) := by decide +kernel
theorem k5002_8 : decode (qc 5002) 8 = .ok (.aload_n 0, 1) := by decide +kernel
theorem k5002_9 : decode (qc 5002) 9 = .ok (.getfield 18, 3) := by decide +kernel
theorem k5002_12 : decode (qc 5002) 12 = .ok (.if_icmp .gt 26, 3) := by decide +kernel
theorem k5002_15 : decode (qc 5002) 15 = .ok (.iload_n 2, 1) := by decide +kernel
theorem k5002_16 : decode (qc 5002) 16 = .ok (.invokestatic 36, 3) := by decide +kernel
theorem k5002_19 : decode (qc 5002) 19 = .ok (.ifCond .eq 19, 3) := by decide +kernel
theorem k5002_22 : decode (qc 5002) 22 = .ok (.aload_n 0, 1) := by decide +kernel
theorem k5002_23 : decode (qc 5002) 23 = .ok (.getfield 9, 3) := by decide +kernel
theorem k5002_26 : decode (qc 5002) 26 = .ok (.iload_n 2, 1) := by decide +kernel
theorem k5002_27 : decode (qc 5002) 27 = .ok (.bipush 10, 2) := by decide +kernel
theorem k5002_29 : decode (qc 5002) 29 = .ok (.isub, 1) := by decide +kernel
theorem k5002_30 : decode (qc 5002) 30 = .ok (.iaload, 1) := by decide +kernel
theorem k5002_31 : decode (qc 5002) 31 = .ok (.istore_n 2, 1) := by decide +kernel
theorem k5002_32 : decode (qc 5002) 32 = .ok (.iinc 3 1, 3) := by decide +kernel
theorem k5002_35 : decode (qc 5002) 35 = .ok (.goto (-28), 3) := by decide +kernel
theorem k5002_38 : decode (qc 5002) 38 = .ok (.iload_n 2, 1) := by decide +kernel
theorem k5002_39 : decode (qc 5002) 39 = .ok (.invokestatic 36, 3) := by decide +kernel
theorem k5002_42 : decode (qc 5002) 42 = .ok (.ifCond .eq 7, 3) := by decide +kernel
theorem k5002_45 : decode (qc 5002) 45 = .ok (.iconst (-1), 1) := by decide +kernel
theorem k5002_46 : decode (qc 5002) 46 = .ok (.goto 4, 3) := by decide +kernel
theorem k5002_49 : decode (qc 5002) 49 = .ok (.iload_n 2, 1) := by decide +kernel
theorem k5002_50 : decode (qc 5002) 50 = .ok (.ireturn, 1) := by decide +kernel
theorem k5003_0 : decode (qc 5003) 0 = .ok (.aload_n 0, 1) := by decide +kernel
theorem k5003_1 : decode (qc 5003) 1 = .ok (.iload_n 1, 1) := by decide +kernel
theorem k5003_2 : decode (qc 5003) 2 = .ok (.invokevirtual 40, 3) := by decide +kernel
theorem k5003_5 : decode (qc 5003) 5 = .ok (.iconst (-1), 1) := by decide +kernel
theorem k5003_6 : decode (qc 5003) 6 = .ok (.if_icmp .ne 5, 3) := by decide +kernel
theorem k5003_9 : decode (qc 5003) 9 = .ok (.iconst 0, 1) := by decide +kernel
theorem k5003_10 : decode (qc 5003) 10 = .ok (.ireturn, 1) := by decide +kernel
theorem k5003_11 : decode (qc 5003) 11 = .ok (.bipush 10, 2) := by decide +kernel
theorem k5003_13 : decode (qc 5003) 13 = .ok (.iload_n 1, 1) := by decide +kernel
theorem k5003_14 : decode (qc 5003) 14 = .ok (.iadd, 1) := by decide +kernel
theorem k5003_15 : decode (qc 5003) 15 = .ok (.istore_n 2, 1) := by decide +kernel
theorem k5003_16 : decode (qc 5003) 16 = .ok (.iconst 0, 1) := by decide +kernel
theorem k5003_17 : decode (qc 5003) 17 = .ok (.istore_n 3, 1) := by decide +kernel
theorem k5003_18 : decode (qc 5003) 18 = .ok (.iload_n 3, 1) := by decide +kernel
theorem k5003_19 : decode (qc 5003) 19 = .ok (.aload_n 0, 1) := by decide +kernel
theorem k5003_20 : decode (qc 5003) 20 = .ok (.getfield 18, 3) := by decide +kernel
theorem k5003_23 : decode (qc 5003) 23 = .ok (.if_icmp .gt 26, 3) := by decide +kernel
theorem k5003_26 : decode (qc 5003) 26 = .ok (.iload_n 2, 1) := by decide +kernel
theorem k5003_27 : decode (qc 5003) 27 = .ok (.invokestatic 36, 3) := by decide +kernel
theorem k5003_30 : decode (qc 5003) 30 = .ok (.ifCond .eq 19, 3) := by decide +kernel
theorem k5003_33 : decode (qc 5003) 33 = .ok (.aload_n 0, 1) := by decide +kernel
theorem k5003_34 : decode (qc 5003) 34 = .ok (.getfield 9, 3) := by decide +kernel
theorem k5003_37 : decode (qc 5003) 37 = .ok (.iload_n 2, 1) := by decide +kernel
theorem k5003_38 : decode (qc 5003) 38 = .ok (.bipush 10, 2) := by decide +kernel
theorem k5003_40 : decode (qc 5003) 40 = .ok (.isub, 1) := by decide +kernel
theorem k5003_41 : decode (qc 5003) 41 = .ok (.iaload, 1) := by decide +kernel
theorem k5003_42 : decode (qc 5003) 42 = .ok (.istore_n 2, 1) := by decide +kernel
theorem k5003_43 : decode (qc 5003) 43 = .ok (.iinc 3 1, 3) := by decide +kernel
theorem k5003_46 : decode (qc 5003) 46 = .ok (.goto (-28), 3) := by decide +kernel
theorem k5003_49 : decode (qc 5003) 49 = .ok (.iload_n 3, 1) := by decide +kernel
theorem k5003_50 : decode (qc 5003) 50 = .ok (.ireturn, 1) := by decide +kernel
theorem k5004_0 : decode (qc 5004) 0 = .ok (.bipush 10, 2) := by decide +kernel
theorem k5004_2 : decode (qc 5004) 2 = .ok (.iload_n 1, 1) := by decide +kernel
theorem k5004_3 : decode (qc 5004) 3 = .ok (.iadd, 1) := by decide +kernel
theorem k5004_4 : decode (qc 5004) 4 = .ok (.istore_n 3, 1) := by decide +kernel
theorem k5004_5 : decode (qc 5004) 5 = .ok (.iconst 0, 1) := by decide +kernel
theorem k5004_6 : decode (qc 5004) 6 = .ok (.istore 4, 2) := by decide +kernel
theorem k5004_8 : decode (qc 5004) 8 = .ok (.iload 4, 2) := by decide +kernel
theorem k5004_10 : decode (qc 5004) 10 = .ok (.iload_n 2, 1) := by decide +kernel
theorem k5004_11 : decode (qc 5004) 11 = .ok (.if_icmp .ge 26, 3) := by decide +kernel
theorem k5004_14 : decode (qc 5004) 14 = .ok (.iload_n 3, 1) := by decide +kernel
theorem k5004_15 : decode (qc 5004) 15 = .ok (.invokestatic 36, 3) := by decide +kernel
theorem k5004_18 : decode (qc 5004) 18 = .ok (.ifCond .eq 19, 3) := by decide +kernel
theorem k5004_21 : decode (qc 5004) 21 = .ok (.aload_n 0, 1) := by decide +kernel
theorem k5004_22 : decode (qc 5004) 22 = .ok (.getfield 9, 3) := by decide +kernel
theorem k5004_25 : decode (qc 5004) 25 = .ok (.iload_n 3, 1) := by decide +kernel
theorem k5004_26 : decode (qc 5004) 26 = .ok (.bipush 10, 2) := by decide +kernel
theorem k5004_28 : decode (qc 5004) 28 = .ok (.isub, 1) := by decide +kernel
theorem k5004_29 : decode (qc 5004) 29 = .ok (.iaload, 1) := by decide +kernel
theorem k5004_30 : decode (qc 5004) 30 = .ok (.istore_n 3, 1) := by decide +kernel
theorem k5004_31 : decode (qc 5004) 31 = .ok (.iinc 4 1, 3) := by decide +kernel
theorem k5004_34 : decode (qc 5004) 34 = .ok (.goto (-26), 3) := by decide +kernel
theorem k5004_37 : decode (qc 5004) 37 = .ok (.iload_n 3, 1) := by decide +kernel
theorem k5004_38 : decode (qc 5004) 38 = .ok (.ireturn, 1) := by decide +kernel
theorem k5005_0 : decode (qc 5005) 0 = .ok (.bipush 10, 2) := by decide +kernel
theorem k5005_2 : decode (qc 5005) 2 = .ok (.iload_n 1, 1) := by decide +kernel
theorem k5005_3 : decode (qc 5005) 3 = .ok (.iadd, 1) := by decide +kernel
theorem k5005_4 : decode (qc 5005) 4 = .ok (.istore_n 3, 1) := by decide +kernel
theorem k5005_5 : decode (qc 5005) 5 = .ok (.iconst 0, 1) := by decide +kernel
theorem k5005_6 : decode (qc 5005) 6 = .ok (.istore 4, 2) := by decide +kernel
theorem k5005_8 : decode (qc 5005) 8 = .ok (.iload 4, 2) := by decide +kernel
theorem k5005_10 : decode (qc 5005) 10 = .ok (.aload_n 0, 1) := by decide +kernel
theorem k5005_11 : decode (qc 5005) 11 = .ok (.getfield 18, 3) := by decide +kernel
theorem k5005_14 : decode (qc 5005) 14 = .ok (.if_icmp .gt 36, 3) := by decide +kernel
theorem k5005_17 : decode (qc 5005) 17 = .ok (.iload_n 3, 1) := by decide +kernel
theorem k5005_18 : decode (qc 5005) 18 = .ok (.invokestatic 36, 3) := by decide +kernel
theorem k5005_21 : decode (qc 5005) 21 = .ok (.ifCond .eq 29, 3) := by decide +kernel
theorem k5005_24 : decode (qc 5005) 24 = .ok (.iload_n 3, 1) := by decide +kernel
theorem k5005_25 : decode (qc 5005) 25 = .ok (.bipush 10, 2) := by decide +kernel
theorem k5005_27 : decode (qc 5005) 27 = .ok (.iload_n 2, 1) := by decide +kernel
theorem k5005_28 : decode (qc 5005) 28 = .ok (.iadd, 1) := by decide +kernel
theorem k5005_29 : decode (qc 5005) 29 = .ok (.if_icmp .ne 5, 3) := by decide +kernel
theorem k5005_32 : decode (qc 5005) 32 = .ok (.iconst 1, 1) := by decide +kernel
theorem k5005_33 : decode (qc 5005) 33 = .ok (.ireturn, 1) := by decide +kernel
theorem k5005_34 : decode (qc 5005) 34 = .ok (.aload_n 0, 1) := by decide +kernel
theorem k5005_35 : decode (qc 5005) 35 = .ok (.getfield 9, 3) := by decide +kernel
theorem k5005_38 : decode (qc 5005) 38 = .ok (.iload_n 3, 1) := by decide +kernel
theorem k5005_39 : decode (qc 5005) 39 = .ok (.bipush 10, 2) := by decide +kernel
theorem k5005_41 : decode (qc 5005) 41 = .ok (.isub, 1) := by decide +kernel
theorem k5005_42 : decode (qc 5005) 42 = .ok (.iaload, 1) := by decide +kernel
theorem k5005_43 : decode (qc 5005) 43 = .ok (.istore_n 3, 1) := by decide +kernel
theorem k5005_44 : decode (qc 5005) 44 = .ok (.iinc 4 1, 3) := by decide +kernel
theorem k5005_47 : decode (qc 5005) 47 = .ok (.goto (-39), 3) := by decide +kernel
theorem k5005_50 : decode (qc 5005) 50 = .ok (.iconst 0, 1) := by decide +kernel
theorem k5005_51 : decode (qc 5005) 51 = .ok (.ireturn, 1) := by decide +kernel
theorem k5006_0 : decode (qc 5006) 0 = .ok (.iconst 0, 1) := by decide +kernel
theorem k5006_1 : decode (qc 5006) 1 = .ok (.istore_n 2, 1) := by decide +kernel
theorem k5006_2 : decode (qc 5006) 2 = .ok (.iconst 0, 1) := by decide +kernel
theorem k5006_3 : decode (qc 5006) 3 = .ok (.istore_n 3, 1) := by decide +kernel
theorem k5006_4 : decode (qc 5006) 4 = .ok (.iload_n 3, 1) := by decide +kernel
theorem k5006_5 : decode (qc 5006) 5 = .ok (.aload_n 0, 1) := by decide +kernel
theorem k5006_6 : decode (qc 5006) 6 = .ok (.getfield 18, 3) := by decide +kernel
theorem k5006_9 : decode (qc 5006) 9 = .ok (.if_icmp .ge 24, 3) := by decide +kernel
theorem k5006_12 : decode (qc 5006) 12 = .ok (.aload_n 0, 1) := by decide +kernel
theorem k5006_13 : decode (qc 5006) 13 = .ok (.iload_n 3, 1) := by decide +kernel
theorem k5006_14 : decode (qc 5006) 14 = .ok (.invokevirtual 40, 3) := by decide +kernel
theorem k5006_17 : decode (qc 5006) 17 = .ok (.iload_n 1, 1) := by decide +kernel
theorem k5006_18 : decode (qc 5006) 18 = .ok (.if_icmp .ne 9, 3) := by decide +kernel
theorem k5006_21 : decode (qc 5006) 21 = .ok (.iload_n 2, 1) := by decide +kernel
theorem k5006_22 : decode (qc 5006) 22 = .ok (.iconst 1, 1) := by decide +kernel
theorem k5006_23 : decode (qc 5006) 23 = .ok (.iload_n 3, 1) := by decide +kernel
theorem k5006_24 : decode (qc 5006) 24 = .ok (.ishl, 1) := by decide +kernel
theorem k5006_25 : decode (qc 5006) 25 = .ok (.ior, 1) := by decide +kernel
theorem k5006_26 : decode (qc 5006) 26 = .ok (.istore_n 2, 1) := by decide +kernel
theorem k5006_27 : decode (qc 5006) 27 = .ok (.iinc 3 1, 3) := by decide +kernel
theorem k5006_30 : decode (qc 5006) 30 = .ok (.goto (-26), 3) := by decide +kernel
theorem k5006_33 : decode (qc 5006) 33 = .ok (.iload_n 2, 1) := by decide +kernel
theorem k5006_34 : decode (qc 5006) 34 = .ok (.ireturn, 1) := by decide +kernel
theorem k5007_0 : decode (qc 5007) 0 = .ok (.aload_n 0, 1) := by decide +kernel
theorem k5007_1 : decode (qc 5007) 1 = .ok (.getfield 9, 3) := by decide +kernel
theorem k5007_4 : decode (qc 5007) 4 = .ok (.iconst 0, 1) := by decide +kernel
theorem k5007_5 : decode (qc 5007) 5 = .ok (.aload_n 0, 1) := by decide +kernel
theorem k5007_6 : decode (qc 5007) 6 = .ok (.getfield 15, 3) := by decide +kernel
theorem k5007_9 : decode (qc 5007) 9 = .ok (.iconst 0, 1) := by decide +kernel
theorem k5007_10 : decode (qc 5007) 10 = .ok (.iconst 5, 1) := by decide +kernel
theorem k5007_11 : decode (qc 5007) 11 = .ok (.invokestatic 44, 3) := by decide +kernel
theorem k5007_14 : decode (qc 5007) 14 = .ok (.iconst 0, 1) := by decide +kernel
theorem k5007_15 : decode (qc 5007) 15 = .ok (.istore_n 3, 1) := by decide +kernel
theorem k5007_16 : decode (qc 5007) 16 = .ok (.iload_n 3, 1) := by decide +kernel
theorem k5007_17 : decode (qc 5007) 17 = .ok (.aload_n 0, 1) := by decide +kernel
theorem k5007_18 : decode (qc 5007) 18 = .ok (.getfield 18, 3) := by decide +kernel
theorem k5007_21 : decode (qc 5007) 21 = .ok (.if_icmp .ge 25, 3) := by decide +kernel
theorem k5007_24 : decode (qc 5007) 24 = .ok (.iload_n 2, 1) := by decide +kernel
theorem k5007_25 : decode (qc 5007) 25 = .ok (.iload_n 3, 1) := by decide +kernel
theorem k5007_26 : decode (qc 5007) 26 = .ok (.ishr, 1) := by decide +kernel
theorem k5007_27 : decode (qc 5007) 27 = .ok (.iconst 1, 1) := by decide +kernel
theorem k5007_28 : decode (qc 5007) 28 = .ok (.iand, 1) := by decide +kernel
theorem k5007_29 : decode (qc 5007) 29 = .ok (.iconst 1, 1) := by decide +kernel
theorem k5007_30 : decode (qc 5007) 30 = .ok (.if_icmp .ne 10, 3) := by decide +kernel
theorem k5007_33 : decode (qc 5007) 33 = .ok (.aload_n 0, 1) := by decide +kernel
theorem k5007_34 : decode (qc 5007) 34 = .ok (.getfield 9, 3) := by decide +kernel
theorem k5007_37 : decode (qc 5007) 37 = .ok (.iload_n 3, 1) := by decide +kernel
theorem k5007_38 : decode (qc 5007) 38 = .ok (.iload_n 1, 1) := by decide +kernel
theorem k5007_39 : decode (qc 5007) 39 = .ok (.iastore, 1) := by decide +kernel
theorem k5007_40 : decode (qc 5007) 40 = .ok (.iinc 3 1, 3) := by decide +kernel
theorem k5007_43 : decode (qc 5007) 43 = .ok (.goto (-27), 3) := by decide +kernel
theorem k5007_46 : decode (qc 5007) 46 = .ok (.aload_n 0, 1) := by decide +kernel
theorem k5007_47 : decode (qc 5007) 47 = .ok (.iload_n 1, 1) := by decide +kernel
theorem k5007_48 : decode (qc 5007) 48 = .ok (.invokevirtual 50, 3) := by decide +kernel
theorem k5007_51 : decode (qc 5007) 51 = .ok (.iconst 1, 1) := by decide +kernel
theorem k5007_52 : decode (qc 5007) 52 = .ok (.aload_n 0, 1) := by decide +kernel
theorem k5007_53 : decode (qc 5007) 53 = .ok (.getfield 18, 3) := by decide +kernel
theorem k5007_56 : decode (qc 5007) 56 = .ok (.ishl, 1) := by decide +kernel
theorem k5007_57 : decode (qc 5007) 57 = .ok (.iconst 1, 1) := by decide +kernel
theorem k5007_58 : decode (qc 5007) 58 = .ok (.isub, 1) := by decide +kernel
theorem k5007_59 : decode (qc 5007) 59 = .ok (.if_icmp .ne 7, 3) := by decide +kernel
theorem k5007_62 : decode (qc 5007) 62 = .ok (.iconst 1, 1) := by decide +kernel
theorem k5007_63 : decode (qc 5007) 63 = .ok (.goto 4, 3) := by decide +kernel
theorem k5007_66 : decode (qc 5007) 66 = .ok (.iconst 0, 1) := by decide +kernel
theorem k5007_67 : decode (qc 5007) 67 = .ok (.istore_n 3, 1) := by decide +kernel
theorem k5007_68 : decode (qc 5007) 68 = .ok (.aload_n 0, 1) := by decide +kernel
theorem k5007_69 : decode (qc 5007) 69 = .ok (.getfield 15, 3) := by decide +kernel
theorem k5007_72 : decode (qc 5007) 72 = .ok (.iconst 0, 1) := by decide +kernel
theorem k5007_73 : decode (qc 5007) 73 = .ok (.aload_n 0, 1) := by decide +kernel
theorem k5007_74 : decode (qc 5007) 74 = .ok (.getfield 9, 3) := by decide +kernel
theorem k5007_77 : decode (qc 5007) 77 = .ok (.iconst 0, 1) := by decide +kernel
theorem k5007_78 : decode (qc 5007) 78 = .ok (.iconst 5, 1) := by decide +kernel
theorem k5007_79 : decode (qc 5007) 79 = .ok (.invokestatic 44, 3) := by decide +kernel
theorem k5007_82 : decode (qc 5007) 82 = .ok (.iload_n 3, 1) := by decide +kernel
theorem k5007_83 : decode (qc 5007) 83 = .ok (.ireturn, 1) := by decide +kernel
theorem k5008_0 : decode (qc 5008) 0 = .ok (.iload_n 0, 1) := by decide +kernel
theorem k5008_1 : decode (qc 5008) 1 = .ok (.bipush 10, 2) := by decide +kernel
theorem k5008_3 : decode (qc 5008) 3 = .ok (.if_icmp .lt 13, 3) := by decide +kernel
theorem k5008_6 : decode (qc 5008) 6 = .ok (.iload_n 0, 1) := by decide +kernel
theorem k5008_7 : decode (qc 5008) 7 = .ok (.bipush 15, 2) := by decide +kernel
theorem k5008_9 : decode (qc 5008) 9 = .ok (.if_icmp .ge 7, 3) := by decide +kernel
theorem k5008_12 : decode (qc 5008) 12 = .ok (.iconst 1, 1) := by decide +kernel
theorem k5008_13 : decode (qc 5008) 13 = .ok (.goto 4, 3) := by decide +kernel
theorem k5008_16 : decode (qc 5008) 16 = .ok (.iconst 0, 1) := by decide +kernel
theorem k5008_17 : decode (qc 5008) 17 = .ok (.ireturn, 1) := by decide +kernel
theorem k7000_0 : decode (qc 7000) 0 = .ok (.aload_n 0, 1) := by decide +kernel
theorem k7000_1 : decode (qc 7000) 1 = .ok (.invokespecial 3, 3) := by decide +kernel
theorem k7000_4 : decode (qc 7000) 4 = .ok (.aload_n 0, 1) := by decide +kernel
theorem k7000_5 : decode (qc 7000) 5 = .ok (.aload_n 1, 1) := by decide +kernel
theorem k7000_6 : decode (qc 7000) 6 = .ok (.putfield 9, 3) := by decide +kernel
theorem k7000_9 : decode (qc 7000) 9 = .ok (.return_, 1) := by decide +kernel
theorem k7001_0 : decode (qc 7001) 0 = .ok (.aload_n 0, 1) := by decide +kernel
theorem k7001_1 : decode (qc 7001) 1 = .ok (.getfield 15, 3) := by decide +kernel
theorem k7001_4 : decode (qc 7001) 4 = .ok (.aload_n 0, 1) := by decide +kernel
theorem k7001_5 : decode (qc 7001) 5 = .ok (.getfield 9, 3) := by decide +kernel
theorem k7001_8 : decode (qc 7001) 8 = .ok (.getfield 19, 3) := by decide +kernel
theorem k7001_11 : decode (qc 7001) 11 = .ok (.if_icmp .ge 43, 3) := by decide +kernel
theorem k7001_14 : decode (qc 7001) 14 = .ok (.aload_n 0, 1) := by decide +kernel
theorem k7001_15 : decode (qc 7001) 15 = .ok (.getfield 15, 3) := by decide +kernel
theorem k7001_18 : decode (qc 7001) 18 = .ok (.sipush 160, 3) := by decide +kernel
theorem k7001_21 : decode (qc 7001) 21 = .ok (.if_icmp .ge 33, 3) := by decide +kernel
theorem k7001_24 : decode (qc 7001) 24 = .ok (.aload_n 0, 1) := by decide +kernel
theorem k7001_25 : decode (qc 7001) 25 = .ok (.getfield 9, 3) := by decide +kernel
theorem k7001_28 : decode (qc 7001) 28 = .ok (.getfield 24, 3) := by decide +kernel
theorem k7001_31 : decode (qc 7001) 31 = .ok (.aload_n 0, 1) := by decide +kernel
theorem k7001_32 : decode (qc 7001) 32 = .ok (.getfield 15, 3) := by decide +kernel
theorem k7001_35 : decode (qc 7001) 35 = .ok (.iaload, 1) := by decide +kernel
theorem k7001_36 : decode (qc 7001) 36 = .ok (.bipush 32, 2) := by decide +kernel
theorem k7001_38 : decode (qc 7001) 38 = .ok (.if_icmp .ne 16, 3) := by decide +kernel
theorem k7001_41 : decode (qc 7001) 41 = .ok (.aload_n 0, 1) := by decide +kernel
theorem k7001_42 : decode (qc 7001) 42 = .ok (.dup, 1) := by decide +kernel
theorem k7001_43 : decode (qc 7001) 43 = .ok (.getfield 15, 3) := by decide +kernel
theorem k7001_46 : decode (qc 7001) 46 = .ok (.iconst 1, 1) := by decide +kernel
theorem k7001_47 : decode (qc 7001) 47 = .ok (.iadd, 1) := by decide +kernel
theorem k7001_48 : decode (qc 7001) 48 = .ok (.putfield 15, 3) := by decide +kernel
theorem k7001_51 : decode (qc 7001) 51 = .ok (.goto (-51), 3) := by decide +kernel
theorem k7001_54 : decode (qc 7001) 54 = .ok (.aload_n 0, 1) := by decide +kernel
theorem k7001_55 : decode (qc 7001) 55 = .ok (.getfield 15, 3) := by decide +kernel
theorem k7001_58 : decode (qc 7001) 58 = .ok (.aload_n 0, 1) := by decide +kernel
theorem k7001_59 : decode (qc 7001) 59 = .ok (.getfield 9, 3) := by decide +kernel
theorem k7001_62 : decode (qc 7001) 62 = .ok (.getfield 19, 3) := by decide +kernel
theorem k7001_65 : decode (qc 7001) 65 = .ok (.if_icmp .ge 28, 3) := by decide +kernel
theorem k7001_68 : decode (qc 7001) 68 = .ok (.aload_n 0, 1) := by decide +kernel
theorem k7001_69 : decode (qc 7001) 69 = .ok (.getfield 15, 3) := by decide +kernel
theorem k7001_72 : decode (qc 7001) 72 = .ok (.sipush 160, 3) := by decide +kernel
theorem k7001_75 : decode (qc 7001) 75 = .ok (.if_icmp .ge 18, 3) := by decide +kernel
theorem k7001_78 : decode (qc 7001) 78 = .ok (.aload_n 0, 1) := by decide +kernel
theorem k7001_79 : decode (qc 7001) 79 = .ok (.getfield 9, 3) := by decide +kernel
theorem k7001_82 : decode (qc 7001) 82 = .ok (.getfield 24, 3) := by decide +kernel
theorem k7001_85 : decode (qc 7001) 85 = .ok (.aload_n 0, 1) := by decide +kernel
theorem k7001_86 : decode (qc 7001) 86 = .ok (.getfield 15, 3) := by decide +kernel
theorem k7001_89 : decode (qc 7001) 89 = .ok (.iaload, 1) := by decide +kernel
theorem k7001_90 : decode (qc 7001) 90 = .ok (.goto 4, 3) := by decide +kernel
theorem k7001_93 : decode (qc 7001) 93 = .ok (.iconst (-1), 1) := by decide +kernel
theorem k7001_94 : decode (qc 7001) 94 = .ok (.ireturn, 1) := by decide +kernel
theorem k7002_0 : decode (qc 7002) 0 = .ok (.aload_n 0, 1) := by decide +kernel
theorem k7002_1 : decode (qc 7002) 1 = .ok (.invokevirtual 28, 3) := by decide +kernel
theorem k7002_4 : decode (qc 7002) 4 = .ok (.iload_n 1, 1) := by decide +kernel
theorem k7002_5 : decode (qc 7002) 5 = .ok (.if_icmp .eq 5, 3) := by decide +kernel
theorem k7002_8 : decode (qc 7002) 8 = .ok (.iconst 0, 1) := by decide +kernel
theorem k7002_9 : decode (qc 7002) 9 = .ok (.ireturn, 1) := by decide +kernel
theorem k7002_10 : decode (qc 7002) 10 = .ok (.aload_n 0, 1) := by decide +kernel
theorem k7002_11 : decode (qc 7002) 11 = .ok (.dup, 1) := by decide +kernel
theorem k7002_12 : decode (qc 7002) 12 = .ok (.getfield 15, 3) := by decide +kernel
theorem k7002_15 : decode (qc 7002) 15 = .ok (.iconst 1, 1) := by decide +kernel
theorem k7002_16 : decode (qc 7002) 16 = .ok (.iadd, 1) := by decide +kernel
theorem k7002_17 : decode (qc 7002) 17 = .ok (.putfield 15, 3) := by decide +kernel
theorem k7002_20 : decode (qc 7002) 20 = .ok (.iconst 1, 1) := by decide +kernel
theorem k7002_21 : decode (qc 7002) 21 = .ok (.ireturn, 1) := by decide +kernel
theorem k7003_0 : decode (qc 7003) 0 = .ok (.iload_n 0, 1) := by decide +kernel
theorem k7003_1 : decode (qc 7003) 1 = .ok (.bipush 48, 2) := by decide +kernel
theorem k7003_3 : decode (qc 7003) 3 = .ok (.if_icmp .lt 13, 3) := by decide +kernel
theorem k7003_6 : decode (qc 7003) 6 = .ok (.iload_n 0, 1) := by decide +kernel
theorem k7003_7 : decode (qc 7003) 7 = .ok (.bipush 57, 2) := by decide +kernel
theorem k7003_9 : decode (qc 7003) 9 = .ok (.if_icmp .gt 7, 3) := by decide +kernel
theorem k7003_12 : decode (qc 7003) 12 = .ok (.iconst 1, 1) := by decide +kernel
theorem k7003_13 : decode (qc 7003) 13 = .ok (.goto 4, 3) := by decide +kernel
theorem k7003_16 : decode (qc 7003) 16 = .ok (.iconst 0, 1) := by decide +kernel
theorem k7003_17 : decode (qc 7003) 17 = .ok (.ireturn, 1) := by decide +kernel
theorem k7004_0 : decode (qc 7004) 0 = .ok (.aload_n 0, 1) := by decide +kernel
theorem k7004_1 : decode (qc 7004) 1 = .ok (.invokevirtual 28, 3) := by decide +kernel
theorem k7004_4 : decode (qc 7004) 4 = .ok (.invokestatic 32, 3) := by decide +kernel
theorem k7004_7 : decode (qc 7004) 7 = .ok (.ifCond .ne 5, 3) := by decide +kernel
theorem k7004_10 : decode (qc 7004) 10 = .ok (.iconst (-1), 1) := by decide +kernel
theorem k7004_11 : decode (qc 7004) 11 = .ok (.ireturn, 1) := by decide +kernel
theorem k7004_12 : decode (qc 7004) 12 = .ok (.iconst 0, 1) := by decide +kernel
theorem k7004_13 : decode (qc 7004) 13 = .ok (.istore 4, 2) := by decide +kernel
theorem k7004_15 : decode (qc 7004) 15 = .ok (.iconst 0, 1) := by decide +kernel
theorem k7004_16 : decode (qc 7004) 16 = .ok (.istore 5, 2) := by decide +kernel
theorem k7004_18 : decode (qc 7004) 18 = .ok (.iload 5, 2) := by decide +kernel
theorem k7004_20 : decode (qc 7004) 20 = .ok (.iload_n 1, 1) := by decide +kernel
theorem k7004_21 : decode (qc 7004) 21 = .ok (.if_icmp .ge 58, 3) := by decide +kernel
theorem k7004_24 : decode (qc 7004) 24 = .ok (.aload_n 0, 1) := by decide +kernel
theorem k7004_25 : decode (qc 7004) 25 = .ok (.getfield 9, 3) := by decide +kernel
theorem k7004_28 : decode (qc 7004) 28 = .ok (.aload_n 0, 1) := by decide +kernel
theorem k7004_29 : decode (qc 7004) 29 = .ok (.getfield 15, 3) := by decide +kernel
theorem k7004_32 : decode (qc 7004) 32 = .ok (.invokevirtual 36, 3) := by decide +kernel
theorem k7004_35 : decode (qc 7004) 35 = .ok (.invokestatic 32, 3) := by decide +kernel
theorem k7004_38 : decode (qc 7004) 38 = .ok (.ifCond .eq 41, 3) := by decide +kernel
theorem k7004_41 : decode (qc 7004) 41 = .ok (.iload 4, 2) := by decide +kernel
theorem k7004_43 : decode (qc 7004) 43 = .ok (.bipush 10, 2) := by decide +kernel
theorem k7004_45 : decode (qc 7004) 45 = .ok (.imul, 1) := by decide +kernel
theorem k7004_46 : decode (qc 7004) 46 = .ok (.aload_n 0, 1) := by decide +kernel
theorem k7004_47 : decode (qc 7004) 47 = .ok (.getfield 9, 3) := by decide +kernel
theorem k7004_50 : decode (qc 7004) 50 = .ok (.aload_n 0, 1) := by decide +kernel
theorem k7004_51 : decode (qc 7004) 51 = .ok (.getfield 15, 3) := by decide +kernel
theorem k7004_54 : decode (qc 7004) 54 = .ok (.invokevirtual 36, 3) := by decide +kernel
theorem k7004_57 : decode (qc 7004) 57 = .ok (.iadd, 1) := by decide +kernel
theorem k7004_58 : decode (qc 7004) 58 = .ok (.bipush 48, 2) := by decide +kernel
theorem k7004_60 : decode (qc 7004) 60 = .ok (.isub, 1) := by decide +kernel
theorem k7004_61 : decode (qc 7004) 61 = .ok (.istore 4, 2) := by decide +kernel
theorem k7004_63 : decode (qc 7004) 63 = .ok (.aload_n 0, 1) := by decide +kernel
theorem k7004_64 : decode (qc 7004) 64 = .ok (.dup, 1) := by decide +kernel
theorem k7004_65 : decode (qc 7004) 65 = .ok (.getfield 15, 3) := by decide +kernel
theorem k7004_68 : decode (qc 7004) 68 = .ok (.iconst 1, 1) := by decide +kernel
theorem k7004_69 : decode (qc 7004) 69 = .ok (.iadd, 1) := by decide +kernel
theorem k7004_70 : decode (qc 7004) 70 = .ok (.putfield 15, 3) := by decide +kernel
theorem k7004_73 : decode (qc 7004) 73 = .ok (.iinc 5 1, 3) := by decide +kernel
theorem k7004_76 : decode (qc 7004) 76 = .ok (.goto (-58), 3) := by decide +kernel
theorem k7004_79 : decode (qc 7004) 79 = .ok (.aload_n 0, 1) := by decide +kernel
theorem k7004_80 : decode (qc 7004) 80 = .ok (.getfield 9, 3) := by decide +kernel
theorem k7004_83 : decode (qc 7004) 83 = .ok (.aload_n 0, 1) := by decide +kernel
theorem k7004_84 : decode (qc 7004) 84 = .ok (.getfield 15, 3) := by decide +kernel
theorem k7004_87 : decode (qc 7004) 87 = .ok (.invokevirtual 36, 3) := by decide +kernel
theorem k7004_90 : decode (qc 7004) 90 = .ok (.invokestatic 32, 3) := by decide +kernel
theorem k7004_93 : decode (qc 7004) 93 = .ok (.ifCond .eq 5, 3) := by decide +kernel
theorem k7004_96 : decode (qc 7004) 96 = .ok (.iconst (-1), 1) := by decide +kernel
theorem k7004_97 : decode (qc 7004) 97 = .ok (.ireturn, 1) := by decide +kernel
theorem k7004_98 : decode (qc 7004) 98 = .ok (.iload 4, 2) := by decide +kernel
theorem k7004_100 : decode (qc 7004) 100 = .ok (.iload_n 2, 1) := by decide +kernel
theorem k7004_101 : decode (qc 7004) 101 = .ok (.if_icmp .lt 9, 3) := by decide +kernel
theorem k7004_104 : decode (qc 7004) 104 = .ok (.iload 4, 2) := by decide +kernel
theorem k7004_106 : decode (qc 7004) 106 = .ok (.iload_n 3, 1) := by decide +kernel
theorem k7004_107 : decode (qc 7004) 107 = .ok (.if_icmp .le 15, 3) := by decide +kernel
theorem k7004_110 : decode (qc 7004) 110 = .ok (.aload_n 0, 1) := by decide +kernel
theorem k7004_111 : decode (qc 7004) 111 = .ok (.dup, 1) := by decide +kernel
theorem k7004_112 : decode (qc 7004) 112 = .ok (.getfield 15, 3) := by decide +kernel
theorem k7004_115 : decode (qc 7004) 115 = .ok (.iconst 1, 1) := by decide +kernel
theorem k7004_116 : decode (qc 7004) 116 = .ok (.isub, 1) := by decide +kernel
theorem k7004_117 : decode (qc 7004) 117 = .ok (.putfield 15, 3) := by decide +kernel
theorem k7004_120 : decode (qc 7004) 120 = .ok (.iconst (-1), 1) := by decide +kernel
theorem k7004_121 : decode (qc 7004) 121 = .ok (.ireturn, 1) := by decide +kernel
theorem k7004_122 : decode (qc 7004) 122 = .ok (.iload 4, 2) := by decide +kernel
theorem k7004_124 : decode (qc 7004) 124 = .ok (.ireturn, 1) := by decide +kernel
theorem k8000_0 : decode (qc 8000) 0 = .ok (.aload_n 0, 1) := by decide +kernel
theorem k8000_1 : decode (qc 8000) 1 = .ok (.invokespecial 3, 3) := by decide +kernel
theorem k8000_4 : decode (qc 8000) 4 = .ok (.aload_n 0, 1) := by decide +kernel
theorem k8000_5 : decode (qc 8000) 5 = .ok (.iconst 5, 1) := by decide +kernel
theorem k8000_6 : decode (qc 8000) 6 = .ok (.newarray .int, 2) := by decide +kernel
theorem k8000_8 : decode (qc 8000) 8 = .ok (.dup, 1) := by decide +kernel
theorem k8000_9 : decode (qc 8000) 9 = .ok (.iconst 0, 1) := by decide +kernel
theorem k8000_10 : decode (qc 8000) 10 = .ok (.iconst (-1), 1) := by decide +kernel
theorem k8000_11 : decode (qc 8000) 11 = .ok (.iastore, 1) := by decide +kernel
theorem k8000_12 : decode (qc 8000) 12 = .ok (.dup, 1) := by decide +kernel
theorem k8000_13 : decode (qc 8000) 13 = .ok (.iconst 1, 1) := by decide +kernel
theorem k8000_14 : decode (qc 8000) 14 = .ok (.iconst (-1), 1) := by decide +kernel
theorem k8000_15 : decode (qc 8000) 15 = .ok (.iastore, 1) := by decide +kernel
theorem k8000_16 : decode (qc 8000) 16 = .ok (.dup, 1) := by decide +kernel
theorem k8000_17 : decode (qc 8000) 17 = .ok (.iconst 2, 1) := by decide +kernel
theorem k8000_18 : decode (qc 8000) 18 = .ok (.iconst (-1), 1) := by decide +kernel
theorem k8000_19 : decode (qc 8000) 19 = .ok (.iastore, 1) := by decide +kernel
theorem k8000_20 : decode (qc 8000) 20 = .ok (.dup, 1) := by decide +kernel
theorem k8000_21 : decode (qc 8000) 21 = .ok (.iconst 3, 1) := by decide +kernel
theorem k8000_22 : decode (qc 8000) 22 = .ok (.iconst (-1), 1) := by decide +kernel
theorem k8000_23 : decode (qc 8000) 23 = .ok (.iastore, 1) := by decide +kernel
theorem k8000_24 : decode (qc 8000) 24 = .ok (.dup, 1) := by decide +kernel
theorem k8000_25 : decode (qc 8000) 25 = .ok (.iconst 4, 1) := by decide +kernel
theorem k8000_26 : decode (qc 8000) 26 = .ok (.iconst (-1), 1) := by decide +kernel
theorem k8000_27 : decode (qc 8000) 27 = .ok (.iastore, 1) := by decide +kernel
theorem k8000_28 : decode (qc 8000) 28 = .ok (.putfield 9, 3) := by decide +kernel
theorem k8000_31 : decode (qc 8000) 31 = .ok (.aload_n 0, 1) := by decide +kernel
theorem k8000_32 : decode (qc 8000) 32 = .ok (.bipush 32, 2) := by decide +kernel
theorem k8000_34 : decode (qc 8000) 34 = .ok (.newarray .long, 2) := by decide +kernel
theorem k8000_36 : decode (qc 8000) 36 = .ok (.putfield 15, 3) := by decide +kernel
theorem k8000_39 : decode (qc 8000) 39 = .ok (.return_, 1) := by decide +kernel
theorem k8001_0 : decode (qc 8001) 0 = .ok (.iconst 0, 1) := by decide +kernel
theorem k8001_1 : decode (qc 8001) 1 = .ok (.istore_n 1, 1) := by decide +kernel
theorem k8001_2 : decode (qc 8001) 2 = .ok (.iload_n 1, 1) := by decide +kernel
theorem k8001_3 : decode (qc 8001) 3 = .ok (.iconst 5, 1) := by decide +kernel
theorem k8001_4 : decode (qc 8001) 4 = .ok (.if_icmp .ge 16, 3) := by decide +kernel
theorem k8001_7 : decode (qc 8001) 7 = .ok (.aload_n 0, 1) := by decide +kernel
theorem k8001_8 : decode (qc 8001) 8 = .ok (.getfield 9, 3) := by decide +kernel
theorem k8001_11 : decode (qc 8001) 11 = .ok (.iload_n 1, 1) := by decide +kernel
theorem k8001_12 : decode (qc 8001) 12 = .ok (.iconst (-1), 1) := by decide +kernel
theorem k8001_13 : decode (qc 8001) 13 = .ok (.iastore, 1) := by decide +kernel
theorem k8001_14 : decode (qc 8001) 14 = .ok (.iinc 1 1, 3) := by decide +kernel
theorem k8001_17 : decode (qc 8001) 17 = .ok (.goto (-15), 3) := by decide +kernel
theorem k8001_20 : decode (qc 8001) 20 = .ok (.return_, 1) := by decide +kernel
theorem k8002_0 : decode (qc 8002) 0 = .ok (.aload_n 1, 1) := by decide +kernel
theorem k8002_1 : decode (qc 8002) 1 = .ok (.getfield 9, 3) := by decide +kernel
theorem k8002_4 : decode (qc 8002) 4 = .ok (.iconst 0, 1) := by decide +kernel
theorem k8002_5 : decode (qc 8002) 5 = .ok (.aload_n 0, 1) := by decide +kernel
theorem k8002_6 : decode (qc 8002) 6 = .ok (.getfield 9, 3) := by decide +kernel
theorem k8002_9 : decode (qc 8002) 9 = .ok (.iconst 0, 1) := by decide +kernel
theorem k8002_10 : decode (qc 8002) 10 = .ok (.iconst 5, 1) := by decide +kernel
theorem k8002_11 : decode (qc 8002) 11 = .ok (.invokestatic 19, 3) := by decide +kernel
theorem k8002_14 : decode (qc 8002) 14 = .ok (.return_, 1) := by decide +kernel
theorem k8003_0 : decode (qc 8003) 0 = .ok (.iconst 1, 1) := by decide +kernel
theorem k8003_1 : decode (qc 8003) 1 = .ok (.aload_n 1, 1) := by decide +kernel
theorem k8003_2 : decode (qc 8003) 2 = .ok (.getfield 25, 3) := by decide +kernel
theorem k8003_5 : decode (qc 8003) 5 = .ok (.ishl, 1) := by decide +kernel
theorem k8003_6 : decode (qc 8003) 6 = .ok (.istore_n 3, 1) := by decide +kernel
theorem k8003_7 : decode (qc 8003) 7 = .ok (.iconst 0, 1) := by decide +kernel
theorem k8003_8 : decode (qc 8003) 8 = .ok (.istore 4, 2) := by decide +kernel
theorem k8003_10 : decode (qc 8003) 10 = .ok (.iload 4, 2) := by decide +kernel
theorem k8003_12 : decode (qc 8003) 12 = .ok (.iload_n 3, 1) := by decide +kernel
theorem k8003_13 : decode (qc 8003) 13 = .ok (.if_icmp .ge 26, 3) := by decide +kernel
theorem k8003_16 : decode (qc 8003) 16 = .ok (.aload_n 0, 1) := by decide +kernel
theorem k8003_17 : decode (qc 8003) 17 = .ok (.getfield 15, 3) := by decide +kernel
theorem k8003_20 : decode (qc 8003) 20 = .ok (.iload 4, 2) := by decide +kernel
theorem k8003_22 : decode (qc 8003) 22 = .ok (.iload 4, 2) := by decide +kernel
theorem k8003_24 : decode (qc 8003) 24 = .ok (.ifCond .ne 7, 3) := by decide +kernel
theorem k8003_27 : decode (qc 8003) 27 = .ok (.lconst 1, 1) := by decide +kernel
theorem k8003_28 : decode (qc 8003) 28 = .ok (.goto 4, 3) := by decide +kernel
theorem k8003_31 : decode (qc 8003) 31 = .ok (.lconst 0, 1) := by decide +kernel
theorem k8003_32 : decode (qc 8003) 32 = .ok (.lastore, 1) := by decide +kernel
theorem k8003_33 : decode (qc 8003) 33 = .ok (.iinc 4 1, 3) := by decide +kernel
theorem k8003_36 : decode (qc 8003) 36 = .ok (.goto (-26), 3) := by decide +kernel
theorem k8003_39 : decode (qc 8003) 39 = .ok (.iconst 0, 1) := by decide +kernel
theorem k8003_40 : decode (qc 8003) 40 = .ok (.istore 4, 2) := by decide +kernel
theorem k8003_42 : decode (qc 8003) 42 = .ok (.iload 4, 2) := by decide +kernel
theorem k8003_44 : decode (qc 8003) 44 = .ok (.iload_n 2, 1) := by decide +kernel
theorem k8003_45 : decode (qc 8003) 45 = .ok (.if_icmp .ge 39, 3) := by decide +kernel
theorem k8003_48 : decode (qc 8003) 48 = .ok (.iload_n 3, 1) := by decide +kernel
theorem k8003_49 : decode (qc 8003) 49 = .ok (.iconst 1, 1) := by decide +kernel
theorem k8003_50 : decode (qc 8003) 50 = .ok (.isub, 1) := by decide +kernel
theorem k8003_51 : decode (qc 8003) 51 = .ok (.istore 5, 2) := by decide +kernel
theorem k8003_53 : decode (qc 8003) 53 = .ok (.iload 5, 2) := by decide +kernel
theorem k8003_55 : decode (qc 8003) 55 = .ok (.ifCond .lt 23, 3) := by decide +kernel
theorem k8003_58 : decode (qc 8003) 58 = .ok (.aload_n 0, 1) := by decide +kernel
theorem k8003_59 : decode (qc 8003) 59 = .ok (.getfield 15, 3) := by decide +kernel
theorem k8003_62 : decode (qc 8003) 62 = .ok (.iload 5, 2) := by decide +kernel
theorem k8003_64 : decode (qc 8003) 64 = .ok (.aload_n 0, 1) := by decide +kernel
theorem k8003_65 : decode (qc 8003) 65 = .ok (.aload_n 1, 1) := by decide +kernel
theorem k8003_66 : decode (qc 8003) 66 = .ok (.iload 5, 2) := by decide +kernel
theorem k8003_68 : decode (qc 8003) 68 = .ok (.invokevirtual 31, 3) := by decide +kernel
theorem k8003_71 : decode (qc 8003) 71 = .ok (.lastore, 1) := by decide +kernel
theorem k8003_72 : decode (qc 8003) 72 = .ok (.iinc 5 (-1), 3) := by decide +kernel
theorem k8003_75 : decode (qc 8003) 75 = .ok (.goto (-22), 3) := by decide +kernel
theorem k8003_78 : decode (qc 8003) 78 = .ok (.iinc 4 1, 3) := by decide +kernel
theorem k8003_81 : decode (qc 8003) 81 = .ok (.goto (-39), 3) := by decide +kernel
theorem k8003_84 : decode (qc 8003) 84 = .ok (.lconst 0, 1) := by decide +kernel
theorem k8003_85 : decode (qc 8003) 85 = .ok (.lstore 4, 2) := by decide +kernel
theorem k8003_87 : decode (qc 8003) 87 = .ok (.iconst 0, 1) := by decide +kernel
theorem k8003_88 : decode (qc 8003) 88 = .ok (.istore 6, 2) := by decide +kernel
theorem k8003_90 : decode (qc 8003) 90 = .ok (.iload 6, 2) := by decide +kernel
theorem k8003_92 : decode (qc 8003) 92 = .ok (.iload_n 3, 1) := by decide +kernel
theorem k8003_93 : decode (qc 8003) 93 = .ok (.if_icmp .ge 35, 3) := by decide +kernel
theorem k8003_96 : decode (qc 8003) 96 = .ok (.lload 4, 2) := by decide +kernel
theorem k8003_98 : decode (qc 8003) 98 = .ok (.aload_n 0, 1) := by decide +kernel
theorem k8003_99 : decode (qc 8003) 99 = .ok (.aload_n 1, 1) := by decide +kernel
theorem k8003_100 : decode (qc 8003) 100 = .ok (.iload 6, 2) := by decide +kernel
theorem k8003_102 : decode (qc 8003) 102 = .ok (.invokevirtual 35, 3) := by decide +kernel
theorem k8003_105 : decode (qc 8003) 105 = .ok (.ifCond .eq 13, 3) := by decide +kernel
theorem k8003_108 : decode (qc 8003) 108 = .ok (.aload_n 0, 1) := by decide +kernel
theorem k8003_109 : decode (qc 8003) 109 = .ok (.getfield 15, 3) := by decide +kernel
theorem k8003_112 : decode (qc 8003) 112 = .ok (.iload 6, 2) := by decide +kernel
theorem k8003_114 : decode (qc 8003) 114 = .ok (.laload, 1) := by decide +kernel
theorem k8003_115 : decode (qc 8003) 115 = .ok (.goto 4, 3) := by decide +kernel
theorem k8003_118 : decode (qc 8003) 118 = .ok (.lconst 0, 1) := by decide +kernel
theorem k8003_119 : decode (qc 8003) 119 = .ok (.ladd, 1) := by decide +kernel
theorem k8003_120 : decode (qc 8003) 120 = .ok (.lstore 4, 2) := by decide +kernel
theorem k8003_122 : decode (qc 8003) 122 = .ok (.iinc 6 1, 3) := by decide +kernel
theorem k8003_125 : decode (qc 8003) 125 = .ok (.goto (-35), 3) := by decide +kernel
theorem k8003_128 : decode (qc 8003) 128 = .ok (.lload 4, 2) := by decide +kernel
theorem k8003_130 : decode (qc 8003) 130 = .ok (.lreturn, 1) := by decide +kernel
theorem k8004_0 : decode (qc 8004) 0 = .ok (.lconst 0, 1) := by decide +kernel
theorem k8004_1 : decode (qc 8004) 1 = .ok (.lstore_n 3, 1) := by decide +kernel
theorem k8004_2 : decode (qc 8004) 2 = .ok (.iconst 0, 1) := by decide +kernel
theorem k8004_3 : decode (qc 8004) 3 = .ok (.istore 5, 2) := by decide +kernel
theorem k8004_5 : decode (qc 8004) 5 = .ok (.iload 5, 2) := by decide +kernel
theorem k8004_7 : decode (qc 8004) 7 = .ok (.aload_n 1, 1) := by decide +kernel
theorem k8004_8 : decode (qc 8004) 8 = .ok (.getfield 25, 3) := by decide +kernel
theorem k8004_11 : decode (qc 8004) 11 = .ok (.if_icmp .ge 60, 3) := by decide +kernel
theorem k8004_14 : decode (qc 8004) 14 = .ok (.iconst 1, 1) := by decide +kernel
theorem k8004_15 : decode (qc 8004) 15 = .ok (.iload 5, 2) := by decide +kernel
theorem k8004_17 : decode (qc 8004) 17 = .ok (.ishl, 1) := by decide +kernel
theorem k8004_18 : decode (qc 8004) 18 = .ok (.istore 6, 2) := by decide +kernel
theorem k8004_20 : decode (qc 8004) 20 = .ok (.iload_n 2, 1) := by decide +kernel
theorem k8004_21 : decode (qc 8004) 21 = .ok (.iload 6, 2) := by decide +kernel
theorem k8004_23 : decode (qc 8004) 23 = .ok (.iand, 1) := by decide +kernel
theorem k8004_24 : decode (qc 8004) 24 = .ok (.ifCond .eq 41, 3) := by decide +kernel
theorem k8004_27 : decode (qc 8004) 27 = .ok (.lload_n 3, 1) := by decide +kernel
theorem k8004_28 : decode (qc 8004) 28 = .ok (.aload_n 0, 1) := by decide +kernel
theorem k8004_29 : decode (qc 8004) 29 = .ok (.getfield 15, 3) := by decide +kernel
theorem k8004_32 : decode (qc 8004) 32 = .ok (.iload_n 2, 1) := by decide +kernel
theorem k8004_33 : decode (qc 8004) 33 = .ok (.laload, 1) := by decide +kernel
theorem k8004_34 : decode (qc 8004) 34 = .ok (.aload_n 1, 1) := by decide +kernel
theorem k8004_35 : decode (qc 8004) 35 = .ok (.iload 5, 2) := by decide +kernel
theorem k8004_37 : decode (qc 8004) 37 = .ok (.invokestatic 39, 3) := by decide +kernel
theorem k8004_40 : decode (qc 8004) 40 = .ok (.i2l, 1) := by decide +kernel
theorem k8004_41 : decode (qc 8004) 41 = .ok (.lmul, 1) := by decide +kernel
theorem k8004_42 : decode (qc 8004) 42 = .ok (.ladd, 1) := by decide +kernel
theorem k8004_43 : decode (qc 8004) 43 = .ok (.lstore_n 3, 1) := by decide +kernel
theorem k8004_44 : decode (qc 8004) 44 = .ok (.lload_n 3, 1) := by decide +kernel
theorem k8004_45 : decode (qc 8004) 45 = .ok (.aload_n 0, 1) := by decide +kernel
theorem k8004_46 : decode (qc 8004) 46 = .ok (.getfield 15, 3) := by decide +kernel
theorem k8004_49 : decode (qc 8004) 49 = .ok (.iload_n 2, 1) := by decide +kernel
theorem k8004_50 : decode (qc 8004) 50 = .ok (.iload 6, 2) := by decide +kernel
theorem k8004_52 : decode (qc 8004) 52 = .ok (.ixor, 1) := by decide +kernel
theorem k8004_53 : decode (qc 8004) 53 = .ok (.laload, 1) := by decide +kernel
theorem k8004_54 : decode (qc 8004) 54 = .ok (.aload_n 0, 1) := by decide +kernel
theorem k8004_55 : decode (qc 8004) 55 = .ok (.aload_n 1, 1) := by decide +kernel
theorem k8004_56 : decode (qc 8004) 56 = .ok (.iload 5, 2) := by decide +kernel
theorem k8004_58 : decode (qc 8004) 58 = .ok (.invokevirtual 43, 3) := by decide +kernel
theorem k8004_61 : decode (qc 8004) 61 = .ok (.i2l, 1) := by decide +kernel
theorem k8004_62 : decode (qc 8004) 62 = .ok (.lmul, 1) := by decide +kernel
theorem k8004_63 : decode (qc 8004) 63 = .ok (.ladd, 1) := by decide +kernel
theorem k8004_64 : decode (qc 8004) 64 = .ok (.lstore_n 3, 1) := by decide +kernel
theorem k8004_65 : decode (qc 8004) 65 = .ok (.iinc 5 1, 3) := by decide +kernel
theorem k8004_68 : decode (qc 8004) 68 = .ok (.goto (-63), 3) := by decide +kernel
theorem k8004_71 : decode (qc 8004) 71 = .ok (.lload_n 3, 1) := by decide +kernel
theorem k8004_72 : decode (qc 8004) 72 = .ok (.lreturn, 1) := by decide +kernel
theorem k8005_0 : decode (qc 8005) 0 = .ok (.aload_n 0, 1) := by decide +kernel
theorem k8005_1 : decode (qc 8005) 1 = .ok (.getfield 9, 3) := by decide +kernel
theorem k8005_4 : decode (qc 8005) 4 = .ok (.iload_n 2, 1) := by decide +kernel
theorem k8005_5 : decode (qc 8005) 5 = .ok (.iaload, 1) := by decide +kernel
theorem k8005_6 : decode (qc 8005) 6 = .ok (.istore_n 3, 1) := by decide +kernel
theorem k8005_7 : decode (qc 8005) 7 = .ok (.iload_n 3, 1) := by decide +kernel
theorem k8005_8 : decode (qc 8005) 8 = .ok (.iconst (-1), 1) := by decide +kernel
theorem k8005_9 : decode (qc 8005) 9 = .ok (.if_icmp .ne 9, 3) := by decide +kernel
theorem k8005_12 : decode (qc 8005) 12 = .ok (.aload_n 1, 1) := by decide +kernel
theorem k8005_13 : decode (qc 8005) 13 = .ok (.iload_n 2, 1) := by decide +kernel
theorem k8005_14 : decode (qc 8005) 14 = .ok (.invokestatic 39, 3) := by decide +kernel
theorem k8005_17 : decode (qc 8005) 17 = .ok (.ireturn, 1) := by decide +kernel
theorem k8005_18 : decode (qc 8005) 18 = .ok (.iload_n 3, 1) := by decide +kernel
theorem k8005_19 : decode (qc 8005) 19 = .ok (.bipush 9, 2) := by decide +kernel
theorem k8005_21 : decode (qc 8005) 21 = .ok (.if_icmp .eq 16, 3) := by decide +kernel
theorem k8005_24 : decode (qc 8005) 24 = .ok (.aload_n 1, 1) := by decide +kernel
theorem k8005_25 : decode (qc 8005) 25 = .ok (.iload_n 3, 1) := by decide +kernel
theorem k8005_26 : decode (qc 8005) 26 = .ok (.iload_n 2, 1) := by decide +kernel
theorem k8005_27 : decode (qc 8005) 27 = .ok (.invokevirtual 46, 3) := by decide +kernel
theorem k8005_30 : decode (qc 8005) 30 = .ok (.ifCond .eq 7, 3) := by decide +kernel
theorem k8005_33 : decode (qc 8005) 33 = .ok (.iconst 1, 1) := by decide +kernel
theorem k8005_34 : decode (qc 8005) 34 = .ok (.goto 4, 3) := by decide +kernel
theorem k8005_37 : decode (qc 8005) 37 = .ok (.iconst 0, 1) := by decide +kernel
theorem k8005_38 : decode (qc 8005) 38 = .ok (.ireturn, 1) := by decide +kernel
theorem k8006_0 : decode (qc 8006) 0 = .ok (.iconst 0, 1) := by decide +kernel
theorem k8006_1 : decode (qc 8006) 1 = .ok (.istore_n 2, 1) := by decide +kernel
theorem k8006_2 : decode (qc 8006) 2 = .ok (.iconst 0, 1) := by decide +kernel
theorem k8006_3 : decode (qc 8006) 3 = .ok (.istore_n 3, 1) := by decide +kernel
theorem k8006_4 : decode (qc 8006) 4 = .ok (.iload_n 3, 1) := by decide +kernel
theorem k8006_5 : decode (qc 8006) 5 = .ok (.aload_n 0, 1) := by decide +kernel
theorem k8006_6 : decode (qc 8006) 6 = .ok (.getfield 50, 3) := by decide +kernel
theorem k8006_9 : decode (qc 8006) 9 = .ok (.if_icmp .ge 26, 3) := by decide +kernel
theorem k8006_12 : decode (qc 8006) 12 = .ok (.iload_n 2, 1) := by decide +kernel
theorem k8006_13 : decode (qc 8006) 13 = .ok (.aload_n 0, 1) := by decide +kernel
theorem k8006_14 : decode (qc 8006) 14 = .ok (.iload_n 3, 1) := by decide +kernel
theorem k8006_15 : decode (qc 8006) 15 = .ok (.iload_n 1, 1) := by decide +kernel
theorem k8006_16 : decode (qc 8006) 16 = .ok (.invokevirtual 46, 3) := by decide +kernel
theorem k8006_19 : decode (qc 8006) 19 = .ok (.ifCond .eq 7, 3) := by decide +kernel
theorem k8006_22 : decode (qc 8006) 22 = .ok (.iconst 1, 1) := by decide +kernel
theorem k8006_23 : decode (qc 8006) 23 = .ok (.goto 4, 3) := by decide +kernel
theorem k8006_26 : decode (qc 8006) 26 = .ok (.iconst 0, 1) := by decide +kernel
theorem k8006_27 : decode (qc 8006) 27 = .ok (.iadd, 1) := by decide +kernel
theorem k8006_28 : decode (qc 8006) 28 = .ok (.istore_n 2, 1) := by decide +kernel
theorem k8006_29 : decode (qc 8006) 29 = .ok (.iinc 3 1, 3) := by decide +kernel
theorem k8006_32 : decode (qc 8006) 32 = .ok (.goto (-28), 3) := by decide +kernel
theorem k8006_35 : decode (qc 8006) 35 = .ok (.iload_n 2, 1) := by decide +kernel
theorem k8006_36 : decode (qc 8006) 36 = .ok (.ireturn, 1) := by decide +kernel
theorem k8007_0 : decode (qc 8007) 0 = .ok (.iconst 0, 1) := by decide +kernel
theorem k8007_1 : decode (qc 8007) 1 = .ok (.istore_n 3, 1) := by decide +kernel
theorem k8007_2 : decode (qc 8007) 2 = .ok (.iload_n 3, 1) := by decide +kernel
theorem k8007_3 : decode (qc 8007) 3 = .ok (.aload_n 1, 1) := by decide +kernel
theorem k8007_4 : decode (qc 8007) 4 = .ok (.getfield 25, 3) := by decide +kernel
theorem k8007_7 : decode (qc 8007) 7 = .ok (.if_icmp .ge 52, 3) := by decide +kernel
theorem k8007_10 : decode (qc 8007) 10 = .ok (.aload_n 0, 1) := by decide +kernel
theorem k8007_11 : decode (qc 8007) 11 = .ok (.getfield 9, 3) := by decide +kernel
theorem k8007_14 : decode (qc 8007) 14 = .ok (.iload_n 3, 1) := by decide +kernel
theorem k8007_15 : decode (qc 8007) 15 = .ok (.iaload, 1) := by decide +kernel
theorem k8007_16 : decode (qc 8007) 16 = .ok (.iconst (-1), 1) := by decide +kernel
theorem k8007_17 : decode (qc 8007) 17 = .ok (.if_icmp .eq 18, 3) := by decide +kernel
theorem k8007_20 : decode (qc 8007) 20 = .ok (.aload_n 0, 1) := by decide +kernel
theorem k8007_21 : decode (qc 8007) 21 = .ok (.getfield 9, 3) := by decide +kernel
theorem k8007_24 : decode (qc 8007) 24 = .ok (.iload_n 3, 1) := by decide +kernel
theorem k8007_25 : decode (qc 8007) 25 = .ok (.iaload, 1) := by decide +kernel
theorem k8007_26 : decode (qc 8007) 26 = .ok (.bipush 9, 2) := by decide +kernel
theorem k8007_28 : decode (qc 8007) 28 = .ok (.if_icmp .eq 7, 3) := by decide +kernel
theorem k8007_31 : decode (qc 8007) 31 = .ok (.iconst 1, 1) := by decide +kernel
theorem k8007_32 : decode (qc 8007) 32 = .ok (.goto 4, 3) := by decide +kernel
theorem k8007_35 : decode (qc 8007) 35 = .ok (.iconst 0, 1) := by decide +kernel
theorem k8007_36 : decode (qc 8007) 36 = .ok (.istore 4, 2) := by decide +kernel
theorem k8007_38 : decode (qc 8007) 38 = .ok (.iload 4, 2) := by decide +kernel
theorem k8007_40 : decode (qc 8007) 40 = .ok (.ifCond .eq 13, 3) := by decide +kernel
theorem k8007_43 : decode (qc 8007) 43 = .ok (.iload_n 2, 1) := by decide +kernel
theorem k8007_44 : decode (qc 8007) 44 = .ok (.iload_n 3, 1) := by decide +kernel
theorem k8007_45 : decode (qc 8007) 45 = .ok (.ishr, 1) := by decide +kernel
theorem k8007_46 : decode (qc 8007) 46 = .ok (.iconst 1, 1) := by decide +kernel
theorem k8007_47 : decode (qc 8007) 47 = .ok (.iand, 1) := by decide +kernel
theorem k8007_48 : decode (qc 8007) 48 = .ok (.ifCond .ne 5, 3) := by decide +kernel
theorem k8007_51 : decode (qc 8007) 51 = .ok (.iconst 0, 1) := by decide +kernel
theorem k8007_52 : decode (qc 8007) 52 = .ok (.ireturn, 1) := by decide +kernel
theorem k8007_53 : decode (qc 8007) 53 = .ok (.iinc 3 1, 3) := by decide +kernel
theorem k8007_56 : decode (qc 8007) 56 = .ok (.goto (-54), 3) := by decide +kernel
theorem k8007_59 : decode (qc 8007) 59 = .ok (.iconst 1, 1) := by decide +kernel
theorem k8007_60 : decode (qc 8007) 60 = .ok (.ireturn, 1) := by decide +kernel
theorem k9000_0 : decode (qc 9000) 0 = .ok (.aload_n 0, 1) := by decide +kernel
theorem k9000_1 : decode (qc 9000) 1 = .ok (.invokespecial 3, 3) := by decide +kernel
theorem k9000_4 : decode (qc 9000) 4 = .ok (.aload_n 0, 1) := by decide +kernel
theorem k9000_5 : decode (qc 9000) 5 = .ok (.sipush 160, 3) := by decide +kernel
theorem k9000_8 : decode (qc 9000) 8 = .ok (.newarray .int, 2) := by decide +kernel
theorem k9000_10 : decode (qc 9000) 10 = .ok (.putfield 9, 3) := by decide +kernel
theorem k9000_13 : decode (qc 9000) 13 = .ok (.return_, 1) := by decide +kernel
theorem k9001_0 : decode (qc 9001) 0 = .ok (.bipush 24, 2) := by decide +kernel
theorem k9001_2 : decode (qc 9001) 2 = .ok (.istore_n 2, 1) := by decide +kernel
theorem k9001_3 : decode (qc 9001) 3 = .ok (.iload_n 2, 1) := by decide +kernel
theorem k9001_4 : decode (qc 9001) 4 = .ok (.ifCond .lt 51, 3) := by decide +kernel
theorem k9001_7 : decode (qc 9001) 7 = .ok (.iload_n 1, 1) := by decide +kernel
theorem k9001_8 : decode (qc 9001) 8 = .ok (.iload_n 2, 1) := by decide +kernel
theorem k9001_9 : decode (qc 9001) 9 = .ok (.iushr, 1) := by decide +kernel
theorem k9001_10 : decode (qc 9001) 10 = .ok (.sipush 255, 3) := by decide +kernel
theorem k9001_13 : decode (qc 9001) 13 = .ok (.iand, 1) := by decide +kernel
theorem k9001_14 : decode (qc 9001) 14 = .ok (.istore_n 3, 1) := by decide +kernel
theorem k9001_15 : decode (qc 9001) 15 = .ok (.iload_n 3, 1) := by decide +kernel
theorem k9001_16 : decode (qc 9001) 16 = .ok (.ifCond .eq 33, 3) := by decide +kernel
theorem k9001_19 : decode (qc 9001) 19 = .ok (.aload_n 0, 1) := by decide +kernel
theorem k9001_20 : decode (qc 9001) 20 = .ok (.getfield 15, 3) := by decide +kernel
theorem k9001_23 : decode (qc 9001) 23 = .ok (.sipush 160, 3) := by decide +kernel
theorem k9001_26 : decode (qc 9001) 26 = .ok (.if_icmp .ge 23, 3) := by decide +kernel
theorem k9001_29 : decode (qc 9001) 29 = .ok (.aload_n 0, 1) := by decide +kernel
theorem k9001_30 : decode (qc 9001) 30 = .ok (.getfield 9, 3) := by decide +kernel
theorem k9001_33 : decode (qc 9001) 33 = .ok (.aload_n 0, 1) := by decide +kernel
theorem k9001_34 : decode (qc 9001) 34 = .ok (.getfield 15, 3) := by decide +kernel
theorem k9001_37 : decode (qc 9001) 37 = .ok (.iload_n 3, 1) := by decide +kernel
theorem k9001_38 : decode (qc 9001) 38 = .ok (.iastore, 1) := by decide +kernel
theorem k9001_39 : decode (qc 9001) 39 = .ok (.aload_n 0, 1) := by decide +kernel
theorem k9001_40 : decode (qc 9001) 40 = .ok (.dup, 1) := by decide +kernel
theorem k9001_41 : decode (qc 9001) 41 = .ok (.getfield 15, 3) := by decide +kernel
theorem k9001_44 : decode (qc 9001) 44 = .ok (.iconst 1, 1) := by decide +kernel
theorem k9001_45 : decode (qc 9001) 45 = .ok (.iadd, 1) := by decide +kernel
theorem k9001_46 : decode (qc 9001) 46 = .ok (.putfield 15, 3) := by decide +kernel
theorem k9001_49 : decode (qc 9001) 49 = .ok (.iinc 2 (-8), 3) := by decide +kernel
theorem k9001_52 : decode (qc 9001) 52 = .ok (.goto (-49), 3) := by decide +kernel
theorem k9001_55 : decode (qc 9001) 55 = .ok (.return_, 1) := by decide +kernel
theorem k9002_0 : decode (qc 9002) 0 = .ok (.iload_n 1, 1) := by decide +kernel
theorem k9002_1 : decode (qc 9002) 1 = .ok (.ifCond .lt 27, 3) := by decide +kernel
theorem k9002_4 : decode (qc 9002) 4 = .ok (.iload_n 1, 1) := by decide +kernel
theorem k9002_5 : decode (qc 9002) 5 = .ok (.aload_n 0, 1) := by decide +kernel
theorem k9002_6 : decode (qc 9002) 6 = .ok (.getfield 15, 3) := by decide +kernel
theorem k9002_9 : decode (qc 9002) 9 = .ok (.if_icmp .ge 19, 3) := by decide +kernel
theorem k9002_12 : decode (qc 9002) 12 = .ok (.iload_n 1, 1) := by decide +kernel
theorem k9002_13 : decode (qc 9002) 13 = .ok (.sipush 160, 3) := by decide +kernel
theorem k9002_16 : decode (qc 9002) 16 = .ok (.if_icmp .ge 12, 3) := by decide +kernel
theorem k9002_19 : decode (qc 9002) 19 = .ok (.aload_n 0, 1) := by decide +kernel
theorem k9002_20 : decode (qc 9002) 20 = .ok (.getfield 9, 3) := by decide +kernel
theorem k9002_23 : decode (qc 9002) 23 = .ok (.iload_n 1, 1) := by decide +kernel
theorem k9002_24 : decode (qc 9002) 24 = .ok (.iaload, 1) := by decide +kernel
theorem k9002_25 : decode (qc 9002) 25 = .ok (.goto 4, 3) := by decide +kernel
theorem k9002_28 : decode (qc 9002) 28 = .ok (.iconst (-1), 1) := by decide +kernel
theorem k9002_29 : decode (qc 9002) 29 = .ok (.ireturn, 1) := by decide +kernel
theorem k10000_0 : decode (qc 10000) 0 = .ok (.aload_n 0, 1) := by decide +kernel
theorem k10000_1 : decode (qc 10000) 1 = .ok (.invokespecial 3, 3) := by decide +kernel
theorem k10000_4 : decode (qc 10000) 4 = .ok (.aload_n 0, 1) := by decide +kernel
theorem k10000_5 : decode (qc 10000) 5 = .ok (.bipush 40, 2) := by decide +kernel
theorem k10000_7 : decode (qc 10000) 7 = .ok (.newarray .int, 2) := by decide +kernel
theorem k10000_9 : decode (qc 10000) 9 = .ok (.putfield 9, 3) := by decide +kernel
theorem k10000_12 : decode (qc 10000) 12 = .ok (.aload_n 0, 1) := by decide +kernel
theorem k10000_13 : decode (qc 10000) 13 = .ok (.bipush 40, 2) := by decide +kernel
theorem k10000_15 : decode (qc 10000) 15 = .ok (.newarray .int, 2) := by decide +kernel
theorem k10000_17 : decode (qc 10000) 17 = .ok (.putfield 15, 3) := by decide +kernel
theorem k10000_20 : decode (qc 10000) 20 = .ok (.aload_n 0, 1) := by decide +kernel
theorem k10000_21 : decode (qc 10000) 21 = .ok (.bipush 40, 2) := by decide +kernel
theorem k10000_23 : decode (qc 10000) 23 = .ok (.newarray .int, 2) := by decide +kernel
theorem k10000_25 : decode (qc 10000) 25 = .ok (.putfield 18, 3) := by decide +kernel
theorem k10000_28 : decode (qc 10000) 28 = .ok (.aload_n 0, 1) := by decide +kernel
theorem k10000_29 : decode (qc 10000) 29 = .ok (.bipush 40, 2) := by decide +kernel
theorem k10000_31 : decode (qc 10000) 31 = .ok (.newarray .boolean, 2) := by decide +kernel
theorem k10000_33 : decode (qc 10000) 33 = .ok (.putfield 21, 3) := by decide +kernel
theorem k10000_36 : decode (qc 10000) 36 = .ok (.aload_n 0, 1) := by decide +kernel
theorem k10000_37 : decode (qc 10000) 37 = .ok (.bipush 40, 2) := by decide +kernel
theorem k10000_39 : decode (qc 10000) 39 = .ok (.newarray .boolean, 2) := by decide +kernel
theorem k10000_41 : decode (qc 10000) 41 = .ok (.putfield 25, 3) := by decide +kernel
theorem k10000_44 : decode (qc 10000) 44 = .ok (.return_, 1) := by decide +kernel
theorem k10001_0 : decode (qc 10001) 0 = .ok (.aload_n 0, 1) := by decide +kernel
theorem k10001_1 : decode (qc 10001) 1 = .ok (.iconst 0, 1) := by decide +kernel
theorem k10001_2 : decode (qc 10001) 2 = .ok (.putfield 28, 3) := by decide +kernel
theorem k10001_5 : decode (qc 10001) 5 = .ok (.aload_n 0, 1) := by decide +kernel
theorem k10001_6 : decode (qc 10001) 6 = .ok (.iconst 0, 1) := by decide +kernel
theorem k10001_7 : decode (qc 10001) 7 = .ok (.putfield 32, 3) := by decide +kernel
theorem k10001_10 : decode (qc 10001) 10 = .ok (.return_, 1) := by decide +kernel
theorem k10002_0 : decode (qc 10002) 0 = .ok (.aload_n 0, 1) := by decide +kernel
theorem k10002_1 : decode (qc 10002) 1 = .ok (.aload_n 1, 1) := by decide +kernel
theorem k10002_2 : decode (qc 10002) 2 = .ok (.getfield 28, 3) := by decide +kernel
theorem k10002_5 : decode (qc 10002) 5 = .ok (.putfield 28, 3) := by decide +kernel
theorem k10002_8 : decode (qc 10002) 8 = .ok (.aload_n 0, 1) := by decide +kernel
theorem k10002_9 : decode (qc 10002) 9 = .ok (.iconst 0, 1) := by decide +kernel
theorem k10002_10 : decode (qc 10002) 10 = .ok (.putfield 32, 3) := by decide +kernel
theorem k10002_13 : decode (qc 10002) 13 = .ok (.aload_n 1, 1) := by decide +kernel
theorem k10002_14 : decode (qc 10002) 14 = .ok (.getfield 9, 3) := by decide +kernel
theorem k10002_17 : decode (qc 10002) 17 = .ok (.iconst 0, 1) := by decide +kernel
theorem k10002_18 : decode (qc 10002) 18 = .ok (.aload_n 0, 1) := by decide +kernel
theorem k10002_19 : decode (qc 10002) 19 = .ok (.getfield 9, 3) := by decide +kernel
theorem k10002_22 : decode (qc 10002) 22 = .ok (.iconst 0, 1) := by decide +kernel
theorem k10002_23 : decode (qc 10002) 23 = .ok (.bipush 40, 2) := by decide +kernel
theorem k10002_25 : decode (qc 10002) 25 = .ok (.invokestatic 35, 3) := by decide +kernel
theorem k10002_28 : decode (qc 10002) 28 = .ok (.aload_n 1, 1) := by decide +kernel
theorem k10002_29 : decode (qc 10002) 29 = .ok (.getfield 15, 3) := by decide +kernel
theorem k10002_32 : decode (qc 10002) 32 = .ok (.iconst 0, 1) := by decide +kernel
theorem k10002_33 : decode (qc 10002) 33 = .ok (.aload_n 0, 1) := by decide +kernel
theorem k10002_34 : decode (qc 10002) 34 = .ok (.getfield 15, 3) := by decide +kernel
theorem k10002_37 : decode (qc 10002) 37 = .ok (.iconst 0, 1) := by decide +kernel
theorem k10002_38 : decode (qc 10002) 38 = .ok (.bipush 40, 2) := by decide +kernel
theorem k10002_40 : decode (qc 10002) 40 = .ok (.invokestatic 35, 3) := by decide +kernel
theorem k10002_43 : decode (qc 10002) 43 = .ok (.aload_n 1, 1) := by decide +kernel
theorem k10002_44 : decode (qc 10002) 44 = .ok (.getfield 18, 3) := by decide +kernel
theorem k10002_47 : decode (qc 10002) 47 = .ok (.iconst 0, 1) := by decide +kernel
theorem k10002_48 : decode (qc 10002) 48 = .ok (.aload_n 0, 1) := by decide +kernel
theorem k10002_49 : decode (qc 10002) 49 = .ok (.getfield 18, 3) := by decide +kernel
theorem k10002_52 : decode (qc 10002) 52 = .ok (.iconst 0, 1) := by decide +kernel
theorem k10002_53 : decode (qc 10002) 53 = .ok (.bipush 40, 2) := by decide +kernel
theorem k10002_55 : decode (qc 10002) 55 = .ok (.invokestatic 35, 3) := by decide +kernel
theorem k10002_58 : decode (qc 10002) 58 = .ok (.return_, 1) := by decide +kernel
theorem k10003_0 : decode (qc 10003) 0 = .ok (.aload_n 0, 1) := by decide +kernel
theorem k10003_1 : decode (qc 10003) 1 = .ok (.getfield 28, 3) := by decide +kernel
theorem k10003_4 : decode (qc 10003) 4 = .ok (.bipush 40, 2) := by decide +kernel
theorem k10003_6 : decode (qc 10003) 6 = .ok (.if_icmp .ge 43, 3) := by decide +kernel
theorem k10003_9 : decode (qc 10003) 9 = .ok (.aload_n 0, 1) := by decide +kernel
theorem k10003_10 : decode (qc 10003) 10 = .ok (.getfield 9, 3) := by decide +kernel
theorem k10003_13 : decode (qc 10003) 13 = .ok (.aload_n 0, 1) := by decide +kernel
theorem k10003_14 : decode (qc 10003) 14 = .ok (.getfield 28, 3) := by decide +kernel
theorem k10003_17 : decode (qc 10003) 17 = .ok (.iload_n 1, 1) := by decide +kernel
theorem k10003_18 : decode (qc 10003) 18 = .ok (.iastore, 1) := by decide +kernel
theorem k10003_19 : decode (qc 10003) 19 = .ok (.aload_n 0, 1) := by decide +kernel
theorem k10003_20 : decode (qc 10003) 20 = .ok (.getfield 15, 3) := by decide +kernel
theorem k10003_23 : decode (qc 10003) 23 = .ok (.aload_n 0, 1) := by decide +kernel
theorem k10003_24 : decode (qc 10003) 24 = .ok (.getfield 28, 3) := by decide +kernel
theorem k10003_27 : decode (qc 10003) 27 = .ok (.iload_n 2, 1) := by decide +kernel
theorem k10003_28 : decode (qc 10003) 28 = .ok (.iastore, 1) := by decide +kernel
theorem k10003_29 : decode (qc 10003) 29 = .ok (.aload_n 0, 1) := by decide +kernel
theorem k10003_30 : decode (qc 10003) 30 = .ok (.getfield 18, 3) := by decide +kernel
theorem k10003_33 : decode (qc 10003) 33 = .ok (.aload_n 0, 1) := by decide +kernel
theorem k10003_34 : decode (qc 10003) 34 = .ok (.getfield 28, 3) := by decide +kernel
theorem k10003_37 : decode (qc 10003) 37 = .ok (.iload_n 3, 1) := by decide +kernel
theorem k10003_38 : decode (qc 10003) 38 = .ok (.iastore, 1) := by decide +kernel
theorem k10003_39 : decode (qc 10003) 39 = .ok (.aload_n 0, 1) := by decide +kernel
theorem k10003_40 : decode (qc 10003) 40 = .ok (.dup, 1) := by decide +kernel
theorem k10003_41 : decode (qc 10003) 41 = .ok (.getfield 28, 3) := by decide +kernel
theorem k10003_44 : decode (qc 10003) 44 = .ok (.iconst 1, 1) := by decide +kernel
theorem k10003_45 : decode (qc 10003) 45 = .ok (.iadd, 1) := by decide +kernel
theorem k10003_46 : decode (qc 10003) 46 = .ok (.putfield 28, 3) := by decide +kernel
theorem k10003_49 : decode (qc 10003) 49 = .ok (.return_, 1) := by decide +kernel
theorem k10004_0 : decode (qc 10004) 0 = .ok (.aload_n 0, 1) := by decide +kernel
theorem k10004_1 : decode (qc 10004) 1 = .ok (.getfield 28, 3) := by decide +kernel
theorem k10004_4 : decode (qc 10004) 4 = .ok (.ifCond .le 28, 3) := by decide +kernel
theorem k10004_7 : decode (qc 10004) 7 = .ok (.aload_n 0, 1) := by decide +kernel
theorem k10004_8 : decode (qc 10004) 8 = .ok (.dup, 1) := by decide +kernel
theorem k10004_9 : decode (qc 10004) 9 = .ok (.getfield 28, 3) := by decide +kernel
theorem k10004_12 : decode (qc 10004) 12 = .ok (.iconst 1, 1) := by decide +kernel
theorem k10004_13 : decode (qc 10004) 13 = .ok (.isub, 1) := by decide +kernel
theorem k10004_14 : decode (qc 10004) 14 = .ok (.putfield 28, 3) := by decide +kernel
theorem k10004_17 : decode (qc 10004) 17 = .ok (.aload_n 0, 1) := by decide +kernel
theorem k10004_18 : decode (qc 10004) 18 = .ok (.aload_n 0, 1) := by decide +kernel
theorem k10004_19 : decode (qc 10004) 19 = .ok (.getfield 32, 3) := by decide +kernel
theorem k10004_22 : decode (qc 10004) 22 = .ok (.aload_n 0, 1) := by decide +kernel
theorem k10004_23 : decode (qc 10004) 23 = .ok (.getfield 28, 3) := by decide +kernel
theorem k10004_26 : decode (qc 10004) 26 = .ok (.invokestatic 41, 3) := by decide +kernel
theorem k10004_29 : decode (qc 10004) 29 = .ok (.putfield 32, 3) := by decide +kernel
theorem k10004_32 : decode (qc 10004) 32 = .ok (.return_, 1) := by decide +kernel
theorem k10005_0 : decode (qc 10005) 0 = .ok (.aload_n 0, 1) := by decide +kernel
theorem k10005_1 : decode (qc 10005) 1 = .ok (.getfield 28, 3) := by decide +kernel
theorem k10005_4 : decode (qc 10005) 4 = .ok (.ifCond .le 17, 3) := by decide +kernel
theorem k10005_7 : decode (qc 10005) 7 = .ok (.aload_n 0, 1) := by decide +kernel
theorem k10005_8 : decode (qc 10005) 8 = .ok (.getfield 18, 3) := by decide +kernel
theorem k10005_11 : decode (qc 10005) 11 = .ok (.aload_n 0, 1) := by decide +kernel
theorem k10005_12 : decode (qc 10005) 12 = .ok (.getfield 28, 3) := by decide +kernel
theorem k10005_15 : decode (qc 10005) 15 = .ok (.iconst 1, 1) := by decide +kernel
theorem k10005_16 : decode (qc 10005) 16 = .ok (.isub, 1) := by decide +kernel
theorem k10005_17 : decode (qc 10005) 17 = .ok (.iaload, 1) := by decide +kernel
theorem k10005_18 : decode (qc 10005) 18 = .ok (.goto 4, 3) := by decide +kernel
theorem k10005_21 : decode (qc 10005) 21 = .ok (.iconst (-1), 1) := by decide +kernel
theorem k10005_22 : decode (qc 10005) 22 = .ok (.ireturn, 1) := by decide +kernel
theorem k10006_0 : decode (qc 10006) 0 = .ok (.aload_n 0, 1) := by decide +kernel
theorem k10006_1 : decode (qc 10006) 1 = .ok (.getfield 32, 3) := by decide +kernel
theorem k10006_4 : decode (qc 10006) 4 = .ok (.aload_n 0, 1) := by decide +kernel
theorem k10006_5 : decode (qc 10006) 5 = .ok (.getfield 28, 3) := by decide +kernel
theorem k10006_8 : decode (qc 10006) 8 = .ok (.if_icmp .ge 36, 3) := by decide +kernel
theorem k10006_11 : decode (qc 10006) 11 = .ok (.aload_n 0, 1) := by decide +kernel
theorem k10006_12 : decode (qc 10006) 12 = .ok (.getfield 21, 3) := by decide +kernel
theorem k10006_15 : decode (qc 10006) 15 = .ok (.aload_n 0, 1) := by decide +kernel
theorem k10006_16 : decode (qc 10006) 16 = .ok (.getfield 32, 3) := by decide +kernel
theorem k10006_19 : decode (qc 10006) 19 = .ok (.aload_n 0, 1) := by decide +kernel
theorem k10006_20 : decode (qc 10006) 20 = .ok (.aload_n 0, 1) := by decide +kernel
theorem k10006_21 : decode (qc 10006) 21 = .ok (.getfield 32, 3) := by decide +kernel
theorem k10006_24 : decode (qc 10006) 24 = .ok (.iconst (-1), 1) := by decide +kernel
theorem k10006_25 : decode (qc 10006) 25 = .ok (.aload_n 1, 1) := by decide +kernel
theorem k10006_26 : decode (qc 10006) 26 = .ok (.aload_n 2, 1) := by decide +kernel
theorem k10006_27 : decode (qc 10006) 27 = .ok (.invokevirtual 47, 3) := by decide +kernel
theorem k10006_30 : decode (qc 10006) 30 = .ok (.bastore, 1) := by decide +kernel
theorem k10006_31 : decode (qc 10006) 31 = .ok (.aload_n 0, 1) := by decide +kernel
theorem k10006_32 : decode (qc 10006) 32 = .ok (.dup, 1) := by decide +kernel
theorem k10006_33 : decode (qc 10006) 33 = .ok (.getfield 32, 3) := by decide +kernel
theorem k10006_36 : decode (qc 10006) 36 = .ok (.iconst 1, 1) := by decide +kernel
theorem k10006_37 : decode (qc 10006) 37 = .ok (.iadd, 1) := by decide +kernel
theorem k10006_38 : decode (qc 10006) 38 = .ok (.putfield 32, 3) := by decide +kernel
theorem k10006_41 : decode (qc 10006) 41 = .ok (.goto (-41), 3) := by decide +kernel
theorem k10006_44 : decode (qc 10006) 44 = .ok (.return_, 1) := by decide +kernel
theorem k10007_0 : decode (qc 10007) 0 = .ok (.iconst 0, 1) := by decide +kernel
theorem k10007_1 : decode (qc 10007) 1 = .ok (.istore 4, 2) := by decide +kernel
theorem k10007_3 : decode (qc 10007) 3 = .ok (.iload 4, 2) := by decide +kernel
theorem k10007_5 : decode (qc 10007) 5 = .ok (.aload_n 0, 1) := by decide +kernel
theorem k10007_6 : decode (qc 10007) 6 = .ok (.getfield 28, 3) := by decide +kernel
theorem k10007_9 : decode (qc 10007) 9 = .ok (.if_icmp .ge 83, 3) := by decide +kernel
theorem k10007_12 : decode (qc 10007) 12 = .ok (.iload 4, 2) := by decide +kernel
theorem k10007_14 : decode (qc 10007) 14 = .ok (.iload_n 1, 1) := by decide +kernel
theorem k10007_15 : decode (qc 10007) 15 = .ok (.if_icmp .le 23, 3) := by decide +kernel
theorem k10007_18 : decode (qc 10007) 18 = .ok (.aload_n 0, 1) := by decide +kernel
theorem k10007_19 : decode (qc 10007) 19 = .ok (.getfield 15, 3) := by decide +kernel
theorem k10007_22 : decode (qc 10007) 22 = .ok (.iload 4, 2) := by decide +kernel
theorem k10007_24 : decode (qc 10007) 24 = .ok (.iaload, 1) := by decide +kernel
theorem k10007_25 : decode (qc 10007) 25 = .ok (.aload_n 0, 1) := by decide +kernel
theorem k10007_26 : decode (qc 10007) 26 = .ok (.getfield 15, 3) := by decide +kernel
theorem k10007_29 : decode (qc 10007) 29 = .ok (.iload_n 1, 1) := by decide +kernel
theorem k10007_30 : decode (qc 10007) 30 = .ok (.iaload, 1) := by decide +kernel
theorem k10007_31 : decode (qc 10007) 31 = .ok (.if_icmp .ne 7, 3) := by decide +kernel
theorem k10007_34 : decode (qc 10007) 34 = .ok (.iconst 1, 1) := by decide +kernel
theorem k10007_35 : decode (qc 10007) 35 = .ok (.goto 4, 3) := by decide +kernel
theorem k10007_38 : decode (qc 10007) 38 = .ok (.iconst 0, 1) := by decide +kernel
theorem k10007_39 : decode (qc 10007) 39 = .ok (.istore 5, 2) := by decide +kernel
theorem k10007_41 : decode (qc 10007) 41 = .ok (.aload_n 0, 1) := by decide +kernel
theorem k10007_42 : decode (qc 10007) 42 = .ok (.getfield 25, 3) := by decide +kernel
theorem k10007_45 : decode (qc 10007) 45 = .ok (.iload 4, 2) := by decide +kernel
theorem k10007_47 : decode (qc 10007) 47 = .ok (.iload 5, 2) := by decide +kernel
theorem k10007_49 : decode (qc 10007) 49 = .ok (.ifCond .eq 15, 3) := by decide +kernel
theorem k10007_52 : decode (qc 10007) 52 = .ok (.aload_n 0, 1) := by decide +kernel
theorem k10007_53 : decode (qc 10007) 53 = .ok (.iload 4, 2) := by decide +kernel
theorem k10007_55 : decode (qc 10007) 55 = .ok (.iload_n 1, 1) := by decide +kernel
theorem k10007_56 : decode (qc 10007) 56 = .ok (.aload_n 2, 1) := by decide +kernel
theorem k10007_57 : decode (qc 10007) 57 = .ok (.aload_n 3, 1) := by decide +kernel
theorem k10007_58 : decode (qc 10007) 58 = .ok (.invokevirtual 47, 3) := by decide +kernel
theorem k10007_61 : decode (qc 10007) 61 = .ok (.goto 24, 3) := by decide +kernel
theorem k10007_64 : decode (qc 10007) 64 = .ok (.iload 4, 2) := by decide +kernel
theorem k10007_66 : decode (qc 10007) 66 = .ok (.iload_n 1, 1) := by decide +kernel
theorem k10007_67 : decode (qc 10007) 67 = .ok (.if_icmp .eq 17, 3) := by decide +kernel
theorem k10007_70 : decode (qc 10007) 70 = .ok (.aload_n 0, 1) := by decide +kernel
theorem k10007_71 : decode (qc 10007) 71 = .ok (.getfield 21, 3) := by decide +kernel
theorem k10007_74 : decode (qc 10007) 74 = .ok (.iload 4, 2) := by decide +kernel
theorem k10007_76 : decode (qc 10007) 76 = .ok (.baload, 1) := by decide +kernel
theorem k10007_77 : decode (qc 10007) 77 = .ok (.ifCond .eq 7, 3) := by decide +kernel
theorem k10007_80 : decode (qc 10007) 80 = .ok (.iconst 1, 1) := by decide +kernel
theorem k10007_81 : decode (qc 10007) 81 = .ok (.goto 4, 3) := by decide +kernel
theorem k10007_84 : decode (qc 10007) 84 = .ok (.iconst 0, 1) := by decide +kernel
theorem k10007_85 : decode (qc 10007) 85 = .ok (.bastore, 1) := by decide +kernel
theorem k10007_86 : decode (qc 10007) 86 = .ok (.iinc 4 1, 3) := by decide +kernel
theorem k10007_89 : decode (qc 10007) 89 = .ok (.goto (-86), 3) := by decide +kernel
theorem k10007_92 : decode (qc 10007) 92 = .ok (.return_, 1) := by decide +kernel
theorem k10008_0 : decode (qc 10008) 0 = .ok (.aload_n 0, 1) := by decide +kernel
theorem k10008_1 : decode (qc 10008) 1 = .ok (.getfield 9, 3) := by decide +kernel
theorem k10008_4 : decode (qc 10008) 4 = .ok (.iload_n 1, 1) := by decide +kernel
theorem k10008_5 : decode (qc 10008) 5 = .ok (.iaload, 1) := by decide +kernel
theorem k10008_6 : decode (qc 10008) 6 = .ok (.bipush 10, 2) := by decide +kernel
theorem k10008_8 : decode (qc 10008) 8 = .ok (.if_icmp .ge 24, 3) := by decide +kernel
theorem k10008_11 : decode (qc 10008) 11 = .ok (.aload_n 3, 1) := by decide +kernel
theorem k10008_12 : decode (qc 10008) 12 = .ok (.aload_n 0, 1) := by decide +kernel
theorem k10008_13 : decode (qc 10008) 13 = .ok (.getfield 9, 3) := by decide +kernel
theorem k10008_16 : decode (qc 10008) 16 = .ok (.iload_n 1, 1) := by decide +kernel
theorem k10008_17 : decode (qc 10008) 17 = .ok (.iaload, 1) := by decide +kernel
theorem k10008_18 : decode (qc 10008) 18 = .ok (.aload_n 0, 1) := by decide +kernel
theorem k10008_19 : decode (qc 10008) 19 = .ok (.getfield 15, 3) := by decide +kernel
theorem k10008_22 : decode (qc 10008) 22 = .ok (.iload_n 1, 1) := by decide +kernel
theorem k10008_23 : decode (qc 10008) 23 = .ok (.iaload, 1) := by decide +kernel
theorem k10008_24 : decode (qc 10008) 24 = .ok (.invokevirtual 51, 3) := by decide +kernel
theorem k10008_27 : decode (qc 10008) 27 = .ok (.ifCond .ne 5, 3) := by decide +kernel
theorem k10008_30 : decode (qc 10008) 30 = .ok (.iconst 0, 1) := by decide +kernel
theorem k10008_31 : decode (qc 10008) 31 = .ok (.ireturn, 1) := by decide +kernel
theorem k10008_32 : decode (qc 10008) 32 = .ok (.aload 4, 2) := by decide +kernel
theorem k10008_34 : decode (qc 10008) 34 = .ok (.ifnonnull 5, 3) := by decide +kernel
theorem k10008_37 : decode (qc 10008) 37 = .ok (.iconst 1, 1) := by decide +kernel
theorem k10008_38 : decode (qc 10008) 38 = .ok (.ireturn, 1) := by decide +kernel
theorem k10008_39 : decode (qc 10008) 39 = .ok (.iconst 0, 1) := by decide +kernel
theorem k10008_40 : decode (qc 10008) 40 = .ok (.istore 5, 2) := by decide +kernel
theorem k10008_42 : decode (qc 10008) 42 = .ok (.sipush 1000, 3) := by decide +kernel
theorem k10008_45 : decode (qc 10008) 45 = .ok (.istore 6, 2) := by decide +kernel
theorem k10008_47 : decode (qc 10008) 47 = .ok (.iconst 0, 1) := by decide +kernel
theorem k10008_48 : decode (qc 10008) 48 = .ok (.istore 7, 2) := by decide +kernel
theorem k10008_50 : decode (qc 10008) 50 = .ok (.iload 7, 2) := by decide +kernel
theorem k10008_52 : decode (qc 10008) 52 = .ok (.iload_n 1, 1) := by decide +kernel
theorem k10008_53 : decode (qc 10008) 53 = .ok (.if_icmp .ge 73, 3) := by decide +kernel
theorem k10008_56 : decode (qc 10008) 56 = .ok (.iload 7, 2) := by decide +kernel
theorem k10008_58 : decode (qc 10008) 58 = .ok (.iload_n 2, 1) := by decide +kernel
theorem k10008_59 : decode (qc 10008) 59 = .ok (.if_icmp .eq 61, 3) := by decide +kernel
theorem k10008_62 : decode (qc 10008) 62 = .ok (.aload_n 0, 1) := by decide +kernel
theorem k10008_63 : decode (qc 10008) 63 = .ok (.getfield 15, 3) := by decide +kernel
theorem k10008_66 : decode (qc 10008) 66 = .ok (.iload 7, 2) := by decide +kernel
theorem k10008_68 : decode (qc 10008) 68 = .ok (.iaload, 1) := by decide +kernel
theorem k10008_69 : decode (qc 10008) 69 = .ok (.aload_n 0, 1) := by decide +kernel
theorem k10008_70 : decode (qc 10008) 70 = .ok (.getfield 15, 3) := by decide +kernel
theorem k10008_73 : decode (qc 10008) 73 = .ok (.iload_n 1, 1) := by decide +kernel
theorem k10008_74 : decode (qc 10008) 74 = .ok (.iaload, 1) := by decide +kernel
theorem k10008_75 : decode (qc 10008) 75 = .ok (.if_icmp .ne 45, 3) := by decide +kernel
theorem k10008_78 : decode (qc 10008) 78 = .ok (.aload_n 0, 1) := by decide +kernel
theorem k10008_79 : decode (qc 10008) 79 = .ok (.getfield 18, 3) := by decide +kernel
theorem k10008_82 : decode (qc 10008) 82 = .ok (.iload_n 1, 1) := by decide +kernel
theorem k10008_83 : decode (qc 10008) 83 = .ok (.iaload, 1) := by decide +kernel
theorem k10008_84 : decode (qc 10008) 84 = .ok (.aload_n 0, 1) := by decide +kernel
theorem k10008_85 : decode (qc 10008) 85 = .ok (.getfield 18, 3) := by decide +kernel
theorem k10008_88 : decode (qc 10008) 88 = .ok (.iload 7, 2) := by decide +kernel
theorem k10008_90 : decode (qc 10008) 90 = .ok (.iaload, 1) := by decide +kernel
theorem k10008_91 : decode (qc 10008) 91 = .ok (.isub, 1) := by decide +kernel
theorem k10008_92 : decode (qc 10008) 92 = .ok (.istore 6, 2) := by decide +kernel
theorem k10008_94 : decode (qc 10008) 94 = .ok (.iload 5, 2) := by decide +kernel
theorem k10008_96 : decode (qc 10008) 96 = .ok (.aload_n 0, 1) := by decide +kernel
theorem k10008_97 : decode (qc 10008) 97 = .ok (.getfield 9, 3) := by decide +kernel
theorem k10008_100 : decode (qc 10008) 100 = .ok (.iload 7, 2) := by decide +kernel
theorem k10008_102 : decode (qc 10008) 102 = .ok (.iaload, 1) := by decide +kernel
theorem k10008_103 : decode (qc 10008) 103 = .ok (.aload_n 0, 1) := by decide +kernel
theorem k10008_104 : decode (qc 10008) 104 = .ok (.getfield 9, 3) := by decide +kernel
theorem k10008_107 : decode (qc 10008) 107 = .ok (.iload_n 1, 1) := by decide +kernel
theorem k10008_108 : decode (qc 10008) 108 = .ok (.iaload, 1) := by decide +kernel
theorem k10008_109 : decode (qc 10008) 109 = .ok (.if_icmp .ne 7, 3) := by decide +kernel
theorem k10008_112 : decode (qc 10008) 112 = .ok (.iconst 1, 1) := by decide +kernel
theorem k10008_113 : decode (qc 10008) 113 = .ok (.goto 4, 3) := by decide +kernel
theorem k10008_116 : decode (qc 10008) 116 = .ok (.iconst 0, 1) := by decide +kernel
theorem k10008_117 : decode (qc 10008) 117 = .ok (.iadd, 1) := by decide +kernel
theorem k10008_118 : decode (qc 10008) 118 = .ok (.istore 5, 2) := by decide +kernel
theorem k10008_120 : decode (qc 10008) 120 = .ok (.iinc 7 1, 3) := by decide +kernel
theorem k10008_123 : decode (qc 10008) 123 = .ok (.goto (-73), 3) := by decide +kernel
theorem k10008_126 : decode (qc 10008) 126 = .ok (.aload 4, 2) := by decide +kernel
theorem k10008_128 : decode (qc 10008) 128 = .ok (.aload_n 0, 1) := by decide +kernel
theorem k10008_129 : decode (qc 10008) 129 = .ok (.getfield 9, 3) := by decide +kernel
theorem k10008_132 : decode (qc 10008) 132 = .ok (.iload_n 1, 1) := by decide +kernel
theorem k10008_133 : decode (qc 10008) 133 = .ok (.iaload, 1) := by decide +kernel
theorem k10008_134 : decode (qc 10008) 134 = .ok (.aload_n 0, 1) := by decide +kernel
theorem k10008_135 : decode (qc 10008) 135 = .ok (.getfield 15, 3) := by decide +kernel
theorem k10008_138 : decode (qc 10008) 138 = .ok (.iload_n 1, 1) := by decide +kernel
theorem k10008_139 : decode (qc 10008) 139 = .ok (.iaload, 1) := by decide +kernel
theorem k10008_140 : decode (qc 10008) 140 = .ok (.aload_n 0, 1) := by decide +kernel
theorem k10008_141 : decode (qc 10008) 141 = .ok (.getfield 18, 3) := by decide +kernel
theorem k10008_144 : decode (qc 10008) 144 = .ok (.iload_n 1, 1) := by decide +kernel
theorem k10008_145 : decode (qc 10008) 145 = .ok (.iaload, 1) := by decide +kernel
theorem k10008_146 : decode (qc 10008) 146 = .ok (.iload 5, 2) := by decide +kernel
theorem k10008_148 : decode (qc 10008) 148 = .ok (.iload 6, 2) := by decide +kernel
theorem k10008_150 : decode (qc 10008) 150 = .ok (.invokevirtual 57, 3) := by decide +kernel
theorem k10008_153 : decode (qc 10008) 153 = .ok (.ifCond .le 7, 3) := by decide +kernel
theorem k10008_156 : decode (qc 10008) 156 = .ok (.iconst 1, 1) := by decide +kernel
theorem k10008_157 : decode (qc 10008) 157 = .ok (.goto 4, 3) := by decide +kernel
theorem k10008_160 : decode (qc 10008) 160 = .ok (.iconst 0, 1) := by decide +kernel
theorem k10008_161 : decode (qc 10008) 161 = .ok (.ireturn, 1) := by decide +kernel
theorem k10009_0 : decode (qc 10009) 0 = .ok (.ldc 63, 2) := by decide +kernel
theorem k10009_2 : decode (qc 10009) 2 = .ok (.istore_n 3, 1) := by decide +kernel
theorem k10009_3 : decode (qc 10009) 3 = .ok (.iconst 0, 1) := by decide +kernel
theorem k10009_4 : decode (qc 10009) 4 = .ok (.istore 4, 2) := by decide +kernel
theorem k10009_6 : decode (qc 10009) 6 = .ok (.iload 4, 2) := by decide +kernel
theorem k10009_8 : decode (qc 10009) 8 = .ok (.aload_n 0, 1) := by decide +kernel
theorem k10009_9 : decode (qc 10009) 9 = .ok (.getfield 28, 3) := by decide +kernel
theorem k10009_12 : decode (qc 10009) 12 = .ok (.if_icmp .ge 63, 3) := by decide +kernel
theorem k10009_15 : decode (qc 10009) 15 = .ok (.aload_n 0, 1) := by decide +kernel
theorem k10009_16 : decode (qc 10009) 16 = .ok (.getfield 18, 3) := by decide +kernel
theorem k10009_19 : decode (qc 10009) 19 = .ok (.iload 4, 2) := by decide +kernel
theorem k10009_21 : decode (qc 10009) 21 = .ok (.iaload, 1) := by decide +kernel
theorem k10009_22 : decode (qc 10009) 22 = .ok (.iload_n 1, 1) := by decide +kernel
theorem k10009_23 : decode (qc 10009) 23 = .ok (.if_icmp .le 15, 3) := by decide +kernel
theorem k10009_26 : decode (qc 10009) 26 = .ok (.iload_n 3, 1) := by decide +kernel
theorem k10009_27 : decode (qc 10009) 27 = .ok (.aload_n 0, 1) := by decide +kernel
theorem k10009_28 : decode (qc 10009) 28 = .ok (.getfield 18, 3) := by decide +kernel
theorem k10009_31 : decode (qc 10009) 31 = .ok (.iload 4, 2) := by decide +kernel
theorem k10009_33 : decode (qc 10009) 33 = .ok (.iaload, 1) := by decide +kernel
theorem k10009_34 : decode (qc 10009) 34 = .ok (.invokestatic 41, 3) := by decide +kernel
theorem k10009_37 : decode (qc 10009) 37 = .ok (.istore_n 3, 1) := by decide +kernel
theorem k10009_38 : decode (qc 10009) 38 = .ok (.iload_n 2, 1) := by decide +kernel
theorem k10009_39 : decode (qc 10009) 39 = .ok (.ifCond .le 30, 3) := by decide +kernel
theorem k10009_42 : decode (qc 10009) 42 = .ok (.aload_n 0, 1) := by decide +kernel
theorem k10009_43 : decode (qc 10009) 43 = .ok (.getfield 18, 3) := by decide +kernel
theorem k10009_46 : decode (qc 10009) 46 = .ok (.iload 4, 2) := by decide +kernel
theorem k10009_48 : decode (qc 10009) 48 = .ok (.iaload, 1) := by decide +kernel
theorem k10009_49 : decode (qc 10009) 49 = .ok (.iload_n 2, 1) := by decide +kernel
theorem k10009_50 : decode (qc 10009) 50 = .ok (.iadd, 1) := by decide +kernel
theorem k10009_51 : decode (qc 10009) 51 = .ok (.iload_n 1, 1) := by decide +kernel
theorem k10009_52 : decode (qc 10009) 52 = .ok (.if_icmp .le 17, 3) := by decide +kernel
theorem k10009_55 : decode (qc 10009) 55 = .ok (.iload_n 3, 1) := by decide +kernel
theorem k10009_56 : decode (qc 10009) 56 = .ok (.aload_n 0, 1) := by decide +kernel
theorem k10009_57 : decode (qc 10009) 57 = .ok (.getfield 18, 3) := by decide +kernel
theorem k10009_60 : decode (qc 10009) 60 = .ok (.iload 4, 2) := by decide +kernel
theorem k10009_62 : decode (qc 10009) 62 = .ok (.iaload, 1) := by decide +kernel
theorem k10009_63 : decode (qc 10009) 63 = .ok (.iload_n 2, 1) := by decide +kernel
theorem k10009_64 : decode (qc 10009) 64 = .ok (.iadd, 1) := by decide +kernel
theorem k10009_65 : decode (qc 10009) 65 = .ok (.invokestatic 41, 3) := by decide +kernel
theorem k10009_68 : decode (qc 10009) 68 = .ok (.istore_n 3, 1) := by decide +kernel
theorem k10009_69 : decode (qc 10009) 69 = .ok (.iinc 4 1, 3) := by decide +kernel
theorem k10009_72 : decode (qc 10009) 72 = .ok (.goto (-66), 3) := by decide +kernel
theorem k10009_75 : decode (qc 10009) 75 = .ok (.iload_n 3, 1) := by decide +kernel
theorem k10009_76 : decode (qc 10009) 76 = .ok (.ireturn, 1) := by decide +kernel
theorem k14000_0 : decode (qc 14000) 0 = .ok (.iload_n 0, 1) := by decide +kernel
theorem k14000_1 : decode (qc 14000) 1 = .ok (.iload_n 0, 1) := by decide +kernel
theorem k14000_2 : decode (qc 14000) 2 = .ok (.iconst 1, 1) := by decide +kernel
theorem k14000_3 : decode (qc 14000) 3 = .ok (.iushr, 1) := by decide +kernel
theorem k14000_4 : decode (qc 14000) 4 = .ok (.ldc_w 265, 3) := by decide +kernel
theorem k14000_7 : decode (qc 14000) 7 = .ok (.iand, 1) := by decide +kernel
theorem k14000_8 : decode (qc 14000) 8 = .ok (.isub, 1) := by decide +kernel
theorem k14000_9 : decode (qc 14000) 9 = .ok (.istore_n 0, 1) := by decide +kernel
theorem k14000_10 : decode (qc 14000) 10 = .ok (.iload_n 0, 1) := by decide +kernel
theorem k14000_11 : decode (qc 14000) 11 = .ok (.ldc_w 266, 3) := by decide +kernel
theorem k14000_14 : decode (qc 14000) 14 = .ok (.iand, 1) := by decide +kernel
theorem k14000_15 : decode (qc 14000) 15 = .ok (.iload_n 0, 1) := by decide +kernel
theorem k14000_16 : decode (qc 14000) 16 = .ok (.iconst 2, 1) := by decide +kernel
theorem k14000_17 : decode (qc 14000) 17 = .ok (.iushr, 1) := by decide +kernel
theorem k14000_18 : decode (qc 14000) 18 = .ok (.ldc_w 266, 3) := by decide +kernel
theorem k14000_21 : decode (qc 14000) 21 = .ok (.iand, 1) := by decide +kernel
theorem k14000_22 : decode (qc 14000) 22 = .ok (.iadd, 1) := by decide +kernel
theorem k14000_23 : decode (qc 14000) 23 = .ok (.istore_n 0, 1) := by decide +kernel
theorem k14000_24 : decode (qc 14000) 24 = .ok (.iload_n 0, 1) := by decide +kernel
theorem k14000_25 : decode (qc 14000) 25 = .ok (.iload_n 0, 1) := by decide +kernel
theorem k14000_26 : decode (qc 14000) 26 = .ok (.iconst 4, 1) := by decide +kernel
theorem k14000_27 : decode (qc 14000) 27 = .ok (.iushr, 1) := by decide +kernel
theorem k14000_28 : decode (qc 14000) 28 = .ok (.iadd, 1) := by decide +kernel
theorem k14000_29 : decode (qc 14000) 29 = .ok (.ldc_w 267, 3) := by decide +kernel
theorem k14000_32 : decode (qc 14000) 32 = .ok (.iand, 1) := by decide +kernel
theorem k14000_33 : decode (qc 14000) 33 = .ok (.istore_n 0, 1) := by decide +kernel
theorem k14000_34 : decode (qc 14000) 34 = .ok (.iload_n 0, 1) := by decide +kernel
theorem k14000_35 : decode (qc 14000) 35 = .ok (.iload_n 0, 1) := by decide +kernel
theorem k14000_36 : decode (qc 14000) 36 = .ok (.bipush 8, 2) := by decide +kernel
theorem k14000_38 : decode (qc 14000) 38 = .ok (.iushr, 1) := by decide +kernel
theorem k14000_39 : decode (qc 14000) 39 = .ok (.iadd, 1) := by decide +kernel
theorem k14000_40 : decode (qc 14000) 40 = .ok (.istore_n 0, 1) := by decide +kernel
theorem k14000_41 : decode (qc 14000) 41 = .ok (.iload_n 0, 1) := by decide +kernel
theorem k14000_42 : decode (qc 14000) 42 = .ok (.iload_n 0, 1) := by decide +kernel
theorem k14000_43 : decode (qc 14000) 43 = .ok (.bipush 16, 2) := by decide +kernel
theorem k14000_45 : decode (qc 14000) 45 = .ok (.iushr, 1) := by decide +kernel
theorem k14000_46 : decode (qc 14000) 46 = .ok (.iadd, 1) := by decide +kernel
theorem k14000_47 : decode (qc 14000) 47 = .ok (.istore_n 0, 1) := by decide +kernel
theorem k14000_48 : decode (qc 14000) 48 = .ok (.iload_n 0, 1) := by decide +kernel
theorem k14000_49 : decode (qc 14000) 49 = .ok (.bipush 63, 2) := by decide +kernel
theorem k14000_51 : decode (qc 14000) 51 = .ok (.iand, 1) := by decide +kernel
theorem k14000_52 : decode (qc 14000) 52 = .ok (.ireturn, 1) := by decide +kernel
