theorem dX10_tries_38 : decode cX10_tries 38 = .ok (.aload_n 0, 1) := by decide +kernel
theorem dX10_tries_39 : decode cX10_tries 39 = .ok (.iload_n 2, 1) := by decide +kernel
theorem dX10_tries_40 : decode cX10_tries 40 = .ok (.invokevirtual 75, 3) := by decide +kernel
theorem dX10_tries_43 : decode cX10_tries 43 = .ok (.ifCond .eq 17, 3) := by decide +kernel
theorem dX10_tries_46 : decode cX10_tries 46 = .ok (.aload_n 0, 1) := by decide +kernel
theorem dX10_tries_47 : decode cX10_tries 47 = .ok (.iload_n 1, 1) := by decide +kernel
theorem dX10_tries_48 : decode cX10_tries 48 = .ok (.invokevirtual 136, 3) := by decide +kernel
theorem dX10_tries_51 : decode cX10_tries 51 = .ok (.ifCond .eq 7, 3) := by decide +kernel
theorem dX10_tries_54 : decode cX10_tries 54 = .ok (.iconst 5, 1) := by decide +kernel
theorem dX10_tries_55 : decode cX10_tries 55 = .ok (.goto 4, 3) := by decide +kernel
theorem dX10_tries_58 : decode cX10_tries 58 = .ok (.iconst 0, 1) := by decide +kernel
theorem dX10_tries_59 : decode cX10_tries 59 = .ok (.ireturn, 1) := by decide +kernel
theorem dX10_tries_60 : decode cX10_tries 60 = .ok (.aload_n 0, 1) := by decide +kernel
theorem dX10_tries_61 : decode cX10_tries 61 = .ok (.iload_n 2, 1) := by decide +kernel
theorem dX10_tries_62 : decode cX10_tries 62 = .ok (.bipush 7, 2) := by decide +kernel
theorem dX10_tries_64 : decode cX10_tries 64 = .ok (.invokevirtual 71, 3) := by decide +kernel
theorem dX10_tries_67 : decode cX10_tries 67 = .ok (.aload_n 0, 1) := by decide +kernel
theorem dX10_tries_68 : decode cX10_tries 68 = .ok (.iload_n 2, 1) := by decide +kernel
theorem dX10_tries_69 : decode cX10_tries 69 = .ok (.bipush 6, 2) := by decide +kernel
theorem dX10_tries_71 : decode cX10_tries 71 = .ok (.invokevirtual 71, 3) := by decide +kernel
theorem dX10_tries_74 : decode cX10_tries 74 = .ok (.if_icmp .ne 5, 3) := by decide +kernel
theorem dX10_tries_77 : decode cX10_tries 77 = .ok (.iconst 2, 1) := by decide +kernel
theorem dX10_tries_78 : decode cX10_tries 78 = .ok (.ireturn, 1) := by decide +kernel
theorem dX10_tries_79 : decode cX10_tries 79 = .ok (.aload_n 0, 1) := by decide +kernel
theorem dX10_tries_80 : decode cX10_tries 80 = .ok (.getfield 7, 3) := by decide +kernel
theorem dX10_tries_83 : decode cX10_tries 83 = .ok (.bipush 30, 2) := by decide +kernel
theorem dX10_tries_85 : decode cX10_tries 85 = .ok (.bipush 8, 2) := by decide +kernel
theorem dX10_tries_87 : decode cX10_tries 87 = .ok (.iload_n 2, 1) := by decide +kernel
theorem dX10_tries_88 : decode cX10_tries 88 = .ok (.imul, 1) := by decide +kernel
theorem dX10_tries_89 : decode cX10_tries 89 = .ok (.iadd, 1) := by decide +kernel
theorem dX10_tries_90 : decode cX10_tries 90 = .ok (.bipush 7, 2) := by decide +kernel
theorem dX10_tries_92 : decode cX10_tries 92 = .ok (.iadd, 1) := by decide +kernel
theorem dX10_tries_93 : decode cX10_tries 93 = .ok (.dup2, 1) := by decide +kernel
theorem dX10_tries_94 : decode cX10_tries 94 = .ok (.iaload, 1) := by decide +kernel
theorem dX10_tries_95 : decode cX10_tries 95 = .ok (.iconst 1, 1) := by decide +kernel
theorem dX10_tries_96 : decode cX10_tries 96 = .ok (.iadd, 1) := by decide +kernel
theorem dX10_tries_97 : decode cX10_tries 97 = .ok (.iastore, 1) := by decide +kernel
theorem dX10_tries_98 : decode cX10_tries 98 = .ok (.aload_n 0, 1) := by decide +kernel
theorem dX10_tries_99 : decode cX10_tries 99 = .ok (.getfield 119, 3) := by decide +kernel
theorem dX10_tries_102 : decode cX10_tries 102 = .ok (.istore_n 3, 1) := by decide +kernel
theorem dX10_tries_103 : decode cX10_tries 103 = .ok (.aload_n 0, 1) := by decide +kernel
theorem dX10_tries_104 : decode cX10_tries 104 = .ok (.aload_n 0, 1) := by decide +kernel
theorem dX10_tries_105 : decode cX10_tries 105 = .ok (.iload_n 2, 1) := by decide +kernel
theorem dX10_tries_106 : decode cX10_tries 106 = .ok (.iconst 2, 1) := by decide +kernel
theorem dX10_tries_107 : decode cX10_tries 107 = .ok (.invokevirtual 71, 3) := by decide +kernel
theorem dX10_tries_110 : decode cX10_tries 110 = .ok (.iload_n 1, 1) := by decide +kernel
theorem dX10_tries_111 : decode cX10_tries 111 = .ok (.aload_n 0, 1) := by decide +kernel
theorem dX10_tries_112 : decode cX10_tries 112 = .ok (.getfield 25, 3) := by decide +kernel
theorem dX10_tries_115 : decode cX10_tries 115 = .ok (.aload_n 0, 1) := by decide +kernel
theorem dX10_tries_116 : decode cX10_tries 116 = .ok (.getfield 119, 3) := by decide +kernel
theorem dX10_tries_119 : decode cX10_tries 119 = .ok (.iaload, 1) := by decide +kernel
theorem dX10_tries_120 : decode cX10_tries 120 = .ok (.invokevirtual 139, 3) := by decide +kernel
theorem dX10_tries_123 : decode cX10_tries 123 = .ok (.istore 4, 2) := by decide +kernel
theorem dX10_tries_125 : decode cX10_tries 125 = .ok (.iload 4, 2) := by decide +kernel
theorem dX10_tries_127 : decode cX10_tries 127 = .ok (.ifCond .ne 15, 3) := by decide +kernel
theorem dX10_tries_130 : decode cX10_tries 130 = .ok (.aload_n 0, 1) := by decide +kernel
theorem dX10_tries_131 : decode cX10_tries 131 = .ok (.iload_n 1, 1) := by decide +kernel
theorem dX10_tries_132 : decode cX10_tries 132 = .ok (.invokevirtual 136, 3) := by decide +kernel
theorem dX10_tries_135 : decode cX10_tries 135 = .ok (.ifCond .eq 7, 3) := by decide +kernel
theorem dX10_tries_138 : decode cX10_tries 138 = .ok (.iconst 5, 1) := by decide +kernel
theorem dX10_tries_139 : decode cX10_tries 139 = .ok (.goto 5, 3) := by decide +kernel
theorem dX10_tries_142 : decode cX10_tries 142 = .ok (.iload 4, 2) := by decide +kernel
theorem dX10_tries_144 : decode cX10_tries 144 = .ok (.istore 4, 2) := by decide +kernel
theorem dX10_tries_146 : decode cX10_tries 146 = .ok (.iload 4, 2) := by decide +kernel
theorem dX10_tries_148 : decode cX10_tries 148 = .ok (.ifCond .le 22, 3) := by decide +kernel
theorem dX10_tries_151 : decode cX10_tries 151 = .ok (.aload_n 0, 1) := by decide +kernel
theorem dX10_tries_152 : decode cX10_tries 152 = .ok (.getfield 7, 3) := by decide +kernel
theorem dX10_tries_155 : decode cX10_tries 155 = .ok (.bipush 30, 2) := by decide +kernel
theorem dX10_tries_157 : decode cX10_tries 157 = .ok (.bipush 8, 2) := by decide +kernel
theorem dX10_tries_159 : decode cX10_tries 159 = .ok (.iload_n 2, 1) := by decide +kernel
theorem dX10_tries_160 : decode cX10_tries 160 = .ok (.imul, 1) := by decide +kernel
theorem dX10_tries_161 : decode cX10_tries 161 = .ok (.iadd, 1) := by decide +kernel
theorem dX10_tries_162 : decode cX10_tries 162 = .ok (.bipush 7, 2) := by decide +kernel
theorem dX10_tries_164 : decode cX10_tries 164 = .ok (.iadd, 1) := by decide +kernel
theorem dX10_tries_165 : decode cX10_tries 165 = .ok (.dup2, 1) := by decide +kernel
theorem dX10_tries_166 : decode cX10_tries 166 = .ok (.iaload, 1) := by decide +kernel
theorem dX10_tries_167 : decode cX10_tries 167 = .ok (.iconst 1, 1) := by decide +kernel
theorem dX10_tries_168 : decode cX10_tries 168 = .ok (.isub, 1) := by decide +kernel
theorem dX10_tries_169 : decode cX10_tries 169 = .ok (.iastore, 1) := by decide +kernel
theorem dX10_tries_170 : decode cX10_tries 170 = .ok (.iload 4, 2) := by decide +kernel
theorem dX10_tries_172 : decode cX10_tries 172 = .ok (.ireturn, 1) := by decide +kernel
theorem dX10_settles_0 : decode cX10_settles 0 = .ok (.aload_n 0, 1) := by decide +kernel
theorem dX10_settles_1 : decode cX10_settles 1 = .ok (.getfield 43, 3) := by decide +kernel
theorem dX10_settles_4 : decode cX10_settles 4 = .ok (.aload_n 0, 1) := by decide +kernel
theorem dX10_settles_5 : decode cX10_settles 5 = .ok (.getfield 37, 3) := by decide +kernel
theorem dX10_settles_8 : decode cX10_settles 8 = .ok (.aload_n 0, 1) := by decide +kernel
theorem dX10_settles_9 : decode cX10_settles 9 = .ok (.getfield 119, 3) := by decide +kernel
theorem dX10_settles_12 : decode cX10_settles 12 = .ok (.iaload, 1) := by decide +kernel
theorem dX10_settles_13 : decode cX10_settles 13 = .ok (.iload_n 1, 1) := by decide +kernel
theorem dX10_settles_14 : decode cX10_settles 14 = .ok (.iastore, 1) := by decide +kernel
theorem dX10_settles_15 : decode cX10_settles 15 = .ok (.aload_n 0, 1) := by decide +kernel
theorem dX10_settles_16 : decode cX10_settles 16 = .ok (.getfield 34, 3) := by decide +kernel
theorem dX10_settles_19 : decode cX10_settles 19 = .ok (.aload_n 0, 1) := by decide +kernel
theorem dX10_settles_20 : decode cX10_settles 20 = .ok (.getfield 119, 3) := by decide +kernel
theorem dX10_settles_23 : decode cX10_settles 23 = .ok (.iaload, 1) := by decide +kernel
theorem dX10_settles_24 : decode cX10_settles 24 = .ok (.aload_n 0, 1) := by decide +kernel
theorem dX10_settles_25 : decode cX10_settles 25 = .ok (.getfield 31, 3) := by decide +kernel
theorem dX10_settles_28 : decode cX10_settles 28 = .ok (.aload_n 0, 1) := by decide +kernel
theorem dX10_settles_29 : decode cX10_settles 29 = .ok (.getfield 119, 3) := by decide +kernel
theorem dX10_settles_32 : decode cX10_settles 32 = .ok (.iaload, 1) := by decide +kernel
theorem dX10_settles_33 : decode cX10_settles 33 = .ok (.iconst 1, 1) := by decide +kernel
theorem dX10_settles_34 : decode cX10_settles 34 = .ok (.isub, 1) := by decide +kernel
theorem dX10_settles_35 : decode cX10_settles 35 = .ok (.if_icmp .ne 7, 3) := by decide +kernel
theorem dX10_settles_38 : decode cX10_settles 38 = .ok (.iconst 1, 1) := by decide +kernel
theorem dX10_settles_39 : decode cX10_settles 39 = .ok (.goto 4, 3) := by decide +kernel
theorem dX10_settles_42 : decode cX10_settles 42 = .ok (.iconst 0, 1) := by decide +kernel
theorem dX10_settles_43 : decode cX10_settles 43 = .ok (.istore_n 2, 1) := by decide +kernel
theorem dX10_settles_44 : decode cX10_settles 44 = .ok (.aload_n 0, 1) := by decide +kernel
theorem dX10_settles_45 : decode cX10_settles 45 = .ok (.getfield 7, 3) := by decide +kernel
theorem dX10_settles_48 : decode cX10_settles 48 = .ok (.bipush 18, 2) := by decide +kernel
theorem dX10_settles_50 : decode cX10_settles 50 = .ok (.aload_n 0, 1) := by decide +kernel
theorem dX10_settles_51 : decode cX10_settles 51 = .ok (.getfield 22, 3) := by decide +kernel
theorem dX10_settles_54 : decode cX10_settles 54 = .ok (.aload_n 0, 1) := by decide +kernel
theorem dX10_settles_55 : decode cX10_settles 55 = .ok (.getfield 119, 3) := by decide +kernel
theorem dX10_settles_58 : decode cX10_settles 58 = .ok (.iaload, 1) := by decide +kernel
theorem dX10_settles_59 : decode cX10_settles 59 = .ok (.iadd, 1) := by decide +kernel
theorem dX10_settles_60 : decode cX10_settles 60 = .ok (.iaload, 1) := by decide +kernel
theorem dX10_settles_61 : decode cX10_settles 61 = .ok (.iload_n 1, 1) := by decide +kernel
theorem dX10_settles_62 : decode cX10_settles 62 = .ok (.ishr, 1) := by decide +kernel
theorem dX10_settles_63 : decode cX10_settles 63 = .ok (.iconst 1, 1) := by decide +kernel
theorem dX10_settles_64 : decode cX10_settles 64 = .ok (.iand, 1) := by decide +kernel
theorem dX10_settles_65 : decode cX10_settles 65 = .ok (.iconst 1, 1) := by decide +kernel
theorem dX10_settles_66 : decode cX10_settles 66 = .ok (.if_icmp .ne 7, 3) := by decide +kernel
theorem dX10_settles_69 : decode cX10_settles 69 = .ok (.iconst 1, 1) := by decide +kernel
theorem dX10_settles_70 : decode cX10_settles 70 = .ok (.goto 4, 3) := by decide +kernel
theorem dX10_settles_73 : decode cX10_settles 73 = .ok (.iconst 0, 1) := by decide +kernel
theorem dX10_settles_74 : decode cX10_settles 74 = .ok (.istore_n 3, 1) := by decide +kernel
theorem dX10_settles_75 : decode cX10_settles 75 = .ok (.iload_n 1, 1) := by decide +kernel
theorem dX10_settles_76 : decode cX10_settles 76 = .ok (.ifCond .eq 17, 3) := by decide +kernel
theorem dX10_settles_79 : decode cX10_settles 79 = .ok (.iload_n 1, 1) := by decide +kernel
theorem dX10_settles_80 : decode cX10_settles 80 = .ok (.bipush 6, 2) := by decide +kernel
theorem dX10_settles_82 : decode cX10_settles 82 = .ok (.if_icmp .eq 11, 3) := by decide +kernel
theorem dX10_settles_85 : decode cX10_settles 85 = .ok (.iload_n 3, 1) := by decide +kernel
theorem dX10_settles_86 : decode cX10_settles 86 = .ok (.ifCond .eq 7, 3) := by decide +kernel
theorem dX10_settles_89 : decode cX10_settles 89 = .ok (.iload_n 2, 1) := by decide +kernel
theorem dX10_settles_90 : decode cX10_settles 90 = .ok (.ifCond .eq 5, 3) := by decide +kernel
theorem dX10_settles_93 : decode cX10_settles 93 = .ok (.iload_n 1, 1) := by decide +kernel
theorem dX10_settles_94 : decode cX10_settles 94 = .ok (.ireturn, 1) := by decide +kernel
theorem dX10_settles_95 : decode cX10_settles 95 = .ok (.aload_n 0, 1) := by decide +kernel
theorem dX10_settles_96 : decode cX10_settles 96 = .ok (.getfield 34, 3) := by decide +kernel
theorem dX10_settles_99 : decode cX10_settles 99 = .ok (.aload_n 0, 1) := by decide +kernel
theorem dX10_settles_100 : decode cX10_settles 100 = .ok (.getfield 119, 3) := by decide +kernel
theorem dX10_settles_103 : decode cX10_settles 103 = .ok (.dup2, 1) := by decide +kernel
theorem dX10_settles_104 : decode cX10_settles 104 = .ok (.iaload, 1) := by decide +kernel
theorem dX10_settles_105 : decode cX10_settles 105 = .ok (.iconst 1, 1) := by decide +kernel
theorem dX10_settles_106 : decode cX10_settles 106 = .ok (.iadd, 1) := by decide +kernel
theorem dX10_settles_107 : decode cX10_settles 107 = .ok (.iastore, 1) := by decide +kernel
theorem dX10_settles_108 : decode cX10_settles 108 = .ok (.iconst (-1), 1) := by decide +kernel
theorem dX10_settles_109 : decode cX10_settles 109 = .ok (.ireturn, 1) := by decide +kernel
theorem dX10_places_0 : decode cX10_places 0 = .ok (.aload_n 0, 1) := by decide +kernel
theorem dX10_places_1 : decode cX10_places 1 = .ok (.iconst (-1), 1) := by decide +kernel
theorem dX10_places_2 : decode cX10_places 2 = .ok (.putfield 119, 3) := by decide +kernel
theorem dX10_places_5 : decode cX10_places 5 = .ok (.aload_n 0, 1) := by decide +kernel
theorem dX10_places_6 : decode cX10_places 6 = .ok (.iconst 0, 1) := by decide +kernel
theorem dX10_places_7 : decode cX10_places 7 = .ok (.putfield 133, 3) := by decide +kernel
theorem dX10_places_10 : decode cX10_places 10 = .ok (.aload_n 0, 1) := by decide +kernel
theorem dX10_places_11 : decode cX10_places 11 = .ok (.iload_n 1, 1) := by decide +kernel
theorem dX10_places_12 : decode cX10_places 12 = .ok (.iload_n 2, 1) := by decide +kernel
theorem dX10_places_13 : decode cX10_places 13 = .ok (.iconst (-1), 1) := by decide +kernel
theorem dX10_places_14 : decode cX10_places 14 = .ok (.invokevirtual 139, 3) := by decide +kernel
theorem dX10_places_17 : decode cX10_places 17 = .ok (.istore_n 3, 1) := by decide +kernel
theorem dX10_places_18 : decode cX10_places 18 = .ok (.iload_n 3, 1) := by decide +kernel
theorem dX10_places_19 : decode cX10_places 19 = .ok (.ifCond .ne 15, 3) := by decide +kernel
theorem dX10_places_22 : decode cX10_places 22 = .ok (.aload_n 0, 1) := by decide +kernel
theorem dX10_places_23 : decode cX10_places 23 = .ok (.iload_n 2, 1) := by decide +kernel
theorem dX10_places_24 : decode cX10_places 24 = .ok (.invokevirtual 136, 3) := by decide +kernel
theorem dX10_places_27 : decode cX10_places 27 = .ok (.ifCond .eq 7, 3) := by decide +kernel
theorem dX10_places_30 : decode cX10_places 30 = .ok (.iconst 5, 1) := by decide +kernel
theorem dX10_places_31 : decode cX10_places 31 = .ok (.goto 4, 3) := by decide +kernel
theorem dX10_places_34 : decode cX10_places 34 = .ok (.iload_n 3, 1) := by decide +kernel
theorem dX10_places_35 : decode cX10_places 35 = .ok (.istore_n 3, 1) := by decide +kernel
theorem dX10_places_36 : decode cX10_places 36 = .ok (.aload_n 0, 1) := by decide +kernel
theorem dX10_places_37 : decode cX10_places 37 = .ok (.getfield 119, 3) := by decide +kernel
theorem dX10_places_40 : decode cX10_places 40 = .ok (.ifCond .lt 119, 3) := by decide +kernel
theorem dX10_places_43 : decode cX10_places 43 = .ok (.iload_n 3, 1) := by decide +kernel
theorem dX10_places_44 : decode cX10_places 44 = .ok (.iconst (-1), 1) := by decide +kernel
theorem dX10_places_45 : decode cX10_places 45 = .ok (.if_icmp .ne 79, 3) := by decide +kernel
theorem dX10_places_48 : decode cX10_places 48 = .ok (.aload_n 0, 1) := by decide +kernel
theorem dX10_places_49 : decode cX10_places 49 = .ok (.getfield 133, 3) := by decide +kernel
theorem dX10_places_52 : decode cX10_places 52 = .ok (.bipush 30, 2) := by decide +kernel
theorem dX10_places_54 : decode cX10_places 54 = .ok (.if_icmp .ne 7, 3) := by decide +kernel
theorem dX10_places_57 : decode cX10_places 57 = .ok (.iconst 1, 1) := by decide +kernel
theorem dX10_places_58 : decode cX10_places 58 = .ok (.goto 4, 3) := by decide +kernel
theorem dX10_places_61 : decode cX10_places 61 = .ok (.iconst 0, 1) := by decide +kernel
theorem dX10_places_62 : decode cX10_places 62 = .ok (.istore 4, 2) := by decide +kernel
theorem dX10_places_64 : decode cX10_places 64 = .ok (.iload 4, 2) := by decide +kernel
theorem dX10_places_66 : decode cX10_places 66 = .ok (.ifCond .eq 8, 3) := by decide +kernel
theorem dX10_places_69 : decode cX10_places 69 = .ok (.bipush 6, 2) := by decide +kernel
theorem dX10_places_71 : decode cX10_places 71 = .ok (.goto 8, 3) := by decide +kernel
theorem dX10_places_74 : decode cX10_places 74 = .ok (.aload_n 0, 1) := by decide +kernel
theorem dX10_places_75 : decode cX10_places 75 = .ok (.iload_n 2, 1) := by decide +kernel
theorem dX10_places_76 : decode cX10_places 76 = .ok (.invokevirtual 143, 3) := by decide +kernel
theorem dX10_places_79 : decode cX10_places 79 = .ok (.istore_n 3, 1) := by decide +kernel
theorem dX10_places_80 : decode cX10_places 80 = .ok (.iload 4, 2) := by decide +kernel
theorem dX10_places_82 : decode cX10_places 82 = .ok (.ifCond .eq 28, 3) := by decide +kernel
theorem dX10_places_85 : decode cX10_places 85 = .ok (.aload_n 0, 1) := by decide +kernel
theorem dX10_places_86 : decode cX10_places 86 = .ok (.iload_n 3, 1) := by decide +kernel
theorem dX10_places_87 : decode cX10_places 87 = .ok (.invokevirtual 145, 3) := by decide +kernel
theorem dX10_places_90 : decode cX10_places 90 = .ok (.aload_n 0, 1) := by decide +kernel
theorem dX10_places_91 : decode cX10_places 91 = .ok (.getfield 119, 3) := by decide +kernel
theorem dX10_places_94 : decode cX10_places 94 = .ok (.ifCond .ge 7, 3) := by decide +kernel
theorem dX10_places_97 : decode cX10_places 97 = .ok (.iload_n 3, 1) := by decide +kernel
theorem dX10_places_98 : decode cX10_places 98 = .ok (.goto 8, 3) := by decide +kernel
theorem dX10_places_101 : decode cX10_places 101 = .ok (.aload_n 0, 1) := by decide +kernel
theorem dX10_places_102 : decode cX10_places 102 = .ok (.iload_n 3, 1) := by decide +kernel
theorem dX10_places_103 : decode cX10_places 103 = .ok (.invokevirtual 148, 3) := by decide +kernel
theorem dX10_places_106 : decode cX10_places 106 = .ok (.istore_n 3, 1) := by decide +kernel
theorem dX10_places_107 : decode cX10_places 107 = .ok (.goto 14, 3) := by decide +kernel
theorem dX10_places_110 : decode cX10_places 110 = .ok (.iload_n 3, 1) := by decide +kernel
theorem dX10_places_111 : decode cX10_places 111 = .ok (.iconst (-1), 1) := by decide +kernel
theorem dX10_places_112 : decode cX10_places 112 = .ok (.if_icmp .eq 9, 3) := by decide +kernel
theorem dX10_places_115 : decode cX10_places 115 = .ok (.aload_n 0, 1) := by decide +kernel
theorem dX10_places_116 : decode cX10_places 116 = .ok (.iload_n 3, 1) := by decide +kernel
theorem dX10_places_117 : decode cX10_places 117 = .ok (.invokevirtual 148, 3) := by decide +kernel
theorem dX10_places_120 : decode cX10_places 120 = .ok (.istore_n 3, 1) := by decide +kernel
theorem dX10_places_121 : decode cX10_places 121 = .ok (.goto (-85), 3) := by decide +kernel
theorem dX10_places_124 : decode cX10_places 124 = .ok (.iload_n 3, 1) := by decide +kernel
theorem dX10_places_125 : decode cX10_places 125 = .ok (.ifCond .ne 9, 3) := by decide +kernel
theorem dX10_places_128 : decode cX10_places 128 = .ok (.aload_n 0, 1) := by decide +kernel
theorem dX10_places_129 : decode cX10_places 129 = .ok (.invokevirtual 151, 3) := by decide +kernel
theorem dX10_places_132 : decode cX10_places 132 = .ok (.iconst 0, 1) := by decide +kernel
theorem dX10_places_133 : decode cX10_places 133 = .ok (.ireturn, 1) := by decide +kernel
theorem dX10_places_134 : decode cX10_places 134 = .ok (.aload_n 0, 1) := by decide +kernel
theorem dX10_places_135 : decode cX10_places 135 = .ok (.iload_n 3, 1) := by decide +kernel
theorem dX10_places_136 : decode cX10_places 136 = .ok (.invokevirtual 145, 3) := by decide +kernel
theorem dX10_places_139 : decode cX10_places 139 = .ok (.aload_n 0, 1) := by decide +kernel
theorem dX10_places_140 : decode cX10_places 140 = .ok (.getfield 119, 3) := by decide +kernel
theorem dX10_places_143 : decode cX10_places 143 = .ok (.ifCond .ge 7, 3) := by decide +kernel
theorem dX10_places_146 : decode cX10_places 146 = .ok (.iload_n 3, 1) := by decide +kernel
theorem dX10_places_147 : decode cX10_places 147 = .ok (.goto 8, 3) := by decide +kernel
theorem dX10_places_150 : decode cX10_places 150 = .ok (.aload_n 0, 1) := by decide +kernel
theorem dX10_places_151 : decode cX10_places 151 = .ok (.iload_n 3, 1) := by decide +kernel
theorem dX10_places_152 : decode cX10_places 152 = .ok (.invokevirtual 148, 3) := by decide +kernel
theorem dX10_places_155 : decode cX10_places 155 = .ok (.istore_n 3, 1) := by decide +kernel
theorem dX10_places_156 : decode cX10_places 156 = .ok (.goto (-120), 3) := by decide +kernel
theorem dX10_places_159 : decode cX10_places 159 = .ok (.aload_n 0, 1) := by decide +kernel
theorem dX10_places_160 : decode cX10_places 160 = .ok (.iconst 0, 1) := by decide +kernel
theorem dX10_places_161 : decode cX10_places 161 = .ok (.putfield 154, 3) := by decide +kernel
theorem dX10_places_164 : decode cX10_places 164 = .ok (.iload_n 3, 1) := by decide +kernel
theorem dX10_places_165 : decode cX10_places 165 = .ok (.ireturn, 1) := by decide +kernel
theorem dX10_leaves_0 : decode cX10_leaves 0 = .ok (.aload_n 0, 1) := by decide +kernel
theorem dX10_leaves_1 : decode cX10_leaves 1 = .ok (.dup, 1) := by decide +kernel
theorem dX10_leaves_2 : decode cX10_leaves 2 = .ok (.getfield 119, 3) := by decide +kernel
theorem dX10_leaves_5 : decode cX10_leaves 5 = .ok (.iconst 1, 1) := by decide +kernel
theorem dX10_leaves_6 : decode cX10_leaves 6 = .ok (.isub, 1) := by decide +kernel
theorem dX10_leaves_7 : decode cX10_leaves 7 = .ok (.putfield 119, 3) := by decide +kernel
theorem dX10_leaves_10 : decode cX10_leaves 10 = .ok (.aload_n 0, 1) := by decide +kernel
theorem dX10_leaves_11 : decode cX10_leaves 11 = .ok (.getfield 119, 3) := by decide +kernel
theorem dX10_leaves_14 : decode cX10_leaves 14 = .ok (.ifCond .lt 25, 3) := by decide +kernel
theorem dX10_leaves_17 : decode cX10_leaves 17 = .ok (.aload_n 0, 1) := by decide +kernel
theorem dX10_leaves_18 : decode cX10_leaves 18 = .ok (.getfield 7, 3) := by decide +kernel
theorem dX10_leaves_21 : decode cX10_leaves 21 = .ok (.bipush 30, 2) := by decide +kernel
theorem dX10_leaves_23 : decode cX10_leaves 23 = .ok (.bipush 8, 2) := by decide +kernel
theorem dX10_leaves_25 : decode cX10_leaves 25 = .ok (.aload_n 0, 1) := by decide +kernel
theorem dX10_leaves_26 : decode cX10_leaves 26 = .ok (.invokevirtual 129, 3) := by decide +kernel
theorem dX10_leaves_29 : decode cX10_leaves 29 = .ok (.imul, 1) := by decide +kernel
theorem dX10_leaves_30 : decode cX10_leaves 30 = .ok (.iadd, 1) := by decide +kernel
theorem dX10_leaves_31 : decode cX10_leaves 31 = .ok (.bipush 7, 2) := by decide +kernel
theorem dX10_leaves_33 : decode cX10_leaves 33 = .ok (.iadd, 1) := by decide +kernel
theorem dX10_leaves_34 : decode cX10_leaves 34 = .ok (.dup2, 1) := by decide +kernel
theorem dX10_leaves_35 : decode cX10_leaves 35 = .ok (.iaload, 1) := by decide +kernel
theorem dX10_leaves_36 : decode cX10_leaves 36 = .ok (.iconst 1, 1) := by decide +kernel
theorem dX10_leaves_37 : decode cX10_leaves 37 = .ok (.isub, 1) := by decide +kernel
theorem dX10_leaves_38 : decode cX10_leaves 38 = .ok (.iastore, 1) := by decide +kernel
theorem dX10_leaves_39 : decode cX10_leaves 39 = .ok (.return_, 1) := by decide +kernel
theorem dX10_connects_0 : decode cX10_connects 0 = .ok (.aload_n 0, 1) := by decide +kernel
theorem dX10_connects_1 : decode cX10_connects 1 = .ok (.iconst 0, 1) := by decide +kernel
theorem dX10_connects_2 : decode cX10_connects 2 = .ok (.putfield 154, 3) := by decide +kernel
theorem dX10_connects_5 : decode cX10_connects 5 = .ok (.aload_n 0, 1) := by decide +kernel
theorem dX10_connects_6 : decode cX10_connects 6 = .ok (.getfield 119, 3) := by decide +kernel
theorem dX10_connects_9 : decode cX10_connects 9 = .ok (.istore_n 1, 1) := by decide +kernel
theorem dX10_connects_10 : decode cX10_connects 10 = .ok (.aload_n 0, 1) := by decide +kernel
theorem dX10_connects_11 : decode cX10_connects 11 = .ok (.iconst 0, 1) := by decide +kernel
theorem dX10_connects_12 : decode cX10_connects 12 = .ok (.putfield 119, 3) := by decide +kernel
theorem dX10_connects_15 : decode cX10_connects 15 = .ok (.aload_n 0, 1) := by decide +kernel
theorem dX10_connects_16 : decode cX10_connects 16 = .ok (.getfield 119, 3) := by decide +kernel
theorem dX10_connects_19 : decode cX10_connects 19 = .ok (.iload_n 1, 1) := by decide +kernel
theorem dX10_connects_20 : decode cX10_connects 20 = .ok (.if_icmp .gt 54, 3) := by decide +kernel
theorem dX10_connects_23 : decode cX10_connects 23 = .ok (.aload_n 0, 1) := by decide +kernel
theorem dX10_connects_24 : decode cX10_connects 24 = .ok (.getfield 46, 3) := by decide +kernel
theorem dX10_connects_27 : decode cX10_connects 27 = .ok (.aload_n 0, 1) := by decide +kernel
theorem dX10_connects_28 : decode cX10_connects 28 = .ok (.getfield 154, 3) := by decide +kernel
theorem dX10_connects_31 : decode cX10_connects 31 = .ok (.aload_n 0, 1) := by decide +kernel
theorem dX10_connects_32 : decode cX10_connects 32 = .ok (.invokevirtual 129, 3) := by decide +kernel
theorem dX10_connects_35 : decode cX10_connects 35 = .ok (.iastore, 1) := by decide +kernel
theorem dX10_connects_36 : decode cX10_connects 36 = .ok (.aload_n 0, 1) := by decide +kernel
theorem dX10_connects_37 : decode cX10_connects 37 = .ok (.getfield 43, 3) := by decide +kernel
theorem dX10_connects_40 : decode cX10_connects 40 = .ok (.aload_n 0, 1) := by decide +kernel
theorem dX10_connects_41 : decode cX10_connects 41 = .ok (.getfield 37, 3) := by decide +kernel
theorem dX10_connects_44 : decode cX10_connects 44 = .ok (.aload_n 0, 1) := by decide +kernel
theorem dX10_connects_45 : decode cX10_connects 45 = .ok (.getfield 119, 3) := by decide +kernel
theorem dX10_connects_48 : decode cX10_connects 48 = .ok (.iaload, 1) := by decide +kernel
theorem dX10_connects_49 : decode cX10_connects 49 = .ok (.iconst 0, 1) := by decide +kernel
theorem dX10_connects_50 : decode cX10_connects 50 = .ok (.iastore, 1) := by decide +kernel
theorem dX10_connects_51 : decode cX10_connects 51 = .ok (.aload_n 0, 1) := by decide +kernel
theorem dX10_connects_52 : decode cX10_connects 52 = .ok (.dup, 1) := by decide +kernel
theorem dX10_connects_53 : decode cX10_connects 53 = .ok (.getfield 154, 3) := by decide +kernel
theorem dX10_connects_56 : decode cX10_connects 56 = .ok (.iconst 1, 1) := by decide +kernel
theorem dX10_connects_57 : decode cX10_connects 57 = .ok (.iadd, 1) := by decide +kernel
theorem dX10_connects_58 : decode cX10_connects 58 = .ok (.putfield 154, 3) := by decide +kernel
theorem dX10_connects_61 : decode cX10_connects 61 = .ok (.aload_n 0, 1) := by decide +kernel
theorem dX10_connects_62 : decode cX10_connects 62 = .ok (.dup, 1) := by decide +kernel
theorem dX10_connects_63 : decode cX10_connects 63 = .ok (.getfield 119, 3) := by decide +kernel
theorem dX10_connects_66 : decode cX10_connects 66 = .ok (.iconst 1, 1) := by decide +kernel
theorem dX10_connects_67 : decode cX10_connects 67 = .ok (.iadd, 1) := by decide +kernel
theorem dX10_connects_68 : decode cX10_connects 68 = .ok (.putfield 119, 3) := by decide +kernel
theorem dX10_connects_71 : decode cX10_connects 71 = .ok (.goto (-56), 3) := by decide +kernel
theorem dX10_connects_74 : decode cX10_connects 74 = .ok (.return_, 1) := by decide +kernel
theorem dX10_call_0 : decode cX10_call 0 = .ok (.aload_n 0, 1) := by decide +kernel
theorem dX10_call_1 : decode cX10_call 1 = .ok (.iload_n 1, 1) := by decide +kernel
theorem dX10_call_2 : decode cX10_call 2 = .ok (.invokevirtual 79, 3) := by decide +kernel
theorem dX10_call_5 : decode cX10_call 5 = .ok (.ifCond .eq 10, 3) := by decide +kernel
theorem dX10_call_8 : decode cX10_call 8 = .ok (.iload_n 2, 1) := by decide +kernel
theorem dX10_call_9 : decode cX10_call 9 = .ok (.invokestatic 97, 3) := by decide +kernel
theorem dX10_call_12 : decode cX10_call 12 = .ok (.ifCond .ne 5, 3) := by decide +kernel
theorem dX10_call_15 : decode cX10_call 15 = .ok (.iconst (-1), 1) := by decide +kernel
theorem dX10_call_16 : decode cX10_call 16 = .ok (.ireturn, 1) := by decide +kernel
theorem dX10_call_17 : decode cX10_call 17 = .ok (.aload_n 0, 1) := by decide +kernel
theorem dX10_call_18 : decode cX10_call 18 = .ok (.getfield 7, 3) := by decide +kernel
theorem dX10_call_21 : decode cX10_call 21 = .ok (.iconst 5, 1) := by decide +kernel
theorem dX10_call_22 : decode cX10_call 22 = .ok (.iaload, 1) := by decide +kernel
theorem dX10_call_23 : decode cX10_call 23 = .ok (.bipush 10, 2) := by decide +kernel
theorem dX10_call_25 : decode cX10_call 25 = .ok (.if_icmp .ne 6, 3) := by decide +kernel
theorem dX10_call_28 : decode cX10_call 28 = .ok (.bipush (-3), 2) := by decide +kernel
theorem dX10_call_30 : decode cX10_call 30 = .ok (.ireturn, 1) := by decide +kernel
theorem dX10_call_31 : decode cX10_call 31 = .ok (.aload_n 0, 1) := by decide +kernel
theorem dX10_call_32 : decode cX10_call 32 = .ok (.getfield 7, 3) := by decide +kernel
theorem dX10_call_35 : decode cX10_call 35 = .ok (.aload_n 0, 1) := by decide +kernel
theorem dX10_call_36 : decode cX10_call 36 = .ok (.getfield 13, 3) := by decide +kernel
theorem dX10_call_39 : decode cX10_call 39 = .ok (.invokestatic 157, 3) := by decide +kernel
theorem dX10_call_42 : decode cX10_call 42 = .ok (.aload_n 0, 1) := by decide +kernel
theorem dX10_call_43 : decode cX10_call 43 = .ok (.iload_n 1, 1) := by decide +kernel
theorem dX10_call_44 : decode cX10_call 44 = .ok (.iload_n 2, 1) := by decide +kernel
theorem dX10_call_45 : decode cX10_call 45 = .ok (.invokevirtual 161, 3) := by decide +kernel
theorem dX10_call_48 : decode cX10_call 48 = .ok (.istore_n 3, 1) := by decide +kernel
theorem dX10_call_49 : decode cX10_call 49 = .ok (.iload_n 3, 1) := by decide +kernel
theorem dX10_call_50 : decode cX10_call 50 = .ok (.ifCond .eq 19, 3) := by decide +kernel
theorem dX10_call_53 : decode cX10_call 53 = .ok (.aload_n 0, 1) := by decide +kernel
theorem dX10_call_54 : decode cX10_call 54 = .ok (.getfield 13, 3) := by decide +kernel
theorem dX10_call_57 : decode cX10_call 57 = .ok (.aload_n 0, 1) := by decide +kernel
theorem dX10_call_58 : decode cX10_call 58 = .ok (.getfield 7, 3) := by decide +kernel
theorem dX10_call_61 : decode cX10_call 61 = .ok (.invokestatic 157, 3) := by decide +kernel
theorem dX10_call_64 : decode cX10_call 64 = .ok (.bipush (-10), 2) := by decide +kernel
theorem dX10_call_66 : decode cX10_call 66 = .ok (.iload_n 3, 1) := by decide +kernel
theorem dX10_call_67 : decode cX10_call 67 = .ok (.isub, 1) := by decide +kernel
theorem dX10_call_68 : decode cX10_call 68 = .ok (.ireturn, 1) := by decide +kernel
theorem dX10_call_69 : decode cX10_call 69 = .ok (.aload_n 0, 1) := by decide +kernel
theorem dX10_call_70 : decode cX10_call 70 = .ok (.aload_n 0, 1) := by decide +kernel
theorem dX10_call_71 : decode cX10_call 71 = .ok (.getfield 13, 3) := by decide +kernel
theorem dX10_call_74 : decode cX10_call 74 = .ok (.invokevirtual 62, 3) := by decide +kernel
theorem dX10_call_77 : decode cX10_call 77 = .ok (.iconst 0, 1) := by decide +kernel
theorem dX10_call_78 : decode cX10_call 78 = .ok (.istore 4, 2) := by decide +kernel
theorem dX10_call_80 : decode cX10_call 80 = .ok (.aload_n 0, 1) := by decide +kernel
theorem dX10_call_81 : decode cX10_call 81 = .ok (.getfield 7, 3) := by decide +kernel
theorem dX10_call_84 : decode cX10_call 84 = .ok (.sipush 420, 3) := by decide +kernel
theorem dX10_call_87 : decode cX10_call 87 = .ok (.bipush 14, 2) := by decide +kernel
theorem dX10_call_89 : decode cX10_call 89 = .ok (.iload 4, 2) := by decide +kernel
theorem dX10_call_91 : decode cX10_call 91 = .ok (.imul, 1) := by decide +kernel
theorem dX10_call_92 : decode cX10_call 92 = .ok (.iadd, 1) := by decide +kernel
theorem dX10_call_93 : decode cX10_call 93 = .ok (.iaload, 1) := by decide +kernel
theorem dX10_call_94 : decode cX10_call 94 = .ok (.iconst 1, 1) := by decide +kernel
theorem dX10_call_95 : decode cX10_call 95 = .ok (.if_icmp .ne 9, 3) := by decide +kernel
theorem dX10_call_98 : decode cX10_call 98 = .ok (.iinc 4 1, 3) := by decide +kernel
theorem dX10_call_101 : decode cX10_call 101 = .ok (.goto (-21), 3) := by decide +kernel
theorem dX10_call_104 : decode cX10_call 104 = .ok (.sipush 420, 3) := by decide +kernel
theorem dX10_call_107 : decode cX10_call 107 = .ok (.bipush 14, 2) := by decide +kernel
theorem dX10_call_109 : decode cX10_call 109 = .ok (.iload 4, 2) := by decide +kernel
theorem dX10_call_111 : decode cX10_call 111 = .ok (.imul, 1) := by decide +kernel
theorem dX10_call_112 : decode cX10_call 112 = .ok (.iadd, 1) := by decide +kernel
theorem dX10_call_113 : decode cX10_call 113 = .ok (.istore 5, 2) := by decide +kernel
theorem dX10_call_115 : decode cX10_call 115 = .ok (.aload_n 0, 1) := by decide +kernel
theorem dX10_call_116 : decode cX10_call 116 = .ok (.getfield 7, 3) := by decide +kernel
theorem dX10_call_119 : decode cX10_call 119 = .ok (.iload 5, 2) := by decide +kernel
theorem dX10_call_121 : decode cX10_call 121 = .ok (.iconst 1, 1) := by decide +kernel
theorem dX10_call_122 : decode cX10_call 122 = .ok (.iastore, 1) := by decide +kernel
theorem dX10_call_123 : decode cX10_call 123 = .ok (.aload_n 0, 1) := by decide +kernel
theorem dX10_call_124 : decode cX10_call 124 = .ok (.getfield 7, 3) := by decide +kernel
theorem dX10_call_127 : decode cX10_call 127 = .ok (.iload 5, 2) := by decide +kernel
theorem dX10_call_129 : decode cX10_call 129 = .ok (.iconst 1, 1) := by decide +kernel
theorem dX10_call_130 : decode cX10_call 130 = .ok (.iadd, 1) := by decide +kernel
theorem dX10_call_131 : decode cX10_call 131 = .ok (.iload_n 2, 1) := by decide +kernel
theorem dX10_call_132 : decode cX10_call 132 = .ok (.iastore, 1) := by decide +kernel
theorem dX10_call_133 : decode cX10_call 133 = .ok (.aload_n 0, 1) := by decide +kernel
theorem dX10_call_134 : decode cX10_call 134 = .ok (.getfield 7, 3) := by decide +kernel
theorem dX10_call_137 : decode cX10_call 137 = .ok (.iload 5, 2) := by decide +kernel
theorem dX10_call_139 : decode cX10_call 139 = .ok (.iconst 2, 1) := by decide +kernel
theorem dX10_call_140 : decode cX10_call 140 = .ok (.iadd, 1) := by decide +kernel
theorem dX10_call_141 : decode cX10_call 141 = .ok (.aload_n 0, 1) := by decide +kernel
theorem dX10_call_142 : decode cX10_call 142 = .ok (.getfield 7, 3) := by decide +kernel
theorem dX10_call_145 : decode cX10_call 145 = .ok (.iconst 4, 1) := by decide +kernel
theorem dX10_call_146 : decode cX10_call 146 = .ok (.iaload, 1) := by decide +kernel
theorem dX10_call_147 : decode cX10_call 147 = .ok (.iastore, 1) := by decide +kernel
theorem dX10_call_148 : decode cX10_call 148 = .ok (.aload_n 0, 1) := by decide +kernel
theorem dX10_call_149 : decode cX10_call 149 = .ok (.getfield 7, 3) := by decide +kernel
theorem dX10_call_152 : decode cX10_call 152 = .ok (.iload 5, 2) := by decide +kernel
theorem dX10_call_154 : decode cX10_call 154 = .ok (.iconst 3, 1) := by decide +kernel
theorem dX10_call_155 : decode cX10_call 155 = .ok (.iadd, 1) := by decide +kernel
theorem dX10_call_156 : decode cX10_call 156 = .ok (.aload_n 0, 1) := by decide +kernel
theorem dX10_call_157 : decode cX10_call 157 = .ok (.aload_n 0, 1) := by decide +kernel
theorem dX10_call_158 : decode cX10_call 158 = .ok (.getfield 7, 3) := by decide +kernel
theorem dX10_call_161 : decode cX10_call 161 = .ok (.iconst 4, 1) := by decide +kernel
theorem dX10_call_162 : decode cX10_call 162 = .ok (.iaload, 1) := by decide +kernel
theorem dX10_call_163 : decode cX10_call 163 = .ok (.invokevirtual 116, 3) := by decide +kernel
theorem dX10_call_166 : decode cX10_call 166 = .ok (.iastore, 1) := by decide +kernel
theorem dX10_call_167 : decode cX10_call 167 = .ok (.aload_n 0, 1) := by decide +kernel
theorem dX10_call_168 : decode cX10_call 168 = .ok (.getfield 7, 3) := by decide +kernel
theorem dX10_call_171 : decode cX10_call 171 = .ok (.iload 5, 2) := by decide +kernel
theorem dX10_call_173 : decode cX10_call 173 = .ok (.iconst 4, 1) := by decide +kernel
theorem dX10_call_174 : decode cX10_call 174 = .ok (.iadd, 1) := by decide +kernel
theorem dX10_call_175 : decode cX10_call 175 = .ok (.aload_n 0, 1) := by decide +kernel
theorem dX10_call_176 : decode cX10_call 176 = .ok (.getfield 154, 3) := by decide +kernel
theorem dX10_call_179 : decode cX10_call 179 = .ok (.iastore, 1) := by decide +kernel
theorem dX10_call_180 : decode cX10_call 180 = .ok (.iconst 0, 1) := by decide +kernel
theorem dX10_call_181 : decode cX10_call 181 = .ok (.istore 6, 2) := by decide +kernel
theorem dX10_call_183 : decode cX10_call 183 = .ok (.iload 6, 2) := by decide +kernel
theorem dX10_call_185 : decode cX10_call 185 = .ok (.aload_n 0, 1) := by decide +kernel
theorem dX10_call_186 : decode cX10_call 186 = .ok (.getfield 154, 3) := by decide +kernel
theorem dX10_call_189 : decode cX10_call 189 = .ok (.if_icmp .ge 28, 3) := by decide +kernel
theorem dX10_call_192 : decode cX10_call 192 = .ok (.aload_n 0, 1) := by decide +kernel
theorem dX10_call_193 : decode cX10_call 193 = .ok (.getfield 7, 3) := by decide +kernel
theorem dX10_call_196 : decode cX10_call 196 = .ok (.iload 5, 2) := by decide +kernel
theorem dX10_call_198 : decode cX10_call 198 = .ok (.iconst 5, 1) := by decide +kernel
theorem dX10_call_199 : decode cX10_call 199 = .ok (.iadd, 1) := by decide +kernel
theorem dX10_call_200 : decode cX10_call 200 = .ok (.iload 6, 2) := by decide +kernel
theorem dX10_call_202 : decode cX10_call 202 = .ok (.iadd, 1) := by decide +kernel
theorem dX10_call_203 : decode cX10_call 203 = .ok (.aload_n 0, 1) := by decide +kernel
theorem dX10_call_204 : decode cX10_call 204 = .ok (.getfield 46, 3) := by decide +kernel
theorem dX10_call_207 : decode cX10_call 207 = .ok (.iload 6, 2) := by decide +kernel
theorem dX10_call_209 : decode cX10_call 209 = .ok (.iaload, 1) := by decide +kernel
theorem dX10_call_210 : decode cX10_call 210 = .ok (.iastore, 1) := by decide +kernel
theorem dX10_call_211 : decode cX10_call 211 = .ok (.iinc 6 1, 3) := by decide +kernel
theorem dX10_call_214 : decode cX10_call 214 = .ok (.goto (-31), 3) := by decide +kernel
theorem dX10_call_217 : decode cX10_call 217 = .ok (.aload_n 0, 1) := by decide +kernel
theorem dX10_call_218 : decode cX10_call 218 = .ok (.getfield 7, 3) := by decide +kernel
theorem dX10_call_221 : decode cX10_call 221 = .ok (.iconst 5, 1) := by decide +kernel
theorem dX10_call_222 : decode cX10_call 222 = .ok (.dup2, 1) := by decide +kernel
theorem dX10_call_223 : decode cX10_call 223 = .ok (.iaload, 1) := by decide +kernel
theorem dX10_call_224 : decode cX10_call 224 = .ok (.iconst 1, 1) := by decide +kernel
theorem dX10_call_225 : decode cX10_call 225 = .ok (.iadd, 1) := by decide +kernel
theorem dX10_call_226 : decode cX10_call 226 = .ok (.iastore, 1) := by decide +kernel
theorem dX10_call_227 : decode cX10_call 227 = .ok (.iload 4, 2) := by decide +kernel
theorem dX10_call_229 : decode cX10_call 229 = .ok (.ireturn, 1) := by decide +kernel
theorem dX10_isCall_0 : decode cX10_isCall 0 = .ok (.iload_n 1, 1) := by decide +kernel
theorem dX10_isCall_1 : decode cX10_isCall 1 = .ok (.iconst 0, 1) := by decide +kernel
theorem dX10_isCall_2 : decode cX10_isCall 2 = .ok (.bipush 9, 2) := by decide +kernel
theorem dX10_isCall_4 : decode cX10_isCall 4 = .ok (.invokestatic 66, 3) := by decide +kernel
theorem dX10_isCall_7 : decode cX10_isCall 7 = .ok (.ifCond .eq 24, 3) := by decide +kernel
theorem dX10_isCall_10 : decode cX10_isCall 10 = .ok (.aload_n 0, 1) := by decide +kernel
theorem dX10_isCall_11 : decode cX10_isCall 11 = .ok (.getfield 7, 3) := by decide +kernel
theorem dX10_isCall_14 : decode cX10_isCall 14 = .ok (.sipush 420, 3) := by decide +kernel
theorem dX10_isCall_17 : decode cX10_isCall 17 = .ok (.bipush 14, 2) := by decide +kernel
theorem dX10_isCall_19 : decode cX10_isCall 19 = .ok (.iload_n 1, 1) := by decide +kernel
theorem dX10_isCall_20 : decode cX10_isCall 20 = .ok (.imul, 1) := by decide +kernel
theorem dX10_isCall_21 : decode cX10_isCall 21 = .ok (.iadd, 1) := by decide +kernel
theorem dX10_isCall_22 : decode cX10_isCall 22 = .ok (.iaload, 1) := by decide +kernel
theorem dX10_isCall_23 : decode cX10_isCall 23 = .ok (.iconst 1, 1) := by decide +kernel
theorem dX10_isCall_24 : decode cX10_isCall 24 = .ok (.if_icmp .ne 7, 3) := by decide +kernel
theorem dX10_isCall_27 : decode cX10_isCall 27 = .ok (.iconst 1, 1) := by decide +kernel
theorem dX10_isCall_28 : decode cX10_isCall 28 = .ok (.goto 4, 3) := by decide +kernel
theorem dX10_isCall_31 : decode cX10_isCall 31 = .ok (.iconst 0, 1) := by decide +kernel
theorem dX10_isCall_32 : decode cX10_isCall 32 = .ok (.ireturn, 1) := by decide +kernel
theorem dX10_end_0 : decode cX10_end 0 = .ok (.aload_n 0, 1) := by decide +kernel
theorem dX10_end_1 : decode cX10_end 1 = .ok (.iload_n 1, 1) := by decide +kernel
theorem dX10_end_2 : decode cX10_end 2 = .ok (.invokevirtual 164, 3) := by decide +kernel
theorem dX10_end_5 : decode cX10_end 5 = .ok (.ifCond .ne 5, 3) := by decide +kernel
theorem dX10_end_8 : decode cX10_end 8 = .ok (.iconst (-1), 1) := by decide +kernel
theorem dX10_end_9 : decode cX10_end 9 = .ok (.ireturn, 1) := by decide +kernel
theorem dX10_end_10 : decode cX10_end 10 = .ok (.aload_n 0, 1) := by decide +kernel
theorem dX10_end_11 : decode cX10_end 11 = .ok (.aload_n 0, 1) := by decide +kernel
theorem dX10_end_12 : decode cX10_end 12 = .ok (.getfield 7, 3) := by decide +kernel
theorem dX10_end_15 : decode cX10_end 15 = .ok (.invokevirtual 62, 3) := by decide +kernel
theorem dX10_end_18 : decode cX10_end 18 = .ok (.sipush 420, 3) := by decide +kernel
theorem dX10_end_21 : decode cX10_end 21 = .ok (.bipush 14, 2) := by decide +kernel
theorem dX10_end_23 : decode cX10_end 23 = .ok (.iload_n 1, 1) := by decide +kernel
theorem dX10_end_24 : decode cX10_end 24 = .ok (.imul, 1) := by decide +kernel
theorem dX10_end_25 : decode cX10_end 25 = .ok (.iadd, 1) := by decide +kernel
theorem dX10_end_26 : decode cX10_end 26 = .ok (.istore_n 2, 1) := by decide +kernel
theorem dX10_end_27 : decode cX10_end 27 = .ok (.aload_n 0, 1) := by decide +kernel
theorem dX10_end_28 : decode cX10_end 28 = .ok (.getfield 7, 3) := by decide +kernel
theorem dX10_end_31 : decode cX10_end 31 = .ok (.iconst 4, 1) := by decide +kernel
theorem dX10_end_32 : decode cX10_end 32 = .ok (.iaload, 1) := by decide +kernel
theorem dX10_end_33 : decode cX10_end 33 = .ok (.aload_n 0, 1) := by decide +kernel
theorem dX10_end_34 : decode cX10_end 34 = .ok (.getfield 7, 3) := by decide +kernel
theorem dX10_end_37 : decode cX10_end 37 = .ok (.iload_n 2, 1) := by decide +kernel
theorem dX10_end_38 : decode cX10_end 38 = .ok (.iconst 2, 1) := by decide +kernel
theorem dX10_end_39 : decode cX10_end 39 = .ok (.iadd, 1) := by decide +kernel
theorem dX10_end_40 : decode cX10_end 40 = .ok (.iaload, 1) := by decide +kernel
theorem dX10_end_41 : decode cX10_end 41 = .ok (.isub, 1) := by decide +kernel
theorem dX10_end_42 : decode cX10_end 42 = .ok (.istore_n 3, 1) := by decide +kernel
theorem dX10_end_43 : decode cX10_end 43 = .ok (.iload_n 3, 1) := by decide +kernel
theorem dX10_end_44 : decode cX10_end 44 = .ok (.iconst 1, 1) := by decide +kernel
theorem dX10_end_45 : decode cX10_end 45 = .ok (.if_icmp .ge 7, 3) := by decide +kernel
theorem dX10_end_48 : decode cX10_end 48 = .ok (.iconst 1, 1) := by decide +kernel
theorem dX10_end_49 : decode cX10_end 49 = .ok (.goto 4, 3) := by decide +kernel
theorem dX10_end_52 : decode cX10_end 52 = .ok (.iload_n 3, 1) := by decide +kernel
theorem dX10_end_53 : decode cX10_end 53 = .ok (.istore_n 3, 1) := by decide +kernel
theorem dX10_end_54 : decode cX10_end 54 = .ok (.iconst 0, 1) := by decide +kernel
theorem dX10_end_55 : decode cX10_end 55 = .ok (.istore 4, 2) := by decide +kernel
theorem dX10_end_57 : decode cX10_end 57 = .ok (.iconst 0, 1) := by decide +kernel
theorem dX10_end_58 : decode cX10_end 58 = .ok (.istore 5, 2) := by decide +kernel
theorem dX10_end_60 : decode cX10_end 60 = .ok (.iload 5, 2) := by decide +kernel
theorem dX10_end_62 : decode cX10_end 62 = .ok (.aload_n 0, 1) := by decide +kernel
theorem dX10_end_63 : decode cX10_end 63 = .ok (.getfield 7, 3) := by decide +kernel
theorem dX10_end_66 : decode cX10_end 66 = .ok (.iload_n 2, 1) := by decide +kernel
theorem dX10_end_67 : decode cX10_end 67 = .ok (.iconst 4, 1) := by decide +kernel
theorem dX10_end_68 : decode cX10_end 68 = .ok (.iadd, 1) := by decide +kernel
theorem dX10_end_69 : decode cX10_end 69 = .ok (.iaload, 1) := by decide +kernel
theorem dX10_end_70 : decode cX10_end 70 = .ok (.if_icmp .ge 112, 3) := by decide +kernel
theorem dX10_end_73 : decode cX10_end 73 = .ok (.aload_n 0, 1) := by decide +kernel
theorem dX10_end_74 : decode cX10_end 74 = .ok (.getfield 7, 3) := by decide +kernel
theorem dX10_end_77 : decode cX10_end 77 = .ok (.iload_n 2, 1) := by decide +kernel
theorem dX10_end_78 : decode cX10_end 78 = .ok (.iconst 5, 1) := by decide +kernel
theorem dX10_end_79 : decode cX10_end 79 = .ok (.iadd, 1) := by decide +kernel
theorem dX10_end_80 : decode cX10_end 80 = .ok (.iload 5, 2) := by decide +kernel
theorem dX10_end_82 : decode cX10_end 82 = .ok (.iadd, 1) := by decide +kernel
theorem dX10_end_83 : decode cX10_end 83 = .ok (.iaload, 1) := by decide +kernel
theorem dX10_end_84 : decode cX10_end 84 = .ok (.istore 6, 2) := by decide +kernel
theorem dX10_end_86 : decode cX10_end 86 = .ok (.aload_n 0, 1) := by decide +kernel
theorem dX10_end_87 : decode cX10_end 87 = .ok (.iload 6, 2) := by decide +kernel
theorem dX10_end_89 : decode cX10_end 89 = .ok (.aload_n 0, 1) := by decide +kernel
theorem dX10_end_90 : decode cX10_end 90 = .ok (.getfield 7, 3) := by decide +kernel
theorem dX10_end_93 : decode cX10_end 93 = .ok (.iload_n 2, 1) := by decide +kernel
theorem dX10_end_94 : decode cX10_end 94 = .ok (.iconst 3, 1) := by decide +kernel
theorem dX10_end_95 : decode cX10_end 95 = .ok (.iadd, 1) := by decide +kernel
theorem dX10_end_96 : decode cX10_end 96 = .ok (.iaload, 1) := by decide +kernel
theorem dX10_end_97 : decode cX10_end 97 = .ok (.invokevirtual 167, 3) := by decide +kernel
theorem dX10_end_100 : decode cX10_end 100 = .ok (.iload_n 3, 1) := by decide +kernel
theorem dX10_end_101 : decode cX10_end 101 = .ok (.imul, 1) := by decide +kernel
theorem dX10_end_102 : decode cX10_end 102 = .ok (.istore 7, 2) := by decide +kernel
theorem dX10_end_104 : decode cX10_end 104 = .ok (.aload_n 0, 1) := by decide +kernel
theorem dX10_end_105 : decode cX10_end 105 = .ok (.getfield 7, 3) := by decide +kernel
theorem dX10_end_108 : decode cX10_end 108 = .ok (.sipush 570, 3) := by decide +kernel
theorem dX10_end_111 : decode cX10_end 111 = .ok (.bipush 8, 2) := by decide +kernel
theorem dX10_end_113 : decode cX10_end 113 = .ok (.aload_n 0, 1) := by decide +kernel
theorem dX10_end_114 : decode cX10_end 114 = .ok (.iload 6, 2) := by decide +kernel
theorem dX10_end_116 : decode cX10_end 116 = .ok (.iconst 0, 1) := by decide +kernel
theorem dX10_end_117 : decode cX10_end 117 = .ok (.invokevirtual 71, 3) := by decide +kernel
theorem dX10_end_120 : decode cX10_end 120 = .ok (.imul, 1) := by decide +kernel
theorem dX10_end_121 : decode cX10_end 121 = .ok (.iadd, 1) := by decide +kernel
theorem dX10_end_122 : decode cX10_end 122 = .ok (.aload_n 0, 1) := by decide +kernel
theorem dX10_end_123 : decode cX10_end 123 = .ok (.iload 6, 2) := by decide +kernel
theorem dX10_end_125 : decode cX10_end 125 = .ok (.iconst 2, 1) := by decide +kernel
theorem dX10_end_126 : decode cX10_end 126 = .ok (.invokevirtual 71, 3) := by decide +kernel
theorem dX10_end_129 : decode cX10_end 129 = .ok (.iadd, 1) := by decide +kernel
theorem dX10_end_130 : decode cX10_end 130 = .ok (.dup2, 1) := by decide +kernel
theorem dX10_end_131 : decode cX10_end 131 = .ok (.iaload, 1) := by decide +kernel
theorem dX10_end_132 : decode cX10_end 132 = .ok (.iload 7, 2) := by decide +kernel
theorem dX10_end_134 : decode cX10_end 134 = .ok (.iadd, 1) := by decide +kernel
theorem dX10_end_135 : decode cX10_end 135 = .ok (.iastore, 1) := by decide +kernel
theorem dX10_end_136 : decode cX10_end 136 = .ok (.aload_n 0, 1) := by decide +kernel
theorem dX10_end_137 : decode cX10_end 137 = .ok (.getfield 7, 3) := by decide +kernel
theorem dX10_end_140 : decode cX10_end 140 = .ok (.bipush 30, 2) := by decide +kernel
theorem dX10_end_142 : decode cX10_end 142 = .ok (.bipush 8, 2) := by decide +kernel
theorem dX10_end_144 : decode cX10_end 144 = .ok (.iload 6, 2) := by decide +kernel
theorem dX10_end_146 : decode cX10_end 146 = .ok (.imul, 1) := by decide +kernel
theorem dX10_end_147 : decode cX10_end 147 = .ok (.iadd, 1) := by decide +kernel
theorem dX10_end_148 : decode cX10_end 148 = .ok (.bipush 7, 2) := by decide +kernel
theorem dX10_end_150 : decode cX10_end 150 = .ok (.iadd, 1) := by decide +kernel
theorem dX10_end_151 : decode cX10_end 151 = .ok (.dup2, 1) := by decide +kernel
theorem dX10_end_152 : decode cX10_end 152 = .ok (.iaload, 1) := by decide +kernel
theorem dX10_end_153 : decode cX10_end 153 = .ok (.aload_n 0, 1) := by decide +kernel
theorem dX10_end_154 : decode cX10_end 154 = .ok (.iload 6, 2) := by decide +kernel
theorem dX10_end_156 : decode cX10_end 156 = .ok (.invokevirtual 75, 3) := by decide +kernel
theorem dX10_end_159 : decode cX10_end 159 = .ok (.ifCond .eq 7, 3) := by decide +kernel
theorem dX10_end_162 : decode cX10_end 162 = .ok (.iconst 0, 1) := by decide +kernel
theorem dX10_end_163 : decode cX10_end 163 = .ok (.goto 4, 3) := by decide +kernel
theorem dX10_end_166 : decode cX10_end 166 = .ok (.iconst 1, 1) := by decide +kernel
theorem dX10_end_167 : decode cX10_end 167 = .ok (.isub, 1) := by decide +kernel
theorem dX10_end_168 : decode cX10_end 168 = .ok (.iastore, 1) := by decide +kernel
theorem dX10_end_169 : decode cX10_end 169 = .ok (.iload 4, 2) := by decide +kernel
theorem dX10_end_171 : decode cX10_end 171 = .ok (.iload 7, 2) := by decide +kernel
theorem dX10_end_173 : decode cX10_end 173 = .ok (.iadd, 1) := by decide +kernel
theorem dX10_end_174 : decode cX10_end 174 = .ok (.istore 4, 2) := by decide +kernel
theorem dX10_end_176 : decode cX10_end 176 = .ok (.iinc 5 1, 3) := by decide +kernel
theorem dX10_end_179 : decode cX10_end 179 = .ok (.goto (-119), 3) := by decide +kernel
theorem dX10_end_182 : decode cX10_end 182 = .ok (.aload_n 0, 1) := by decide +kernel
theorem dX10_end_183 : decode cX10_end 183 = .ok (.getfield 7, 3) := by decide +kernel
theorem dX10_end_186 : decode cX10_end 186 = .ok (.iload_n 2, 1) := by decide +kernel
theorem dX10_end_187 : decode cX10_end 187 = .ok (.iconst 0, 1) := by decide +kernel
theorem dX10_end_188 : decode cX10_end 188 = .ok (.iastore, 1) := by decide +kernel
theorem dX10_end_189 : decode cX10_end 189 = .ok (.aload_n 0, 1) := by decide +kernel
theorem dX10_end_190 : decode cX10_end 190 = .ok (.getfield 7, 3) := by decide +kernel
theorem dX10_end_193 : decode cX10_end 193 = .ok (.iconst 5, 1) := by decide +kernel
theorem dX10_end_194 : decode cX10_end 194 = .ok (.dup2, 1) := by decide +kernel
theorem dX10_end_195 : decode cX10_end 195 = .ok (.iaload, 1) := by decide +kernel
theorem dX10_end_196 : decode cX10_end 196 = .ok (.iconst 1, 1) := by decide +kernel
theorem dX10_end_197 : decode cX10_end 197 = .ok (.isub, 1) := by decide +kernel
theorem dX10_end_198 : decode cX10_end 198 = .ok (.iastore, 1) := by decide +kernel
theorem dX10_end_199 : decode cX10_end 199 = .ok (.iload 4, 2) := by decide +kernel
theorem dX10_end_201 : decode cX10_end 201 = .ok (.ireturn, 1) := by decide +kernel
theorem dX10_pass_0 : decode cX10_pass 0 = .ok (.iload_n 1, 1) := by decide +kernel
theorem dX10_pass_1 : decode cX10_pass 1 = .ok (.iconst 1, 1) := by decide +kernel
theorem dX10_pass_2 : decode cX10_pass 2 = .ok (.sipush 10080, 3) := by decide +kernel
theorem dX10_pass_5 : decode cX10_pass 5 = .ok (.invokestatic 66, 3) := by decide +kernel
theorem dX10_pass_8 : decode cX10_pass 8 = .ok (.ifCond .ne 5, 3) := by decide +kernel
theorem dX10_pass_11 : decode cX10_pass 11 = .ok (.iconst (-1), 1) := by decide +kernel
theorem dX10_pass_12 : decode cX10_pass 12 = .ok (.ireturn, 1) := by decide +kernel
theorem dX10_pass_13 : decode cX10_pass 13 = .ok (.aload_n 0, 1) := by decide +kernel
theorem dX10_pass_14 : decode cX10_pass 14 = .ok (.getfield 7, 3) := by decide +kernel
theorem dX10_pass_17 : decode cX10_pass 17 = .ok (.iconst 4, 1) := by decide +kernel
theorem dX10_pass_18 : decode cX10_pass 18 = .ok (.iaload, 1) := by decide +kernel
theorem dX10_pass_19 : decode cX10_pass 19 = .ok (.iload_n 1, 1) := by decide +kernel
theorem dX10_pass_20 : decode cX10_pass 20 = .ok (.iadd, 1) := by decide +kernel
theorem dX10_pass_21 : decode cX10_pass 21 = .ok (.ldc 170, 2) := by decide +kernel
theorem dX10_pass_23 : decode cX10_pass 23 = .ok (.if_icmp .le 6, 3) := by decide +kernel
theorem dX10_pass_26 : decode cX10_pass 26 = .ok (.bipush (-2), 2) := by decide +kernel
theorem dX10_pass_28 : decode cX10_pass 28 = .ok (.ireturn, 1) := by decide +kernel
theorem dX10_pass_29 : decode cX10_pass 29 = .ok (.aload_n 0, 1) := by decide +kernel
theorem dX10_pass_30 : decode cX10_pass 30 = .ok (.aload_n 0, 1) := by decide +kernel
theorem dX10_pass_31 : decode cX10_pass 31 = .ok (.getfield 7, 3) := by decide +kernel
theorem dX10_pass_34 : decode cX10_pass 34 = .ok (.invokevirtual 62, 3) := by decide +kernel
theorem dX10_pass_37 : decode cX10_pass 37 = .ok (.aload_n 0, 1) := by decide +kernel
theorem dX10_pass_38 : decode cX10_pass 38 = .ok (.getfield 7, 3) := by decide +kernel
theorem dX10_pass_41 : decode cX10_pass 41 = .ok (.iconst 4, 1) := by decide +kernel
theorem dX10_pass_42 : decode cX10_pass 42 = .ok (.dup2, 1) := by decide +kernel
theorem dX10_pass_43 : decode cX10_pass 43 = .ok (.iaload, 1) := by decide +kernel
theorem dX10_pass_44 : decode cX10_pass 44 = .ok (.iload_n 1, 1) := by decide +kernel
theorem dX10_pass_45 : decode cX10_pass 45 = .ok (.iadd, 1) := by decide +kernel
theorem dX10_pass_46 : decode cX10_pass 46 = .ok (.iastore, 1) := by decide +kernel
theorem dX10_pass_47 : decode cX10_pass 47 = .ok (.aload_n 0, 1) := by decide +kernel
theorem dX10_pass_48 : decode cX10_pass 48 = .ok (.getfield 7, 3) := by decide +kernel
theorem dX10_pass_51 : decode cX10_pass 51 = .ok (.iconst 4, 1) := by decide +kernel
theorem dX10_pass_52 : decode cX10_pass 52 = .ok (.iaload, 1) := by decide +kernel
theorem dX10_pass_53 : decode cX10_pass 53 = .ok (.ireturn, 1) := by decide +kernel
theorem dX10_time_0 : decode cX10_time 0 = .ok (.aload_n 0, 1) := by decide +kernel
theorem dX10_time_1 : decode cX10_time 1 = .ok (.getfield 7, 3) := by decide +kernel
theorem dX10_time_4 : decode cX10_time 4 = .ok (.iconst 4, 1) := by decide +kernel
theorem dX10_time_5 : decode cX10_time 5 = .ok (.iaload, 1) := by decide +kernel
theorem dX10_time_6 : decode cX10_time 6 = .ok (.ireturn, 1) := by decide +kernel
theorem dX10_band_0 : decode cX10_band 0 = .ok (.aload_n 0, 1) := by decide +kernel
theorem dX10_band_1 : decode cX10_band 1 = .ok (.aload_n 0, 1) := by decide +kernel
theorem dX10_band_2 : decode cX10_band 2 = .ok (.getfield 7, 3) := by decide +kernel
theorem dX10_band_5 : decode cX10_band 5 = .ok (.iconst 4, 1) := by decide +kernel
theorem dX10_band_6 : decode cX10_band 6 = .ok (.iaload, 1) := by decide +kernel
theorem dX10_band_7 : decode cX10_band 7 = .ok (.invokevirtual 116, 3) := by decide +kernel
theorem dX10_band_10 : decode cX10_band 10 = .ok (.ireturn, 1) := by decide +kernel
theorem dX10_route_0 : decode cX10_route 0 = .ok (.iload_n 1, 1) := by decide +kernel
theorem dX10_route_1 : decode cX10_route 1 = .ok (.iconst 0, 1) := by decide +kernel
theorem dX10_route_2 : decode cX10_route 2 = .ok (.aload_n 0, 1) := by decide +kernel
theorem dX10_route_3 : decode cX10_route 3 = .ok (.getfield 7, 3) := by decide +kernel
theorem dX10_route_6 : decode cX10_route 6 = .ok (.iconst 1, 1) := by decide +kernel
theorem dX10_route_7 : decode cX10_route 7 = .ok (.iaload, 1) := by decide +kernel
theorem dX10_route_8 : decode cX10_route 8 = .ok (.iconst 1, 1) := by decide +kernel
theorem dX10_route_9 : decode cX10_route 9 = .ok (.isub, 1) := by decide +kernel
theorem dX10_route_10 : decode cX10_route 10 = .ok (.invokestatic 66, 3) := by decide +kernel
theorem dX10_route_13 : decode cX10_route 13 = .ok (.ifCond .eq 22, 3) := by decide +kernel
theorem dX10_route_16 : decode cX10_route 16 = .ok (.iload_n 2, 1) := by decide +kernel
theorem dX10_route_17 : decode cX10_route 17 = .ok (.iconst 0, 1) := by decide +kernel
theorem dX10_route_18 : decode cX10_route 18 = .ok (.bipush 7, 2) := by decide +kernel
theorem dX10_route_20 : decode cX10_route 20 = .ok (.invokestatic 66, 3) := by decide +kernel
theorem dX10_route_23 : decode cX10_route 23 = .ok (.ifCond .eq 12, 3) := by decide +kernel
theorem dX10_route_26 : decode cX10_route 26 = .ok (.aload_n 0, 1) := by decide +kernel
theorem dX10_route_27 : decode cX10_route 27 = .ok (.iload_n 1, 1) := by decide +kernel
theorem dX10_route_28 : decode cX10_route 28 = .ok (.iload_n 2, 1) := by decide +kernel
theorem dX10_route_29 : decode cX10_route 29 = .ok (.invokevirtual 71, 3) := by decide +kernel
theorem dX10_route_32 : decode cX10_route 32 = .ok (.goto 4, 3) := by decide +kernel
theorem dX10_route_35 : decode cX10_route 35 = .ok (.iconst (-1), 1) := by decide +kernel
theorem dX10_route_36 : decode cX10_route 36 = .ok (.ireturn, 1) := by decide +kernel
theorem dX10_choice_0 : decode cX10_choice 0 = .ok (.aload_n 0, 1) := by decide +kernel
theorem dX10_choice_1 : decode cX10_choice 1 = .ok (.iload_n 1, 1) := by decide +kernel
theorem dX10_choice_2 : decode cX10_choice 2 = .ok (.invokevirtual 79, 3) := by decide +kernel
theorem dX10_choice_5 : decode cX10_choice 5 = .ok (.ifCond .eq 14, 3) := by decide +kernel
theorem dX10_choice_8 : decode cX10_choice 8 = .ok (.iload_n 2, 1) := by decide +kernel
theorem dX10_choice_9 : decode cX10_choice 9 = .ok (.invokestatic 97, 3) := by decide +kernel
theorem dX10_choice_12 : decode cX10_choice 12 = .ok (.ifCond .eq 7, 3) := by decide +kernel
theorem dX10_choice_15 : decode cX10_choice 15 = .ok (.iload_n 3, 1) := by decide +kernel
theorem dX10_choice_16 : decode cX10_choice 16 = .ok (.ifCond .ge 5, 3) := by decide +kernel
theorem dX10_choice_19 : decode cX10_choice 19 = .ok (.iconst (-1), 1) := by decide +kernel
theorem dX10_choice_20 : decode cX10_choice 20 = .ok (.ireturn, 1) := by decide +kernel
theorem dX10_choice_21 : decode cX10_choice 21 = .ok (.aload_n 0, 1) := by decide +kernel
theorem dX10_choice_22 : decode cX10_choice 22 = .ok (.iload_n 2, 1) := by decide +kernel
theorem dX10_choice_23 : decode cX10_choice 23 = .ok (.iconst (-1), 1) := by decide +kernel
theorem dX10_choice_24 : decode cX10_choice 24 = .ok (.invokevirtual 122, 3) := by decide +kernel
theorem dX10_choice_27 : decode cX10_choice 27 = .ok (.aload_n 0, 1) := by decide +kernel
theorem dX10_choice_28 : decode cX10_choice 28 = .ok (.iload_n 1, 1) := by decide +kernel
theorem dX10_choice_29 : decode cX10_choice 29 = .ok (.iconst 0, 1) := by decide +kernel
theorem dX10_choice_30 : decode cX10_choice 30 = .ok (.invokevirtual 126, 3) := by decide +kernel
theorem dX10_choice_33 : decode cX10_choice 33 = .ok (.istore 4, 2) := by decide +kernel
theorem dX10_choice_35 : decode cX10_choice 35 = .ok (.iload_n 3, 1) := by decide +kernel
theorem dX10_choice_36 : decode cX10_choice 36 = .ok (.iload 4, 2) := by decide +kernel
theorem dX10_choice_38 : decode cX10_choice 38 = .ok (.if_icmp .ge 12, 3) := by decide +kernel
theorem dX10_choice_41 : decode cX10_choice 41 = .ok (.aload_n 0, 1) := by decide +kernel
theorem dX10_choice_42 : decode cX10_choice 42 = .ok (.getfield 28, 3) := by decide +kernel
theorem dX10_choice_45 : decode cX10_choice 45 = .ok (.iload_n 3, 1) := by decide +kernel
theorem dX10_choice_46 : decode cX10_choice 46 = .ok (.iaload, 1) := by decide +kernel
theorem dX10_choice_47 : decode cX10_choice 47 = .ok (.goto 5, 3) := by decide +kernel
theorem dX10_choice_50 : decode cX10_choice 50 = .ok (.bipush (-9), 2) := by decide +kernel
theorem dX10_choice_52 : decode cX10_choice 52 = .ok (.ireturn, 1) := by decide +kernel
theorem dX10_calls_0 : decode cX10_calls 0 = .ok (.aload_n 0, 1) := by decide +kernel
theorem dX10_calls_1 : decode cX10_calls 1 = .ok (.getfield 7, 3) := by decide +kernel
theorem dX10_calls_4 : decode cX10_calls 4 = .ok (.iconst 5, 1) := by decide +kernel
theorem dX10_calls_5 : decode cX10_calls 5 = .ok (.iaload, 1) := by decide +kernel
theorem dX10_calls_6 : decode cX10_calls 6 = .ok (.ireturn, 1) := by decide +kernel
theorem dX10_way_0 : decode cX10_way 0 = .ok (.aload_n 0, 1) := by decide +kernel
theorem dX10_way_1 : decode cX10_way 1 = .ok (.iload_n 1, 1) := by decide +kernel
theorem dX10_way_2 : decode cX10_way 2 = .ok (.invokevirtual 164, 3) := by decide +kernel
theorem dX10_way_5 : decode cX10_way 5 = .ok (.ifCond .eq 7, 3) := by decide +kernel
theorem dX10_way_8 : decode cX10_way 8 = .ok (.iload_n 2, 1) := by decide +kernel
theorem dX10_way_9 : decode cX10_way 9 = .ok (.ifCond .ge 5, 3) := by decide +kernel
theorem dX10_way_12 : decode cX10_way 12 = .ok (.iconst (-1), 1) := by decide +kernel
theorem dX10_way_13 : decode cX10_way 13 = .ok (.ireturn, 1) := by decide +kernel
theorem dX10_way_14 : decode cX10_way 14 = .ok (.sipush 420, 3) := by decide +kernel
theorem dX10_way_17 : decode cX10_way 17 = .ok (.bipush 14, 2) := by decide +kernel
theorem dX10_way_19 : decode cX10_way 19 = .ok (.iload_n 1, 1) := by decide +kernel
theorem dX10_way_20 : decode cX10_way 20 = .ok (.imul, 1) := by decide +kernel
theorem dX10_way_21 : decode cX10_way 21 = .ok (.iadd, 1) := by decide +kernel
theorem dX10_way_22 : decode cX10_way 22 = .ok (.istore_n 3, 1) := by decide +kernel
theorem dX10_way_23 : decode cX10_way 23 = .ok (.iload_n 2, 1) := by decide +kernel
theorem dX10_way_24 : decode cX10_way 24 = .ok (.aload_n 0, 1) := by decide +kernel
theorem dX10_way_25 : decode cX10_way 25 = .ok (.getfield 7, 3) := by decide +kernel
theorem dX10_way_28 : decode cX10_way 28 = .ok (.iload_n 3, 1) := by decide +kernel
theorem dX10_way_29 : decode cX10_way 29 = .ok (.iconst 4, 1) := by decide +kernel
theorem dX10_way_30 : decode cX10_way 30 = .ok (.iadd, 1) := by decide +kernel
theorem dX10_way_31 : decode cX10_way 31 = .ok (.iaload, 1) := by decide +kernel
theorem dX10_way_32 : decode cX10_way 32 = .ok (.if_icmp .ge 16, 3) := by decide +kernel
theorem dX10_way_35 : decode cX10_way 35 = .ok (.aload_n 0, 1) := by decide +kernel
theorem dX10_way_36 : decode cX10_way 36 = .ok (.getfield 7, 3) := by decide +kernel
theorem dX10_way_39 : decode cX10_way 39 = .ok (.iload_n 3, 1) := by decide +kernel
theorem dX10_way_40 : decode cX10_way 40 = .ok (.iconst 5, 1) := by decide +kernel
theorem dX10_way_41 : decode cX10_way 41 = .ok (.iadd, 1) := by decide +kernel
theorem dX10_way_42 : decode cX10_way 42 = .ok (.iload_n 2, 1) := by decide +kernel
theorem dX10_way_43 : decode cX10_way 43 = .ok (.iadd, 1) := by decide +kernel
theorem dX10_way_44 : decode cX10_way 44 = .ok (.iaload, 1) := by decide +kernel
theorem dX10_way_45 : decode cX10_way 45 = .ok (.goto 5, 3) := by decide +kernel
theorem dX10_way_48 : decode cX10_way 48 = .ok (.bipush (-9), 2) := by decide +kernel
theorem dX10_way_50 : decode cX10_way 50 = .ok (.ireturn, 1) := by decide +kernel
theorem dX10_called_0 : decode cX10_called 0 = .ok (.aload_n 0, 1) := by decide +kernel
theorem dX10_called_1 : decode cX10_called 1 = .ok (.iload_n 1, 1) := by decide +kernel
theorem dX10_called_2 : decode cX10_called 2 = .ok (.invokevirtual 164, 3) := by decide +kernel
theorem dX10_called_5 : decode cX10_called 5 = .ok (.ifCond .eq 21, 3) := by decide +kernel
theorem dX10_called_8 : decode cX10_called 8 = .ok (.aload_n 0, 1) := by decide +kernel
theorem dX10_called_9 : decode cX10_called 9 = .ok (.getfield 7, 3) := by decide +kernel
theorem dX10_called_12 : decode cX10_called 12 = .ok (.sipush 420, 3) := by decide +kernel
theorem dX10_called_15 : decode cX10_called 15 = .ok (.bipush 14, 2) := by decide +kernel
theorem dX10_called_17 : decode cX10_called 17 = .ok (.iload_n 1, 1) := by decide +kernel
theorem dX10_called_18 : decode cX10_called 18 = .ok (.imul, 1) := by decide +kernel
theorem dX10_called_19 : decode cX10_called 19 = .ok (.iadd, 1) := by decide +kernel
theorem dX10_called_20 : decode cX10_called 20 = .ok (.iconst 1, 1) := by decide +kernel
theorem dX10_called_21 : decode cX10_called 21 = .ok (.iadd, 1) := by decide +kernel
theorem dX10_called_22 : decode cX10_called 22 = .ok (.iaload, 1) := by decide +kernel
theorem dX10_called_23 : decode cX10_called 23 = .ok (.goto 4, 3) := by decide +kernel
theorem dX10_called_26 : decode cX10_called 26 = .ok (.iconst (-1), 1) := by decide +kernel
theorem dX10_called_27 : decode cX10_called 27 = .ok (.ireturn, 1) := by decide +kernel
theorem dX10_owes_0 : decode cX10_owes 0 = .ok (.aload_n 0, 1) := by decide +kernel
theorem dX10_owes_1 : decode cX10_owes 1 = .ok (.iload_n 1, 1) := by decide +kernel
theorem dX10_owes_2 : decode cX10_owes 2 = .ok (.invokevirtual 79, 3) := by decide +kernel
theorem dX10_owes_5 : decode cX10_owes 5 = .ok (.ifCond .eq 29, 3) := by decide +kernel
theorem dX10_owes_8 : decode cX10_owes 8 = .ok (.aload_n 0, 1) := by decide +kernel
theorem dX10_owes_9 : decode cX10_owes 9 = .ok (.iload_n 2, 1) := by decide +kernel
theorem dX10_owes_10 : decode cX10_owes 10 = .ok (.invokevirtual 79, 3) := by decide +kernel
theorem dX10_owes_13 : decode cX10_owes 13 = .ok (.ifCond .eq 21, 3) := by decide +kernel
theorem dX10_owes_16 : decode cX10_owes 16 = .ok (.aload_n 0, 1) := by decide +kernel
theorem dX10_owes_17 : decode cX10_owes 17 = .ok (.getfield 7, 3) := by decide +kernel
theorem dX10_owes_20 : decode cX10_owes 20 = .ok (.sipush 570, 3) := by decide +kernel
theorem dX10_owes_23 : decode cX10_owes 23 = .ok (.bipush 8, 2) := by decide +kernel
theorem dX10_owes_25 : decode cX10_owes 25 = .ok (.iload_n 1, 1) := by decide +kernel
theorem dX10_owes_26 : decode cX10_owes 26 = .ok (.imul, 1) := by decide +kernel
theorem dX10_owes_27 : decode cX10_owes 27 = .ok (.iadd, 1) := by decide +kernel
theorem dX10_owes_28 : decode cX10_owes 28 = .ok (.iload_n 2, 1) := by decide +kernel
theorem dX10_owes_29 : decode cX10_owes 29 = .ok (.iadd, 1) := by decide +kernel
theorem dX10_owes_30 : decode cX10_owes 30 = .ok (.iaload, 1) := by decide +kernel
theorem dX10_owes_31 : decode cX10_owes 31 = .ok (.goto 4, 3) := by decide +kernel
theorem dX10_owes_34 : decode cX10_owes 34 = .ok (.iconst (-1), 1) := by decide +kernel
theorem dX10_owes_35 : decode cX10_owes 35 = .ok (.ireturn, 1) := by decide +kernel
theorem dX10_attempts_0 : decode cX10_attempts 0 = .ok (.aload_n 0, 1) := by decide +kernel
theorem dX10_attempts_1 : decode cX10_attempts 1 = .ok (.getfield 133, 3) := by decide +kernel
theorem dX10_attempts_4 : decode cX10_attempts 4 = .ok (.ireturn, 1) := by decide +kernel
theorem dX10_attempt_0 : decode cX10_attempt 0 = .ok (.iload_n 1, 1) := by decide +kernel
theorem dX10_attempt_1 : decode cX10_attempt 1 = .ok (.iconst 0, 1) := by decide +kernel
theorem dX10_attempt_2 : decode cX10_attempt 2 = .ok (.aload_n 0, 1) := by decide +kernel
theorem dX10_attempt_3 : decode cX10_attempt 3 = .ok (.getfield 133, 3) := by decide +kernel
theorem dX10_attempt_6 : decode cX10_attempt 6 = .ok (.iconst 1, 1) := by decide +kernel
theorem dX10_attempt_7 : decode cX10_attempt 7 = .ok (.isub, 1) := by decide +kernel
theorem dX10_attempt_8 : decode cX10_attempt 8 = .ok (.invokestatic 66, 3) := by decide +kernel
theorem dX10_attempt_11 : decode cX10_attempt 11 = .ok (.ifCond .eq 34, 3) := by decide +kernel
theorem dX10_attempt_14 : decode cX10_attempt 14 = .ok (.iload_n 2, 1) := by decide +kernel
theorem dX10_attempt_15 : decode cX10_attempt 15 = .ok (.iconst 0, 1) := by decide +kernel
theorem dX10_attempt_16 : decode cX10_attempt 16 = .ok (.iconst 1, 1) := by decide +kernel
theorem dX10_attempt_17 : decode cX10_attempt 17 = .ok (.invokestatic 66, 3) := by decide +kernel
theorem dX10_attempt_20 : decode cX10_attempt 20 = .ok (.ifCond .eq 25, 3) := by decide +kernel
theorem dX10_attempt_23 : decode cX10_attempt 23 = .ok (.iload_n 2, 1) := by decide +kernel
theorem dX10_attempt_24 : decode cX10_attempt 24 = .ok (.ifCond .ne 12, 3) := by decide +kernel
theorem dX10_attempt_27 : decode cX10_attempt 27 = .ok (.aload_n 0, 1) := by decide +kernel
theorem dX10_attempt_28 : decode cX10_attempt 28 = .ok (.getfield 40, 3) := by decide +kernel
theorem dX10_attempt_31 : decode cX10_attempt 31 = .ok (.iload_n 1, 1) := by decide +kernel
theorem dX10_attempt_32 : decode cX10_attempt 32 = .ok (.iaload, 1) := by decide +kernel
theorem dX10_attempt_33 : decode cX10_attempt 33 = .ok (.goto 13, 3) := by decide +kernel
theorem dX10_attempt_36 : decode cX10_attempt 36 = .ok (.aload_n 0, 1) := by decide +kernel
theorem dX10_attempt_37 : decode cX10_attempt 37 = .ok (.getfield 43, 3) := by decide +kernel
theorem dX10_attempt_40 : decode cX10_attempt 40 = .ok (.iload_n 1, 1) := by decide +kernel
theorem dX10_attempt_41 : decode cX10_attempt 41 = .ok (.iaload, 1) := by decide +kernel
theorem dX10_attempt_42 : decode cX10_attempt 42 = .ok (.goto 4, 3) := by decide +kernel
theorem dX10_attempt_45 : decode cX10_attempt 45 = .ok (.iconst (-1), 1) := by decide +kernel
theorem dX10_attempt_46 : decode cX10_attempt 46 = .ok (.ireturn, 1) := by decide +kernel
theorem dX10_costsTo_0 : decode cX10_costsTo 0 = .ok (.iconst 0, 1) := by decide +kernel
theorem dX10_costsTo_1 : decode cX10_costsTo 1 = .ok (.istore_n 3, 1) := by decide +kernel
theorem dX10_costsTo_2 : decode cX10_costsTo 2 = .ok (.iconst 0, 1) := by decide +kernel
theorem dX10_costsTo_3 : decode cX10_costsTo 3 = .ok (.istore 4, 2) := by decide +kernel
theorem dX10_costsTo_5 : decode cX10_costsTo 5 = .ok (.iload 4, 2) := by decide +kernel
theorem dX10_costsTo_7 : decode cX10_costsTo 7 = .ok (.iload_n 1, 1) := by decide +kernel
theorem dX10_costsTo_8 : decode cX10_costsTo 8 = .ok (.if_icmp .gt 35, 3) := by decide +kernel
theorem dX10_costsTo_11 : decode cX10_costsTo 11 = .ok (.iload_n 3, 1) := by decide +kernel
theorem dX10_costsTo_12 : decode cX10_costsTo 12 = .ok (.aload_n 0, 1) := by decide +kernel
theorem dX10_costsTo_13 : decode cX10_costsTo 13 = .ok (.aload_n 0, 1) := by decide +kernel
theorem dX10_costsTo_14 : decode cX10_costsTo 14 = .ok (.getfield 28, 3) := by decide +kernel
theorem dX10_costsTo_17 : decode cX10_costsTo 17 = .ok (.bipush 40, 2) := by decide +kernel
theorem dX10_costsTo_19 : decode cX10_costsTo 19 = .ok (.iload 4, 2) := by decide +kernel
theorem dX10_costsTo_21 : decode cX10_costsTo 21 = .ok (.imul, 1) := by decide +kernel
theorem dX10_costsTo_22 : decode cX10_costsTo 22 = .ok (.aload_n 0, 1) := by decide +kernel
theorem dX10_costsTo_23 : decode cX10_costsTo 23 = .ok (.getfield 34, 3) := by decide +kernel
theorem dX10_costsTo_26 : decode cX10_costsTo 26 = .ok (.iload 4, 2) := by decide +kernel
theorem dX10_costsTo_28 : decode cX10_costsTo 28 = .ok (.iaload, 1) := by decide +kernel
theorem dX10_costsTo_29 : decode cX10_costsTo 29 = .ok (.iadd, 1) := by decide +kernel
theorem dX10_costsTo_30 : decode cX10_costsTo 30 = .ok (.iaload, 1) := by decide +kernel
theorem dX10_costsTo_31 : decode cX10_costsTo 31 = .ok (.iload_n 2, 1) := by decide +kernel
theorem dX10_costsTo_32 : decode cX10_costsTo 32 = .ok (.invokevirtual 167, 3) := by decide +kernel
theorem dX10_costsTo_35 : decode cX10_costsTo 35 = .ok (.iadd, 1) := by decide +kernel
theorem dX10_costsTo_36 : decode cX10_costsTo 36 = .ok (.istore_n 3, 1) := by decide +kernel
theorem dX10_costsTo_37 : decode cX10_costsTo 37 = .ok (.iinc 4 1, 3) := by decide +kernel
theorem dX10_costsTo_40 : decode cX10_costsTo 40 = .ok (.goto (-35), 3) := by decide +kernel
theorem dX10_costsTo_43 : decode cX10_costsTo 43 = .ok (.iload_n 3, 1) := by decide +kernel
theorem dX10_costsTo_44 : decode cX10_costsTo 44 = .ok (.ireturn, 1) := by decide +kernel
theorem dX10_cheapest_0 : decode cX10_cheapest 0 = .ok (.aload_n 0, 1) := by decide +kernel
theorem dX10_cheapest_1 : decode cX10_cheapest 1 = .ok (.iload_n 1, 1) := by decide +kernel
theorem dX10_cheapest_2 : decode cX10_cheapest 2 = .ok (.invokevirtual 79, 3) := by decide +kernel
theorem dX10_cheapest_5 : decode cX10_cheapest 5 = .ok (.ifCond .eq 10, 3) := by decide +kernel
theorem dX10_cheapest_8 : decode cX10_cheapest 8 = .ok (.iload_n 2, 1) := by decide +kernel
theorem dX10_cheapest_9 : decode cX10_cheapest 9 = .ok (.invokestatic 97, 3) := by decide +kernel
theorem dX10_cheapest_12 : decode cX10_cheapest 12 = .ok (.ifCond .ne 5, 3) := by decide +kernel
theorem dX10_cheapest_15 : decode cX10_cheapest 15 = .ok (.iconst (-1), 1) := by decide +kernel
theorem dX10_cheapest_16 : decode cX10_cheapest 16 = .ok (.ireturn, 1) := by decide +kernel
theorem dX10_cheapest_17 : decode cX10_cheapest 17 = .ok (.aload_n 0, 1) := by decide +kernel
theorem dX10_cheapest_18 : decode cX10_cheapest 18 = .ok (.aload_n 0, 1) := by decide +kernel
theorem dX10_cheapest_19 : decode cX10_cheapest 19 = .ok (.getfield 7, 3) := by decide +kernel
theorem dX10_cheapest_22 : decode cX10_cheapest 22 = .ok (.iconst 4, 1) := by decide +kernel
theorem dX10_cheapest_23 : decode cX10_cheapest 23 = .ok (.iaload, 1) := by decide +kernel
theorem dX10_cheapest_24 : decode cX10_cheapest 24 = .ok (.invokevirtual 116, 3) := by decide +kernel
theorem dX10_cheapest_27 : decode cX10_cheapest 27 = .ok (.istore_n 3, 1) := by decide +kernel
theorem dX10_cheapest_28 : decode cX10_cheapest 28 = .ok (.aload_n 0, 1) := by decide +kernel
theorem dX10_cheapest_29 : decode cX10_cheapest 29 = .ok (.iconst (-1), 1) := by decide +kernel
theorem dX10_cheapest_30 : decode cX10_cheapest 30 = .ok (.putfield 119, 3) := by decide +kernel
theorem dX10_cheapest_33 : decode cX10_cheapest 33 = .ok (.bipush (-9), 2) := by decide +kernel
theorem dX10_cheapest_35 : decode cX10_cheapest 35 = .ok (.istore 4, 2) := by decide +kernel
theorem dX10_cheapest_37 : decode cX10_cheapest 37 = .ok (.aload_n 0, 1) := by decide +kernel
theorem dX10_cheapest_38 : decode cX10_cheapest 38 = .ok (.iload_n 1, 1) := by decide +kernel
theorem dX10_cheapest_39 : decode cX10_cheapest 39 = .ok (.iload_n 2, 1) := by decide +kernel
theorem dX10_cheapest_40 : decode cX10_cheapest 40 = .ok (.iconst (-1), 1) := by decide +kernel
theorem dX10_cheapest_41 : decode cX10_cheapest 41 = .ok (.invokevirtual 139, 3) := by decide +kernel
theorem dX10_cheapest_44 : decode cX10_cheapest 44 = .ok (.istore 5, 2) := by decide +kernel
theorem dX10_cheapest_46 : decode cX10_cheapest 46 = .ok (.iload 5, 2) := by decide +kernel
theorem dX10_cheapest_48 : decode cX10_cheapest 48 = .ok (.ifCond .ne 5, 3) := by decide +kernel
theorem dX10_cheapest_51 : decode cX10_cheapest 51 = .ok (.iconst 0, 1) := by decide +kernel
theorem dX10_cheapest_52 : decode cX10_cheapest 52 = .ok (.ireturn, 1) := by decide +kernel
theorem dX10_cheapest_53 : decode cX10_cheapest 53 = .ok (.aload_n 0, 1) := by decide +kernel
theorem dX10_cheapest_54 : decode cX10_cheapest 54 = .ok (.getfield 119, 3) := by decide +kernel
theorem dX10_cheapest_57 : decode cX10_cheapest 57 = .ok (.ifCond .lt 164, 3) := by decide +kernel
theorem dX10_cheapest_60 : decode cX10_cheapest 60 = .ok (.aload_n 0, 1) := by decide +kernel
theorem dX10_cheapest_61 : decode cX10_cheapest 61 = .ok (.getfield 34, 3) := by decide +kernel
theorem dX10_cheapest_64 : decode cX10_cheapest 64 = .ok (.aload_n 0, 1) := by decide +kernel
theorem dX10_cheapest_65 : decode cX10_cheapest 65 = .ok (.getfield 119, 3) := by decide +kernel
theorem dX10_cheapest_68 : decode cX10_cheapest 68 = .ok (.iaload, 1) := by decide +kernel
theorem dX10_cheapest_69 : decode cX10_cheapest 69 = .ok (.aload_n 0, 1) := by decide +kernel
theorem dX10_cheapest_70 : decode cX10_cheapest 70 = .ok (.getfield 31, 3) := by decide +kernel
theorem dX10_cheapest_73 : decode cX10_cheapest 73 = .ok (.aload_n 0, 1) := by decide +kernel
theorem dX10_cheapest_74 : decode cX10_cheapest 74 = .ok (.getfield 119, 3) := by decide +kernel
theorem dX10_cheapest_77 : decode cX10_cheapest 77 = .ok (.iaload, 1) := by decide +kernel
theorem dX10_cheapest_78 : decode cX10_cheapest 78 = .ok (.if_icmp .ne 36, 3) := by decide +kernel
theorem dX10_cheapest_81 : decode cX10_cheapest 81 = .ok (.aload_n 0, 1) := by decide +kernel
theorem dX10_cheapest_82 : decode cX10_cheapest 82 = .ok (.dup, 1) := by decide +kernel
theorem dX10_cheapest_83 : decode cX10_cheapest 83 = .ok (.getfield 119, 3) := by decide +kernel
theorem dX10_cheapest_86 : decode cX10_cheapest 86 = .ok (.iconst 1, 1) := by decide +kernel
theorem dX10_cheapest_87 : decode cX10_cheapest 87 = .ok (.isub, 1) := by decide +kernel
theorem dX10_cheapest_88 : decode cX10_cheapest 88 = .ok (.putfield 119, 3) := by decide +kernel
theorem dX10_cheapest_91 : decode cX10_cheapest 91 = .ok (.aload_n 0, 1) := by decide +kernel
theorem dX10_cheapest_92 : decode cX10_cheapest 92 = .ok (.getfield 119, 3) := by decide +kernel
theorem dX10_cheapest_95 : decode cX10_cheapest 95 = .ok (.ifCond .lt (-42), 3) := by decide +kernel
theorem dX10_cheapest_98 : decode cX10_cheapest 98 = .ok (.aload_n 0, 1) := by decide +kernel
theorem dX10_cheapest_99 : decode cX10_cheapest 99 = .ok (.getfield 34, 3) := by decide +kernel
theorem dX10_cheapest_102 : decode cX10_cheapest 102 = .ok (.aload_n 0, 1) := by decide +kernel
theorem dX10_cheapest_103 : decode cX10_cheapest 103 = .ok (.getfield 119, 3) := by decide +kernel
theorem dX10_cheapest_106 : decode cX10_cheapest 106 = .ok (.dup2, 1) := by decide +kernel
theorem dX10_cheapest_107 : decode cX10_cheapest 107 = .ok (.iaload, 1) := by decide +kernel
theorem dX10_cheapest_108 : decode cX10_cheapest 108 = .ok (.iconst 1, 1) := by decide +kernel
theorem dX10_cheapest_109 : decode cX10_cheapest 109 = .ok (.iadd, 1) := by decide +kernel
theorem dX10_cheapest_110 : decode cX10_cheapest 110 = .ok (.iastore, 1) := by decide +kernel
theorem dX10_cheapest_111 : decode cX10_cheapest 111 = .ok (.goto (-58), 3) := by decide +kernel
theorem dX10_cheapest_114 : decode cX10_cheapest 114 = .ok (.aload_n 0, 1) := by decide +kernel
theorem dX10_cheapest_115 : decode cX10_cheapest 115 = .ok (.invokevirtual 129, 3) := by decide +kernel
theorem dX10_cheapest_118 : decode cX10_cheapest 118 = .ok (.istore 6, 2) := by decide +kernel
theorem dX10_cheapest_120 : decode cX10_cheapest 120 = .ok (.aload_n 0, 1) := by decide +kernel
theorem dX10_cheapest_121 : decode cX10_cheapest 121 = .ok (.getfield 119, 3) := by decide +kernel
theorem dX10_cheapest_124 : decode cX10_cheapest 124 = .ok (.istore 7, 2) := by decide +kernel
theorem dX10_cheapest_126 : decode cX10_cheapest 126 = .ok (.aload_n 0, 1) := by decide +kernel
theorem dX10_cheapest_127 : decode cX10_cheapest 127 = .ok (.iload 6, 2) := by decide +kernel
theorem dX10_cheapest_129 : decode cX10_cheapest 129 = .ok (.invokevirtual 75, 3) := by decide +kernel
theorem dX10_cheapest_132 : decode cX10_cheapest 132 = .ok (.ifCond .eq 7, 3) := by decide +kernel
theorem dX10_cheapest_135 : decode cX10_cheapest 135 = .ok (.iconst 0, 1) := by decide +kernel
theorem dX10_cheapest_136 : decode cX10_cheapest 136 = .ok (.goto 24, 3) := by decide +kernel
theorem dX10_cheapest_139 : decode cX10_cheapest 139 = .ok (.aload_n 0, 1) := by decide +kernel
theorem dX10_cheapest_140 : decode cX10_cheapest 140 = .ok (.aload_n 0, 1) := by decide +kernel
theorem dX10_cheapest_141 : decode cX10_cheapest 141 = .ok (.iload 6, 2) := by decide +kernel
theorem dX10_cheapest_143 : decode cX10_cheapest 143 = .ok (.iconst 2, 1) := by decide +kernel
theorem dX10_cheapest_144 : decode cX10_cheapest 144 = .ok (.invokevirtual 71, 3) := by decide +kernel
theorem dX10_cheapest_147 : decode cX10_cheapest 147 = .ok (.iload_n 2, 1) := by decide +kernel
theorem dX10_cheapest_148 : decode cX10_cheapest 148 = .ok (.aload_n 0, 1) := by decide +kernel
theorem dX10_cheapest_149 : decode cX10_cheapest 149 = .ok (.getfield 25, 3) := by decide +kernel
theorem dX10_cheapest_152 : decode cX10_cheapest 152 = .ok (.aload_n 0, 1) := by decide +kernel
theorem dX10_cheapest_153 : decode cX10_cheapest 153 = .ok (.getfield 119, 3) := by decide +kernel
theorem dX10_cheapest_156 : decode cX10_cheapest 156 = .ok (.iaload, 1) := by decide +kernel
theorem dX10_cheapest_157 : decode cX10_cheapest 157 = .ok (.invokevirtual 139, 3) := by decide +kernel
theorem dX10_cheapest_160 : decode cX10_cheapest 160 = .ok (.istore 5, 2) := by decide +kernel
theorem dX10_cheapest_162 : decode cX10_cheapest 162 = .ok (.aload_n 0, 1) := by decide +kernel
theorem dX10_cheapest_163 : decode cX10_cheapest 163 = .ok (.iload 7, 2) := by decide +kernel
theorem dX10_cheapest_165 : decode cX10_cheapest 165 = .ok (.iload_n 3, 1) := by decide +kernel
theorem dX10_cheapest_166 : decode cX10_cheapest 166 = .ok (.invokevirtual 171, 3) := by decide +kernel
theorem dX10_cheapest_169 : decode cX10_cheapest 169 = .ok (.istore 8, 2) := by decide +kernel
theorem dX10_cheapest_171 : decode cX10_cheapest 171 = .ok (.iload 5, 2) := by decide +kernel
theorem dX10_cheapest_173 : decode cX10_cheapest 173 = .ok (.ifCond .ne 20, 3) := by decide +kernel
theorem dX10_cheapest_176 : decode cX10_cheapest 176 = .ok (.iload 4, 2) := by decide +kernel
theorem dX10_cheapest_178 : decode cX10_cheapest 178 = .ok (.ifCond .lt 10, 3) := by decide +kernel
theorem dX10_cheapest_181 : decode cX10_cheapest 181 = .ok (.iload 8, 2) := by decide +kernel
theorem dX10_cheapest_183 : decode cX10_cheapest 183 = .ok (.iload 4, 2) := by decide +kernel
theorem dX10_cheapest_185 : decode cX10_cheapest 185 = .ok (.if_icmp .ge 8, 3) := by decide +kernel
theorem dX10_cheapest_188 : decode cX10_cheapest 188 = .ok (.iload 8, 2) := by decide +kernel
theorem dX10_cheapest_190 : decode cX10_cheapest 190 = .ok (.goto 5, 3) := by decide +kernel
theorem dX10_cheapest_193 : decode cX10_cheapest 193 = .ok (.iload 4, 2) := by decide +kernel
theorem dX10_cheapest_195 : decode cX10_cheapest 195 = .ok (.istore 4, 2) := by decide +kernel
theorem dX10_cheapest_197 : decode cX10_cheapest 197 = .ok (.aload_n 0, 1) := by decide +kernel
theorem dX10_cheapest_198 : decode cX10_cheapest 198 = .ok (.getfield 34, 3) := by decide +kernel
theorem dX10_cheapest_201 : decode cX10_cheapest 201 = .ok (.iload 7, 2) := by decide +kernel
theorem dX10_cheapest_203 : decode cX10_cheapest 203 = .ok (.dup2, 1) := by decide +kernel
theorem dX10_cheapest_204 : decode cX10_cheapest 204 = .ok (.iaload, 1) := by decide +kernel
theorem dX10_cheapest_205 : decode cX10_cheapest 205 = .ok (.iload 5, 2) := by decide +kernel
theorem dX10_cheapest_207 : decode cX10_cheapest 207 = .ok (.iconst (-1), 1) := by decide +kernel
theorem dX10_cheapest_208 : decode cX10_cheapest 208 = .ok (.if_icmp .ne 7, 3) := by decide +kernel
theorem dX10_cheapest_211 : decode cX10_cheapest 211 = .ok (.iconst 0, 1) := by decide +kernel
theorem dX10_cheapest_212 : decode cX10_cheapest 212 = .ok (.goto 4, 3) := by decide +kernel
theorem dX10_cheapest_215 : decode cX10_cheapest 215 = .ok (.iconst 1, 1) := by decide +kernel
theorem dX10_cheapest_216 : decode cX10_cheapest 216 = .ok (.iadd, 1) := by decide +kernel
theorem dX10_cheapest_217 : decode cX10_cheapest 217 = .ok (.iastore, 1) := by decide +kernel
theorem dX10_cheapest_218 : decode cX10_cheapest 218 = .ok (.goto (-165), 3) := by decide +kernel
theorem dX10_cheapest_221 : decode cX10_cheapest 221 = .ok (.iload 4, 2) := by decide +kernel
theorem dX10_cheapest_223 : decode cX10_cheapest 223 = .ok (.ireturn, 1) := by decide +kernel
theorem dX10_type_0 : decode cX10_type 0 = .ok (.iload_n 1, 1) := by decide +kernel
theorem dX10_type_1 : decode cX10_type 1 = .ok (.bipush 32, 2) := by decide +kernel
theorem dX10_type_3 : decode cX10_type 3 = .ok (.bipush 126, 2) := by decide +kernel
theorem dX10_type_5 : decode cX10_type 5 = .ok (.invokestatic 66, 3) := by decide +kernel
theorem dX10_type_8 : decode cX10_type 8 = .ok (.ifCond .ne 5, 3) := by decide +kernel
theorem dX10_type_11 : decode cX10_type 11 = .ok (.iconst (-1), 1) := by decide +kernel
theorem dX10_type_12 : decode cX10_type 12 = .ok (.ireturn, 1) := by decide +kernel
theorem dX10_type_13 : decode cX10_type 13 = .ok (.aload_n 0, 1) := by decide +kernel
theorem dX10_type_14 : decode cX10_type 14 = .ok (.getfield 174, 3) := by decide +kernel
theorem dX10_type_17 : decode cX10_type 17 = .ok (.bipush 80, 2) := by decide +kernel
theorem dX10_type_19 : decode cX10_type 19 = .ok (.if_icmp .ne 6, 3) := by decide +kernel
theorem dX10_type_22 : decode cX10_type 22 = .ok (.bipush (-3), 2) := by decide +kernel
theorem dX10_type_24 : decode cX10_type 24 = .ok (.ireturn, 1) := by decide +kernel
theorem dX10_type_25 : decode cX10_type 25 = .ok (.aload_n 0, 1) := by decide +kernel
theorem dX10_type_26 : decode cX10_type 26 = .ok (.getfield 49, 3) := by decide +kernel
theorem dX10_type_29 : decode cX10_type 29 = .ok (.aload_n 0, 1) := by decide +kernel
theorem dX10_type_30 : decode cX10_type 30 = .ok (.getfield 174, 3) := by decide +kernel
theorem dX10_type_33 : decode cX10_type 33 = .ok (.iload_n 1, 1) := by decide +kernel
theorem dX10_type_34 : decode cX10_type 34 = .ok (.iastore, 1) := by decide +kernel
theorem dX10_type_35 : decode cX10_type 35 = .ok (.aload_n 0, 1) := by decide +kernel
theorem dX10_type_36 : decode cX10_type 36 = .ok (.dup, 1) := by decide +kernel
theorem dX10_type_37 : decode cX10_type 37 = .ok (.getfield 174, 3) := by decide +kernel
theorem dX10_type_40 : decode cX10_type 40 = .ok (.iconst 1, 1) := by decide +kernel
theorem dX10_type_41 : decode cX10_type 41 = .ok (.iadd, 1) := by decide +kernel
theorem dX10_type_42 : decode cX10_type 42 = .ok (.putfield 174, 3) := by decide +kernel
theorem dX10_type_45 : decode cX10_type 45 = .ok (.aload_n 0, 1) := by decide +kernel
theorem dX10_type_46 : decode cX10_type 46 = .ok (.getfield 174, 3) := by decide +kernel
theorem dX10_type_49 : decode cX10_type 49 = .ok (.ireturn, 1) := by decide +kernel
theorem dX10_clear_0 : decode cX10_clear 0 = .ok (.aload_n 0, 1) := by decide +kernel
theorem dX10_clear_1 : decode cX10_clear 1 = .ok (.getfield 174, 3) := by decide +kernel
theorem dX10_clear_4 : decode cX10_clear 4 = .ok (.istore_n 1, 1) := by decide +kernel
theorem dX10_clear_5 : decode cX10_clear 5 = .ok (.aload_n 0, 1) := by decide +kernel
theorem dX10_clear_6 : decode cX10_clear 6 = .ok (.iconst 0, 1) := by decide +kernel
theorem dX10_clear_7 : decode cX10_clear 7 = .ok (.putfield 174, 3) := by decide +kernel
theorem dX10_clear_10 : decode cX10_clear 10 = .ok (.iload_n 1, 1) := by decide +kernel
theorem dX10_clear_11 : decode cX10_clear 11 = .ok (.ireturn, 1) := by decide +kernel
theorem dX10_sign_0 : decode cX10_sign 0 = .ok (.aload_n 0, 1) := by decide +kernel
theorem dX10_sign_1 : decode cX10_sign 1 = .ok (.getfield 177, 3) := by decide +kernel
theorem dX10_sign_4 : decode cX10_sign 4 = .ok (.aload_n 0, 1) := by decide +kernel
theorem dX10_sign_5 : decode cX10_sign 5 = .ok (.getfield 174, 3) := by decide +kernel
theorem dX10_sign_8 : decode cX10_sign 8 = .ok (.if_icmp .ge 15, 3) := by decide +kernel
theorem dX10_sign_11 : decode cX10_sign 11 = .ok (.aload_n 0, 1) := by decide +kernel
theorem dX10_sign_12 : decode cX10_sign 12 = .ok (.getfield 49, 3) := by decide +kernel
theorem dX10_sign_15 : decode cX10_sign 15 = .ok (.aload_n 0, 1) := by decide +kernel
theorem dX10_sign_16 : decode cX10_sign 16 = .ok (.getfield 177, 3) := by decide +kernel
theorem dX10_sign_19 : decode cX10_sign 19 = .ok (.iaload, 1) := by decide +kernel
theorem dX10_sign_20 : decode cX10_sign 20 = .ok (.goto 4, 3) := by decide +kernel
theorem dX10_sign_23 : decode cX10_sign 23 = .ok (.iconst (-1), 1) := by decide +kernel
theorem dX10_sign_24 : decode cX10_sign 24 = .ok (.ireturn, 1) := by decide +kernel
theorem dX10_takes_0 : decode cX10_takes 0 = .ok (.aload_n 0, 1) := by decide +kernel
theorem dX10_takes_1 : decode cX10_takes 1 = .ok (.invokevirtual 180, 3) := by decide +kernel
theorem dX10_takes_4 : decode cX10_takes 4 = .ok (.iload_n 1, 1) := by decide +kernel
theorem dX10_takes_5 : decode cX10_takes 5 = .ok (.if_icmp .ne 7, 3) := by decide +kernel
theorem dX10_takes_8 : decode cX10_takes 8 = .ok (.iconst 1, 1) := by decide +kernel
theorem dX10_takes_9 : decode cX10_takes 9 = .ok (.goto 4, 3) := by decide +kernel
theorem dX10_takes_12 : decode cX10_takes 12 = .ok (.iconst 0, 1) := by decide +kernel
theorem dX10_takes_13 : decode cX10_takes 13 = .ok (.istore_n 2, 1) := by decide +kernel
theorem dX10_takes_14 : decode cX10_takes 14 = .ok (.aload_n 0, 1) := by decide +kernel
theorem dX10_takes_15 : decode cX10_takes 15 = .ok (.dup, 1) := by decide +kernel
theorem dX10_takes_16 : decode cX10_takes 16 = .ok (.getfield 177, 3) := by decide +kernel
theorem dX10_takes_19 : decode cX10_takes 19 = .ok (.iload_n 2, 1) := by decide +kernel
theorem dX10_takes_20 : decode cX10_takes 20 = .ok (.ifCond .eq 7, 3) := by decide +kernel
theorem dX10_takes_23 : decode cX10_takes 23 = .ok (.iconst 1, 1) := by decide +kernel
theorem dX10_takes_24 : decode cX10_takes 24 = .ok (.goto 4, 3) := by decide +kernel
theorem dX10_takes_27 : decode cX10_takes 27 = .ok (.iconst 0, 1) := by decide +kernel
theorem dX10_takes_28 : decode cX10_takes 28 = .ok (.iadd, 1) := by decide +kernel
theorem dX10_takes_29 : decode cX10_takes 29 = .ok (.putfield 177, 3) := by decide +kernel
theorem dX10_takes_32 : decode cX10_takes 32 = .ok (.iload_n 2, 1) := by decide +kernel
theorem dX10_takes_33 : decode cX10_takes 33 = .ok (.ireturn, 1) := by decide +kernel
theorem dX10_reads_0 : decode cX10_reads 0 = .ok (.iconst 0, 1) := by decide +kernel
theorem dX10_reads_1 : decode cX10_reads 1 = .ok (.istore 5, 2) := by decide +kernel
theorem dX10_reads_3 : decode cX10_reads 3 = .ok (.iconst 0, 1) := by decide +kernel
theorem dX10_reads_4 : decode cX10_reads 4 = .ok (.istore 6, 2) := by decide +kernel
theorem dX10_reads_6 : decode cX10_reads 6 = .ok (.iload 5, 2) := by decide +kernel
theorem dX10_reads_8 : decode cX10_reads 8 = .ok (.iload_n 3, 1) := by decide +kernel
theorem dX10_reads_9 : decode cX10_reads 9 = .ok (.if_icmp .ge 63, 3) := by decide +kernel
theorem dX10_reads_12 : decode cX10_reads 12 = .ok (.aload_n 0, 1) := by decide +kernel
theorem dX10_reads_13 : decode cX10_reads 13 = .ok (.invokevirtual 180, 3) := by decide +kernel
theorem dX10_reads_16 : decode cX10_reads 16 = .ok (.iload 5, 2) := by decide +kernel
theorem dX10_reads_18 : decode cX10_reads 18 = .ok (.ifCond .ne 13, 3) := by decide +kernel
theorem dX10_reads_21 : decode cX10_reads 21 = .ok (.iload 4, 2) := by decide +kernel
theorem dX10_reads_23 : decode cX10_reads 23 = .ok (.ifCond .ne 8, 3) := by decide +kernel
theorem dX10_reads_26 : decode cX10_reads 26 = .ok (.bipush 49, 2) := by decide +kernel
theorem dX10_reads_28 : decode cX10_reads 28 = .ok (.goto 5, 3) := by decide +kernel
theorem dX10_reads_31 : decode cX10_reads 31 = .ok (.bipush 48, 2) := by decide +kernel
theorem dX10_reads_33 : decode cX10_reads 33 = .ok (.bipush 57, 2) := by decide +kernel
theorem dX10_reads_35 : decode cX10_reads 35 = .ok (.invokestatic 66, 3) := by decide +kernel
theorem dX10_reads_38 : decode cX10_reads 38 = .ok (.ifCond .eq 34, 3) := by decide +kernel
theorem dX10_reads_41 : decode cX10_reads 41 = .ok (.bipush 10, 2) := by decide +kernel
theorem dX10_reads_43 : decode cX10_reads 43 = .ok (.iload 6, 2) := by decide +kernel
theorem dX10_reads_45 : decode cX10_reads 45 = .ok (.imul, 1) := by decide +kernel
theorem dX10_reads_46 : decode cX10_reads 46 = .ok (.aload_n 0, 1) := by decide +kernel
theorem dX10_reads_47 : decode cX10_reads 47 = .ok (.invokevirtual 180, 3) := by decide +kernel
theorem dX10_reads_50 : decode cX10_reads 50 = .ok (.iadd, 1) := by decide +kernel
theorem dX10_reads_51 : decode cX10_reads 51 = .ok (.bipush 48, 2) := by decide +kernel
theorem dX10_reads_53 : decode cX10_reads 53 = .ok (.isub, 1) := by decide +kernel
theorem dX10_reads_54 : decode cX10_reads 54 = .ok (.istore 6, 2) := by decide +kernel
theorem dX10_reads_56 : decode cX10_reads 56 = .ok (.aload_n 0, 1) := by decide +kernel
theorem dX10_reads_57 : decode cX10_reads 57 = .ok (.dup, 1) := by decide +kernel
theorem dX10_reads_58 : decode cX10_reads 58 = .ok (.getfield 177, 3) := by decide +kernel
theorem dX10_reads_61 : decode cX10_reads 61 = .ok (.iconst 1, 1) := by decide +kernel
theorem dX10_reads_62 : decode cX10_reads 62 = .ok (.iadd, 1) := by decide +kernel
theorem dX10_reads_63 : decode cX10_reads 63 = .ok (.putfield 177, 3) := by decide +kernel
theorem dX10_reads_66 : decode cX10_reads 66 = .ok (.iinc 5 1, 3) := by decide +kernel
theorem dX10_reads_69 : decode cX10_reads 69 = .ok (.goto (-63), 3) := by decide +kernel
theorem dX10_reads_72 : decode cX10_reads 72 = .ok (.aload_n 0, 1) := by decide +kernel
theorem dX10_reads_73 : decode cX10_reads 73 = .ok (.getfield 55, 3) := by decide +kernel
theorem dX10_reads_76 : decode cX10_reads 76 = .ok (.iconst 5, 1) := by decide +kernel
theorem dX10_reads_77 : decode cX10_reads 77 = .ok (.aload_n 0, 1) := by decide +kernel
theorem dX10_reads_78 : decode cX10_reads 78 = .ok (.getfield 183, 3) := by decide +kernel
theorem dX10_reads_81 : decode cX10_reads 81 = .ok (.imul, 1) := by decide +kernel
theorem dX10_reads_82 : decode cX10_reads 82 = .ok (.iload_n 1, 1) := by decide +kernel
theorem dX10_reads_83 : decode cX10_reads 83 = .ok (.iadd, 1) := by decide +kernel
theorem dX10_reads_84 : decode cX10_reads 84 = .ok (.iload 6, 2) := by decide +kernel
theorem dX10_reads_86 : decode cX10_reads 86 = .ok (.iastore, 1) := by decide +kernel
theorem dX10_reads_87 : decode cX10_reads 87 = .ok (.iload 5, 2) := by decide +kernel
theorem dX10_reads_89 : decode cX10_reads 89 = .ok (.iload_n 2, 1) := by decide +kernel
theorem dX10_reads_90 : decode cX10_reads 90 = .ok (.if_icmp .lt 7, 3) := by decide +kernel
theorem dX10_reads_93 : decode cX10_reads 93 = .ok (.iconst 1, 1) := by decide +kernel
theorem dX10_reads_94 : decode cX10_reads 94 = .ok (.goto 4, 3) := by decide +kernel
theorem dX10_reads_97 : decode cX10_reads 97 = .ok (.iconst 0, 1) := by decide +kernel
theorem dX10_reads_98 : decode cX10_reads 98 = .ok (.ireturn, 1) := by decide +kernel
theorem dX10_readsCommand_0 : decode cX10_readsCommand 0 = .ok (.aload_n 0, 1) := by decide +kernel
theorem dX10_readsCommand_1 : decode cX10_readsCommand 1 = .ok (.invokevirtual 180, 3) := by decide +kernel
theorem dX10_readsCommand_4 : decode cX10_readsCommand 4 = .ok (.istore_n 1, 1) := by decide +kernel
theorem dX10_readsCommand_5 : decode cX10_readsCommand 5 = .ok (.iload_n 1, 1) := by decide +kernel
theorem dX10_readsCommand_6 : decode cX10_readsCommand 6 = .ok (.bipush 114, 2) := by decide +kernel
theorem dX10_readsCommand_8 : decode cX10_readsCommand 8 = .ok (.if_icmp .eq 17, 3) := by decide +kernel
theorem dX10_readsCommand_11 : decode cX10_readsCommand 11 = .ok (.iload_n 1, 1) := by decide +kernel
theorem dX10_readsCommand_12 : decode cX10_readsCommand 12 = .ok (.bipush 112, 2) := by decide +kernel
theorem dX10_readsCommand_14 : decode cX10_readsCommand 14 = .ok (.if_icmp .eq 11, 3) := by decide +kernel
theorem dX10_readsCommand_17 : decode cX10_readsCommand 17 = .ok (.iload_n 1, 1) := by decide +kernel
theorem dX10_readsCommand_18 : decode cX10_readsCommand 18 = .ok (.bipush 108, 2) := by decide +kernel
theorem dX10_readsCommand_20 : decode cX10_readsCommand 20 = .ok (.if_icmp .eq 5, 3) := by decide +kernel
theorem dX10_readsCommand_23 : decode cX10_readsCommand 23 = .ok (.iconst 0, 1) := by decide +kernel
theorem dX10_readsCommand_24 : decode cX10_readsCommand 24 = .ok (.ireturn, 1) := by decide +kernel
theorem dX10_readsCommand_25 : decode cX10_readsCommand 25 = .ok (.aload_n 0, 1) := by decide +kernel
theorem dX10_readsCommand_26 : decode cX10_readsCommand 26 = .ok (.getfield 52, 3) := by decide +kernel
theorem dX10_readsCommand_29 : decode cX10_readsCommand 29 = .ok (.aload_n 0, 1) := by decide +kernel
theorem dX10_readsCommand_30 : decode cX10_readsCommand 30 = .ok (.getfield 183, 3) := by decide +kernel
theorem dX10_readsCommand_33 : decode cX10_readsCommand 33 = .ok (.iload_n 1, 1) := by decide +kernel
theorem dX10_readsCommand_34 : decode cX10_readsCommand 34 = .ok (.iastore, 1) := by decide +kernel
theorem dX10_readsCommand_35 : decode cX10_readsCommand 35 = .ok (.aload_n 0, 1) := by decide +kernel
theorem dX10_readsCommand_36 : decode cX10_readsCommand 36 = .ok (.dup, 1) := by decide +kernel
theorem dX10_readsCommand_37 : decode cX10_readsCommand 37 = .ok (.getfield 177, 3) := by decide +kernel
theorem dX10_readsCommand_40 : decode cX10_readsCommand 40 = .ok (.iconst 1, 1) := by decide +kernel
theorem dX10_readsCommand_41 : decode cX10_readsCommand 41 = .ok (.iadd, 1) := by decide +kernel
theorem dX10_readsCommand_42 : decode cX10_readsCommand 42 = .ok (.putfield 177, 3) := by decide +kernel
theorem dX10_readsCommand_45 : decode cX10_readsCommand 45 = .ok (.iload_n 1, 1) := by decide +kernel
theorem dX10_readsCommand_46 : decode cX10_readsCommand 46 = .ok (.bipush 108, 2) := by decide +kernel
theorem dX10_readsCommand_48 : decode cX10_readsCommand 48 = .ok (.if_icmp .ne 12, 3) := by decide +kernel
theorem dX10_readsCommand_51 : decode cX10_readsCommand 51 = .ok (.aload_n 0, 1) := by decide +kernel
theorem dX10_readsCommand_52 : decode cX10_readsCommand 52 = .ok (.iconst 0, 1) := by decide +kernel
theorem dX10_readsCommand_53 : decode cX10_readsCommand 53 = .ok (.iconst 1, 1) := by decide +kernel
theorem dX10_readsCommand_54 : decode cX10_readsCommand 54 = .ok (.iconst 1, 1) := by decide +kernel
