theorem dX12_when_88 : decode cX12_when 88 = .ok (.iinc 3 1, 3) := by decide +kernel
theorem dX12_when_91 : decode cX12_when 91 = .ok (.goto (-54), 3) := by decide +kernel
theorem dX12_when_94 : decode cX12_when 94 = .ok (.bipush (-2), 2) := by decide +kernel
theorem dX12_when_96 : decode cX12_when 96 = .ok (.ireturn, 1) := by decide +kernel
theorem dX12_lacks_0 : decode cX12_lacks 0 = .ok (.aload_n 0, 1) := by decide +kernel
theorem dX12_lacks_1 : decode cX12_lacks 1 = .ok (.iconst 0, 1) := by decide +kernel
theorem dX12_lacks_2 : decode cX12_lacks 2 = .ok (.putfield 109, 3) := by decide +kernel
theorem dX12_lacks_5 : decode cX12_lacks 5 = .ok (.aload_n 0, 1) := by decide +kernel
theorem dX12_lacks_6 : decode cX12_lacks 6 = .ok (.iload_n 1, 1) := by decide +kernel
theorem dX12_lacks_7 : decode cX12_lacks 7 = .ok (.invokevirtual 278, 3) := by decide +kernel
theorem dX12_lacks_10 : decode cX12_lacks 10 = .ok (.ifCond .eq 11, 3) := by decide +kernel
theorem dX12_lacks_13 : decode cX12_lacks 13 = .ok (.aload_n 0, 1) := by decide +kernel
theorem dX12_lacks_14 : decode cX12_lacks 14 = .ok (.iload_n 2, 1) := by decide +kernel
theorem dX12_lacks_15 : decode cX12_lacks 15 = .ok (.invokevirtual 345, 3) := by decide +kernel
theorem dX12_lacks_18 : decode cX12_lacks 18 = .ok (.ifCond .ne 5, 3) := by decide +kernel
theorem dX12_lacks_21 : decode cX12_lacks 21 = .ok (.iconst (-1), 1) := by decide +kernel
theorem dX12_lacks_22 : decode cX12_lacks 22 = .ok (.ireturn, 1) := by decide +kernel
theorem dX12_lacks_23 : decode cX12_lacks 23 = .ok (.iconst 0, 1) := by decide +kernel
theorem dX12_lacks_24 : decode cX12_lacks 24 = .ok (.istore_n 3, 1) := by decide +kernel
theorem dX12_lacks_25 : decode cX12_lacks 25 = .ok (.iconst 0, 1) := by decide +kernel
theorem dX12_lacks_26 : decode cX12_lacks 26 = .ok (.istore 4, 2) := by decide +kernel
theorem dX12_lacks_28 : decode cX12_lacks 28 = .ok (.iconst 0, 1) := by decide +kernel
theorem dX12_lacks_29 : decode cX12_lacks 29 = .ok (.istore 5, 2) := by decide +kernel
theorem dX12_lacks_31 : decode cX12_lacks 31 = .ok (.iload 5, 2) := by decide +kernel
theorem dX12_lacks_33 : decode cX12_lacks 33 = .ok (.aload_n 0, 1) := by decide +kernel
theorem dX12_lacks_34 : decode cX12_lacks 34 = .ok (.getfield 22, 3) := by decide +kernel
theorem dX12_lacks_37 : decode cX12_lacks 37 = .ok (.iload_n 2, 1) := by decide +kernel
theorem dX12_lacks_38 : decode cX12_lacks 38 = .ok (.iaload, 1) := by decide +kernel
theorem dX12_lacks_39 : decode cX12_lacks 39 = .ok (.if_icmp .ge 80, 3) := by decide +kernel
theorem dX12_lacks_42 : decode cX12_lacks 42 = .ok (.aload_n 0, 1) := by decide +kernel
theorem dX12_lacks_43 : decode cX12_lacks 43 = .ok (.aload_n 0, 1) := by decide +kernel
theorem dX12_lacks_44 : decode cX12_lacks 44 = .ok (.getfield 9, 3) := by decide +kernel
theorem dX12_lacks_47 : decode cX12_lacks 47 = .ok (.iload_n 1, 1) := by decide +kernel
theorem dX12_lacks_48 : decode cX12_lacks 48 = .ok (.iload_n 2, 1) := by decide +kernel
theorem dX12_lacks_49 : decode cX12_lacks 49 = .ok (.iload 5, 2) := by decide +kernel
theorem dX12_lacks_51 : decode cX12_lacks 51 = .ok (.invokevirtual 253, 3) := by decide +kernel
theorem dX12_lacks_54 : decode cX12_lacks 54 = .ok (.ifCond .eq 6, 3) := by decide +kernel
theorem dX12_lacks_57 : decode cX12_lacks 57 = .ok (.goto 56, 3) := by decide +kernel
theorem dX12_lacks_60 : decode cX12_lacks 60 = .ok (.bipush 9, 2) := by decide +kernel
theorem dX12_lacks_62 : decode cX12_lacks 62 = .ok (.iload_n 2, 1) := by decide +kernel
theorem dX12_lacks_63 : decode cX12_lacks 63 = .ok (.imul, 1) := by decide +kernel
theorem dX12_lacks_64 : decode cX12_lacks 64 = .ok (.iconst 3, 1) := by decide +kernel
theorem dX12_lacks_65 : decode cX12_lacks 65 = .ok (.iload 5, 2) := by decide +kernel
theorem dX12_lacks_67 : decode cX12_lacks 67 = .ok (.imul, 1) := by decide +kernel
theorem dX12_lacks_68 : decode cX12_lacks 68 = .ok (.iadd, 1) := by decide +kernel
theorem dX12_lacks_69 : decode cX12_lacks 69 = .ok (.istore 6, 2) := by decide +kernel
theorem dX12_lacks_71 : decode cX12_lacks 71 = .ok (.iload_n 3, 1) := by decide +kernel
theorem dX12_lacks_72 : decode cX12_lacks 72 = .ok (.iconst 1, 1) := by decide +kernel
theorem dX12_lacks_73 : decode cX12_lacks 73 = .ok (.iload 5, 2) := by decide +kernel
theorem dX12_lacks_75 : decode cX12_lacks 75 = .ok (.ishl, 1) := by decide +kernel
theorem dX12_lacks_76 : decode cX12_lacks 76 = .ok (.ior, 1) := by decide +kernel
theorem dX12_lacks_77 : decode cX12_lacks 77 = .ok (.istore_n 3, 1) := by decide +kernel
theorem dX12_lacks_78 : decode cX12_lacks 78 = .ok (.iload 4, 2) := by decide +kernel
theorem dX12_lacks_80 : decode cX12_lacks 80 = .ok (.aload_n 0, 1) := by decide +kernel
theorem dX12_lacks_81 : decode cX12_lacks 81 = .ok (.getfield 9, 3) := by decide +kernel
theorem dX12_lacks_84 : decode cX12_lacks 84 = .ok (.iload_n 1, 1) := by decide +kernel
theorem dX12_lacks_85 : decode cX12_lacks 85 = .ok (.aload_n 0, 1) := by decide +kernel
theorem dX12_lacks_86 : decode cX12_lacks 86 = .ok (.getfield 25, 3) := by decide +kernel
theorem dX12_lacks_89 : decode cX12_lacks 89 = .ok (.iload 6, 2) := by decide +kernel
theorem dX12_lacks_91 : decode cX12_lacks 91 = .ok (.iaload, 1) := by decide +kernel
theorem dX12_lacks_92 : decode cX12_lacks 92 = .ok (.invokestatic 232, 3) := by decide +kernel
theorem dX12_lacks_95 : decode cX12_lacks 95 = .ok (.aload_n 0, 1) := by decide +kernel
theorem dX12_lacks_96 : decode cX12_lacks 96 = .ok (.getfield 25, 3) := by decide +kernel
theorem dX12_lacks_99 : decode cX12_lacks 99 = .ok (.iload 6, 2) := by decide +kernel
theorem dX12_lacks_101 : decode cX12_lacks 101 = .ok (.iconst 2, 1) := by decide +kernel
theorem dX12_lacks_102 : decode cX12_lacks 102 = .ok (.iadd, 1) := by decide +kernel
theorem dX12_lacks_103 : decode cX12_lacks 103 = .ok (.iaload, 1) := by decide +kernel
theorem dX12_lacks_104 : decode cX12_lacks 104 = .ok (.isub, 1) := by decide +kernel
theorem dX12_lacks_105 : decode cX12_lacks 105 = .ok (.invokestatic 348, 3) := by decide +kernel
theorem dX12_lacks_108 : decode cX12_lacks 108 = .ok (.iconst 1, 1) := by decide +kernel
theorem dX12_lacks_109 : decode cX12_lacks 109 = .ok (.iadd, 1) := by decide +kernel
theorem dX12_lacks_110 : decode cX12_lacks 110 = .ok (.iadd, 1) := by decide +kernel
theorem dX12_lacks_111 : decode cX12_lacks 111 = .ok (.istore 4, 2) := by decide +kernel
theorem dX12_lacks_113 : decode cX12_lacks 113 = .ok (.iinc 5 1, 3) := by decide +kernel
theorem dX12_lacks_116 : decode cX12_lacks 116 = .ok (.goto (-85), 3) := by decide +kernel
theorem dX12_lacks_119 : decode cX12_lacks 119 = .ok (.aload_n 0, 1) := by decide +kernel
theorem dX12_lacks_120 : decode cX12_lacks 120 = .ok (.iconst 0, 1) := by decide +kernel
theorem dX12_lacks_121 : decode cX12_lacks 121 = .ok (.putfield 113, 3) := by decide +kernel
theorem dX12_lacks_124 : decode cX12_lacks 124 = .ok (.aload_n 0, 1) := by decide +kernel
theorem dX12_lacks_125 : decode cX12_lacks 125 = .ok (.iload 4, 2) := by decide +kernel
theorem dX12_lacks_127 : decode cX12_lacks 127 = .ok (.i2l, 1) := by decide +kernel
theorem dX12_lacks_128 : decode cX12_lacks 128 = .ok (.invokevirtual 329, 3) := by decide +kernel
theorem dX12_lacks_131 : decode cX12_lacks 131 = .ok (.iload_n 3, 1) := by decide +kernel
theorem dX12_lacks_132 : decode cX12_lacks 132 = .ok (.ireturn, 1) := by decide +kernel
theorem dX12_richest_0 : decode cX12_richest 0 = .ok (.aload_n 0, 1) := by decide +kernel
theorem dX12_richest_1 : decode cX12_richest 1 = .ok (.iconst 0, 1) := by decide +kernel
theorem dX12_richest_2 : decode cX12_richest 2 = .ok (.putfield 109, 3) := by decide +kernel
theorem dX12_richest_5 : decode cX12_richest 5 = .ok (.aload_n 0, 1) := by decide +kernel
theorem dX12_richest_6 : decode cX12_richest 6 = .ok (.getfield 123, 3) := by decide +kernel
theorem dX12_richest_9 : decode cX12_richest 9 = .ok (.ifCond .ne 6, 3) := by decide +kernel
theorem dX12_richest_12 : decode cX12_richest 12 = .ok (.bipush (-2), 2) := by decide +kernel
theorem dX12_richest_14 : decode cX12_richest 14 = .ok (.ireturn, 1) := by decide +kernel
theorem dX12_richest_15 : decode cX12_richest 15 = .ok (.iconst 0, 1) := by decide +kernel
theorem dX12_richest_16 : decode cX12_richest 16 = .ok (.istore_n 1, 1) := by decide +kernel
theorem dX12_richest_17 : decode cX12_richest 17 = .ok (.iconst 0, 1) := by decide +kernel
theorem dX12_richest_18 : decode cX12_richest 18 = .ok (.istore_n 2, 1) := by decide +kernel
theorem dX12_richest_19 : decode cX12_richest 19 = .ok (.iconst 0, 1) := by decide +kernel
theorem dX12_richest_20 : decode cX12_richest 20 = .ok (.istore_n 3, 1) := by decide +kernel
theorem dX12_richest_21 : decode cX12_richest 21 = .ok (.iload_n 3, 1) := by decide +kernel
theorem dX12_richest_22 : decode cX12_richest 22 = .ok (.aload_n 0, 1) := by decide +kernel
theorem dX12_richest_23 : decode cX12_richest 23 = .ok (.getfield 123, 3) := by decide +kernel
theorem dX12_richest_26 : decode cX12_richest 26 = .ok (.if_icmp .ge 54, 3) := by decide +kernel
theorem dX12_richest_29 : decode cX12_richest 29 = .ok (.aload_n 0, 1) := by decide +kernel
theorem dX12_richest_30 : decode cX12_richest 30 = .ok (.aload_n 0, 1) := by decide +kernel
theorem dX12_richest_31 : decode cX12_richest 31 = .ok (.getfield 9, 3) := by decide +kernel
theorem dX12_richest_34 : decode cX12_richest 34 = .ok (.iload_n 3, 1) := by decide +kernel
theorem dX12_richest_35 : decode cX12_richest 35 = .ok (.invokevirtual 261, 3) := by decide +kernel
theorem dX12_richest_38 : decode cX12_richest 38 = .ok (.invokestatic 242, 3) := by decide +kernel
theorem dX12_richest_41 : decode cX12_richest 41 = .ok (.aload_n 0, 1) := by decide +kernel
theorem dX12_richest_42 : decode cX12_richest 42 = .ok (.aload_n 0, 1) := by decide +kernel
theorem dX12_richest_43 : decode cX12_richest 43 = .ok (.getfield 9, 3) := by decide +kernel
theorem dX12_richest_46 : decode cX12_richest 46 = .ok (.iload_n 1, 1) := by decide +kernel
theorem dX12_richest_47 : decode cX12_richest 47 = .ok (.invokevirtual 261, 3) := by decide +kernel
theorem dX12_richest_50 : decode cX12_richest 50 = .ok (.invokestatic 242, 3) := by decide +kernel
theorem dX12_richest_53 : decode cX12_richest 53 = .ok (.if_icmp .le 7, 3) := by decide +kernel
theorem dX12_richest_56 : decode cX12_richest 56 = .ok (.iload_n 3, 1) := by decide +kernel
theorem dX12_richest_57 : decode cX12_richest 57 = .ok (.goto 4, 3) := by decide +kernel
theorem dX12_richest_60 : decode cX12_richest 60 = .ok (.iload_n 1, 1) := by decide +kernel
theorem dX12_richest_61 : decode cX12_richest 61 = .ok (.istore_n 1, 1) := by decide +kernel
theorem dX12_richest_62 : decode cX12_richest 62 = .ok (.iload_n 2, 1) := by decide +kernel
theorem dX12_richest_63 : decode cX12_richest 63 = .ok (.aload_n 0, 1) := by decide +kernel
theorem dX12_richest_64 : decode cX12_richest 64 = .ok (.aload_n 0, 1) := by decide +kernel
theorem dX12_richest_65 : decode cX12_richest 65 = .ok (.getfield 9, 3) := by decide +kernel
theorem dX12_richest_68 : decode cX12_richest 68 = .ok (.iload_n 3, 1) := by decide +kernel
theorem dX12_richest_69 : decode cX12_richest 69 = .ok (.invokevirtual 261, 3) := by decide +kernel
theorem dX12_richest_72 : decode cX12_richest 72 = .ok (.ior, 1) := by decide +kernel
theorem dX12_richest_73 : decode cX12_richest 73 = .ok (.istore_n 2, 1) := by decide +kernel
theorem dX12_richest_74 : decode cX12_richest 74 = .ok (.iinc 3 1, 3) := by decide +kernel
theorem dX12_richest_77 : decode cX12_richest 77 = .ok (.goto (-56), 3) := by decide +kernel
theorem dX12_richest_80 : decode cX12_richest 80 = .ok (.aload_n 0, 1) := by decide +kernel
theorem dX12_richest_81 : decode cX12_richest 81 = .ok (.iconst 0, 1) := by decide +kernel
theorem dX12_richest_82 : decode cX12_richest 82 = .ok (.putfield 113, 3) := by decide +kernel
theorem dX12_richest_85 : decode cX12_richest 85 = .ok (.aload_n 0, 1) := by decide +kernel
theorem dX12_richest_86 : decode cX12_richest 86 = .ok (.aload_n 0, 1) := by decide +kernel
theorem dX12_richest_87 : decode cX12_richest 87 = .ok (.aload_n 0, 1) := by decide +kernel
theorem dX12_richest_88 : decode cX12_richest 88 = .ok (.getfield 9, 3) := by decide +kernel
theorem dX12_richest_91 : decode cX12_richest 91 = .ok (.iload_n 1, 1) := by decide +kernel
theorem dX12_richest_92 : decode cX12_richest 92 = .ok (.invokevirtual 261, 3) := by decide +kernel
theorem dX12_richest_95 : decode cX12_richest 95 = .ok (.i2l, 1) := by decide +kernel
theorem dX12_richest_96 : decode cX12_richest 96 = .ok (.invokevirtual 329, 3) := by decide +kernel
theorem dX12_richest_99 : decode cX12_richest 99 = .ok (.aload_n 0, 1) := by decide +kernel
theorem dX12_richest_100 : decode cX12_richest 100 = .ok (.iconst 1, 1) := by decide +kernel
theorem dX12_richest_101 : decode cX12_richest 101 = .ok (.aload_n 0, 1) := by decide +kernel
theorem dX12_richest_102 : decode cX12_richest 102 = .ok (.getfield 126, 3) := by decide +kernel
theorem dX12_richest_105 : decode cX12_richest 105 = .ok (.ishl, 1) := by decide +kernel
theorem dX12_richest_106 : decode cX12_richest 106 = .ok (.iconst 1, 1) := by decide +kernel
theorem dX12_richest_107 : decode cX12_richest 107 = .ok (.isub, 1) := by decide +kernel
theorem dX12_richest_108 : decode cX12_richest 108 = .ok (.iload_n 2, 1) := by decide +kernel
theorem dX12_richest_109 : decode cX12_richest 109 = .ok (.iconst (-1), 1) := by decide +kernel
theorem dX12_richest_110 : decode cX12_richest 110 = .ok (.ixor, 1) := by decide +kernel
theorem dX12_richest_111 : decode cX12_richest 111 = .ok (.iand, 1) := by decide +kernel
theorem dX12_richest_112 : decode cX12_richest 112 = .ok (.i2l, 1) := by decide +kernel
theorem dX12_richest_113 : decode cX12_richest 113 = .ok (.invokevirtual 329, 3) := by decide +kernel
theorem dX12_richest_116 : decode cX12_richest 116 = .ok (.iload_n 1, 1) := by decide +kernel
theorem dX12_richest_117 : decode cX12_richest 117 = .ok (.ireturn, 1) := by decide +kernel
theorem dX12_apart_0 : decode cX12_apart 0 = .ok (.aload_n 0, 1) := by decide +kernel
theorem dX12_apart_1 : decode cX12_apart 1 = .ok (.iconst 0, 1) := by decide +kernel
theorem dX12_apart_2 : decode cX12_apart 2 = .ok (.putfield 109, 3) := by decide +kernel
theorem dX12_apart_5 : decode cX12_apart 5 = .ok (.aload_n 0, 1) := by decide +kernel
theorem dX12_apart_6 : decode cX12_apart 6 = .ok (.iload_n 1, 1) := by decide +kernel
theorem dX12_apart_7 : decode cX12_apart 7 = .ok (.invokevirtual 278, 3) := by decide +kernel
theorem dX12_apart_10 : decode cX12_apart 10 = .ok (.ifCond .eq 26, 3) := by decide +kernel
theorem dX12_apart_13 : decode cX12_apart 13 = .ok (.aload_n 0, 1) := by decide +kernel
theorem dX12_apart_14 : decode cX12_apart 14 = .ok (.iload_n 2, 1) := by decide +kernel
theorem dX12_apart_15 : decode cX12_apart 15 = .ok (.invokevirtual 278, 3) := by decide +kernel
theorem dX12_apart_18 : decode cX12_apart 18 = .ok (.ifCond .eq 18, 3) := by decide +kernel
theorem dX12_apart_21 : decode cX12_apart 21 = .ok (.iload_n 1, 1) := by decide +kernel
theorem dX12_apart_22 : decode cX12_apart 22 = .ok (.iload_n 2, 1) := by decide +kernel
theorem dX12_apart_23 : decode cX12_apart 23 = .ok (.if_icmp .eq 13, 3) := by decide +kernel
theorem dX12_apart_26 : decode cX12_apart 26 = .ok (.iload_n 3, 1) := by decide +kernel
theorem dX12_apart_27 : decode cX12_apart 27 = .ok (.iconst 0, 1) := by decide +kernel
theorem dX12_apart_28 : decode cX12_apart 28 = .ok (.bipush 99, 2) := by decide +kernel
theorem dX12_apart_30 : decode cX12_apart 30 = .ok (.invokestatic 119, 3) := by decide +kernel
theorem dX12_apart_33 : decode cX12_apart 33 = .ok (.ifCond .ne 5, 3) := by decide +kernel
theorem dX12_apart_36 : decode cX12_apart 36 = .ok (.iconst (-1), 1) := by decide +kernel
theorem dX12_apart_37 : decode cX12_apart 37 = .ok (.ireturn, 1) := by decide +kernel
theorem dX12_apart_38 : decode cX12_apart 38 = .ok (.aload_n 0, 1) := by decide +kernel
theorem dX12_apart_39 : decode cX12_apart 39 = .ok (.getfield 9, 3) := by decide +kernel
theorem dX12_apart_42 : decode cX12_apart 42 = .ok (.aload_n 0, 1) := by decide +kernel
theorem dX12_apart_43 : decode cX12_apart 43 = .ok (.getfield 57, 3) := by decide +kernel
theorem dX12_apart_46 : decode cX12_apart 46 = .ok (.iconst 0, 1) := by decide +kernel
theorem dX12_apart_47 : decode cX12_apart 47 = .ok (.invokestatic 284, 3) := by decide +kernel
theorem dX12_apart_50 : decode cX12_apart 50 = .ok (.aload_n 0, 1) := by decide +kernel
theorem dX12_apart_51 : decode cX12_apart 51 = .ok (.aload_n 0, 1) := by decide +kernel
theorem dX12_apart_52 : decode cX12_apart 52 = .ok (.getfield 57, 3) := by decide +kernel
theorem dX12_apart_55 : decode cX12_apart 55 = .ok (.iload_n 3, 1) := by decide +kernel
theorem dX12_apart_56 : decode cX12_apart 56 = .ok (.invokevirtual 322, 3) := by decide +kernel
theorem dX12_apart_59 : decode cX12_apart 59 = .ok (.iconst 0, 1) := by decide +kernel
theorem dX12_apart_60 : decode cX12_apart 60 = .ok (.istore 4, 2) := by decide +kernel
theorem dX12_apart_62 : decode cX12_apart 62 = .ok (.aload_n 0, 1) := by decide +kernel
theorem dX12_apart_63 : decode cX12_apart 63 = .ok (.iconst 0, 1) := by decide +kernel
theorem dX12_apart_64 : decode cX12_apart 64 = .ok (.putfield 113, 3) := by decide +kernel
theorem dX12_apart_67 : decode cX12_apart 67 = .ok (.iconst 0, 1) := by decide +kernel
theorem dX12_apart_68 : decode cX12_apart 68 = .ok (.istore 5, 2) := by decide +kernel
theorem dX12_apart_70 : decode cX12_apart 70 = .ok (.iload 5, 2) := by decide +kernel
theorem dX12_apart_72 : decode cX12_apart 72 = .ok (.iconst 4, 1) := by decide +kernel
theorem dX12_apart_73 : decode cX12_apart 73 = .ok (.if_icmp .ge 49, 3) := by decide +kernel
theorem dX12_apart_76 : decode cX12_apart 76 = .ok (.aload_n 0, 1) := by decide +kernel
theorem dX12_apart_77 : decode cX12_apart 77 = .ok (.getfield 57, 3) := by decide +kernel
theorem dX12_apart_80 : decode cX12_apart 80 = .ok (.iload_n 1, 1) := by decide +kernel
theorem dX12_apart_81 : decode cX12_apart 81 = .ok (.iload 5, 2) := by decide +kernel
theorem dX12_apart_83 : decode cX12_apart 83 = .ok (.invokestatic 232, 3) := by decide +kernel
theorem dX12_apart_86 : decode cX12_apart 86 = .ok (.aload_n 0, 1) := by decide +kernel
theorem dX12_apart_87 : decode cX12_apart 87 = .ok (.getfield 57, 3) := by decide +kernel
theorem dX12_apart_90 : decode cX12_apart 90 = .ok (.iload_n 2, 1) := by decide +kernel
theorem dX12_apart_91 : decode cX12_apart 91 = .ok (.iload 5, 2) := by decide +kernel
theorem dX12_apart_93 : decode cX12_apart 93 = .ok (.invokestatic 232, 3) := by decide +kernel
theorem dX12_apart_96 : decode cX12_apart 96 = .ok (.isub, 1) := by decide +kernel
theorem dX12_apart_97 : decode cX12_apart 97 = .ok (.istore 6, 2) := by decide +kernel
theorem dX12_apart_99 : decode cX12_apart 99 = .ok (.iload 4, 2) := by decide +kernel
theorem dX12_apart_101 : decode cX12_apart 101 = .ok (.iload 6, 2) := by decide +kernel
theorem dX12_apart_103 : decode cX12_apart 103 = .ok (.invokestatic 348, 3) := by decide +kernel
theorem dX12_apart_106 : decode cX12_apart 106 = .ok (.iadd, 1) := by decide +kernel
theorem dX12_apart_107 : decode cX12_apart 107 = .ok (.istore 4, 2) := by decide +kernel
theorem dX12_apart_109 : decode cX12_apart 109 = .ok (.aload_n 0, 1) := by decide +kernel
theorem dX12_apart_110 : decode cX12_apart 110 = .ok (.iload 6, 2) := by decide +kernel
theorem dX12_apart_112 : decode cX12_apart 112 = .ok (.i2l, 1) := by decide +kernel
theorem dX12_apart_113 : decode cX12_apart 113 = .ok (.invokevirtual 329, 3) := by decide +kernel
theorem dX12_apart_116 : decode cX12_apart 116 = .ok (.iinc 5 1, 3) := by decide +kernel
theorem dX12_apart_119 : decode cX12_apart 119 = .ok (.goto (-49), 3) := by decide +kernel
theorem dX12_apart_122 : decode cX12_apart 122 = .ok (.iload 4, 2) := by decide +kernel
theorem dX12_apart_124 : decode cX12_apart 124 = .ok (.ireturn, 1) := by decide +kernel
theorem dX12_goWith_0 : decode cX12_goWith 0 = .ok (.aload_n 0, 1) := by decide +kernel
theorem dX12_goWith_1 : decode cX12_goWith 1 = .ok (.getfield 9, 3) := by decide +kernel
theorem dX12_goWith_4 : decode cX12_goWith 4 = .ok (.aload_n 0, 1) := by decide +kernel
theorem dX12_goWith_5 : decode cX12_goWith 5 = .ok (.getfield 57, 3) := by decide +kernel
theorem dX12_goWith_8 : decode cX12_goWith 8 = .ok (.iconst 0, 1) := by decide +kernel
theorem dX12_goWith_9 : decode cX12_goWith 9 = .ok (.invokestatic 284, 3) := by decide +kernel
theorem dX12_goWith_12 : decode cX12_goWith 12 = .ok (.iconst 0, 1) := by decide +kernel
theorem dX12_goWith_13 : decode cX12_goWith 13 = .ok (.istore 4, 2) := by decide +kernel
theorem dX12_goWith_15 : decode cX12_goWith 15 = .ok (.iload 4, 2) := by decide +kernel
theorem dX12_goWith_17 : decode cX12_goWith 17 = .ok (.aload_n 0, 1) := by decide +kernel
theorem dX12_goWith_18 : decode cX12_goWith 18 = .ok (.getfield 116, 3) := by decide +kernel
theorem dX12_goWith_21 : decode cX12_goWith 21 = .ok (.if_icmp .ge 28, 3) := by decide +kernel
theorem dX12_goWith_24 : decode cX12_goWith 24 = .ok (.iload_n 2, 1) := by decide +kernel
theorem dX12_goWith_25 : decode cX12_goWith 25 = .ok (.iload 4, 2) := by decide +kernel
theorem dX12_goWith_27 : decode cX12_goWith 27 = .ok (.invokestatic 265, 3) := by decide +kernel
theorem dX12_goWith_30 : decode cX12_goWith 30 = .ok (.ifCond .eq 13, 3) := by decide +kernel
theorem dX12_goWith_33 : decode cX12_goWith 33 = .ok (.aload_n 0, 1) := by decide +kernel
theorem dX12_goWith_34 : decode cX12_goWith 34 = .ok (.getfield 57, 3) := by decide +kernel
theorem dX12_goWith_37 : decode cX12_goWith 37 = .ok (.iload_n 1, 1) := by decide +kernel
theorem dX12_goWith_38 : decode cX12_goWith 38 = .ok (.iload 4, 2) := by decide +kernel
theorem dX12_goWith_40 : decode cX12_goWith 40 = .ok (.invokestatic 288, 3) := by decide +kernel
theorem dX12_goWith_43 : decode cX12_goWith 43 = .ok (.iinc 4 1, 3) := by decide +kernel
theorem dX12_goWith_46 : decode cX12_goWith 46 = .ok (.goto (-31), 3) := by decide +kernel
theorem dX12_goWith_49 : decode cX12_goWith 49 = .ok (.iconst 0, 1) := by decide +kernel
theorem dX12_goWith_50 : decode cX12_goWith 50 = .ok (.istore 4, 2) := by decide +kernel
theorem dX12_goWith_52 : decode cX12_goWith 52 = .ok (.iload 4, 2) := by decide +kernel
theorem dX12_goWith_54 : decode cX12_goWith 54 = .ok (.iload_n 3, 1) := by decide +kernel
theorem dX12_goWith_55 : decode cX12_goWith 55 = .ok (.if_icmp .ge 14, 3) := by decide +kernel
theorem dX12_goWith_58 : decode cX12_goWith 58 = .ok (.aload_n 0, 1) := by decide +kernel
theorem dX12_goWith_59 : decode cX12_goWith 59 = .ok (.iload_n 1, 1) := by decide +kernel
theorem dX12_goWith_60 : decode cX12_goWith 60 = .ok (.invokevirtual 351, 3) := by decide +kernel
theorem dX12_goWith_63 : decode cX12_goWith 63 = .ok (.iinc 4 1, 3) := by decide +kernel
theorem dX12_goWith_66 : decode cX12_goWith 66 = .ok (.goto (-14), 3) := by decide +kernel
theorem dX12_goWith_69 : decode cX12_goWith 69 = .ok (.return_, 1) := by decide +kernel
theorem dX12_goAlone_0 : decode cX12_goAlone 0 = .ok (.aload_n 0, 1) := by decide +kernel
theorem dX12_goAlone_1 : decode cX12_goAlone 1 = .ok (.aload_n 0, 1) := by decide +kernel
theorem dX12_goAlone_2 : decode cX12_goAlone 2 = .ok (.getfield 57, 3) := by decide +kernel
theorem dX12_goAlone_5 : decode cX12_goAlone 5 = .ok (.iload_n 1, 1) := by decide +kernel
theorem dX12_goAlone_6 : decode cX12_goAlone 6 = .ok (.invokevirtual 312, 3) := by decide +kernel
theorem dX12_goAlone_9 : decode cX12_goAlone 9 = .ok (.iconst 0, 1) := by decide +kernel
theorem dX12_goAlone_10 : decode cX12_goAlone 10 = .ok (.istore_n 2, 1) := by decide +kernel
theorem dX12_goAlone_11 : decode cX12_goAlone 11 = .ok (.iload_n 2, 1) := by decide +kernel
theorem dX12_goAlone_12 : decode cX12_goAlone 12 = .ok (.aload_n 0, 1) := by decide +kernel
theorem dX12_goAlone_13 : decode cX12_goAlone 13 = .ok (.getfield 116, 3) := by decide +kernel
theorem dX12_goAlone_16 : decode cX12_goAlone 16 = .ok (.if_icmp .ge 60, 3) := by decide +kernel
theorem dX12_goAlone_19 : decode cX12_goAlone 19 = .ok (.aload_n 0, 1) := by decide +kernel
theorem dX12_goAlone_20 : decode cX12_goAlone 20 = .ok (.getfield 57, 3) := by decide +kernel
theorem dX12_goAlone_23 : decode cX12_goAlone 23 = .ok (.bipush 32, 2) := by decide +kernel
theorem dX12_goAlone_25 : decode cX12_goAlone 25 = .ok (.iload_n 1, 1) := by decide +kernel
theorem dX12_goAlone_26 : decode cX12_goAlone 26 = .ok (.iadd, 1) := by decide +kernel
theorem dX12_goAlone_27 : decode cX12_goAlone 27 = .ok (.iaload, 1) := by decide +kernel
theorem dX12_goAlone_28 : decode cX12_goAlone 28 = .ok (.iload_n 2, 1) := by decide +kernel
theorem dX12_goAlone_29 : decode cX12_goAlone 29 = .ok (.invokestatic 265, 3) := by decide +kernel
theorem dX12_goAlone_32 : decode cX12_goAlone 32 = .ok (.ifCond .eq 38, 3) := by decide +kernel
theorem dX12_goAlone_35 : decode cX12_goAlone 35 = .ok (.aload_n 0, 1) := by decide +kernel
theorem dX12_goAlone_36 : decode cX12_goAlone 36 = .ok (.getfield 57, 3) := by decide +kernel
theorem dX12_goAlone_39 : decode cX12_goAlone 39 = .ok (.bipush 38, 2) := by decide +kernel
theorem dX12_goAlone_41 : decode cX12_goAlone 41 = .ok (.bipush 8, 2) := by decide +kernel
theorem dX12_goAlone_43 : decode cX12_goAlone 43 = .ok (.iload_n 1, 1) := by decide +kernel
theorem dX12_goAlone_44 : decode cX12_goAlone 44 = .ok (.imul, 1) := by decide +kernel
theorem dX12_goAlone_45 : decode cX12_goAlone 45 = .ok (.iadd, 1) := by decide +kernel
theorem dX12_goAlone_46 : decode cX12_goAlone 46 = .ok (.iload_n 2, 1) := by decide +kernel
theorem dX12_goAlone_47 : decode cX12_goAlone 47 = .ok (.iadd, 1) := by decide +kernel
theorem dX12_goAlone_48 : decode cX12_goAlone 48 = .ok (.bipush 99, 2) := by decide +kernel
theorem dX12_goAlone_50 : decode cX12_goAlone 50 = .ok (.aload_n 0, 1) := by decide +kernel
theorem dX12_goAlone_51 : decode cX12_goAlone 51 = .ok (.getfield 57, 3) := by decide +kernel
theorem dX12_goAlone_54 : decode cX12_goAlone 54 = .ok (.bipush 38, 2) := by decide +kernel
theorem dX12_goAlone_56 : decode cX12_goAlone 56 = .ok (.bipush 8, 2) := by decide +kernel
theorem dX12_goAlone_58 : decode cX12_goAlone 58 = .ok (.iload_n 1, 1) := by decide +kernel
theorem dX12_goAlone_59 : decode cX12_goAlone 59 = .ok (.imul, 1) := by decide +kernel
theorem dX12_goAlone_60 : decode cX12_goAlone 60 = .ok (.iadd, 1) := by decide +kernel
theorem dX12_goAlone_61 : decode cX12_goAlone 61 = .ok (.iload_n 2, 1) := by decide +kernel
theorem dX12_goAlone_62 : decode cX12_goAlone 62 = .ok (.iadd, 1) := by decide +kernel
theorem dX12_goAlone_63 : decode cX12_goAlone 63 = .ok (.iaload, 1) := by decide +kernel
theorem dX12_goAlone_64 : decode cX12_goAlone 64 = .ok (.iconst 1, 1) := by decide +kernel
theorem dX12_goAlone_65 : decode cX12_goAlone 65 = .ok (.iadd, 1) := by decide +kernel
theorem dX12_goAlone_66 : decode cX12_goAlone 66 = .ok (.invokestatic 245, 3) := by decide +kernel
theorem dX12_goAlone_69 : decode cX12_goAlone 69 = .ok (.iastore, 1) := by decide +kernel
theorem dX12_goAlone_70 : decode cX12_goAlone 70 = .ok (.iinc 2 1, 3) := by decide +kernel
theorem dX12_goAlone_73 : decode cX12_goAlone 73 = .ok (.goto (-62), 3) := by decide +kernel
theorem dX12_goAlone_76 : decode cX12_goAlone 76 = .ok (.aload_n 0, 1) := by decide +kernel
theorem dX12_goAlone_77 : decode cX12_goAlone 77 = .ok (.getfield 57, 3) := by decide +kernel
theorem dX12_goAlone_80 : decode cX12_goAlone 80 = .ok (.bipush 86, 2) := by decide +kernel
theorem dX12_goAlone_82 : decode cX12_goAlone 82 = .ok (.dup2, 1) := by decide +kernel
theorem dX12_goAlone_83 : decode cX12_goAlone 83 = .ok (.iaload, 1) := by decide +kernel
theorem dX12_goAlone_84 : decode cX12_goAlone 84 = .ok (.iconst 1, 1) := by decide +kernel
theorem dX12_goAlone_85 : decode cX12_goAlone 85 = .ok (.iadd, 1) := by decide +kernel
theorem dX12_goAlone_86 : decode cX12_goAlone 86 = .ok (.iastore, 1) := by decide +kernel
theorem dX12_goAlone_87 : decode cX12_goAlone 87 = .ok (.return_, 1) := by decide +kernel
theorem dX12_hadWith_0 : decode cX12_hadWith 0 = .ok (.aload_n 0, 1) := by decide +kernel
theorem dX12_hadWith_1 : decode cX12_hadWith 1 = .ok (.iload_n 1, 1) := by decide +kernel
theorem dX12_hadWith_2 : decode cX12_hadWith 2 = .ok (.iload_n 2, 1) := by decide +kernel
theorem dX12_hadWith_3 : decode cX12_hadWith 3 = .ok (.iload_n 3, 1) := by decide +kernel
theorem dX12_hadWith_4 : decode cX12_hadWith 4 = .ok (.invokevirtual 354, 3) := by decide +kernel
theorem dX12_hadWith_7 : decode cX12_hadWith 7 = .ok (.aload_n 0, 1) := by decide +kernel
theorem dX12_hadWith_8 : decode cX12_hadWith 8 = .ok (.aload_n 0, 1) := by decide +kernel
theorem dX12_hadWith_9 : decode cX12_hadWith 9 = .ok (.getfield 57, 3) := by decide +kernel
theorem dX12_hadWith_12 : decode cX12_hadWith 12 = .ok (.iload_n 1, 1) := by decide +kernel
theorem dX12_hadWith_13 : decode cX12_hadWith 13 = .ok (.invokevirtual 261, 3) := by decide +kernel
theorem dX12_hadWith_16 : decode cX12_hadWith 16 = .ok (.ireturn, 1) := by decide +kernel
theorem dX12_free_0 : decode cX12_free 0 = .ok (.iconst 0, 1) := by decide +kernel
theorem dX12_free_1 : decode cX12_free 1 = .ok (.istore_n 2, 1) := by decide +kernel
theorem dX12_free_2 : decode cX12_free 2 = .ok (.iconst 0, 1) := by decide +kernel
theorem dX12_free_3 : decode cX12_free 3 = .ok (.istore_n 3, 1) := by decide +kernel
theorem dX12_free_4 : decode cX12_free 4 = .ok (.iload_n 3, 1) := by decide +kernel
theorem dX12_free_5 : decode cX12_free 5 = .ok (.aload_n 0, 1) := by decide +kernel
theorem dX12_free_6 : decode cX12_free 6 = .ok (.getfield 116, 3) := by decide +kernel
theorem dX12_free_9 : decode cX12_free 9 = .ok (.if_icmp .ge 44, 3) := by decide +kernel
theorem dX12_free_12 : decode cX12_free 12 = .ok (.iload_n 2, 1) := by decide +kernel
theorem dX12_free_13 : decode cX12_free 13 = .ok (.aload_n 0, 1) := by decide +kernel
theorem dX12_free_14 : decode cX12_free 14 = .ok (.getfield 9, 3) := by decide +kernel
theorem dX12_free_17 : decode cX12_free 17 = .ok (.iload_n 3, 1) := by decide +kernel
theorem dX12_free_18 : decode cX12_free 18 = .ok (.iaload, 1) := by decide +kernel
theorem dX12_free_19 : decode cX12_free 19 = .ok (.ifCond .le 25, 3) := by decide +kernel
theorem dX12_free_22 : decode cX12_free 22 = .ok (.aload_n 0, 1) := by decide +kernel
theorem dX12_free_23 : decode cX12_free 23 = .ok (.getfield 9, 3) := by decide +kernel
theorem dX12_free_26 : decode cX12_free 26 = .ok (.bipush 32, 2) := by decide +kernel
theorem dX12_free_28 : decode cX12_free 28 = .ok (.iload_n 1, 1) := by decide +kernel
theorem dX12_free_29 : decode cX12_free 29 = .ok (.iadd, 1) := by decide +kernel
theorem dX12_free_30 : decode cX12_free 30 = .ok (.iaload, 1) := by decide +kernel
theorem dX12_free_31 : decode cX12_free 31 = .ok (.iload_n 3, 1) := by decide +kernel
theorem dX12_free_32 : decode cX12_free 32 = .ok (.invokestatic 265, 3) := by decide +kernel
theorem dX12_free_35 : decode cX12_free 35 = .ok (.ifCond .ne 9, 3) := by decide +kernel
theorem dX12_free_38 : decode cX12_free 38 = .ok (.iconst 1, 1) := by decide +kernel
theorem dX12_free_39 : decode cX12_free 39 = .ok (.iload_n 3, 1) := by decide +kernel
theorem dX12_free_40 : decode cX12_free 40 = .ok (.ishl, 1) := by decide +kernel
theorem dX12_free_41 : decode cX12_free 41 = .ok (.goto 4, 3) := by decide +kernel
theorem dX12_free_44 : decode cX12_free 44 = .ok (.iconst 0, 1) := by decide +kernel
theorem dX12_free_45 : decode cX12_free 45 = .ok (.ior, 1) := by decide +kernel
theorem dX12_free_46 : decode cX12_free 46 = .ok (.istore_n 2, 1) := by decide +kernel
theorem dX12_free_47 : decode cX12_free 47 = .ok (.iinc 3 1, 3) := by decide +kernel
theorem dX12_free_50 : decode cX12_free 50 = .ok (.goto (-46), 3) := by decide +kernel
theorem dX12_free_53 : decode cX12_free 53 = .ok (.iload_n 2, 1) := by decide +kernel
theorem dX12_free_54 : decode cX12_free 54 = .ok (.ireturn, 1) := by decide +kernel
theorem dX12_gradeOf_0 : decode cX12_gradeOf 0 = .ok (.iconst 0, 1) := by decide +kernel
theorem dX12_gradeOf_1 : decode cX12_gradeOf 1 = .ok (.istore_n 2, 1) := by decide +kernel
theorem dX12_gradeOf_2 : decode cX12_gradeOf 2 = .ok (.iconst 0, 1) := by decide +kernel
theorem dX12_gradeOf_3 : decode cX12_gradeOf 3 = .ok (.istore_n 3, 1) := by decide +kernel
theorem dX12_gradeOf_4 : decode cX12_gradeOf 4 = .ok (.iload_n 3, 1) := by decide +kernel
theorem dX12_gradeOf_5 : decode cX12_gradeOf 5 = .ok (.aload_n 0, 1) := by decide +kernel
theorem dX12_gradeOf_6 : decode cX12_gradeOf 6 = .ok (.getfield 116, 3) := by decide +kernel
theorem dX12_gradeOf_9 : decode cX12_gradeOf 9 = .ok (.if_icmp .ge 30, 3) := by decide +kernel
theorem dX12_gradeOf_12 : decode cX12_gradeOf 12 = .ok (.iload_n 2, 1) := by decide +kernel
theorem dX12_gradeOf_13 : decode cX12_gradeOf 13 = .ok (.iload_n 1, 1) := by decide +kernel
theorem dX12_gradeOf_14 : decode cX12_gradeOf 14 = .ok (.iload_n 3, 1) := by decide +kernel
theorem dX12_gradeOf_15 : decode cX12_gradeOf 15 = .ok (.invokestatic 265, 3) := by decide +kernel
theorem dX12_gradeOf_18 : decode cX12_gradeOf 18 = .ok (.ifCond .eq 12, 3) := by decide +kernel
theorem dX12_gradeOf_21 : decode cX12_gradeOf 21 = .ok (.aload_n 0, 1) := by decide +kernel
theorem dX12_gradeOf_22 : decode cX12_gradeOf 22 = .ok (.getfield 13, 3) := by decide +kernel
theorem dX12_gradeOf_25 : decode cX12_gradeOf 25 = .ok (.iload_n 3, 1) := by decide +kernel
theorem dX12_gradeOf_26 : decode cX12_gradeOf 26 = .ok (.iaload, 1) := by decide +kernel
theorem dX12_gradeOf_27 : decode cX12_gradeOf 27 = .ok (.goto 4, 3) := by decide +kernel
theorem dX12_gradeOf_30 : decode cX12_gradeOf 30 = .ok (.iconst 0, 1) := by decide +kernel
theorem dX12_gradeOf_31 : decode cX12_gradeOf 31 = .ok (.iadd, 1) := by decide +kernel
theorem dX12_gradeOf_32 : decode cX12_gradeOf 32 = .ok (.istore_n 2, 1) := by decide +kernel
theorem dX12_gradeOf_33 : decode cX12_gradeOf 33 = .ok (.iinc 3 1, 3) := by decide +kernel
theorem dX12_gradeOf_36 : decode cX12_gradeOf 36 = .ok (.goto (-32), 3) := by decide +kernel
theorem dX12_gradeOf_39 : decode cX12_gradeOf 39 = .ok (.iload_n 2, 1) := by decide +kernel
theorem dX12_gradeOf_40 : decode cX12_gradeOf 40 = .ok (.ireturn, 1) := by decide +kernel
theorem dX12_fewest_0 : decode cX12_fewest 0 = .ok (.aload_n 0, 1) := by decide +kernel
theorem dX12_fewest_1 : decode cX12_fewest 1 = .ok (.iconst 0, 1) := by decide +kernel
theorem dX12_fewest_2 : decode cX12_fewest 2 = .ok (.putfield 109, 3) := by decide +kernel
theorem dX12_fewest_5 : decode cX12_fewest 5 = .ok (.aload_n 0, 1) := by decide +kernel
theorem dX12_fewest_6 : decode cX12_fewest 6 = .ok (.iload_n 1, 1) := by decide +kernel
theorem dX12_fewest_7 : decode cX12_fewest 7 = .ok (.invokevirtual 278, 3) := by decide +kernel
theorem dX12_fewest_10 : decode cX12_fewest 10 = .ok (.ifCond .eq 21, 3) := by decide +kernel
theorem dX12_fewest_13 : decode cX12_fewest 13 = .ok (.aload_n 0, 1) := by decide +kernel
theorem dX12_fewest_14 : decode cX12_fewest 14 = .ok (.iload_n 2, 1) := by decide +kernel
theorem dX12_fewest_15 : decode cX12_fewest 15 = .ok (.invokevirtual 345, 3) := by decide +kernel
theorem dX12_fewest_18 : decode cX12_fewest 18 = .ok (.ifCond .eq 13, 3) := by decide +kernel
theorem dX12_fewest_21 : decode cX12_fewest 21 = .ok (.iload_n 3, 1) := by decide +kernel
theorem dX12_fewest_22 : decode cX12_fewest 22 = .ok (.iconst 0, 1) := by decide +kernel
theorem dX12_fewest_23 : decode cX12_fewest 23 = .ok (.bipush 20, 2) := by decide +kernel
theorem dX12_fewest_25 : decode cX12_fewest 25 = .ok (.invokestatic 119, 3) := by decide +kernel
theorem dX12_fewest_28 : decode cX12_fewest 28 = .ok (.ifCond .ne 5, 3) := by decide +kernel
theorem dX12_fewest_31 : decode cX12_fewest 31 = .ok (.iconst (-1), 1) := by decide +kernel
theorem dX12_fewest_32 : decode cX12_fewest 32 = .ok (.ireturn, 1) := by decide +kernel
theorem dX12_fewest_33 : decode cX12_fewest 33 = .ok (.aload_n 0, 1) := by decide +kernel
theorem dX12_fewest_34 : decode cX12_fewest 34 = .ok (.iload_n 1, 1) := by decide +kernel
theorem dX12_fewest_35 : decode cX12_fewest 35 = .ok (.invokevirtual 358, 3) := by decide +kernel
theorem dX12_fewest_38 : decode cX12_fewest 38 = .ok (.istore 4, 2) := by decide +kernel
theorem dX12_fewest_40 : decode cX12_fewest 40 = .ok (.iconst (-1), 1) := by decide +kernel
theorem dX12_fewest_41 : decode cX12_fewest 41 = .ok (.istore 5, 2) := by decide +kernel
theorem dX12_fewest_43 : decode cX12_fewest 43 = .ok (.iconst 0, 1) := by decide +kernel
theorem dX12_fewest_44 : decode cX12_fewest 44 = .ok (.istore 6, 2) := by decide +kernel
theorem dX12_fewest_46 : decode cX12_fewest 46 = .ok (.iload 6, 2) := by decide +kernel
theorem dX12_fewest_48 : decode cX12_fewest 48 = .ok (.iload 4, 2) := by decide +kernel
theorem dX12_fewest_50 : decode cX12_fewest 50 = .ok (.if_icmp .gt 98, 3) := by decide +kernel
theorem dX12_fewest_53 : decode cX12_fewest 53 = .ok (.iload 6, 2) := by decide +kernel
theorem dX12_fewest_55 : decode cX12_fewest 55 = .ok (.iload 4, 2) := by decide +kernel
theorem dX12_fewest_57 : decode cX12_fewest 57 = .ok (.iconst (-1), 1) := by decide +kernel
theorem dX12_fewest_58 : decode cX12_fewest 58 = .ok (.ixor, 1) := by decide +kernel
theorem dX12_fewest_59 : decode cX12_fewest 59 = .ok (.iand, 1) := by decide +kernel
theorem dX12_fewest_60 : decode cX12_fewest 60 = .ok (.ifCond .eq 6, 3) := by decide +kernel
theorem dX12_fewest_63 : decode cX12_fewest 63 = .ok (.goto 79, 3) := by decide +kernel
theorem dX12_fewest_66 : decode cX12_fewest 66 = .ok (.iload 5, 2) := by decide +kernel
theorem dX12_fewest_68 : decode cX12_fewest 68 = .ok (.iconst (-1), 1) := by decide +kernel
theorem dX12_fewest_69 : decode cX12_fewest 69 = .ok (.if_icmp .ne 7, 3) := by decide +kernel
theorem dX12_fewest_72 : decode cX12_fewest 72 = .ok (.iconst (-1), 1) := by decide +kernel
theorem dX12_fewest_73 : decode cX12_fewest 73 = .ok (.goto 14, 3) := by decide +kernel
theorem dX12_fewest_76 : decode cX12_fewest 76 = .ok (.iload 6, 2) := by decide +kernel
theorem dX12_fewest_78 : decode cX12_fewest 78 = .ok (.invokestatic 242, 3) := by decide +kernel
theorem dX12_fewest_81 : decode cX12_fewest 81 = .ok (.iload 5, 2) := by decide +kernel
theorem dX12_fewest_83 : decode cX12_fewest 83 = .ok (.invokestatic 242, 3) := by decide +kernel
theorem dX12_fewest_86 : decode cX12_fewest 86 = .ok (.isub, 1) := by decide +kernel
theorem dX12_fewest_87 : decode cX12_fewest 87 = .ok (.istore 7, 2) := by decide +kernel
theorem dX12_fewest_89 : decode cX12_fewest 89 = .ok (.iload 5, 2) := by decide +kernel
theorem dX12_fewest_91 : decode cX12_fewest 91 = .ok (.iconst (-1), 1) := by decide +kernel
theorem dX12_fewest_92 : decode cX12_fewest 92 = .ok (.if_icmp .eq 31, 3) := by decide +kernel
theorem dX12_fewest_95 : decode cX12_fewest 95 = .ok (.iload 7, 2) := by decide +kernel
theorem dX12_fewest_97 : decode cX12_fewest 97 = .ok (.ifCond .gt 45, 3) := by decide +kernel
theorem dX12_fewest_100 : decode cX12_fewest 100 = .ok (.iload 7, 2) := by decide +kernel
theorem dX12_fewest_102 : decode cX12_fewest 102 = .ok (.ifCond .ne 21, 3) := by decide +kernel
theorem dX12_fewest_105 : decode cX12_fewest 105 = .ok (.aload_n 0, 1) := by decide +kernel
theorem dX12_fewest_106 : decode cX12_fewest 106 = .ok (.iload 6, 2) := by decide +kernel
theorem dX12_fewest_108 : decode cX12_fewest 108 = .ok (.invokevirtual 361, 3) := by decide +kernel
theorem dX12_fewest_111 : decode cX12_fewest 111 = .ok (.aload_n 0, 1) := by decide +kernel
theorem dX12_fewest_112 : decode cX12_fewest 112 = .ok (.iload 5, 2) := by decide +kernel
theorem dX12_fewest_114 : decode cX12_fewest 114 = .ok (.invokevirtual 361, 3) := by decide +kernel
theorem dX12_fewest_117 : decode cX12_fewest 117 = .ok (.if_icmp .lt 6, 3) := by decide +kernel
theorem dX12_fewest_120 : decode cX12_fewest 120 = .ok (.goto 22, 3) := by decide +kernel
theorem dX12_fewest_123 : decode cX12_fewest 123 = .ok (.aload_n 0, 1) := by decide +kernel
theorem dX12_fewest_124 : decode cX12_fewest 124 = .ok (.iload_n 1, 1) := by decide +kernel
theorem dX12_fewest_125 : decode cX12_fewest 125 = .ok (.iload 6, 2) := by decide +kernel
theorem dX12_fewest_127 : decode cX12_fewest 127 = .ok (.iload_n 3, 1) := by decide +kernel
theorem dX12_fewest_128 : decode cX12_fewest 128 = .ok (.invokevirtual 364, 3) := by decide +kernel
theorem dX12_fewest_131 : decode cX12_fewest 131 = .ok (.iload_n 2, 1) := by decide +kernel
theorem dX12_fewest_132 : decode cX12_fewest 132 = .ok (.invokestatic 265, 3) := by decide +kernel
theorem dX12_fewest_135 : decode cX12_fewest 135 = .ok (.ifCond .eq 7, 3) := by decide +kernel
theorem dX12_fewest_138 : decode cX12_fewest 138 = .ok (.iload 6, 2) := by decide +kernel
theorem dX12_fewest_140 : decode cX12_fewest 140 = .ok (.istore 5, 2) := by decide +kernel
theorem dX12_fewest_142 : decode cX12_fewest 142 = .ok (.iinc 6 1, 3) := by decide +kernel
theorem dX12_fewest_145 : decode cX12_fewest 145 = .ok (.goto (-99), 3) := by decide +kernel
theorem dX12_fewest_148 : decode cX12_fewest 148 = .ok (.iload 5, 2) := by decide +kernel
theorem dX12_fewest_150 : decode cX12_fewest 150 = .ok (.iconst (-1), 1) := by decide +kernel
theorem dX12_fewest_151 : decode cX12_fewest 151 = .ok (.if_icmp .ne 6, 3) := by decide +kernel
theorem dX12_fewest_154 : decode cX12_fewest 154 = .ok (.bipush (-2), 2) := by decide +kernel
theorem dX12_fewest_156 : decode cX12_fewest 156 = .ok (.ireturn, 1) := by decide +kernel
theorem dX12_fewest_157 : decode cX12_fewest 157 = .ok (.aload_n 0, 1) := by decide +kernel
theorem dX12_fewest_158 : decode cX12_fewest 158 = .ok (.iconst 0, 1) := by decide +kernel
theorem dX12_fewest_159 : decode cX12_fewest 159 = .ok (.putfield 113, 3) := by decide +kernel
theorem dX12_fewest_162 : decode cX12_fewest 162 = .ok (.aload_n 0, 1) := by decide +kernel
theorem dX12_fewest_163 : decode cX12_fewest 163 = .ok (.iload 5, 2) := by decide +kernel
theorem dX12_fewest_165 : decode cX12_fewest 165 = .ok (.i2l, 1) := by decide +kernel
theorem dX12_fewest_166 : decode cX12_fewest 166 = .ok (.invokevirtual 329, 3) := by decide +kernel
theorem dX12_fewest_169 : decode cX12_fewest 169 = .ok (.aload_n 0, 1) := by decide +kernel
theorem dX12_fewest_170 : decode cX12_fewest 170 = .ok (.aload_n 0, 1) := by decide +kernel
theorem dX12_fewest_171 : decode cX12_fewest 171 = .ok (.iload 5, 2) := by decide +kernel
theorem dX12_fewest_173 : decode cX12_fewest 173 = .ok (.invokevirtual 361, 3) := by decide +kernel
theorem dX12_fewest_176 : decode cX12_fewest 176 = .ok (.i2l, 1) := by decide +kernel
theorem dX12_fewest_177 : decode cX12_fewest 177 = .ok (.invokevirtual 329, 3) := by decide +kernel
theorem dX12_fewest_180 : decode cX12_fewest 180 = .ok (.iload 5, 2) := by decide +kernel
theorem dX12_fewest_182 : decode cX12_fewest 182 = .ok (.invokestatic 242, 3) := by decide +kernel
theorem dX12_fewest_185 : decode cX12_fewest 185 = .ok (.ireturn, 1) := by decide +kernel
theorem dX12_serves_0 : decode cX12_serves 0 = .ok (.aload_n 0, 1) := by decide +kernel
theorem dX12_serves_1 : decode cX12_serves 1 = .ok (.iconst 0, 1) := by decide +kernel
theorem dX12_serves_2 : decode cX12_serves 2 = .ok (.putfield 109, 3) := by decide +kernel
theorem dX12_serves_5 : decode cX12_serves 5 = .ok (.aload_n 0, 1) := by decide +kernel
theorem dX12_serves_6 : decode cX12_serves 6 = .ok (.iload_n 1, 1) := by decide +kernel
theorem dX12_serves_7 : decode cX12_serves 7 = .ok (.invokevirtual 278, 3) := by decide +kernel
theorem dX12_serves_10 : decode cX12_serves 10 = .ok (.ifCond .eq 13, 3) := by decide +kernel
theorem dX12_serves_13 : decode cX12_serves 13 = .ok (.iload_n 2, 1) := by decide +kernel
theorem dX12_serves_14 : decode cX12_serves 14 = .ok (.iconst 0, 1) := by decide +kernel
theorem dX12_serves_15 : decode cX12_serves 15 = .ok (.bipush 60, 2) := by decide +kernel
theorem dX12_serves_17 : decode cX12_serves 17 = .ok (.invokestatic 119, 3) := by decide +kernel
theorem dX12_serves_20 : decode cX12_serves 20 = .ok (.ifCond .ne 5, 3) := by decide +kernel
theorem dX12_serves_23 : decode cX12_serves 23 = .ok (.iconst (-1), 1) := by decide +kernel
theorem dX12_serves_24 : decode cX12_serves 24 = .ok (.ireturn, 1) := by decide +kernel
theorem dX12_serves_25 : decode cX12_serves 25 = .ok (.bipush (-2), 2) := by decide +kernel
theorem dX12_serves_27 : decode cX12_serves 27 = .ok (.istore_n 3, 1) := by decide +kernel
theorem dX12_serves_28 : decode cX12_serves 28 = .ok (.iconst 0, 1) := by decide +kernel
theorem dX12_serves_29 : decode cX12_serves 29 = .ok (.istore 4, 2) := by decide +kernel
theorem dX12_serves_31 : decode cX12_serves 31 = .ok (.iconst 0, 1) := by decide +kernel
theorem dX12_serves_32 : decode cX12_serves 32 = .ok (.istore 5, 2) := by decide +kernel
theorem dX12_serves_34 : decode cX12_serves 34 = .ok (.iload 5, 2) := by decide +kernel
theorem dX12_serves_36 : decode cX12_serves 36 = .ok (.aload_n 0, 1) := by decide +kernel
theorem dX12_serves_37 : decode cX12_serves 37 = .ok (.getfield 116, 3) := by decide +kernel
theorem dX12_serves_40 : decode cX12_serves 40 = .ok (.if_icmp .ge 66, 3) := by decide +kernel
theorem dX12_serves_43 : decode cX12_serves 43 = .ok (.aload_n 0, 1) := by decide +kernel
theorem dX12_serves_44 : decode cX12_serves 44 = .ok (.iload_n 1, 1) := by decide +kernel
theorem dX12_serves_45 : decode cX12_serves 45 = .ok (.invokevirtual 358, 3) := by decide +kernel
theorem dX12_serves_48 : decode cX12_serves 48 = .ok (.iload 5, 2) := by decide +kernel
theorem dX12_serves_50 : decode cX12_serves 50 = .ok (.invokestatic 265, 3) := by decide +kernel
theorem dX12_serves_53 : decode cX12_serves 53 = .ok (.ifCond .ne 6, 3) := by decide +kernel
theorem dX12_serves_56 : decode cX12_serves 56 = .ok (.goto 44, 3) := by decide +kernel
theorem dX12_serves_59 : decode cX12_serves 59 = .ok (.aload_n 0, 1) := by decide +kernel
theorem dX12_serves_60 : decode cX12_serves 60 = .ok (.iload_n 1, 1) := by decide +kernel
theorem dX12_serves_61 : decode cX12_serves 61 = .ok (.iconst 1, 1) := by decide +kernel
theorem dX12_serves_62 : decode cX12_serves 62 = .ok (.iload 5, 2) := by decide +kernel
theorem dX12_serves_64 : decode cX12_serves 64 = .ok (.ishl, 1) := by decide +kernel
theorem dX12_serves_65 : decode cX12_serves 65 = .ok (.iload_n 2, 1) := by decide +kernel
theorem dX12_serves_66 : decode cX12_serves 66 = .ok (.invokevirtual 364, 3) := by decide +kernel
theorem dX12_serves_69 : decode cX12_serves 69 = .ok (.istore 6, 2) := by decide +kernel
theorem dX12_serves_71 : decode cX12_serves 71 = .ok (.iload_n 3, 1) := by decide +kernel
theorem dX12_serves_72 : decode cX12_serves 72 = .ok (.bipush (-2), 2) := by decide +kernel
theorem dX12_serves_74 : decode cX12_serves 74 = .ok (.if_icmp .eq 19, 3) := by decide +kernel
theorem dX12_serves_77 : decode cX12_serves 77 = .ok (.iload 6, 2) := by decide +kernel
theorem dX12_serves_79 : decode cX12_serves 79 = .ok (.invokestatic 242, 3) := by decide +kernel
theorem dX12_serves_82 : decode cX12_serves 82 = .ok (.iload 4, 2) := by decide +kernel
theorem dX12_serves_84 : decode cX12_serves 84 = .ok (.invokestatic 242, 3) := by decide +kernel
theorem dX12_serves_87 : decode cX12_serves 87 = .ok (.if_icmp .gt 6, 3) := by decide +kernel
theorem dX12_serves_90 : decode cX12_serves 90 = .ok (.goto 10, 3) := by decide +kernel
theorem dX12_serves_93 : decode cX12_serves 93 = .ok (.iload 5, 2) := by decide +kernel
theorem dX12_serves_95 : decode cX12_serves 95 = .ok (.istore_n 3, 1) := by decide +kernel
theorem dX12_serves_96 : decode cX12_serves 96 = .ok (.iload 6, 2) := by decide +kernel
theorem dX12_serves_98 : decode cX12_serves 98 = .ok (.istore 4, 2) := by decide +kernel
theorem dX12_serves_100 : decode cX12_serves 100 = .ok (.iinc 5 1, 3) := by decide +kernel
theorem dX12_serves_103 : decode cX12_serves 103 = .ok (.goto (-69), 3) := by decide +kernel
theorem dX12_serves_106 : decode cX12_serves 106 = .ok (.iload_n 3, 1) := by decide +kernel
theorem dX12_serves_107 : decode cX12_serves 107 = .ok (.bipush (-2), 2) := by decide +kernel
theorem dX12_serves_109 : decode cX12_serves 109 = .ok (.if_icmp .ne 6, 3) := by decide +kernel
theorem dX12_serves_112 : decode cX12_serves 112 = .ok (.bipush (-2), 2) := by decide +kernel
theorem dX12_serves_114 : decode cX12_serves 114 = .ok (.ireturn, 1) := by decide +kernel
theorem dX12_serves_115 : decode cX12_serves 115 = .ok (.aload_n 0, 1) := by decide +kernel
theorem dX12_serves_116 : decode cX12_serves 116 = .ok (.iconst 0, 1) := by decide +kernel
theorem dX12_serves_117 : decode cX12_serves 117 = .ok (.putfield 113, 3) := by decide +kernel
theorem dX12_serves_120 : decode cX12_serves 120 = .ok (.aload_n 0, 1) := by decide +kernel
theorem dX12_serves_121 : decode cX12_serves 121 = .ok (.iload 4, 2) := by decide +kernel
theorem dX12_serves_123 : decode cX12_serves 123 = .ok (.i2l, 1) := by decide +kernel
theorem dX12_serves_124 : decode cX12_serves 124 = .ok (.invokevirtual 329, 3) := by decide +kernel
theorem dX12_serves_127 : decode cX12_serves 127 = .ok (.aload_n 0, 1) := by decide +kernel
theorem dX12_serves_128 : decode cX12_serves 128 = .ok (.aload_n 0, 1) := by decide +kernel
theorem dX12_serves_129 : decode cX12_serves 129 = .ok (.iload_n 1, 1) := by decide +kernel
theorem dX12_serves_130 : decode cX12_serves 130 = .ok (.iconst 0, 1) := by decide +kernel
theorem dX12_serves_131 : decode cX12_serves 131 = .ok (.iload_n 2, 1) := by decide +kernel
theorem dX12_serves_132 : decode cX12_serves 132 = .ok (.invokevirtual 364, 3) := by decide +kernel
theorem dX12_serves_135 : decode cX12_serves 135 = .ok (.i2l, 1) := by decide +kernel
theorem dX12_serves_136 : decode cX12_serves 136 = .ok (.invokevirtual 329, 3) := by decide +kernel
theorem dX12_serves_139 : decode cX12_serves 139 = .ok (.iload_n 3, 1) := by decide +kernel
theorem dX12_serves_140 : decode cX12_serves 140 = .ok (.ireturn, 1) := by decide +kernel
theorem dX12_burdens_0 : decode cX12_burdens 0 = .ok (.aload_n 0, 1) := by decide +kernel
theorem dX12_burdens_1 : decode cX12_burdens 1 = .ok (.iconst 0, 1) := by decide +kernel
theorem dX12_burdens_2 : decode cX12_burdens 2 = .ok (.putfield 109, 3) := by decide +kernel
theorem dX12_burdens_5 : decode cX12_burdens 5 = .ok (.aload_n 0, 1) := by decide +kernel
theorem dX12_burdens_6 : decode cX12_burdens 6 = .ok (.iload_n 1, 1) := by decide +kernel
theorem dX12_burdens_7 : decode cX12_burdens 7 = .ok (.invokevirtual 278, 3) := by decide +kernel
theorem dX12_burdens_10 : decode cX12_burdens 10 = .ok (.ifCond .eq 13, 3) := by decide +kernel
theorem dX12_burdens_13 : decode cX12_burdens 13 = .ok (.iload_n 2, 1) := by decide +kernel
theorem dX12_burdens_14 : decode cX12_burdens 14 = .ok (.iconst 0, 1) := by decide +kernel
theorem dX12_burdens_15 : decode cX12_burdens 15 = .ok (.bipush 60, 2) := by decide +kernel
theorem dX12_burdens_17 : decode cX12_burdens 17 = .ok (.invokestatic 119, 3) := by decide +kernel
theorem dX12_burdens_20 : decode cX12_burdens 20 = .ok (.ifCond .ne 5, 3) := by decide +kernel
theorem dX12_burdens_23 : decode cX12_burdens 23 = .ok (.iconst (-1), 1) := by decide +kernel
theorem dX12_burdens_24 : decode cX12_burdens 24 = .ok (.ireturn, 1) := by decide +kernel
theorem dX12_burdens_25 : decode cX12_burdens 25 = .ok (.bipush (-2), 2) := by decide +kernel
theorem dX12_burdens_27 : decode cX12_burdens 27 = .ok (.istore_n 3, 1) := by decide +kernel
theorem dX12_burdens_28 : decode cX12_burdens 28 = .ok (.iconst 0, 1) := by decide +kernel
theorem dX12_burdens_29 : decode cX12_burdens 29 = .ok (.istore 4, 2) := by decide +kernel
theorem dX12_burdens_31 : decode cX12_burdens 31 = .ok (.iconst 0, 1) := by decide +kernel
theorem dX12_burdens_32 : decode cX12_burdens 32 = .ok (.istore 5, 2) := by decide +kernel
theorem dX12_burdens_34 : decode cX12_burdens 34 = .ok (.iload 5, 2) := by decide +kernel
theorem dX12_burdens_36 : decode cX12_burdens 36 = .ok (.aload_n 0, 1) := by decide +kernel
theorem dX12_burdens_37 : decode cX12_burdens 37 = .ok (.getfield 116, 3) := by decide +kernel
theorem dX12_burdens_40 : decode cX12_burdens 40 = .ok (.if_icmp .ge 111, 3) := by decide +kernel
theorem dX12_burdens_43 : decode cX12_burdens 43 = .ok (.aload_n 0, 1) := by decide +kernel
theorem dX12_burdens_44 : decode cX12_burdens 44 = .ok (.getfield 9, 3) := by decide +kernel
theorem dX12_burdens_47 : decode cX12_burdens 47 = .ok (.bipush 32, 2) := by decide +kernel
theorem dX12_burdens_49 : decode cX12_burdens 49 = .ok (.iload_n 1, 1) := by decide +kernel
theorem dX12_burdens_50 : decode cX12_burdens 50 = .ok (.iadd, 1) := by decide +kernel
theorem dX12_burdens_51 : decode cX12_burdens 51 = .ok (.iaload, 1) := by decide +kernel
theorem dX12_burdens_52 : decode cX12_burdens 52 = .ok (.iload 5, 2) := by decide +kernel
theorem dX12_burdens_54 : decode cX12_burdens 54 = .ok (.invokestatic 265, 3) := by decide +kernel
theorem dX12_burdens_57 : decode cX12_burdens 57 = .ok (.ifCond .ne 6, 3) := by decide +kernel
theorem dX12_burdens_60 : decode cX12_burdens 60 = .ok (.goto 85, 3) := by decide +kernel
theorem dX12_burdens_63 : decode cX12_burdens 63 = .ok (.aload_n 0, 1) := by decide +kernel
theorem dX12_burdens_64 : decode cX12_burdens 64 = .ok (.getfield 9, 3) := by decide +kernel
theorem dX12_burdens_67 : decode cX12_burdens 67 = .ok (.aload_n 0, 1) := by decide +kernel
theorem dX12_burdens_68 : decode cX12_burdens 68 = .ok (.getfield 57, 3) := by decide +kernel
theorem dX12_burdens_71 : decode cX12_burdens 71 = .ok (.iconst 0, 1) := by decide +kernel
theorem dX12_burdens_72 : decode cX12_burdens 72 = .ok (.invokestatic 284, 3) := by decide +kernel
theorem dX12_burdens_75 : decode cX12_burdens 75 = .ok (.aload_n 0, 1) := by decide +kernel
theorem dX12_burdens_76 : decode cX12_burdens 76 = .ok (.getfield 57, 3) := by decide +kernel
theorem dX12_burdens_79 : decode cX12_burdens 79 = .ok (.iload_n 1, 1) := by decide +kernel
theorem dX12_burdens_80 : decode cX12_burdens 80 = .ok (.iload 5, 2) := by decide +kernel
theorem dX12_burdens_82 : decode cX12_burdens 82 = .ok (.invokestatic 305, 3) := by decide +kernel
theorem dX12_burdens_85 : decode cX12_burdens 85 = .ok (.iconst 0, 1) := by decide +kernel
theorem dX12_burdens_86 : decode cX12_burdens 86 = .ok (.istore 6, 2) := by decide +kernel
theorem dX12_burdens_88 : decode cX12_burdens 88 = .ok (.iload 6, 2) := by decide +kernel
theorem dX12_burdens_90 : decode cX12_burdens 90 = .ok (.iload_n 2, 1) := by decide +kernel
theorem dX12_burdens_91 : decode cX12_burdens 91 = .ok (.if_icmp .ge 14, 3) := by decide +kernel
theorem dX12_burdens_94 : decode cX12_burdens 94 = .ok (.aload_n 0, 1) := by decide +kernel
theorem dX12_burdens_95 : decode cX12_burdens 95 = .ok (.iload_n 1, 1) := by decide +kernel
theorem dX12_burdens_96 : decode cX12_burdens 96 = .ok (.invokevirtual 351, 3) := by decide +kernel
theorem dX12_burdens_99 : decode cX12_burdens 99 = .ok (.iinc 6 1, 3) := by decide +kernel
theorem dX12_burdens_102 : decode cX12_burdens 102 = .ok (.goto (-14), 3) := by decide +kernel
theorem dX12_burdens_105 : decode cX12_burdens 105 = .ok (.aload_n 0, 1) := by decide +kernel
theorem dX12_burdens_106 : decode cX12_burdens 106 = .ok (.aload_n 0, 1) := by decide +kernel
theorem dX12_burdens_107 : decode cX12_burdens 107 = .ok (.getfield 57, 3) := by decide +kernel
theorem dX12_burdens_110 : decode cX12_burdens 110 = .ok (.iload_n 1, 1) := by decide +kernel
theorem dX12_burdens_111 : decode cX12_burdens 111 = .ok (.invokevirtual 261, 3) := by decide +kernel
theorem dX12_burdens_114 : decode cX12_burdens 114 = .ok (.istore 6, 2) := by decide +kernel
theorem dX12_burdens_116 : decode cX12_burdens 116 = .ok (.iload_n 3, 1) := by decide +kernel
theorem dX12_burdens_117 : decode cX12_burdens 117 = .ok (.bipush (-2), 2) := by decide +kernel
theorem dX12_burdens_119 : decode cX12_burdens 119 = .ok (.if_icmp .eq 19, 3) := by decide +kernel
theorem dX12_burdens_122 : decode cX12_burdens 122 = .ok (.iload 6, 2) := by decide +kernel
theorem dX12_burdens_124 : decode cX12_burdens 124 = .ok (.invokestatic 242, 3) := by decide +kernel
theorem dX12_burdens_127 : decode cX12_burdens 127 = .ok (.iload 4, 2) := by decide +kernel
theorem dX12_burdens_129 : decode cX12_burdens 129 = .ok (.invokestatic 242, 3) := by decide +kernel
theorem dX12_burdens_132 : decode cX12_burdens 132 = .ok (.if_icmp .gt 6, 3) := by decide +kernel
theorem dX12_burdens_135 : decode cX12_burdens 135 = .ok (.goto 10, 3) := by decide +kernel
theorem dX12_burdens_138 : decode cX12_burdens 138 = .ok (.iload 5, 2) := by decide +kernel
theorem dX12_burdens_140 : decode cX12_burdens 140 = .ok (.istore_n 3, 1) := by decide +kernel
theorem dX12_burdens_141 : decode cX12_burdens 141 = .ok (.iload 6, 2) := by decide +kernel
theorem dX12_burdens_143 : decode cX12_burdens 143 = .ok (.istore 4, 2) := by decide +kernel
theorem dX12_burdens_145 : decode cX12_burdens 145 = .ok (.iinc 5 1, 3) := by decide +kernel
theorem dX12_burdens_148 : decode cX12_burdens 148 = .ok (.goto (-114), 3) := by decide +kernel
theorem dX12_burdens_151 : decode cX12_burdens 151 = .ok (.iload_n 3, 1) := by decide +kernel
theorem dX12_burdens_152 : decode cX12_burdens 152 = .ok (.bipush (-2), 2) := by decide +kernel
theorem dX12_burdens_154 : decode cX12_burdens 154 = .ok (.if_icmp .ne 6, 3) := by decide +kernel
theorem dX12_burdens_157 : decode cX12_burdens 157 = .ok (.bipush (-2), 2) := by decide +kernel
theorem dX12_burdens_159 : decode cX12_burdens 159 = .ok (.ireturn, 1) := by decide +kernel
theorem dX12_burdens_160 : decode cX12_burdens 160 = .ok (.aload_n 0, 1) := by decide +kernel
theorem dX12_burdens_161 : decode cX12_burdens 161 = .ok (.iconst 0, 1) := by decide +kernel
theorem dX12_burdens_162 : decode cX12_burdens 162 = .ok (.putfield 113, 3) := by decide +kernel
theorem dX12_burdens_165 : decode cX12_burdens 165 = .ok (.aload_n 0, 1) := by decide +kernel
theorem dX12_burdens_166 : decode cX12_burdens 166 = .ok (.iload 4, 2) := by decide +kernel
theorem dX12_burdens_168 : decode cX12_burdens 168 = .ok (.i2l, 1) := by decide +kernel
theorem dX12_burdens_169 : decode cX12_burdens 169 = .ok (.invokevirtual 329, 3) := by decide +kernel
theorem dX12_burdens_172 : decode cX12_burdens 172 = .ok (.iload_n 3, 1) := by decide +kernel
theorem dX12_burdens_173 : decode cX12_burdens 173 = .ok (.ireturn, 1) := by decide +kernel
theorem dX12_doQuarrel_0 : decode cX12_doQuarrel 0 = .ok (.iconst 0, 1) := by decide +kernel
theorem dX12_doQuarrel_1 : decode cX12_doQuarrel 1 = .ok (.istore 4, 2) := by decide +kernel
theorem dX12_doQuarrel_3 : decode cX12_doQuarrel 3 = .ok (.iload 4, 2) := by decide +kernel
theorem dX12_doQuarrel_5 : decode cX12_doQuarrel 5 = .ok (.iconst 4, 1) := by decide +kernel
theorem dX12_doQuarrel_6 : decode cX12_doQuarrel 6 = .ok (.if_icmp .ge 61, 3) := by decide +kernel
theorem dX12_doQuarrel_9 : decode cX12_doQuarrel 9 = .ok (.aload_n 0, 1) := by decide +kernel
theorem dX12_doQuarrel_10 : decode cX12_doQuarrel 10 = .ok (.getfield 16, 3) := by decide +kernel
theorem dX12_doQuarrel_13 : decode cX12_doQuarrel 13 = .ok (.iconst 4, 1) := by decide +kernel
theorem dX12_doQuarrel_14 : decode cX12_doQuarrel 14 = .ok (.iload_n 1, 1) := by decide +kernel
theorem dX12_doQuarrel_15 : decode cX12_doQuarrel 15 = .ok (.imul, 1) := by decide +kernel
theorem dX12_doQuarrel_16 : decode cX12_doQuarrel 16 = .ok (.iload 4, 2) := by decide +kernel
theorem dX12_doQuarrel_18 : decode cX12_doQuarrel 18 = .ok (.iadd, 1) := by decide +kernel
theorem dX12_doQuarrel_19 : decode cX12_doQuarrel 19 = .ok (.iaload, 1) := by decide +kernel
theorem dX12_doQuarrel_20 : decode cX12_doQuarrel 20 = .ok (.istore 5, 2) := by decide +kernel
theorem dX12_doQuarrel_22 : decode cX12_doQuarrel 22 = .ok (.aload_n 0, 1) := by decide +kernel
theorem dX12_doQuarrel_23 : decode cX12_doQuarrel 23 = .ok (.getfield 16, 3) := by decide +kernel
theorem dX12_doQuarrel_26 : decode cX12_doQuarrel 26 = .ok (.iconst 4, 1) := by decide +kernel
theorem dX12_doQuarrel_27 : decode cX12_doQuarrel 27 = .ok (.iload_n 2, 1) := by decide +kernel
theorem dX12_doQuarrel_28 : decode cX12_doQuarrel 28 = .ok (.imul, 1) := by decide +kernel
theorem dX12_doQuarrel_29 : decode cX12_doQuarrel 29 = .ok (.iload 4, 2) := by decide +kernel
theorem dX12_doQuarrel_31 : decode cX12_doQuarrel 31 = .ok (.iadd, 1) := by decide +kernel
theorem dX12_doQuarrel_32 : decode cX12_doQuarrel 32 = .ok (.iaload, 1) := by decide +kernel
theorem dX12_doQuarrel_33 : decode cX12_doQuarrel 33 = .ok (.istore 6, 2) := by decide +kernel
theorem dX12_doQuarrel_35 : decode cX12_doQuarrel 35 = .ok (.iload 5, 2) := by decide +kernel
theorem dX12_doQuarrel_37 : decode cX12_doQuarrel 37 = .ok (.iconst (-1), 1) := by decide +kernel
theorem dX12_doQuarrel_38 : decode cX12_doQuarrel 38 = .ok (.if_icmp .eq 23, 3) := by decide +kernel
theorem dX12_doQuarrel_41 : decode cX12_doQuarrel 41 = .ok (.iload 6, 2) := by decide +kernel
theorem dX12_doQuarrel_43 : decode cX12_doQuarrel 43 = .ok (.iconst (-1), 1) := by decide +kernel
theorem dX12_doQuarrel_44 : decode cX12_doQuarrel 44 = .ok (.if_icmp .eq 17, 3) := by decide +kernel
theorem dX12_doQuarrel_47 : decode cX12_doQuarrel 47 = .ok (.iload 5, 2) := by decide +kernel
theorem dX12_doQuarrel_49 : decode cX12_doQuarrel 49 = .ok (.iload 6, 2) := by decide +kernel
theorem dX12_doQuarrel_51 : decode cX12_doQuarrel 51 = .ok (.isub, 1) := by decide +kernel
theorem dX12_doQuarrel_52 : decode cX12_doQuarrel 52 = .ok (.invokestatic 348, 3) := by decide +kernel
theorem dX12_doQuarrel_55 : decode cX12_doQuarrel 55 = .ok (.iload_n 3, 1) := by decide +kernel
theorem dX12_doQuarrel_56 : decode cX12_doQuarrel 56 = .ok (.if_icmp .le 5, 3) := by decide +kernel
theorem dX12_doQuarrel_59 : decode cX12_doQuarrel 59 = .ok (.iconst 1, 1) := by decide +kernel
theorem dX12_doQuarrel_60 : decode cX12_doQuarrel 60 = .ok (.ireturn, 1) := by decide +kernel
theorem dX12_doQuarrel_61 : decode cX12_doQuarrel 61 = .ok (.iinc 4 1, 3) := by decide +kernel
theorem dX12_doQuarrel_64 : decode cX12_doQuarrel 64 = .ok (.goto (-61), 3) := by decide +kernel
theorem dX12_doQuarrel_67 : decode cX12_doQuarrel 67 = .ok (.iconst 0, 1) := by decide +kernel
theorem dX12_doQuarrel_68 : decode cX12_doQuarrel 68 = .ok (.ireturn, 1) := by decide +kernel
theorem dX12_quarrels_0 : decode cX12_quarrels 0 = .ok (.aload_n 0, 1) := by decide +kernel
theorem dX12_quarrels_1 : decode cX12_quarrels 1 = .ok (.iconst 0, 1) := by decide +kernel
theorem dX12_quarrels_2 : decode cX12_quarrels 2 = .ok (.putfield 109, 3) := by decide +kernel
theorem dX12_quarrels_5 : decode cX12_quarrels 5 = .ok (.iload_n 1, 1) := by decide +kernel
theorem dX12_quarrels_6 : decode cX12_quarrels 6 = .ok (.iconst 0, 1) := by decide +kernel
theorem dX12_quarrels_7 : decode cX12_quarrels 7 = .ok (.bipush 9, 2) := by decide +kernel
theorem dX12_quarrels_9 : decode cX12_quarrels 9 = .ok (.invokestatic 119, 3) := by decide +kernel
theorem dX12_quarrels_12 : decode cX12_quarrels 12 = .ok (.ifCond .ne 5, 3) := by decide +kernel
theorem dX12_quarrels_15 : decode cX12_quarrels 15 = .ok (.iconst (-1), 1) := by decide +kernel
theorem dX12_quarrels_16 : decode cX12_quarrels 16 = .ok (.ireturn, 1) := by decide +kernel
theorem dX12_quarrels_17 : decode cX12_quarrels 17 = .ok (.iconst 0, 1) := by decide +kernel
theorem dX12_quarrels_18 : decode cX12_quarrels 18 = .ok (.istore_n 2, 1) := by decide +kernel
theorem dX12_quarrels_19 : decode cX12_quarrels 19 = .ok (.aload_n 0, 1) := by decide +kernel
theorem dX12_quarrels_20 : decode cX12_quarrels 20 = .ok (.iconst 0, 1) := by decide +kernel
theorem dX12_quarrels_21 : decode cX12_quarrels 21 = .ok (.putfield 113, 3) := by decide +kernel
theorem dX12_quarrels_24 : decode cX12_quarrels 24 = .ok (.iconst 0, 1) := by decide +kernel
theorem dX12_quarrels_25 : decode cX12_quarrels 25 = .ok (.istore_n 3, 1) := by decide +kernel
theorem dX12_quarrels_26 : decode cX12_quarrels 26 = .ok (.iload_n 3, 1) := by decide +kernel
theorem dX12_quarrels_27 : decode cX12_quarrels 27 = .ok (.aload_n 0, 1) := by decide +kernel
theorem dX12_quarrels_28 : decode cX12_quarrels 28 = .ok (.getfield 116, 3) := by decide +kernel
theorem dX12_quarrels_31 : decode cX12_quarrels 31 = .ok (.if_icmp .ge 63, 3) := by decide +kernel
theorem dX12_quarrels_34 : decode cX12_quarrels 34 = .ok (.iload_n 3, 1) := by decide +kernel
theorem dX12_quarrels_35 : decode cX12_quarrels 35 = .ok (.iconst 1, 1) := by decide +kernel
theorem dX12_quarrels_36 : decode cX12_quarrels 36 = .ok (.iadd, 1) := by decide +kernel
theorem dX12_quarrels_37 : decode cX12_quarrels 37 = .ok (.istore 4, 2) := by decide +kernel
theorem dX12_quarrels_39 : decode cX12_quarrels 39 = .ok (.iload 4, 2) := by decide +kernel
theorem dX12_quarrels_41 : decode cX12_quarrels 41 = .ok (.aload_n 0, 1) := by decide +kernel
theorem dX12_quarrels_42 : decode cX12_quarrels 42 = .ok (.getfield 116, 3) := by decide +kernel
theorem dX12_quarrels_45 : decode cX12_quarrels 45 = .ok (.if_icmp .ge 43, 3) := by decide +kernel
theorem dX12_quarrels_48 : decode cX12_quarrels 48 = .ok (.aload_n 0, 1) := by decide +kernel
theorem dX12_quarrels_49 : decode cX12_quarrels 49 = .ok (.iload_n 3, 1) := by decide +kernel
theorem dX12_quarrels_50 : decode cX12_quarrels 50 = .ok (.iload 4, 2) := by decide +kernel
theorem dX12_quarrels_52 : decode cX12_quarrels 52 = .ok (.iload_n 1, 1) := by decide +kernel
theorem dX12_quarrels_53 : decode cX12_quarrels 53 = .ok (.invokevirtual 368, 3) := by decide +kernel
theorem dX12_quarrels_56 : decode cX12_quarrels 56 = .ok (.ifCond .ne 6, 3) := by decide +kernel
theorem dX12_quarrels_59 : decode cX12_quarrels 59 = .ok (.goto 23, 3) := by decide +kernel
theorem dX12_quarrels_62 : decode cX12_quarrels 62 = .ok (.iload_n 2, 1) := by decide +kernel
theorem dX12_quarrels_63 : decode cX12_quarrels 63 = .ok (.ifCond .ne 16, 3) := by decide +kernel
theorem dX12_quarrels_66 : decode cX12_quarrels 66 = .ok (.aload_n 0, 1) := by decide +kernel
theorem dX12_quarrels_67 : decode cX12_quarrels 67 = .ok (.iload_n 3, 1) := by decide +kernel
theorem dX12_quarrels_68 : decode cX12_quarrels 68 = .ok (.i2l, 1) := by decide +kernel
theorem dX12_quarrels_69 : decode cX12_quarrels 69 = .ok (.invokevirtual 329, 3) := by decide +kernel
theorem dX12_quarrels_72 : decode cX12_quarrels 72 = .ok (.aload_n 0, 1) := by decide +kernel
theorem dX12_quarrels_73 : decode cX12_quarrels 73 = .ok (.iload 4, 2) := by decide +kernel
theorem dX12_quarrels_75 : decode cX12_quarrels 75 = .ok (.i2l, 1) := by decide +kernel
theorem dX12_quarrels_76 : decode cX12_quarrels 76 = .ok (.invokevirtual 329, 3) := by decide +kernel
theorem dX12_quarrels_79 : decode cX12_quarrels 79 = .ok (.iinc 2 1, 3) := by decide +kernel
theorem dX12_quarrels_82 : decode cX12_quarrels 82 = .ok (.iinc 4 1, 3) := by decide +kernel
theorem dX12_quarrels_85 : decode cX12_quarrels 85 = .ok (.goto (-46), 3) := by decide +kernel
theorem dX12_quarrels_88 : decode cX12_quarrels 88 = .ok (.iinc 3 1, 3) := by decide +kernel
theorem dX12_quarrels_91 : decode cX12_quarrels 91 = .ok (.goto (-65), 3) := by decide +kernel
theorem dX12_quarrels_94 : decode cX12_quarrels 94 = .ok (.iload_n 2, 1) := by decide +kernel
theorem dX12_quarrels_95 : decode cX12_quarrels 95 = .ok (.ireturn, 1) := by decide +kernel
theorem dX12_isPeace_0 : decode cX12_isPeace 0 = .ok (.iconst 0, 1) := by decide +kernel
theorem dX12_isPeace_1 : decode cX12_isPeace 1 = .ok (.istore_n 3, 1) := by decide +kernel
theorem dX12_isPeace_2 : decode cX12_isPeace 2 = .ok (.iload_n 3, 1) := by decide +kernel
theorem dX12_isPeace_3 : decode cX12_isPeace 3 = .ok (.aload_n 0, 1) := by decide +kernel
theorem dX12_isPeace_4 : decode cX12_isPeace 4 = .ok (.getfield 116, 3) := by decide +kernel
theorem dX12_isPeace_7 : decode cX12_isPeace 7 = .ok (.if_icmp .ge 59, 3) := by decide +kernel
theorem dX12_isPeace_10 : decode cX12_isPeace 10 = .ok (.iload_n 3, 1) := by decide +kernel
theorem dX12_isPeace_11 : decode cX12_isPeace 11 = .ok (.iconst 1, 1) := by decide +kernel
theorem dX12_isPeace_12 : decode cX12_isPeace 12 = .ok (.iadd, 1) := by decide +kernel
theorem dX12_isPeace_13 : decode cX12_isPeace 13 = .ok (.istore 4, 2) := by decide +kernel
theorem dX12_isPeace_15 : decode cX12_isPeace 15 = .ok (.iload 4, 2) := by decide +kernel
theorem dX12_isPeace_17 : decode cX12_isPeace 17 = .ok (.aload_n 0, 1) := by decide +kernel
theorem dX12_isPeace_18 : decode cX12_isPeace 18 = .ok (.getfield 116, 3) := by decide +kernel
theorem dX12_isPeace_21 : decode cX12_isPeace 21 = .ok (.if_icmp .ge 39, 3) := by decide +kernel
theorem dX12_isPeace_24 : decode cX12_isPeace 24 = .ok (.iload_n 1, 1) := by decide +kernel
theorem dX12_isPeace_25 : decode cX12_isPeace 25 = .ok (.iload_n 3, 1) := by decide +kernel
theorem dX12_isPeace_26 : decode cX12_isPeace 26 = .ok (.invokestatic 265, 3) := by decide +kernel
theorem dX12_isPeace_29 : decode cX12_isPeace 29 = .ok (.ifCond .eq 25, 3) := by decide +kernel
theorem dX12_isPeace_32 : decode cX12_isPeace 32 = .ok (.iload_n 1, 1) := by decide +kernel
theorem dX12_isPeace_33 : decode cX12_isPeace 33 = .ok (.iload 4, 2) := by decide +kernel
theorem dX12_isPeace_35 : decode cX12_isPeace 35 = .ok (.invokestatic 265, 3) := by decide +kernel
theorem dX12_isPeace_38 : decode cX12_isPeace 38 = .ok (.ifCond .eq 16, 3) := by decide +kernel
theorem dX12_isPeace_41 : decode cX12_isPeace 41 = .ok (.aload_n 0, 1) := by decide +kernel
theorem dX12_isPeace_42 : decode cX12_isPeace 42 = .ok (.iload_n 3, 1) := by decide +kernel
theorem dX12_isPeace_43 : decode cX12_isPeace 43 = .ok (.iload 4, 2) := by decide +kernel
theorem dX12_isPeace_45 : decode cX12_isPeace 45 = .ok (.iload_n 2, 1) := by decide +kernel
theorem dX12_isPeace_46 : decode cX12_isPeace 46 = .ok (.invokevirtual 368, 3) := by decide +kernel
theorem dX12_isPeace_49 : decode cX12_isPeace 49 = .ok (.ifCond .eq 5, 3) := by decide +kernel
theorem dX12_isPeace_52 : decode cX12_isPeace 52 = .ok (.iconst 0, 1) := by decide +kernel
theorem dX12_isPeace_53 : decode cX12_isPeace 53 = .ok (.ireturn, 1) := by decide +kernel
theorem dX12_isPeace_54 : decode cX12_isPeace 54 = .ok (.iinc 4 1, 3) := by decide +kernel
theorem dX12_isPeace_57 : decode cX12_isPeace 57 = .ok (.goto (-42), 3) := by decide +kernel
theorem dX12_isPeace_60 : decode cX12_isPeace 60 = .ok (.iinc 3 1, 3) := by decide +kernel
theorem dX12_isPeace_63 : decode cX12_isPeace 63 = .ok (.goto (-61), 3) := by decide +kernel
theorem dX12_isPeace_66 : decode cX12_isPeace 66 = .ok (.iconst 1, 1) := by decide +kernel
theorem dX12_isPeace_67 : decode cX12_isPeace 67 = .ok (.ireturn, 1) := by decide +kernel
theorem dX12_peace_0 : decode cX12_peace 0 = .ok (.aload_n 0, 1) := by decide +kernel
theorem dX12_peace_1 : decode cX12_peace 1 = .ok (.iconst 0, 1) := by decide +kernel
theorem dX12_peace_2 : decode cX12_peace 2 = .ok (.putfield 109, 3) := by decide +kernel
theorem dX12_peace_5 : decode cX12_peace 5 = .ok (.iload_n 1, 1) := by decide +kernel
theorem dX12_peace_6 : decode cX12_peace 6 = .ok (.iconst 0, 1) := by decide +kernel
theorem dX12_peace_7 : decode cX12_peace 7 = .ok (.bipush 9, 2) := by decide +kernel
theorem dX12_peace_9 : decode cX12_peace 9 = .ok (.invokestatic 119, 3) := by decide +kernel
theorem dX12_peace_12 : decode cX12_peace 12 = .ok (.ifCond .ne 5, 3) := by decide +kernel
theorem dX12_peace_15 : decode cX12_peace 15 = .ok (.iconst (-1), 1) := by decide +kernel
theorem dX12_peace_16 : decode cX12_peace 16 = .ok (.ireturn, 1) := by decide +kernel
theorem dX12_peace_17 : decode cX12_peace 17 = .ok (.iconst 0, 1) := by decide +kernel
theorem dX12_peace_18 : decode cX12_peace 18 = .ok (.istore_n 2, 1) := by decide +kernel
theorem dX12_peace_19 : decode cX12_peace 19 = .ok (.iconst 1, 1) := by decide +kernel
theorem dX12_peace_20 : decode cX12_peace 20 = .ok (.istore_n 3, 1) := by decide +kernel
theorem dX12_peace_21 : decode cX12_peace 21 = .ok (.iload_n 3, 1) := by decide +kernel
theorem dX12_peace_22 : decode cX12_peace 22 = .ok (.aload_n 0, 1) := by decide +kernel
theorem dX12_peace_23 : decode cX12_peace 23 = .ok (.invokevirtual 371, 3) := by decide +kernel
theorem dX12_peace_26 : decode cX12_peace 26 = .ok (.if_icmp .gt 31, 3) := by decide +kernel
theorem dX12_peace_29 : decode cX12_peace 29 = .ok (.iload_n 3, 1) := by decide +kernel
theorem dX12_peace_30 : decode cX12_peace 30 = .ok (.invokestatic 242, 3) := by decide +kernel
theorem dX12_peace_33 : decode cX12_peace 33 = .ok (.iload_n 2, 1) := by decide +kernel
theorem dX12_peace_34 : decode cX12_peace 34 = .ok (.invokestatic 242, 3) := by decide +kernel
theorem dX12_peace_37 : decode cX12_peace 37 = .ok (.if_icmp .le 14, 3) := by decide +kernel
theorem dX12_peace_40 : decode cX12_peace 40 = .ok (.aload_n 0, 1) := by decide +kernel
theorem dX12_peace_41 : decode cX12_peace 41 = .ok (.iload_n 3, 1) := by decide +kernel
theorem dX12_peace_42 : decode cX12_peace 42 = .ok (.iload_n 1, 1) := by decide +kernel
theorem dX12_peace_43 : decode cX12_peace 43 = .ok (.invokevirtual 374, 3) := by decide +kernel
theorem dX12_peace_46 : decode cX12_peace 46 = .ok (.ifCond .eq 5, 3) := by decide +kernel
theorem dX12_peace_49 : decode cX12_peace 49 = .ok (.iload_n 3, 1) := by decide +kernel
theorem dX12_peace_50 : decode cX12_peace 50 = .ok (.istore_n 2, 1) := by decide +kernel
theorem dX12_peace_51 : decode cX12_peace 51 = .ok (.iinc 3 1, 3) := by decide +kernel
theorem dX12_peace_54 : decode cX12_peace 54 = .ok (.goto (-33), 3) := by decide +kernel
theorem dX12_peace_57 : decode cX12_peace 57 = .ok (.aload_n 0, 1) := by decide +kernel
theorem dX12_peace_58 : decode cX12_peace 58 = .ok (.iconst 0, 1) := by decide +kernel
theorem dX12_peace_59 : decode cX12_peace 59 = .ok (.putfield 113, 3) := by decide +kernel
theorem dX12_peace_62 : decode cX12_peace 62 = .ok (.aload_n 0, 1) := by decide +kernel
theorem dX12_peace_63 : decode cX12_peace 63 = .ok (.iload_n 2, 1) := by decide +kernel
theorem dX12_peace_64 : decode cX12_peace 64 = .ok (.i2l, 1) := by decide +kernel
theorem dX12_peace_65 : decode cX12_peace 65 = .ok (.invokevirtual 329, 3) := by decide +kernel
theorem dX12_peace_68 : decode cX12_peace 68 = .ok (.iload_n 2, 1) := by decide +kernel
theorem dX12_peace_69 : decode cX12_peace 69 = .ok (.invokestatic 242, 3) := by decide +kernel
theorem dX12_peace_72 : decode cX12_peace 72 = .ok (.ireturn, 1) := by decide +kernel
theorem dX12_pulls_0 : decode cX12_pulls 0 = .ok (.aload_n 0, 1) := by decide +kernel
theorem dX12_pulls_1 : decode cX12_pulls 1 = .ok (.iconst 0, 1) := by decide +kernel
theorem dX12_pulls_2 : decode cX12_pulls 2 = .ok (.putfield 109, 3) := by decide +kernel
theorem dX12_pulls_5 : decode cX12_pulls 5 = .ok (.iload_n 1, 1) := by decide +kernel
theorem dX12_pulls_6 : decode cX12_pulls 6 = .ok (.iconst 0, 1) := by decide +kernel
theorem dX12_pulls_7 : decode cX12_pulls 7 = .ok (.aload_n 0, 1) := by decide +kernel
theorem dX12_pulls_8 : decode cX12_pulls 8 = .ok (.invokevirtual 371, 3) := by decide +kernel
theorem dX12_pulls_11 : decode cX12_pulls 11 = .ok (.invokestatic 119, 3) := by decide +kernel
theorem dX12_pulls_14 : decode cX12_pulls 14 = .ok (.ifCond .ne 5, 3) := by decide +kernel
theorem dX12_pulls_17 : decode cX12_pulls 17 = .ok (.iconst (-1), 1) := by decide +kernel
theorem dX12_pulls_18 : decode cX12_pulls 18 = .ok (.ireturn, 1) := by decide +kernel
theorem dX12_pulls_19 : decode cX12_pulls 19 = .ok (.iconst 0, 1) := by decide +kernel
theorem dX12_pulls_20 : decode cX12_pulls 20 = .ok (.istore_n 2, 1) := by decide +kernel
theorem dX12_pulls_21 : decode cX12_pulls 21 = .ok (.aload_n 0, 1) := by decide +kernel
theorem dX12_pulls_22 : decode cX12_pulls 22 = .ok (.iconst 0, 1) := by decide +kernel
theorem dX12_pulls_23 : decode cX12_pulls 23 = .ok (.putfield 113, 3) := by decide +kernel
theorem dX12_pulls_26 : decode cX12_pulls 26 = .ok (.iconst 0, 1) := by decide +kernel
theorem dX12_pulls_27 : decode cX12_pulls 27 = .ok (.istore_n 3, 1) := by decide +kernel
theorem dX12_pulls_28 : decode cX12_pulls 28 = .ok (.iload_n 3, 1) := by decide +kernel
theorem dX12_pulls_29 : decode cX12_pulls 29 = .ok (.iconst 4, 1) := by decide +kernel
theorem dX12_pulls_30 : decode cX12_pulls 30 = .ok (.if_icmp .ge 115, 3) := by decide +kernel
theorem dX12_pulls_33 : decode cX12_pulls 33 = .ok (.iconst 0, 1) := by decide +kernel
theorem dX12_pulls_34 : decode cX12_pulls 34 = .ok (.istore 4, 2) := by decide +kernel
theorem dX12_pulls_36 : decode cX12_pulls 36 = .ok (.iconst 0, 1) := by decide +kernel
theorem dX12_pulls_37 : decode cX12_pulls 37 = .ok (.istore 5, 2) := by decide +kernel
theorem dX12_pulls_39 : decode cX12_pulls 39 = .ok (.iconst 0, 1) := by decide +kernel
theorem dX12_pulls_40 : decode cX12_pulls 40 = .ok (.istore 6, 2) := by decide +kernel
theorem dX12_pulls_42 : decode cX12_pulls 42 = .ok (.iload 6, 2) := by decide +kernel
theorem dX12_pulls_44 : decode cX12_pulls 44 = .ok (.aload_n 0, 1) := by decide +kernel
theorem dX12_pulls_45 : decode cX12_pulls 45 = .ok (.getfield 116, 3) := by decide +kernel
theorem dX12_pulls_48 : decode cX12_pulls 48 = .ok (.if_icmp .ge 55, 3) := by decide +kernel
theorem dX12_pulls_51 : decode cX12_pulls 51 = .ok (.iload_n 1, 1) := by decide +kernel
theorem dX12_pulls_52 : decode cX12_pulls 52 = .ok (.iload 6, 2) := by decide +kernel
theorem dX12_pulls_54 : decode cX12_pulls 54 = .ok (.invokestatic 265, 3) := by decide +kernel
theorem dX12_pulls_57 : decode cX12_pulls 57 = .ok (.ifCond .eq 40, 3) := by decide +kernel
theorem dX12_pulls_60 : decode cX12_pulls 60 = .ok (.aload_n 0, 1) := by decide +kernel
theorem dX12_pulls_61 : decode cX12_pulls 61 = .ok (.getfield 16, 3) := by decide +kernel
theorem dX12_pulls_64 : decode cX12_pulls 64 = .ok (.iconst 4, 1) := by decide +kernel
theorem dX12_pulls_65 : decode cX12_pulls 65 = .ok (.iload 6, 2) := by decide +kernel
theorem dX12_pulls_67 : decode cX12_pulls 67 = .ok (.imul, 1) := by decide +kernel
theorem dX12_pulls_68 : decode cX12_pulls 68 = .ok (.iload_n 3, 1) := by decide +kernel
theorem dX12_pulls_69 : decode cX12_pulls 69 = .ok (.iadd, 1) := by decide +kernel
theorem dX12_pulls_70 : decode cX12_pulls 70 = .ok (.iaload, 1) := by decide +kernel
theorem dX12_pulls_71 : decode cX12_pulls 71 = .ok (.iconst (-1), 1) := by decide +kernel
theorem dX12_pulls_72 : decode cX12_pulls 72 = .ok (.if_icmp .ne 6, 3) := by decide +kernel
theorem dX12_pulls_75 : decode cX12_pulls 75 = .ok (.goto 22, 3) := by decide +kernel
theorem dX12_pulls_78 : decode cX12_pulls 78 = .ok (.iload 4, 2) := by decide +kernel
theorem dX12_pulls_80 : decode cX12_pulls 80 = .ok (.aload_n 0, 1) := by decide +kernel
theorem dX12_pulls_81 : decode cX12_pulls 81 = .ok (.getfield 16, 3) := by decide +kernel
theorem dX12_pulls_84 : decode cX12_pulls 84 = .ok (.iconst 4, 1) := by decide +kernel
theorem dX12_pulls_85 : decode cX12_pulls 85 = .ok (.iload 6, 2) := by decide +kernel
theorem dX12_pulls_87 : decode cX12_pulls 87 = .ok (.imul, 1) := by decide +kernel
theorem dX12_pulls_88 : decode cX12_pulls 88 = .ok (.iload_n 3, 1) := by decide +kernel
theorem dX12_pulls_89 : decode cX12_pulls 89 = .ok (.iadd, 1) := by decide +kernel
theorem dX12_pulls_90 : decode cX12_pulls 90 = .ok (.iaload, 1) := by decide +kernel
theorem dX12_pulls_91 : decode cX12_pulls 91 = .ok (.iadd, 1) := by decide +kernel
theorem dX12_pulls_92 : decode cX12_pulls 92 = .ok (.istore 4, 2) := by decide +kernel
theorem dX12_pulls_94 : decode cX12_pulls 94 = .ok (.iinc 5 1, 3) := by decide +kernel
theorem dX12_pulls_97 : decode cX12_pulls 97 = .ok (.iinc 6 1, 3) := by decide +kernel
theorem dX12_pulls_100 : decode cX12_pulls 100 = .ok (.goto (-58), 3) := by decide +kernel
theorem dX12_pulls_103 : decode cX12_pulls 103 = .ok (.iload_n 2, 1) := by decide +kernel
theorem dX12_pulls_104 : decode cX12_pulls 104 = .ok (.iload 5, 2) := by decide +kernel
theorem dX12_pulls_106 : decode cX12_pulls 106 = .ok (.ifCond .le 9, 3) := by decide +kernel
theorem dX12_pulls_109 : decode cX12_pulls 109 = .ok (.iconst 1, 1) := by decide +kernel
theorem dX12_pulls_110 : decode cX12_pulls 110 = .ok (.iload_n 3, 1) := by decide +kernel
theorem dX12_pulls_111 : decode cX12_pulls 111 = .ok (.ishl, 1) := by decide +kernel
theorem dX12_pulls_112 : decode cX12_pulls 112 = .ok (.goto 4, 3) := by decide +kernel
theorem dX12_pulls_115 : decode cX12_pulls 115 = .ok (.iconst 0, 1) := by decide +kernel
theorem dX12_pulls_116 : decode cX12_pulls 116 = .ok (.ior, 1) := by decide +kernel
theorem dX12_pulls_117 : decode cX12_pulls 117 = .ok (.istore_n 2, 1) := by decide +kernel
theorem dX12_pulls_118 : decode cX12_pulls 118 = .ok (.aload_n 0, 1) := by decide +kernel
theorem dX12_pulls_119 : decode cX12_pulls 119 = .ok (.iload 5, 2) := by decide +kernel
theorem dX12_pulls_121 : decode cX12_pulls 121 = .ok (.ifCond .le 12, 3) := by decide +kernel
theorem dX12_pulls_124 : decode cX12_pulls 124 = .ok (.iload 4, 2) := by decide +kernel
theorem dX12_pulls_126 : decode cX12_pulls 126 = .ok (.iload 5, 2) := by decide +kernel
theorem dX12_pulls_128 : decode cX12_pulls 128 = .ok (.idiv, 1) := by decide +kernel
theorem dX12_pulls_129 : decode cX12_pulls 129 = .ok (.i2l, 1) := by decide +kernel
theorem dX12_pulls_130 : decode cX12_pulls 130 = .ok (.goto 6, 3) := by decide +kernel
theorem dX12_pulls_133 : decode cX12_pulls 133 = .ok (.ldc2_w 377, 3) := by decide +kernel
theorem dX12_pulls_136 : decode cX12_pulls 136 = .ok (.invokevirtual 329, 3) := by decide +kernel
theorem dX12_pulls_139 : decode cX12_pulls 139 = .ok (.iinc 3 1, 3) := by decide +kernel
theorem dX12_pulls_142 : decode cX12_pulls 142 = .ok (.goto (-114), 3) := by decide +kernel
theorem dX12_pulls_145 : decode cX12_pulls 145 = .ok (.iload_n 2, 1) := by decide +kernel
theorem dX12_pulls_146 : decode cX12_pulls 146 = .ok (.ireturn, 1) := by decide +kernel
theorem dX12_seen_0 : decode cX12_seen 0 = .ok (.aload_n 0, 1) := by decide +kernel
theorem dX12_seen_1 : decode cX12_seen 1 = .ok (.iconst 0, 1) := by decide +kernel
theorem dX12_seen_2 : decode cX12_seen 2 = .ok (.putfield 109, 3) := by decide +kernel
theorem dX12_seen_5 : decode cX12_seen 5 = .ok (.iload_n 1, 1) := by decide +kernel
theorem dX12_seen_6 : decode cX12_seen 6 = .ok (.iconst 0, 1) := by decide +kernel
theorem dX12_seen_7 : decode cX12_seen 7 = .ok (.bipush 30, 2) := by decide +kernel
theorem dX12_seen_9 : decode cX12_seen 9 = .ok (.invokestatic 119, 3) := by decide +kernel
theorem dX12_seen_12 : decode cX12_seen 12 = .ok (.ifCond .eq 31, 3) := by decide +kernel
theorem dX12_seen_15 : decode cX12_seen 15 = .ok (.iload_n 2, 1) := by decide +kernel
theorem dX12_seen_16 : decode cX12_seen 16 = .ok (.iconst 0, 1) := by decide +kernel
theorem dX12_seen_17 : decode cX12_seen 17 = .ok (.iconst 3, 1) := by decide +kernel
theorem dX12_seen_18 : decode cX12_seen 18 = .ok (.invokestatic 119, 3) := by decide +kernel
theorem dX12_seen_21 : decode cX12_seen 21 = .ok (.ifCond .eq 22, 3) := by decide +kernel
theorem dX12_seen_24 : decode cX12_seen 24 = .ok (.iload_n 3, 1) := by decide +kernel
theorem dX12_seen_25 : decode cX12_seen 25 = .ok (.iconst 0, 1) := by decide +kernel
theorem dX12_seen_26 : decode cX12_seen 26 = .ok (.bipush 9, 2) := by decide +kernel
theorem dX12_seen_28 : decode cX12_seen 28 = .ok (.invokestatic 119, 3) := by decide +kernel
theorem dX12_seen_31 : decode cX12_seen 31 = .ok (.ifCond .eq 12, 3) := by decide +kernel
theorem dX12_seen_34 : decode cX12_seen 34 = .ok (.aload_n 0, 1) := by decide +kernel
theorem dX12_seen_35 : decode cX12_seen 35 = .ok (.getfield 379, 3) := by decide +kernel
theorem dX12_seen_38 : decode cX12_seen 38 = .ok (.bipush 12, 2) := by decide +kernel
theorem dX12_seen_40 : decode cX12_seen 40 = .ok (.if_icmp .ne 5, 3) := by decide +kernel
theorem dX12_seen_43 : decode cX12_seen 43 = .ok (.iconst (-1), 1) := by decide +kernel
theorem dX12_seen_44 : decode cX12_seen 44 = .ok (.ireturn, 1) := by decide +kernel
theorem dX12_seen_45 : decode cX12_seen 45 = .ok (.aload_n 0, 1) := by decide +kernel
theorem dX12_seen_46 : decode cX12_seen 46 = .ok (.getfield 69, 3) := by decide +kernel
theorem dX12_seen_49 : decode cX12_seen 49 = .ok (.aload_n 0, 1) := by decide +kernel
theorem dX12_seen_50 : decode cX12_seen 50 = .ok (.getfield 379, 3) := by decide +kernel
theorem dX12_seen_53 : decode cX12_seen 53 = .ok (.iload_n 1, 1) := by decide +kernel
theorem dX12_seen_54 : decode cX12_seen 54 = .ok (.iastore, 1) := by decide +kernel
theorem dX12_seen_55 : decode cX12_seen 55 = .ok (.aload_n 0, 1) := by decide +kernel
theorem dX12_seen_56 : decode cX12_seen 56 = .ok (.getfield 72, 3) := by decide +kernel
theorem dX12_seen_59 : decode cX12_seen 59 = .ok (.aload_n 0, 1) := by decide +kernel
theorem dX12_seen_60 : decode cX12_seen 60 = .ok (.getfield 379, 3) := by decide +kernel
theorem dX12_seen_63 : decode cX12_seen 63 = .ok (.iload_n 2, 1) := by decide +kernel
theorem dX12_seen_64 : decode cX12_seen 64 = .ok (.iastore, 1) := by decide +kernel
theorem dX12_seen_65 : decode cX12_seen 65 = .ok (.aload_n 0, 1) := by decide +kernel
theorem dX12_seen_66 : decode cX12_seen 66 = .ok (.getfield 75, 3) := by decide +kernel
theorem dX12_seen_69 : decode cX12_seen 69 = .ok (.aload_n 0, 1) := by decide +kernel
theorem dX12_seen_70 : decode cX12_seen 70 = .ok (.getfield 379, 3) := by decide +kernel
theorem dX12_seen_73 : decode cX12_seen 73 = .ok (.iload_n 3, 1) := by decide +kernel
theorem dX12_seen_74 : decode cX12_seen 74 = .ok (.iastore, 1) := by decide +kernel
theorem dX12_seen_75 : decode cX12_seen 75 = .ok (.aload_n 0, 1) := by decide +kernel
theorem dX12_seen_76 : decode cX12_seen 76 = .ok (.dup, 1) := by decide +kernel
theorem dX12_seen_77 : decode cX12_seen 77 = .ok (.getfield 379, 3) := by decide +kernel
theorem dX12_seen_80 : decode cX12_seen 80 = .ok (.iconst 1, 1) := by decide +kernel
theorem dX12_seen_81 : decode cX12_seen 81 = .ok (.iadd, 1) := by decide +kernel
theorem dX12_seen_82 : decode cX12_seen 82 = .ok (.putfield 379, 3) := by decide +kernel
theorem dX12_seen_85 : decode cX12_seen 85 = .ok (.aload_n 0, 1) := by decide +kernel
theorem dX12_seen_86 : decode cX12_seen 86 = .ok (.getfield 379, 3) := by decide +kernel
theorem dX12_seen_89 : decode cX12_seen 89 = .ok (.ireturn, 1) := by decide +kernel
theorem dX12_forget_0 : decode cX12_forget 0 = .ok (.aload_n 0, 1) := by decide +kernel
theorem dX12_forget_1 : decode cX12_forget 1 = .ok (.iconst 0, 1) := by decide +kernel
theorem dX12_forget_2 : decode cX12_forget 2 = .ok (.putfield 109, 3) := by decide +kernel
theorem dX12_forget_5 : decode cX12_forget 5 = .ok (.aload_n 0, 1) := by decide +kernel
theorem dX12_forget_6 : decode cX12_forget 6 = .ok (.getfield 379, 3) := by decide +kernel
theorem dX12_forget_9 : decode cX12_forget 9 = .ok (.istore_n 1, 1) := by decide +kernel
theorem dX12_forget_10 : decode cX12_forget 10 = .ok (.aload_n 0, 1) := by decide +kernel
theorem dX12_forget_11 : decode cX12_forget 11 = .ok (.iconst 0, 1) := by decide +kernel
theorem dX12_forget_12 : decode cX12_forget 12 = .ok (.putfield 379, 3) := by decide +kernel
theorem dX12_forget_15 : decode cX12_forget 15 = .ok (.iload_n 1, 1) := by decide +kernel
theorem dX12_forget_16 : decode cX12_forget 16 = .ok (.ireturn, 1) := by decide +kernel
theorem dX12_isSeen_0 : decode cX12_isSeen 0 = .ok (.aload_n 0, 1) := by decide +kernel
theorem dX12_isSeen_1 : decode cX12_isSeen 1 = .ok (.iload_n 1, 1) := by decide +kernel
theorem dX12_isSeen_2 : decode cX12_isSeen 2 = .ok (.iload_n 2, 1) := by decide +kernel
theorem dX12_isSeen_3 : decode cX12_isSeen 3 = .ok (.iconst 0, 1) := by decide +kernel
theorem dX12_isSeen_4 : decode cX12_isSeen 4 = .ok (.invokevirtual 354, 3) := by decide +kernel
theorem dX12_isSeen_7 : decode cX12_isSeen 7 = .ok (.iconst 0, 1) := by decide +kernel
theorem dX12_isSeen_8 : decode cX12_isSeen 8 = .ok (.istore_n 3, 1) := by decide +kernel
theorem dX12_isSeen_9 : decode cX12_isSeen 9 = .ok (.iload_n 3, 1) := by decide +kernel
theorem dX12_isSeen_10 : decode cX12_isSeen 10 = .ok (.bipush 30, 2) := by decide +kernel
theorem dX12_isSeen_12 : decode cX12_isSeen 12 = .ok (.if_icmp .gt 70, 3) := by decide +kernel
theorem dX12_isSeen_15 : decode cX12_isSeen 15 = .ok (.iconst 0, 1) := by decide +kernel
theorem dX12_isSeen_16 : decode cX12_isSeen 16 = .ok (.istore 4, 2) := by decide +kernel
theorem dX12_isSeen_18 : decode cX12_isSeen 18 = .ok (.iload 4, 2) := by decide +kernel
theorem dX12_isSeen_20 : decode cX12_isSeen 20 = .ok (.aload_n 0, 1) := by decide +kernel
theorem dX12_isSeen_21 : decode cX12_isSeen 21 = .ok (.getfield 379, 3) := by decide +kernel
theorem dX12_isSeen_24 : decode cX12_isSeen 24 = .ok (.if_icmp .ge 47, 3) := by decide +kernel
theorem dX12_isSeen_27 : decode cX12_isSeen 27 = .ok (.aload_n 0, 1) := by decide +kernel
theorem dX12_isSeen_28 : decode cX12_isSeen 28 = .ok (.getfield 69, 3) := by decide +kernel
theorem dX12_isSeen_31 : decode cX12_isSeen 31 = .ok (.iload 4, 2) := by decide +kernel
theorem dX12_isSeen_33 : decode cX12_isSeen 33 = .ok (.iaload, 1) := by decide +kernel
theorem dX12_isSeen_34 : decode cX12_isSeen 34 = .ok (.iload_n 3, 1) := by decide +kernel
theorem dX12_isSeen_35 : decode cX12_isSeen 35 = .ok (.if_icmp .ne 30, 3) := by decide +kernel
theorem dX12_isSeen_38 : decode cX12_isSeen 38 = .ok (.aload_n 0, 1) := by decide +kernel
theorem dX12_isSeen_39 : decode cX12_isSeen 39 = .ok (.getfield 57, 3) := by decide +kernel
theorem dX12_isSeen_42 : decode cX12_isSeen 42 = .ok (.iload_n 1, 1) := by decide +kernel
theorem dX12_isSeen_43 : decode cX12_isSeen 43 = .ok (.aload_n 0, 1) := by decide +kernel
theorem dX12_isSeen_44 : decode cX12_isSeen 44 = .ok (.getfield 72, 3) := by decide +kernel
theorem dX12_isSeen_47 : decode cX12_isSeen 47 = .ok (.iload 4, 2) := by decide +kernel
theorem dX12_isSeen_49 : decode cX12_isSeen 49 = .ok (.iaload, 1) := by decide +kernel
theorem dX12_isSeen_50 : decode cX12_isSeen 50 = .ok (.invokestatic 232, 3) := by decide +kernel
theorem dX12_isSeen_53 : decode cX12_isSeen 53 = .ok (.aload_n 0, 1) := by decide +kernel
theorem dX12_isSeen_54 : decode cX12_isSeen 54 = .ok (.getfield 75, 3) := by decide +kernel
theorem dX12_isSeen_57 : decode cX12_isSeen 57 = .ok (.iload 4, 2) := by decide +kernel
theorem dX12_isSeen_59 : decode cX12_isSeen 59 = .ok (.iaload, 1) := by decide +kernel
theorem dX12_isSeen_60 : decode cX12_isSeen 60 = .ok (.if_icmp .eq 5, 3) := by decide +kernel
theorem dX12_isSeen_63 : decode cX12_isSeen 63 = .ok (.iconst 0, 1) := by decide +kernel
theorem dX12_isSeen_64 : decode cX12_isSeen 64 = .ok (.ireturn, 1) := by decide +kernel
theorem dX12_isSeen_65 : decode cX12_isSeen 65 = .ok (.iinc 4 1, 3) := by decide +kernel
theorem dX12_isSeen_68 : decode cX12_isSeen 68 = .ok (.goto (-50), 3) := by decide +kernel
theorem dX12_isSeen_71 : decode cX12_isSeen 71 = .ok (.aload_n 0, 1) := by decide +kernel
theorem dX12_isSeen_72 : decode cX12_isSeen 72 = .ok (.iload_n 1, 1) := by decide +kernel
theorem dX12_isSeen_73 : decode cX12_isSeen 73 = .ok (.invokevirtual 351, 3) := by decide +kernel
theorem dX12_isSeen_76 : decode cX12_isSeen 76 = .ok (.iinc 3 1, 3) := by decide +kernel
theorem dX12_isSeen_79 : decode cX12_isSeen 79 = .ok (.goto (-70), 3) := by decide +kernel
theorem dX12_isSeen_82 : decode cX12_isSeen 82 = .ok (.iconst 1, 1) := by decide +kernel
theorem dX12_isSeen_83 : decode cX12_isSeen 83 = .ok (.ireturn, 1) := by decide +kernel
theorem dX12_fitting_0 : decode cX12_fitting 0 = .ok (.iconst 0, 1) := by decide +kernel
theorem dX12_fitting_1 : decode cX12_fitting 1 = .ok (.istore_n 2, 1) := by decide +kernel
theorem dX12_fitting_2 : decode cX12_fitting 2 = .ok (.iconst 0, 1) := by decide +kernel
theorem dX12_fitting_3 : decode cX12_fitting 3 = .ok (.istore_n 3, 1) := by decide +kernel
theorem dX12_fitting_4 : decode cX12_fitting 4 = .ok (.iload_n 3, 1) := by decide +kernel
theorem dX12_fitting_5 : decode cX12_fitting 5 = .ok (.aload_n 0, 1) := by decide +kernel
theorem dX12_fitting_6 : decode cX12_fitting 6 = .ok (.getfield 116, 3) := by decide +kernel
theorem dX12_fitting_9 : decode cX12_fitting 9 = .ok (.if_icmp .ge 46, 3) := by decide +kernel
theorem dX12_fitting_12 : decode cX12_fitting 12 = .ok (.iload_n 2, 1) := by decide +kernel
theorem dX12_fitting_13 : decode cX12_fitting 13 = .ok (.aload_n 0, 1) := by decide +kernel
theorem dX12_fitting_14 : decode cX12_fitting 14 = .ok (.getfield 9, 3) := by decide +kernel
theorem dX12_fitting_17 : decode cX12_fitting 17 = .ok (.bipush 32, 2) := by decide +kernel
theorem dX12_fitting_19 : decode cX12_fitting 19 = .ok (.iload_n 1, 1) := by decide +kernel
theorem dX12_fitting_20 : decode cX12_fitting 20 = .ok (.iadd, 1) := by decide +kernel
theorem dX12_fitting_21 : decode cX12_fitting 21 = .ok (.iaload, 1) := by decide +kernel
theorem dX12_fitting_22 : decode cX12_fitting 22 = .ok (.iload_n 3, 1) := by decide +kernel
theorem dX12_fitting_23 : decode cX12_fitting 23 = .ok (.invokestatic 265, 3) := by decide +kernel
theorem dX12_fitting_26 : decode cX12_fitting 26 = .ok (.ifCond .ne 20, 3) := by decide +kernel
theorem dX12_fitting_29 : decode cX12_fitting 29 = .ok (.aload_n 0, 1) := by decide +kernel
theorem dX12_fitting_30 : decode cX12_fitting 30 = .ok (.iload_n 1, 1) := by decide +kernel
theorem dX12_fitting_31 : decode cX12_fitting 31 = .ok (.iconst 1, 1) := by decide +kernel
theorem dX12_fitting_32 : decode cX12_fitting 32 = .ok (.iload_n 3, 1) := by decide +kernel
theorem dX12_fitting_33 : decode cX12_fitting 33 = .ok (.ishl, 1) := by decide +kernel
theorem dX12_fitting_34 : decode cX12_fitting 34 = .ok (.invokevirtual 382, 3) := by decide +kernel
theorem dX12_fitting_37 : decode cX12_fitting 37 = .ok (.ifCond .eq 9, 3) := by decide +kernel
theorem dX12_fitting_40 : decode cX12_fitting 40 = .ok (.iconst 1, 1) := by decide +kernel
theorem dX12_fitting_41 : decode cX12_fitting 41 = .ok (.iload_n 3, 1) := by decide +kernel
theorem dX12_fitting_42 : decode cX12_fitting 42 = .ok (.ishl, 1) := by decide +kernel
theorem dX12_fitting_43 : decode cX12_fitting 43 = .ok (.goto 4, 3) := by decide +kernel
theorem dX12_fitting_46 : decode cX12_fitting 46 = .ok (.iconst 0, 1) := by decide +kernel
theorem dX12_fitting_47 : decode cX12_fitting 47 = .ok (.ior, 1) := by decide +kernel
theorem dX12_fitting_48 : decode cX12_fitting 48 = .ok (.istore_n 2, 1) := by decide +kernel
theorem dX12_fitting_49 : decode cX12_fitting 49 = .ok (.iinc 3 1, 3) := by decide +kernel
theorem dX12_fitting_52 : decode cX12_fitting 52 = .ok (.goto (-48), 3) := by decide +kernel
theorem dX12_fitting_55 : decode cX12_fitting 55 = .ok (.iload_n 2, 1) := by decide +kernel
theorem dX12_fitting_56 : decode cX12_fitting 56 = .ok (.ireturn, 1) := by decide +kernel
theorem dX12_fits_0 : decode cX12_fits 0 = .ok (.aload_n 0, 1) := by decide +kernel
theorem dX12_fits_1 : decode cX12_fits 1 = .ok (.iconst 0, 1) := by decide +kernel
theorem dX12_fits_2 : decode cX12_fits 2 = .ok (.putfield 109, 3) := by decide +kernel
theorem dX12_fits_5 : decode cX12_fits 5 = .ok (.aload_n 0, 1) := by decide +kernel
theorem dX12_fits_6 : decode cX12_fits 6 = .ok (.iload_n 1, 1) := by decide +kernel
theorem dX12_fits_7 : decode cX12_fits 7 = .ok (.invokevirtual 278, 3) := by decide +kernel
theorem dX12_fits_10 : decode cX12_fits 10 = .ok (.ifCond .ne 5, 3) := by decide +kernel
theorem dX12_fits_13 : decode cX12_fits 13 = .ok (.iconst (-1), 1) := by decide +kernel
theorem dX12_fits_14 : decode cX12_fits 14 = .ok (.ireturn, 1) := by decide +kernel
theorem dX12_fits_15 : decode cX12_fits 15 = .ok (.aload_n 0, 1) := by decide +kernel
theorem dX12_fits_16 : decode cX12_fits 16 = .ok (.iload_n 1, 1) := by decide +kernel
theorem dX12_fits_17 : decode cX12_fits 17 = .ok (.invokevirtual 385, 3) := by decide +kernel
theorem dX12_fits_20 : decode cX12_fits 20 = .ok (.istore_n 2, 1) := by decide +kernel
theorem dX12_fits_21 : decode cX12_fits 21 = .ok (.aload_n 0, 1) := by decide +kernel
theorem dX12_fits_22 : decode cX12_fits 22 = .ok (.iconst 0, 1) := by decide +kernel
theorem dX12_fits_23 : decode cX12_fits 23 = .ok (.putfield 113, 3) := by decide +kernel
theorem dX12_fits_26 : decode cX12_fits 26 = .ok (.aload_n 0, 1) := by decide +kernel
theorem dX12_fits_27 : decode cX12_fits 27 = .ok (.iload_n 2, 1) := by decide +kernel
theorem dX12_fits_28 : decode cX12_fits 28 = .ok (.invokestatic 242, 3) := by decide +kernel
theorem dX12_fits_31 : decode cX12_fits 31 = .ok (.i2l, 1) := by decide +kernel
theorem dX12_fits_32 : decode cX12_fits 32 = .ok (.invokevirtual 329, 3) := by decide +kernel
theorem dX12_fits_35 : decode cX12_fits 35 = .ok (.aload_n 0, 1) := by decide +kernel
theorem dX12_fits_36 : decode cX12_fits 36 = .ok (.aload_n 0, 1) := by decide +kernel
theorem dX12_fits_37 : decode cX12_fits 37 = .ok (.iload_n 1, 1) := by decide +kernel
theorem dX12_fits_38 : decode cX12_fits 38 = .ok (.iconst 0, 1) := by decide +kernel
theorem dX12_fits_39 : decode cX12_fits 39 = .ok (.invokevirtual 382, 3) := by decide +kernel
theorem dX12_fits_42 : decode cX12_fits 42 = .ok (.ifCond .eq 7, 3) := by decide +kernel
theorem dX12_fits_45 : decode cX12_fits 45 = .ok (.lconst 1, 1) := by decide +kernel
theorem dX12_fits_46 : decode cX12_fits 46 = .ok (.goto 4, 3) := by decide +kernel
theorem dX12_fits_49 : decode cX12_fits 49 = .ok (.lconst 0, 1) := by decide +kernel
theorem dX12_fits_50 : decode cX12_fits 50 = .ok (.invokevirtual 329, 3) := by decide +kernel
theorem dX12_fits_53 : decode cX12_fits 53 = .ok (.iload_n 2, 1) := by decide +kernel
theorem dX12_fits_54 : decode cX12_fits 54 = .ok (.ireturn, 1) := by decide +kernel
theorem dX12_looks_0 : decode cX12_looks 0 = .ok (.aload_n 0, 1) := by decide +kernel
theorem dX12_looks_1 : decode cX12_looks 1 = .ok (.iconst 0, 1) := by decide +kernel
theorem dX12_looks_2 : decode cX12_looks 2 = .ok (.putfield 109, 3) := by decide +kernel
theorem dX12_looks_5 : decode cX12_looks 5 = .ok (.aload_n 0, 1) := by decide +kernel
theorem dX12_looks_6 : decode cX12_looks 6 = .ok (.iload_n 1, 1) := by decide +kernel
theorem dX12_looks_7 : decode cX12_looks 7 = .ok (.invokevirtual 278, 3) := by decide +kernel
theorem dX12_looks_10 : decode cX12_looks 10 = .ok (.ifCond .eq 13, 3) := by decide +kernel
theorem dX12_looks_13 : decode cX12_looks 13 = .ok (.iload_n 2, 1) := by decide +kernel
theorem dX12_looks_14 : decode cX12_looks 14 = .ok (.iconst 0, 1) := by decide +kernel
theorem dX12_looks_15 : decode cX12_looks 15 = .ok (.bipush 30, 2) := by decide +kernel
theorem dX12_looks_17 : decode cX12_looks 17 = .ok (.invokestatic 119, 3) := by decide +kernel
theorem dX12_looks_20 : decode cX12_looks 20 = .ok (.ifCond .ne 5, 3) := by decide +kernel
theorem dX12_looks_23 : decode cX12_looks 23 = .ok (.iconst (-1), 1) := by decide +kernel
theorem dX12_looks_24 : decode cX12_looks 24 = .ok (.ireturn, 1) := by decide +kernel
theorem dX12_looks_25 : decode cX12_looks 25 = .ok (.aload_n 0, 1) := by decide +kernel
theorem dX12_looks_26 : decode cX12_looks 26 = .ok (.iload_n 1, 1) := by decide +kernel
theorem dX12_looks_27 : decode cX12_looks 27 = .ok (.invokevirtual 385, 3) := by decide +kernel
theorem dX12_looks_30 : decode cX12_looks 30 = .ok (.istore_n 3, 1) := by decide +kernel
theorem dX12_looks_31 : decode cX12_looks 31 = .ok (.iload_n 3, 1) := by decide +kernel
theorem dX12_looks_32 : decode cX12_looks 32 = .ok (.ifCond .ne 6, 3) := by decide +kernel
theorem dX12_looks_35 : decode cX12_looks 35 = .ok (.bipush (-2), 2) := by decide +kernel
theorem dX12_looks_37 : decode cX12_looks 37 = .ok (.ireturn, 1) := by decide +kernel
theorem dX12_looks_38 : decode cX12_looks 38 = .ok (.iconst 0, 1) := by decide +kernel
theorem dX12_looks_39 : decode cX12_looks 39 = .ok (.istore 4, 2) := by decide +kernel
theorem dX12_looks_41 : decode cX12_looks 41 = .ok (.iload 4, 2) := by decide +kernel
theorem dX12_looks_43 : decode cX12_looks 43 = .ok (.aload_n 0, 1) := by decide +kernel
theorem dX12_looks_44 : decode cX12_looks 44 = .ok (.getfield 116, 3) := by decide +kernel
theorem dX12_looks_47 : decode cX12_looks 47 = .ok (.if_icmp .ge 68, 3) := by decide +kernel
theorem dX12_looks_50 : decode cX12_looks 50 = .ok (.iload_n 3, 1) := by decide +kernel
theorem dX12_looks_51 : decode cX12_looks 51 = .ok (.iload 4, 2) := by decide +kernel
theorem dX12_looks_53 : decode cX12_looks 53 = .ok (.invokestatic 265, 3) := by decide +kernel
theorem dX12_looks_56 : decode cX12_looks 56 = .ok (.ifCond .ne 6, 3) := by decide +kernel
theorem dX12_looks_59 : decode cX12_looks 59 = .ok (.goto 50, 3) := by decide +kernel
theorem dX12_looks_62 : decode cX12_looks 62 = .ok (.aload_n 0, 1) := by decide +kernel
theorem dX12_looks_63 : decode cX12_looks 63 = .ok (.iload_n 1, 1) := by decide +kernel
theorem dX12_looks_64 : decode cX12_looks 64 = .ok (.iconst 1, 1) := by decide +kernel
theorem dX12_looks_65 : decode cX12_looks 65 = .ok (.iload 4, 2) := by decide +kernel
theorem dX12_looks_67 : decode cX12_looks 67 = .ok (.ishl, 1) := by decide +kernel
theorem dX12_looks_68 : decode cX12_looks 68 = .ok (.iload_n 2, 1) := by decide +kernel
theorem dX12_looks_69 : decode cX12_looks 69 = .ok (.invokevirtual 354, 3) := by decide +kernel
theorem dX12_looks_72 : decode cX12_looks 72 = .ok (.iconst 0, 1) := by decide +kernel
theorem dX12_looks_73 : decode cX12_looks 73 = .ok (.istore 5, 2) := by decide +kernel
theorem dX12_looks_75 : decode cX12_looks 75 = .ok (.iload 5, 2) := by decide +kernel
theorem dX12_looks_77 : decode cX12_looks 77 = .ok (.iconst 4, 1) := by decide +kernel
theorem dX12_looks_78 : decode cX12_looks 78 = .ok (.if_icmp .ge 31, 3) := by decide +kernel
theorem dX12_looks_81 : decode cX12_looks 81 = .ok (.aload_n 0, 1) := by decide +kernel
theorem dX12_looks_82 : decode cX12_looks 82 = .ok (.getfield 78, 3) := by decide +kernel
theorem dX12_looks_85 : decode cX12_looks 85 = .ok (.iconst 4, 1) := by decide +kernel
theorem dX12_looks_86 : decode cX12_looks 86 = .ok (.iload 4, 2) := by decide +kernel
theorem dX12_looks_88 : decode cX12_looks 88 = .ok (.imul, 1) := by decide +kernel
theorem dX12_looks_89 : decode cX12_looks 89 = .ok (.iload 5, 2) := by decide +kernel
theorem dX12_looks_91 : decode cX12_looks 91 = .ok (.iadd, 1) := by decide +kernel
theorem dX12_looks_92 : decode cX12_looks 92 = .ok (.aload_n 0, 1) := by decide +kernel
theorem dX12_looks_93 : decode cX12_looks 93 = .ok (.getfield 57, 3) := by decide +kernel
theorem dX12_looks_96 : decode cX12_looks 96 = .ok (.iload_n 1, 1) := by decide +kernel
theorem dX12_looks_97 : decode cX12_looks 97 = .ok (.iload 5, 2) := by decide +kernel
theorem dX12_looks_99 : decode cX12_looks 99 = .ok (.invokestatic 232, 3) := by decide +kernel
theorem dX12_looks_102 : decode cX12_looks 102 = .ok (.iastore, 1) := by decide +kernel
theorem dX12_looks_103 : decode cX12_looks 103 = .ok (.iinc 5 1, 3) := by decide +kernel
theorem dX12_looks_106 : decode cX12_looks 106 = .ok (.goto (-31), 3) := by decide +kernel
theorem dX12_looks_109 : decode cX12_looks 109 = .ok (.iinc 4 1, 3) := by decide +kernel
theorem dX12_looks_112 : decode cX12_looks 112 = .ok (.goto (-71), 3) := by decide +kernel
theorem dX12_looks_115 : decode cX12_looks 115 = .ok (.iconst (-1), 1) := by decide +kernel
theorem dX12_looks_116 : decode cX12_looks 116 = .ok (.istore 4, 2) := by decide +kernel
theorem dX12_looks_118 : decode cX12_looks 118 = .ok (.ldc_w 388, 3) := by decide +kernel
theorem dX12_looks_121 : decode cX12_looks 121 = .ok (.istore 5, 2) := by decide +kernel
theorem dX12_looks_123 : decode cX12_looks 123 = .ok (.iconst 0, 1) := by decide +kernel
theorem dX12_looks_124 : decode cX12_looks 124 = .ok (.istore 6, 2) := by decide +kernel
theorem dX12_looks_126 : decode cX12_looks 126 = .ok (.iload 6, 2) := by decide +kernel
theorem dX12_looks_128 : decode cX12_looks 128 = .ok (.iconst 4, 1) := by decide +kernel
theorem dX12_looks_129 : decode cX12_looks 129 = .ok (.if_icmp .ge 129, 3) := by decide +kernel
theorem dX12_looks_132 : decode cX12_looks 132 = .ok (.iconst 0, 1) := by decide +kernel
theorem dX12_looks_133 : decode cX12_looks 133 = .ok (.istore 7, 2) := by decide +kernel
theorem dX12_looks_135 : decode cX12_looks 135 = .ok (.iconst 0, 1) := by decide +kernel
theorem dX12_looks_136 : decode cX12_looks 136 = .ok (.istore 8, 2) := by decide +kernel
theorem dX12_looks_138 : decode cX12_looks 138 = .ok (.iload 8, 2) := by decide +kernel
theorem dX12_looks_140 : decode cX12_looks 140 = .ok (.bipush 9, 2) := by decide +kernel
theorem dX12_looks_142 : decode cX12_looks 142 = .ok (.if_icmp .gt 17, 3) := by decide +kernel
theorem dX12_looks_145 : decode cX12_looks 145 = .ok (.aload_n 0, 1) := by decide +kernel
theorem dX12_looks_146 : decode cX12_looks 146 = .ok (.getfield 81, 3) := by decide +kernel
theorem dX12_looks_149 : decode cX12_looks 149 = .ok (.iload 8, 2) := by decide +kernel
theorem dX12_looks_151 : decode cX12_looks 151 = .ok (.iconst 0, 1) := by decide +kernel
theorem dX12_looks_152 : decode cX12_looks 152 = .ok (.iastore, 1) := by decide +kernel
theorem dX12_looks_153 : decode cX12_looks 153 = .ok (.iinc 8 1, 3) := by decide +kernel
theorem dX12_looks_156 : decode cX12_looks 156 = .ok (.goto (-18), 3) := by decide +kernel
theorem dX12_looks_159 : decode cX12_looks 159 = .ok (.iconst 0, 1) := by decide +kernel
theorem dX12_looks_160 : decode cX12_looks 160 = .ok (.istore 8, 2) := by decide +kernel
theorem dX12_looks_162 : decode cX12_looks 162 = .ok (.iload 8, 2) := by decide +kernel
theorem dX12_looks_164 : decode cX12_looks 164 = .ok (.aload_n 0, 1) := by decide +kernel
theorem dX12_looks_165 : decode cX12_looks 165 = .ok (.getfield 116, 3) := by decide +kernel
theorem dX12_looks_168 : decode cX12_looks 168 = .ok (.if_icmp .ge 66, 3) := by decide +kernel
theorem dX12_looks_171 : decode cX12_looks 171 = .ok (.iload_n 3, 1) := by decide +kernel
theorem dX12_looks_172 : decode cX12_looks 172 = .ok (.iload 8, 2) := by decide +kernel
theorem dX12_looks_174 : decode cX12_looks 174 = .ok (.invokestatic 265, 3) := by decide +kernel
theorem dX12_looks_177 : decode cX12_looks 177 = .ok (.ifCond .ne 6, 3) := by decide +kernel
theorem dX12_looks_180 : decode cX12_looks 180 = .ok (.goto 48, 3) := by decide +kernel
theorem dX12_looks_183 : decode cX12_looks 183 = .ok (.aload_n 0, 1) := by decide +kernel
theorem dX12_looks_184 : decode cX12_looks 184 = .ok (.getfield 81, 3) := by decide +kernel
theorem dX12_looks_187 : decode cX12_looks 187 = .ok (.aload_n 0, 1) := by decide +kernel
theorem dX12_looks_188 : decode cX12_looks 188 = .ok (.getfield 78, 3) := by decide +kernel
theorem dX12_looks_191 : decode cX12_looks 191 = .ok (.iconst 4, 1) := by decide +kernel
theorem dX12_looks_192 : decode cX12_looks 192 = .ok (.iload 8, 2) := by decide +kernel
theorem dX12_looks_194 : decode cX12_looks 194 = .ok (.imul, 1) := by decide +kernel
theorem dX12_looks_195 : decode cX12_looks 195 = .ok (.iload 6, 2) := by decide +kernel
theorem dX12_looks_197 : decode cX12_looks 197 = .ok (.iadd, 1) := by decide +kernel
theorem dX12_looks_198 : decode cX12_looks 198 = .ok (.iaload, 1) := by decide +kernel
theorem dX12_looks_199 : decode cX12_looks 199 = .ok (.dup2, 1) := by decide +kernel
theorem dX12_looks_200 : decode cX12_looks 200 = .ok (.iaload, 1) := by decide +kernel
theorem dX12_looks_201 : decode cX12_looks 201 = .ok (.iconst 1, 1) := by decide +kernel
theorem dX12_looks_202 : decode cX12_looks 202 = .ok (.iadd, 1) := by decide +kernel
theorem dX12_looks_203 : decode cX12_looks 203 = .ok (.iastore, 1) := by decide +kernel
theorem dX12_looks_204 : decode cX12_looks 204 = .ok (.iload 7, 2) := by decide +kernel
theorem dX12_looks_206 : decode cX12_looks 206 = .ok (.aload_n 0, 1) := by decide +kernel
theorem dX12_looks_207 : decode cX12_looks 207 = .ok (.getfield 81, 3) := by decide +kernel
theorem dX12_looks_210 : decode cX12_looks 210 = .ok (.aload_n 0, 1) := by decide +kernel
theorem dX12_looks_211 : decode cX12_looks 211 = .ok (.getfield 78, 3) := by decide +kernel
theorem dX12_looks_214 : decode cX12_looks 214 = .ok (.iconst 4, 1) := by decide +kernel
theorem dX12_looks_215 : decode cX12_looks 215 = .ok (.iload 8, 2) := by decide +kernel
theorem dX12_looks_217 : decode cX12_looks 217 = .ok (.imul, 1) := by decide +kernel
theorem dX12_looks_218 : decode cX12_looks 218 = .ok (.iload 6, 2) := by decide +kernel
theorem dX12_looks_220 : decode cX12_looks 220 = .ok (.iadd, 1) := by decide +kernel
theorem dX12_looks_221 : decode cX12_looks 221 = .ok (.iaload, 1) := by decide +kernel
theorem dX12_looks_222 : decode cX12_looks 222 = .ok (.iaload, 1) := by decide +kernel
theorem dX12_looks_223 : decode cX12_looks 223 = .ok (.invokestatic 250, 3) := by decide +kernel
theorem dX12_looks_226 : decode cX12_looks 226 = .ok (.istore 7, 2) := by decide +kernel
theorem dX12_looks_228 : decode cX12_looks 228 = .ok (.iinc 8 1, 3) := by decide +kernel
theorem dX12_looks_231 : decode cX12_looks 231 = .ok (.goto (-69), 3) := by decide +kernel
theorem dX12_looks_234 : decode cX12_looks 234 = .ok (.iload 7, 2) := by decide +kernel
theorem dX12_looks_236 : decode cX12_looks 236 = .ok (.iload 5, 2) := by decide +kernel
theorem dX12_looks_238 : decode cX12_looks 238 = .ok (.if_icmp .lt 6, 3) := by decide +kernel
theorem dX12_looks_241 : decode cX12_looks 241 = .ok (.goto 11, 3) := by decide +kernel
theorem dX12_looks_244 : decode cX12_looks 244 = .ok (.iload 6, 2) := by decide +kernel
theorem dX12_looks_246 : decode cX12_looks 246 = .ok (.istore 4, 2) := by decide +kernel
theorem dX12_looks_248 : decode cX12_looks 248 = .ok (.iload 7, 2) := by decide +kernel
theorem dX12_looks_250 : decode cX12_looks 250 = .ok (.istore 5, 2) := by decide +kernel
theorem dX12_looks_252 : decode cX12_looks 252 = .ok (.iinc 6 1, 3) := by decide +kernel
theorem dX12_looks_255 : decode cX12_looks 255 = .ok (.goto (-129), 3) := by decide +kernel
theorem dX12_looks_258 : decode cX12_looks 258 = .ok (.aload_n 0, 1) := by decide +kernel
theorem dX12_looks_259 : decode cX12_looks 259 = .ok (.iconst 0, 1) := by decide +kernel
theorem dX12_looks_260 : decode cX12_looks 260 = .ok (.putfield 113, 3) := by decide +kernel
theorem dX12_looks_263 : decode cX12_looks 263 = .ok (.aload_n 0, 1) := by decide +kernel
theorem dX12_looks_264 : decode cX12_looks 264 = .ok (.iload 5, 2) := by decide +kernel
theorem dX12_looks_266 : decode cX12_looks 266 = .ok (.i2l, 1) := by decide +kernel
theorem dX12_looks_267 : decode cX12_looks 267 = .ok (.invokevirtual 329, 3) := by decide +kernel
theorem dX12_looks_270 : decode cX12_looks 270 = .ok (.iload 4, 2) := by decide +kernel
theorem dX12_looks_272 : decode cX12_looks 272 = .ok (.ireturn, 1) := by decide +kernel
theorem dX12_layServed_0 : decode cX12_layServed 0 = .ok (.iconst 0, 1) := by decide +kernel
theorem dX12_layServed_1 : decode cX12_layServed 1 = .ok (.istore_n 2, 1) := by decide +kernel
theorem dX12_layServed_2 : decode cX12_layServed 2 = .ok (.iload_n 2, 1) := by decide +kernel
theorem dX12_layServed_3 : decode cX12_layServed 3 = .ok (.aload_n 0, 1) := by decide +kernel
theorem dX12_layServed_4 : decode cX12_layServed 4 = .ok (.getfield 123, 3) := by decide +kernel
theorem dX12_layServed_7 : decode cX12_layServed 7 = .ok (.if_icmp .ge 84, 3) := by decide +kernel
theorem dX12_layServed_10 : decode cX12_layServed 10 = .ok (.iconst 0, 1) := by decide +kernel
theorem dX12_layServed_11 : decode cX12_layServed 11 = .ok (.istore_n 3, 1) := by decide +kernel
theorem dX12_layServed_12 : decode cX12_layServed 12 = .ok (.iload_n 3, 1) := by decide +kernel
theorem dX12_layServed_13 : decode cX12_layServed 13 = .ok (.aload_n 0, 1) := by decide +kernel
theorem dX12_layServed_14 : decode cX12_layServed 14 = .ok (.getfield 116, 3) := by decide +kernel
theorem dX12_layServed_17 : decode cX12_layServed 17 = .ok (.if_icmp .ge 49, 3) := by decide +kernel
theorem dX12_layServed_20 : decode cX12_layServed 20 = .ok (.aload_n 0, 1) := by decide +kernel
theorem dX12_layServed_21 : decode cX12_layServed 21 = .ok (.getfield 84, 3) := by decide +kernel
theorem dX12_layServed_24 : decode cX12_layServed 24 = .ok (.bipush 9, 2) := by decide +kernel
theorem dX12_layServed_26 : decode cX12_layServed 26 = .ok (.iload_n 2, 1) := by decide +kernel
theorem dX12_layServed_27 : decode cX12_layServed 27 = .ok (.imul, 1) := by decide +kernel
theorem dX12_layServed_28 : decode cX12_layServed 28 = .ok (.iload_n 3, 1) := by decide +kernel
theorem dX12_layServed_29 : decode cX12_layServed 29 = .ok (.iadd, 1) := by decide +kernel
theorem dX12_layServed_30 : decode cX12_layServed 30 = .ok (.aload_n 0, 1) := by decide +kernel
theorem dX12_layServed_31 : decode cX12_layServed 31 = .ok (.getfield 9, 3) := by decide +kernel
theorem dX12_layServed_34 : decode cX12_layServed 34 = .ok (.bipush 32, 2) := by decide +kernel
theorem dX12_layServed_36 : decode cX12_layServed 36 = .ok (.iload_n 2, 1) := by decide +kernel
theorem dX12_layServed_37 : decode cX12_layServed 37 = .ok (.iadd, 1) := by decide +kernel
theorem dX12_layServed_38 : decode cX12_layServed 38 = .ok (.iaload, 1) := by decide +kernel
theorem dX12_layServed_39 : decode cX12_layServed 39 = .ok (.iload_n 3, 1) := by decide +kernel
theorem dX12_layServed_40 : decode cX12_layServed 40 = .ok (.invokestatic 265, 3) := by decide +kernel
theorem dX12_layServed_43 : decode cX12_layServed 43 = .ok (.ifCond .eq 7, 3) := by decide +kernel
theorem dX12_layServed_46 : decode cX12_layServed 46 = .ok (.iconst 0, 1) := by decide +kernel
theorem dX12_layServed_47 : decode cX12_layServed 47 = .ok (.goto 12, 3) := by decide +kernel
theorem dX12_layServed_50 : decode cX12_layServed 50 = .ok (.aload_n 0, 1) := by decide +kernel
theorem dX12_layServed_51 : decode cX12_layServed 51 = .ok (.iload_n 2, 1) := by decide +kernel
theorem dX12_layServed_52 : decode cX12_layServed 52 = .ok (.iconst 1, 1) := by decide +kernel
theorem dX12_layServed_53 : decode cX12_layServed 53 = .ok (.iload_n 3, 1) := by decide +kernel
theorem dX12_layServed_54 : decode cX12_layServed 54 = .ok (.ishl, 1) := by decide +kernel
theorem dX12_layServed_55 : decode cX12_layServed 55 = .ok (.iload_n 1, 1) := by decide +kernel
theorem dX12_layServed_56 : decode cX12_layServed 56 = .ok (.invokevirtual 364, 3) := by decide +kernel
theorem dX12_layServed_59 : decode cX12_layServed 59 = .ok (.iastore, 1) := by decide +kernel
theorem dX12_layServed_60 : decode cX12_layServed 60 = .ok (.iinc 3 1, 3) := by decide +kernel
theorem dX12_layServed_63 : decode cX12_layServed 63 = .ok (.goto (-51), 3) := by decide +kernel
theorem dX12_layServed_66 : decode cX12_layServed 66 = .ok (.aload_n 0, 1) := by decide +kernel
theorem dX12_layServed_67 : decode cX12_layServed 67 = .ok (.getfield 84, 3) := by decide +kernel
theorem dX12_layServed_70 : decode cX12_layServed 70 = .ok (.bipush 9, 2) := by decide +kernel
theorem dX12_layServed_72 : decode cX12_layServed 72 = .ok (.iload_n 2, 1) := by decide +kernel
theorem dX12_layServed_73 : decode cX12_layServed 73 = .ok (.imul, 1) := by decide +kernel
theorem dX12_layServed_74 : decode cX12_layServed 74 = .ok (.bipush 8, 2) := by decide +kernel
theorem dX12_layServed_76 : decode cX12_layServed 76 = .ok (.iadd, 1) := by decide +kernel
theorem dX12_layServed_77 : decode cX12_layServed 77 = .ok (.aload_n 0, 1) := by decide +kernel
theorem dX12_layServed_78 : decode cX12_layServed 78 = .ok (.iload_n 2, 1) := by decide +kernel
theorem dX12_layServed_79 : decode cX12_layServed 79 = .ok (.iconst 0, 1) := by decide +kernel
theorem dX12_layServed_80 : decode cX12_layServed 80 = .ok (.iload_n 1, 1) := by decide +kernel
theorem dX12_layServed_81 : decode cX12_layServed 81 = .ok (.invokevirtual 364, 3) := by decide +kernel
theorem dX12_layServed_84 : decode cX12_layServed 84 = .ok (.iastore, 1) := by decide +kernel
theorem dX12_layServed_85 : decode cX12_layServed 85 = .ok (.iinc 2 1, 3) := by decide +kernel
theorem dX12_layServed_88 : decode cX12_layServed 88 = .ok (.goto (-86), 3) := by decide +kernel
theorem dX12_layServed_91 : decode cX12_layServed 91 = .ok (.return_, 1) := by decide +kernel
theorem dX12_covers_0 : decode cX12_covers 0 = .ok (.aload_n 0, 1) := by decide +kernel
theorem dX12_covers_1 : decode cX12_covers 1 = .ok (.iconst 0, 1) := by decide +kernel
theorem dX12_covers_2 : decode cX12_covers 2 = .ok (.putfield 109, 3) := by decide +kernel
theorem dX12_covers_5 : decode cX12_covers 5 = .ok (.iload_n 1, 1) := by decide +kernel
theorem dX12_covers_6 : decode cX12_covers 6 = .ok (.iconst 0, 1) := by decide +kernel
theorem dX12_covers_7 : decode cX12_covers 7 = .ok (.bipush 20, 2) := by decide +kernel
theorem dX12_covers_9 : decode cX12_covers 9 = .ok (.invokestatic 119, 3) := by decide +kernel
theorem dX12_covers_12 : decode cX12_covers 12 = .ok (.ifCond .ne 5, 3) := by decide +kernel
theorem dX12_covers_15 : decode cX12_covers 15 = .ok (.iconst (-1), 1) := by decide +kernel
theorem dX12_covers_16 : decode cX12_covers 16 = .ok (.ireturn, 1) := by decide +kernel
theorem dX12_covers_17 : decode cX12_covers 17 = .ok (.aload_n 0, 1) := by decide +kernel
theorem dX12_covers_18 : decode cX12_covers 18 = .ok (.iload_n 1, 1) := by decide +kernel
theorem dX12_covers_19 : decode cX12_covers 19 = .ok (.invokevirtual 389, 3) := by decide +kernel
theorem dX12_covers_22 : decode cX12_covers 22 = .ok (.iconst (-1), 1) := by decide +kernel
theorem dX12_covers_23 : decode cX12_covers 23 = .ok (.istore_n 2, 1) := by decide +kernel
theorem dX12_covers_24 : decode cX12_covers 24 = .ok (.iconst 0, 1) := by decide +kernel
theorem dX12_covers_25 : decode cX12_covers 25 = .ok (.istore_n 3, 1) := by decide +kernel
theorem dX12_covers_26 : decode cX12_covers 26 = .ok (.iload_n 3, 1) := by decide +kernel
theorem dX12_covers_27 : decode cX12_covers 27 = .ok (.aload_n 0, 1) := by decide +kernel
theorem dX12_covers_28 : decode cX12_covers 28 = .ok (.invokevirtual 371, 3) := by decide +kernel
theorem dX12_covers_31 : decode cX12_covers 31 = .ok (.if_icmp .gt 113, 3) := by decide +kernel
theorem dX12_covers_34 : decode cX12_covers 34 = .ok (.iload_n 2, 1) := by decide +kernel
theorem dX12_covers_35 : decode cX12_covers 35 = .ok (.iconst (-1), 1) := by decide +kernel
theorem dX12_covers_36 : decode cX12_covers 36 = .ok (.if_icmp .eq 17, 3) := by decide +kernel
theorem dX12_covers_39 : decode cX12_covers 39 = .ok (.iload_n 3, 1) := by decide +kernel
theorem dX12_covers_40 : decode cX12_covers 40 = .ok (.invokestatic 242, 3) := by decide +kernel
theorem dX12_covers_43 : decode cX12_covers 43 = .ok (.iload_n 2, 1) := by decide +kernel
theorem dX12_covers_44 : decode cX12_covers 44 = .ok (.invokestatic 242, 3) := by decide +kernel
theorem dX12_covers_47 : decode cX12_covers 47 = .ok (.if_icmp .lt 6, 3) := by decide +kernel
theorem dX12_covers_50 : decode cX12_covers 50 = .ok (.goto 88, 3) := by decide +kernel
theorem dX12_covers_53 : decode cX12_covers 53 = .ok (.iconst 0, 1) := by decide +kernel
theorem dX12_covers_54 : decode cX12_covers 54 = .ok (.istore 4, 2) := by decide +kernel
theorem dX12_covers_56 : decode cX12_covers 56 = .ok (.iconst 0, 1) := by decide +kernel
theorem dX12_covers_57 : decode cX12_covers 57 = .ok (.istore 5, 2) := by decide +kernel
theorem dX12_covers_59 : decode cX12_covers 59 = .ok (.iload 5, 2) := by decide +kernel
theorem dX12_covers_61 : decode cX12_covers 61 = .ok (.aload_n 0, 1) := by decide +kernel
theorem dX12_covers_62 : decode cX12_covers 62 = .ok (.getfield 123, 3) := by decide +kernel
theorem dX12_covers_65 : decode cX12_covers 65 = .ok (.if_icmp .ge 58, 3) := by decide +kernel
theorem dX12_covers_68 : decode cX12_covers 68 = .ok (.iconst 0, 1) := by decide +kernel
theorem dX12_covers_69 : decode cX12_covers 69 = .ok (.istore 6, 2) := by decide +kernel
theorem dX12_covers_71 : decode cX12_covers 71 = .ok (.iload 6, 2) := by decide +kernel
theorem dX12_covers_73 : decode cX12_covers 73 = .ok (.aload_n 0, 1) := by decide +kernel
theorem dX12_covers_74 : decode cX12_covers 74 = .ok (.getfield 116, 3) := by decide +kernel
theorem dX12_covers_77 : decode cX12_covers 77 = .ok (.if_icmp .ge 40, 3) := by decide +kernel
theorem dX12_covers_80 : decode cX12_covers 80 = .ok (.iload 4, 2) := by decide +kernel
theorem dX12_covers_82 : decode cX12_covers 82 = .ok (.iload_n 3, 1) := by decide +kernel
theorem dX12_covers_83 : decode cX12_covers 83 = .ok (.iload 6, 2) := by decide +kernel
theorem dX12_covers_85 : decode cX12_covers 85 = .ok (.invokestatic 265, 3) := by decide +kernel
theorem dX12_covers_88 : decode cX12_covers 88 = .ok (.ifCond .eq 19, 3) := by decide +kernel
theorem dX12_covers_91 : decode cX12_covers 91 = .ok (.aload_n 0, 1) := by decide +kernel
theorem dX12_covers_92 : decode cX12_covers 92 = .ok (.getfield 84, 3) := by decide +kernel
theorem dX12_covers_95 : decode cX12_covers 95 = .ok (.bipush 9, 2) := by decide +kernel
theorem dX12_covers_97 : decode cX12_covers 97 = .ok (.iload 5, 2) := by decide +kernel
theorem dX12_covers_99 : decode cX12_covers 99 = .ok (.imul, 1) := by decide +kernel
theorem dX12_covers_100 : decode cX12_covers 100 = .ok (.iload 6, 2) := by decide +kernel
theorem dX12_covers_102 : decode cX12_covers 102 = .ok (.iadd, 1) := by decide +kernel
theorem dX12_covers_103 : decode cX12_covers 103 = .ok (.iaload, 1) := by decide +kernel
theorem dX12_covers_104 : decode cX12_covers 104 = .ok (.goto 4, 3) := by decide +kernel
theorem dX12_covers_107 : decode cX12_covers 107 = .ok (.iconst 0, 1) := by decide +kernel
theorem dX12_covers_108 : decode cX12_covers 108 = .ok (.ior, 1) := by decide +kernel
theorem dX12_covers_109 : decode cX12_covers 109 = .ok (.istore 4, 2) := by decide +kernel
theorem dX12_covers_111 : decode cX12_covers 111 = .ok (.iinc 6 1, 3) := by decide +kernel
theorem dX12_covers_114 : decode cX12_covers 114 = .ok (.goto (-43), 3) := by decide +kernel
theorem dX12_covers_117 : decode cX12_covers 117 = .ok (.iinc 5 1, 3) := by decide +kernel
theorem dX12_covers_120 : decode cX12_covers 120 = .ok (.goto (-61), 3) := by decide +kernel
theorem dX12_covers_123 : decode cX12_covers 123 = .ok (.iload 4, 2) := by decide +kernel
theorem dX12_covers_125 : decode cX12_covers 125 = .ok (.iconst 1, 1) := by decide +kernel
theorem dX12_covers_126 : decode cX12_covers 126 = .ok (.aload_n 0, 1) := by decide +kernel
theorem dX12_covers_127 : decode cX12_covers 127 = .ok (.getfield 126, 3) := by decide +kernel
theorem dX12_covers_130 : decode cX12_covers 130 = .ok (.ishl, 1) := by decide +kernel
theorem dX12_covers_131 : decode cX12_covers 131 = .ok (.iconst 1, 1) := by decide +kernel
theorem dX12_covers_132 : decode cX12_covers 132 = .ok (.isub, 1) := by decide +kernel
theorem dX12_covers_133 : decode cX12_covers 133 = .ok (.if_icmp .ne 5, 3) := by decide +kernel
theorem dX12_covers_136 : decode cX12_covers 136 = .ok (.iload_n 3, 1) := by decide +kernel
theorem dX12_covers_137 : decode cX12_covers 137 = .ok (.istore_n 2, 1) := by decide +kernel
theorem dX12_covers_138 : decode cX12_covers 138 = .ok (.iinc 3 1, 3) := by decide +kernel
theorem dX12_covers_141 : decode cX12_covers 141 = .ok (.goto (-115), 3) := by decide +kernel
theorem dX12_covers_144 : decode cX12_covers 144 = .ok (.iload_n 2, 1) := by decide +kernel
theorem dX12_covers_145 : decode cX12_covers 145 = .ok (.iconst (-1), 1) := by decide +kernel
theorem dX12_covers_146 : decode cX12_covers 146 = .ok (.if_icmp .ne 6, 3) := by decide +kernel
theorem dX12_covers_149 : decode cX12_covers 149 = .ok (.bipush (-2), 2) := by decide +kernel
theorem dX12_covers_151 : decode cX12_covers 151 = .ok (.ireturn, 1) := by decide +kernel
theorem dX12_covers_152 : decode cX12_covers 152 = .ok (.aload_n 0, 1) := by decide +kernel
theorem dX12_covers_153 : decode cX12_covers 153 = .ok (.iconst 0, 1) := by decide +kernel
theorem dX12_covers_154 : decode cX12_covers 154 = .ok (.putfield 113, 3) := by decide +kernel
theorem dX12_covers_157 : decode cX12_covers 157 = .ok (.aload_n 0, 1) := by decide +kernel
theorem dX12_covers_158 : decode cX12_covers 158 = .ok (.iload_n 2, 1) := by decide +kernel
theorem dX12_covers_159 : decode cX12_covers 159 = .ok (.i2l, 1) := by decide +kernel
theorem dX12_covers_160 : decode cX12_covers 160 = .ok (.invokevirtual 329, 3) := by decide +kernel
theorem dX12_covers_163 : decode cX12_covers 163 = .ok (.iload_n 2, 1) := by decide +kernel
theorem dX12_covers_164 : decode cX12_covers 164 = .ok (.invokestatic 242, 3) := by decide +kernel
theorem dX12_covers_167 : decode cX12_covers 167 = .ok (.ireturn, 1) := by decide +kernel
theorem dX12_servedMany_0 : decode cX12_servedMany 0 = .ok (.aload_n 0, 1) := by decide +kernel
theorem dX12_servedMany_1 : decode cX12_servedMany 1 = .ok (.getfield 84, 3) := by decide +kernel
theorem dX12_servedMany_4 : decode cX12_servedMany 4 = .ok (.bipush 9, 2) := by decide +kernel
theorem dX12_servedMany_6 : decode cX12_servedMany 6 = .ok (.iload_n 1, 1) := by decide +kernel
theorem dX12_servedMany_7 : decode cX12_servedMany 7 = .ok (.imul, 1) := by decide +kernel
theorem dX12_servedMany_8 : decode cX12_servedMany 8 = .ok (.iload_n 2, 1) := by decide +kernel
theorem dX12_servedMany_9 : decode cX12_servedMany 9 = .ok (.iconst (-1), 1) := by decide +kernel
theorem dX12_servedMany_10 : decode cX12_servedMany 10 = .ok (.if_icmp .ne 8, 3) := by decide +kernel
theorem dX12_servedMany_13 : decode cX12_servedMany 13 = .ok (.bipush 8, 2) := by decide +kernel
theorem dX12_servedMany_15 : decode cX12_servedMany 15 = .ok (.goto 4, 3) := by decide +kernel
theorem dX12_servedMany_18 : decode cX12_servedMany 18 = .ok (.iload_n 2, 1) := by decide +kernel
theorem dX12_servedMany_19 : decode cX12_servedMany 19 = .ok (.iadd, 1) := by decide +kernel
theorem dX12_servedMany_20 : decode cX12_servedMany 20 = .ok (.iaload, 1) := by decide +kernel
theorem dX12_servedMany_21 : decode cX12_servedMany 21 = .ok (.invokestatic 242, 3) := by decide +kernel
theorem dX12_servedMany_24 : decode cX12_servedMany 24 = .ok (.ireturn, 1) := by decide +kernel
theorem dX12_goShares_0 : decode cX12_goShares 0 = .ok (.iload_n 2, 1) := by decide +kernel
theorem dX12_goShares_1 : decode cX12_goShares 1 = .ok (.aload_n 0, 1) := by decide +kernel
theorem dX12_goShares_2 : decode cX12_goShares 2 = .ok (.getfield 123, 3) := by decide +kernel
theorem dX12_goShares_5 : decode cX12_goShares 5 = .ok (.iload_n 1, 1) := by decide +kernel
theorem dX12_goShares_6 : decode cX12_goShares 6 = .ok (.isub, 1) := by decide +kernel
theorem dX12_goShares_7 : decode cX12_goShares 7 = .ok (.aload_n 0, 1) := by decide +kernel
theorem dX12_goShares_8 : decode cX12_goShares 8 = .ok (.getfield 126, 3) := by decide +kernel
theorem dX12_goShares_11 : decode cX12_goShares 11 = .ok (.imul, 1) := by decide +kernel
theorem dX12_goShares_12 : decode cX12_goShares 12 = .ok (.iadd, 1) := by decide +kernel
theorem dX12_goShares_13 : decode cX12_goShares 13 = .ok (.aload_n 0, 1) := by decide +kernel
theorem dX12_goShares_14 : decode cX12_goShares 14 = .ok (.getfield 392, 3) := by decide +kernel
theorem dX12_goShares_17 : decode cX12_goShares 17 = .ok (.if_icmp .gt 4, 3) := by decide +kernel
theorem dX12_goShares_20 : decode cX12_goShares 20 = .ok (.return_, 1) := by decide +kernel
theorem dX12_goShares_21 : decode cX12_goShares 21 = .ok (.iload_n 1, 1) := by decide +kernel
theorem dX12_goShares_22 : decode cX12_goShares 22 = .ok (.aload_n 0, 1) := by decide +kernel
theorem dX12_goShares_23 : decode cX12_goShares 23 = .ok (.getfield 123, 3) := by decide +kernel
theorem dX12_goShares_26 : decode cX12_goShares 26 = .ok (.if_icmp .ne 37, 3) := by decide +kernel
theorem dX12_goShares_29 : decode cX12_goShares 29 = .ok (.aload_n 0, 1) := by decide +kernel
theorem dX12_goShares_30 : decode cX12_goShares 30 = .ok (.iload_n 2, 1) := by decide +kernel
theorem dX12_goShares_31 : decode cX12_goShares 31 = .ok (.putfield 392, 3) := by decide +kernel
theorem dX12_goShares_34 : decode cX12_goShares 34 = .ok (.iconst 0, 1) := by decide +kernel
theorem dX12_goShares_35 : decode cX12_goShares 35 = .ok (.istore_n 3, 1) := by decide +kernel
theorem dX12_goShares_36 : decode cX12_goShares 36 = .ok (.iload_n 3, 1) := by decide +kernel
theorem dX12_goShares_37 : decode cX12_goShares 37 = .ok (.aload_n 0, 1) := by decide +kernel
theorem dX12_goShares_38 : decode cX12_goShares 38 = .ok (.getfield 123, 3) := by decide +kernel
theorem dX12_goShares_41 : decode cX12_goShares 41 = .ok (.if_icmp .ge 21, 3) := by decide +kernel
theorem dX12_goShares_44 : decode cX12_goShares 44 = .ok (.aload_n 0, 1) := by decide +kernel
theorem dX12_goShares_45 : decode cX12_goShares 45 = .ok (.getfield 90, 3) := by decide +kernel
theorem dX12_goShares_48 : decode cX12_goShares 48 = .ok (.iload_n 3, 1) := by decide +kernel
theorem dX12_goShares_49 : decode cX12_goShares 49 = .ok (.aload_n 0, 1) := by decide +kernel
theorem dX12_goShares_50 : decode cX12_goShares 50 = .ok (.getfield 87, 3) := by decide +kernel
theorem dX12_goShares_53 : decode cX12_goShares 53 = .ok (.iload_n 3, 1) := by decide +kernel
theorem dX12_goShares_54 : decode cX12_goShares 54 = .ok (.iaload, 1) := by decide +kernel
theorem dX12_goShares_55 : decode cX12_goShares 55 = .ok (.iastore, 1) := by decide +kernel
theorem dX12_goShares_56 : decode cX12_goShares 56 = .ok (.iinc 3 1, 3) := by decide +kernel
theorem dX12_goShares_59 : decode cX12_goShares 59 = .ok (.goto (-23), 3) := by decide +kernel
theorem dX12_goShares_62 : decode cX12_goShares 62 = .ok (.return_, 1) := by decide +kernel
theorem dX12_goShares_63 : decode cX12_goShares 63 = .ok (.iconst (-1), 1) := by decide +kernel
theorem dX12_goShares_64 : decode cX12_goShares 64 = .ok (.istore_n 3, 1) := by decide +kernel
theorem dX12_goShares_65 : decode cX12_goShares 65 = .ok (.iload_n 3, 1) := by decide +kernel
theorem dX12_goShares_66 : decode cX12_goShares 66 = .ok (.aload_n 0, 1) := by decide +kernel
theorem dX12_goShares_67 : decode cX12_goShares 67 = .ok (.getfield 116, 3) := by decide +kernel
theorem dX12_goShares_70 : decode cX12_goShares 70 = .ok (.if_icmp .ge 94, 3) := by decide +kernel
theorem dX12_goShares_73 : decode cX12_goShares 73 = .ok (.iload_n 3, 1) := by decide +kernel
theorem dX12_goShares_74 : decode cX12_goShares 74 = .ok (.iconst (-1), 1) := by decide +kernel
theorem dX12_goShares_75 : decode cX12_goShares 75 = .ok (.if_icmp .eq 31, 3) := by decide +kernel
theorem dX12_goShares_78 : decode cX12_goShares 78 = .ok (.aload_n 0, 1) := by decide +kernel
theorem dX12_goShares_79 : decode cX12_goShares 79 = .ok (.getfield 93, 3) := by decide +kernel
theorem dX12_goShares_82 : decode cX12_goShares 82 = .ok (.iload_n 3, 1) := by decide +kernel
theorem dX12_goShares_83 : decode cX12_goShares 83 = .ok (.iaload, 1) := by decide +kernel
theorem dX12_goShares_84 : decode cX12_goShares 84 = .ok (.ifCond .eq 74, 3) := by decide +kernel
theorem dX12_goShares_87 : decode cX12_goShares 87 = .ok (.aload_n 0, 1) := by decide +kernel
theorem dX12_goShares_88 : decode cX12_goShares 88 = .ok (.getfield 9, 3) := by decide +kernel
theorem dX12_goShares_91 : decode cX12_goShares 91 = .ok (.bipush 32, 2) := by decide +kernel
theorem dX12_goShares_93 : decode cX12_goShares 93 = .ok (.iload_n 1, 1) := by decide +kernel
theorem dX12_goShares_94 : decode cX12_goShares 94 = .ok (.iadd, 1) := by decide +kernel
theorem dX12_goShares_95 : decode cX12_goShares 95 = .ok (.iaload, 1) := by decide +kernel
theorem dX12_goShares_96 : decode cX12_goShares 96 = .ok (.iload_n 3, 1) := by decide +kernel
theorem dX12_goShares_97 : decode cX12_goShares 97 = .ok (.invokestatic 265, 3) := by decide +kernel
theorem dX12_goShares_100 : decode cX12_goShares 100 = .ok (.ifCond .eq 6, 3) := by decide +kernel
theorem dX12_goShares_103 : decode cX12_goShares 103 = .ok (.goto 55, 3) := by decide +kernel
theorem dX12_goShares_106 : decode cX12_goShares 106 = .ok (.aload_n 0, 1) := by decide +kernel
theorem dX12_goShares_107 : decode cX12_goShares 107 = .ok (.getfield 87, 3) := by decide +kernel
theorem dX12_goShares_110 : decode cX12_goShares 110 = .ok (.iload_n 1, 1) := by decide +kernel
theorem dX12_goShares_111 : decode cX12_goShares 111 = .ok (.iload_n 3, 1) := by decide +kernel
theorem dX12_goShares_112 : decode cX12_goShares 112 = .ok (.iastore, 1) := by decide +kernel
theorem dX12_goShares_113 : decode cX12_goShares 113 = .ok (.iload_n 3, 1) := by decide +kernel
theorem dX12_goShares_114 : decode cX12_goShares 114 = .ok (.iconst (-1), 1) := by decide +kernel
theorem dX12_goShares_115 : decode cX12_goShares 115 = .ok (.if_icmp .eq 13, 3) := by decide +kernel
theorem dX12_goShares_118 : decode cX12_goShares 118 = .ok (.aload_n 0, 1) := by decide +kernel
theorem dX12_goShares_119 : decode cX12_goShares 119 = .ok (.getfield 93, 3) := by decide +kernel
theorem dX12_goShares_122 : decode cX12_goShares 122 = .ok (.iload_n 3, 1) := by decide +kernel
theorem dX12_goShares_123 : decode cX12_goShares 123 = .ok (.dup2, 1) := by decide +kernel
theorem dX12_goShares_124 : decode cX12_goShares 124 = .ok (.iaload, 1) := by decide +kernel
theorem dX12_goShares_125 : decode cX12_goShares 125 = .ok (.iconst 1, 1) := by decide +kernel
theorem dX12_goShares_126 : decode cX12_goShares 126 = .ok (.isub, 1) := by decide +kernel
theorem dX12_goShares_127 : decode cX12_goShares 127 = .ok (.iastore, 1) := by decide +kernel
theorem dX12_goShares_128 : decode cX12_goShares 128 = .ok (.aload_n 0, 1) := by decide +kernel
theorem dX12_goShares_129 : decode cX12_goShares 129 = .ok (.iload_n 1, 1) := by decide +kernel
theorem dX12_goShares_130 : decode cX12_goShares 130 = .ok (.iconst 1, 1) := by decide +kernel
theorem dX12_goShares_131 : decode cX12_goShares 131 = .ok (.iadd, 1) := by decide +kernel
theorem dX12_goShares_132 : decode cX12_goShares 132 = .ok (.iload_n 2, 1) := by decide +kernel
theorem dX12_goShares_133 : decode cX12_goShares 133 = .ok (.aload_n 0, 1) := by decide +kernel
theorem dX12_goShares_134 : decode cX12_goShares 134 = .ok (.iload_n 1, 1) := by decide +kernel
theorem dX12_goShares_135 : decode cX12_goShares 135 = .ok (.iload_n 3, 1) := by decide +kernel
theorem dX12_goShares_136 : decode cX12_goShares 136 = .ok (.invokevirtual 395, 3) := by decide +kernel
theorem dX12_goShares_139 : decode cX12_goShares 139 = .ok (.iadd, 1) := by decide +kernel
theorem dX12_goShares_140 : decode cX12_goShares 140 = .ok (.invokevirtual 398, 3) := by decide +kernel
theorem dX12_goShares_143 : decode cX12_goShares 143 = .ok (.iload_n 3, 1) := by decide +kernel
theorem dX12_goShares_144 : decode cX12_goShares 144 = .ok (.iconst (-1), 1) := by decide +kernel
theorem dX12_goShares_145 : decode cX12_goShares 145 = .ok (.if_icmp .eq 13, 3) := by decide +kernel
theorem dX12_goShares_148 : decode cX12_goShares 148 = .ok (.aload_n 0, 1) := by decide +kernel
theorem dX12_goShares_149 : decode cX12_goShares 149 = .ok (.getfield 93, 3) := by decide +kernel
theorem dX12_goShares_152 : decode cX12_goShares 152 = .ok (.iload_n 3, 1) := by decide +kernel
theorem dX12_goShares_153 : decode cX12_goShares 153 = .ok (.dup2, 1) := by decide +kernel
theorem dX12_goShares_154 : decode cX12_goShares 154 = .ok (.iaload, 1) := by decide +kernel
theorem dX12_goShares_155 : decode cX12_goShares 155 = .ok (.iconst 1, 1) := by decide +kernel
theorem dX12_goShares_156 : decode cX12_goShares 156 = .ok (.iadd, 1) := by decide +kernel
theorem dX12_goShares_157 : decode cX12_goShares 157 = .ok (.iastore, 1) := by decide +kernel
theorem dX12_goShares_158 : decode cX12_goShares 158 = .ok (.iinc 3 1, 3) := by decide +kernel
theorem dX12_goShares_161 : decode cX12_goShares 161 = .ok (.goto (-96), 3) := by decide +kernel
theorem dX12_goShares_164 : decode cX12_goShares 164 = .ok (.return_, 1) := by decide +kernel
theorem dX12_shares_0 : decode cX12_shares 0 = .ok (.aload_n 0, 1) := by decide +kernel
theorem dX12_shares_1 : decode cX12_shares 1 = .ok (.iconst 0, 1) := by decide +kernel
theorem dX12_shares_2 : decode cX12_shares 2 = .ok (.putfield 109, 3) := by decide +kernel
theorem dX12_shares_5 : decode cX12_shares 5 = .ok (.iload_n 1, 1) := by decide +kernel
theorem dX12_shares_6 : decode cX12_shares 6 = .ok (.iconst 0, 1) := by decide +kernel
theorem dX12_shares_7 : decode cX12_shares 7 = .ok (.bipush 20, 2) := by decide +kernel
theorem dX12_shares_9 : decode cX12_shares 9 = .ok (.invokestatic 119, 3) := by decide +kernel
theorem dX12_shares_12 : decode cX12_shares 12 = .ok (.ifCond .ne 5, 3) := by decide +kernel
theorem dX12_shares_15 : decode cX12_shares 15 = .ok (.iconst (-1), 1) := by decide +kernel
theorem dX12_shares_16 : decode cX12_shares 16 = .ok (.ireturn, 1) := by decide +kernel
theorem dX12_shares_17 : decode cX12_shares 17 = .ok (.aload_n 0, 1) := by decide +kernel
theorem dX12_shares_18 : decode cX12_shares 18 = .ok (.iload_n 1, 1) := by decide +kernel
theorem dX12_shares_19 : decode cX12_shares 19 = .ok (.invokevirtual 389, 3) := by decide +kernel
theorem dX12_shares_22 : decode cX12_shares 22 = .ok (.iconst 0, 1) := by decide +kernel
theorem dX12_shares_23 : decode cX12_shares 23 = .ok (.istore_n 2, 1) := by decide +kernel
theorem dX12_shares_24 : decode cX12_shares 24 = .ok (.iload_n 2, 1) := by decide +kernel
theorem dX12_shares_25 : decode cX12_shares 25 = .ok (.aload_n 0, 1) := by decide +kernel
theorem dX12_shares_26 : decode cX12_shares 26 = .ok (.getfield 116, 3) := by decide +kernel
theorem dX12_shares_29 : decode cX12_shares 29 = .ok (.if_icmp .ge 21, 3) := by decide +kernel
theorem dX12_shares_32 : decode cX12_shares 32 = .ok (.aload_n 0, 1) := by decide +kernel
theorem dX12_shares_33 : decode cX12_shares 33 = .ok (.getfield 93, 3) := by decide +kernel
theorem dX12_shares_36 : decode cX12_shares 36 = .ok (.iload_n 2, 1) := by decide +kernel
theorem dX12_shares_37 : decode cX12_shares 37 = .ok (.aload_n 0, 1) := by decide +kernel
theorem dX12_shares_38 : decode cX12_shares 38 = .ok (.getfield 9, 3) := by decide +kernel
theorem dX12_shares_41 : decode cX12_shares 41 = .ok (.iload_n 2, 1) := by decide +kernel
theorem dX12_shares_42 : decode cX12_shares 42 = .ok (.iaload, 1) := by decide +kernel
theorem dX12_shares_43 : decode cX12_shares 43 = .ok (.iastore, 1) := by decide +kernel
theorem dX12_shares_44 : decode cX12_shares 44 = .ok (.iinc 2 1, 3) := by decide +kernel
theorem dX12_shares_47 : decode cX12_shares 47 = .ok (.goto (-23), 3) := by decide +kernel
theorem dX12_shares_50 : decode cX12_shares 50 = .ok (.aload_n 0, 1) := by decide +kernel
theorem dX12_shares_51 : decode cX12_shares 51 = .ok (.iconst (-1), 1) := by decide +kernel
theorem dX12_shares_52 : decode cX12_shares 52 = .ok (.putfield 392, 3) := by decide +kernel
theorem dX12_shares_55 : decode cX12_shares 55 = .ok (.aload_n 0, 1) := by decide +kernel
theorem dX12_shares_56 : decode cX12_shares 56 = .ok (.iconst 0, 1) := by decide +kernel
theorem dX12_shares_57 : decode cX12_shares 57 = .ok (.iconst 0, 1) := by decide +kernel
theorem dX12_shares_58 : decode cX12_shares 58 = .ok (.invokevirtual 398, 3) := by decide +kernel
theorem dX12_shares_61 : decode cX12_shares 61 = .ok (.aload_n 0, 1) := by decide +kernel
theorem dX12_shares_62 : decode cX12_shares 62 = .ok (.iconst 0, 1) := by decide +kernel
theorem dX12_shares_63 : decode cX12_shares 63 = .ok (.putfield 113, 3) := by decide +kernel
theorem dX12_shares_66 : decode cX12_shares 66 = .ok (.iconst 0, 1) := by decide +kernel
theorem dX12_shares_67 : decode cX12_shares 67 = .ok (.istore_n 2, 1) := by decide +kernel
theorem dX12_shares_68 : decode cX12_shares 68 = .ok (.iload_n 2, 1) := by decide +kernel
theorem dX12_shares_69 : decode cX12_shares 69 = .ok (.aload_n 0, 1) := by decide +kernel
theorem dX12_shares_70 : decode cX12_shares 70 = .ok (.getfield 123, 3) := by decide +kernel
theorem dX12_shares_73 : decode cX12_shares 73 = .ok (.if_icmp .ge 20, 3) := by decide +kernel
theorem dX12_shares_76 : decode cX12_shares 76 = .ok (.aload_n 0, 1) := by decide +kernel
theorem dX12_shares_77 : decode cX12_shares 77 = .ok (.aload_n 0, 1) := by decide +kernel
theorem dX12_shares_78 : decode cX12_shares 78 = .ok (.getfield 90, 3) := by decide +kernel
theorem dX12_shares_81 : decode cX12_shares 81 = .ok (.iload_n 2, 1) := by decide +kernel
theorem dX12_shares_82 : decode cX12_shares 82 = .ok (.iaload, 1) := by decide +kernel
theorem dX12_shares_83 : decode cX12_shares 83 = .ok (.i2l, 1) := by decide +kernel
theorem dX12_shares_84 : decode cX12_shares 84 = .ok (.invokevirtual 329, 3) := by decide +kernel
theorem dX12_shares_87 : decode cX12_shares 87 = .ok (.iinc 2 1, 3) := by decide +kernel
theorem dX12_shares_90 : decode cX12_shares 90 = .ok (.goto (-22), 3) := by decide +kernel
theorem dX12_shares_93 : decode cX12_shares 93 = .ok (.aload_n 0, 1) := by decide +kernel
theorem dX12_shares_94 : decode cX12_shares 94 = .ok (.getfield 392, 3) := by decide +kernel
theorem dX12_shares_97 : decode cX12_shares 97 = .ok (.ireturn, 1) := by decide +kernel
theorem dX12_timesBy_0 : decode cX12_timesBy 0 = .ok (.iload_n 1, 1) := by decide +kernel
theorem dX12_timesBy_1 : decode cX12_timesBy 1 = .ok (.iload_n 2, 1) := by decide +kernel
theorem dX12_timesBy_2 : decode cX12_timesBy 2 = .ok (.invokestatic 245, 3) := by decide +kernel
theorem dX12_timesBy_5 : decode cX12_timesBy 5 = .ok (.istore_n 3, 1) := by decide +kernel
theorem dX12_timesBy_6 : decode cX12_timesBy 6 = .ok (.iload_n 1, 1) := by decide +kernel
theorem dX12_timesBy_7 : decode cX12_timesBy 7 = .ok (.iload_n 2, 1) := by decide +kernel
theorem dX12_timesBy_8 : decode cX12_timesBy 8 = .ok (.invokestatic 250, 3) := by decide +kernel
theorem dX12_timesBy_11 : decode cX12_timesBy 11 = .ok (.istore 4, 2) := by decide +kernel
theorem dX12_timesBy_13 : decode cX12_timesBy 13 = .ok (.iconst 1, 1) := by decide +kernel
theorem dX12_timesBy_14 : decode cX12_timesBy 14 = .ok (.istore 5, 2) := by decide +kernel
theorem dX12_timesBy_16 : decode cX12_timesBy 16 = .ok (.iload 5, 2) := by decide +kernel
theorem dX12_timesBy_18 : decode cX12_timesBy 18 = .ok (.iload_n 3, 1) := by decide +kernel
theorem dX12_timesBy_19 : decode cX12_timesBy 19 = .ok (.imul, 1) := by decide +kernel
theorem dX12_timesBy_20 : decode cX12_timesBy 20 = .ok (.iload 4, 2) := by decide +kernel
theorem dX12_timesBy_22 : decode cX12_timesBy 22 = .ok (.if_icmp .gt 50, 3) := by decide +kernel
theorem dX12_timesBy_25 : decode cX12_timesBy 25 = .ok (.iload 4, 2) := by decide +kernel
theorem dX12_timesBy_27 : decode cX12_timesBy 27 = .ok (.iload 5, 2) := by decide +kernel
theorem dX12_timesBy_29 : decode cX12_timesBy 29 = .ok (.iload_n 3, 1) := by decide +kernel
theorem dX12_timesBy_30 : decode cX12_timesBy 30 = .ok (.imul, 1) := by decide +kernel
theorem dX12_timesBy_31 : decode cX12_timesBy 31 = .ok (.isub, 1) := by decide +kernel
theorem dX12_timesBy_32 : decode cX12_timesBy 32 = .ok (.istore 6, 2) := by decide +kernel
theorem dX12_timesBy_34 : decode cX12_timesBy 34 = .ok (.iload 6, 2) := by decide +kernel
theorem dX12_timesBy_36 : decode cX12_timesBy 36 = .ok (.ifCond .eq 27, 3) := by decide +kernel
theorem dX12_timesBy_39 : decode cX12_timesBy 39 = .ok (.aload_n 0, 1) := by decide +kernel
theorem dX12_timesBy_40 : decode cX12_timesBy 40 = .ok (.getfield 96, 3) := by decide +kernel
theorem dX12_timesBy_43 : decode cX12_timesBy 43 = .ok (.bipush 100, 2) := by decide +kernel
theorem dX12_timesBy_45 : decode cX12_timesBy 45 = .ok (.iload 6, 2) := by decide +kernel
theorem dX12_timesBy_47 : decode cX12_timesBy 47 = .ok (.iload_n 3, 1) := by decide +kernel
theorem dX12_timesBy_48 : decode cX12_timesBy 48 = .ok (.invokestatic 250, 3) := by decide +kernel
theorem dX12_timesBy_51 : decode cX12_timesBy 51 = .ok (.imul, 1) := by decide +kernel
theorem dX12_timesBy_52 : decode cX12_timesBy 52 = .ok (.iload 6, 2) := by decide +kernel
theorem dX12_timesBy_54 : decode cX12_timesBy 54 = .ok (.iload_n 3, 1) := by decide +kernel
theorem dX12_timesBy_55 : decode cX12_timesBy 55 = .ok (.invokestatic 245, 3) := by decide +kernel
theorem dX12_timesBy_58 : decode cX12_timesBy 58 = .ok (.iadd, 1) := by decide +kernel
theorem dX12_timesBy_59 : decode cX12_timesBy 59 = .ok (.iaload, 1) := by decide +kernel
theorem dX12_timesBy_60 : decode cX12_timesBy 60 = .ok (.ifCond .ne 6, 3) := by decide +kernel
theorem dX12_timesBy_63 : decode cX12_timesBy 63 = .ok (.iload 5, 2) := by decide +kernel
theorem dX12_timesBy_65 : decode cX12_timesBy 65 = .ok (.ireturn, 1) := by decide +kernel
theorem dX12_timesBy_66 : decode cX12_timesBy 66 = .ok (.iinc 5 1, 3) := by decide +kernel
theorem dX12_timesBy_69 : decode cX12_timesBy 69 = .ok (.goto (-53), 3) := by decide +kernel
theorem dX12_timesBy_72 : decode cX12_timesBy 72 = .ok (.iconst 0, 1) := by decide +kernel
theorem dX12_timesBy_73 : decode cX12_timesBy 73 = .ok (.ireturn, 1) := by decide +kernel
theorem dX12_counter_0 : decode cX12_counter 0 = .ok (.aload_n 0, 1) := by decide +kernel
theorem dX12_counter_1 : decode cX12_counter 1 = .ok (.iconst 0, 1) := by decide +kernel
theorem dX12_counter_2 : decode cX12_counter 2 = .ok (.putfield 109, 3) := by decide +kernel
theorem dX12_counter_5 : decode cX12_counter 5 = .ok (.iload_n 1, 1) := by decide +kernel
theorem dX12_counter_6 : decode cX12_counter 6 = .ok (.iconst 0, 1) := by decide +kernel
theorem dX12_counter_7 : decode cX12_counter 7 = .ok (.bipush 99, 2) := by decide +kernel
theorem dX12_counter_9 : decode cX12_counter 9 = .ok (.invokestatic 119, 3) := by decide +kernel
theorem dX12_counter_12 : decode cX12_counter 12 = .ok (.ifCond .eq 13, 3) := by decide +kernel
theorem dX12_counter_15 : decode cX12_counter 15 = .ok (.iload_n 2, 1) := by decide +kernel
theorem dX12_counter_16 : decode cX12_counter 16 = .ok (.iconst 0, 1) := by decide +kernel
theorem dX12_counter_17 : decode cX12_counter 17 = .ok (.bipush 99, 2) := by decide +kernel
theorem dX12_counter_19 : decode cX12_counter 19 = .ok (.invokestatic 119, 3) := by decide +kernel
theorem dX12_counter_22 : decode cX12_counter 22 = .ok (.ifCond .ne 5, 3) := by decide +kernel
theorem dX12_counter_25 : decode cX12_counter 25 = .ok (.iconst (-1), 1) := by decide +kernel
theorem dX12_counter_26 : decode cX12_counter 26 = .ok (.ireturn, 1) := by decide +kernel
theorem dX12_counter_27 : decode cX12_counter 27 = .ok (.iload_n 1, 1) := by decide +kernel
theorem dX12_counter_28 : decode cX12_counter 28 = .ok (.ifCond .eq 7, 3) := by decide +kernel
theorem dX12_counter_31 : decode cX12_counter 31 = .ok (.iload_n 2, 1) := by decide +kernel
theorem dX12_counter_32 : decode cX12_counter 32 = .ok (.ifCond .ne 6, 3) := by decide +kernel
theorem dX12_counter_35 : decode cX12_counter 35 = .ok (.bipush (-2), 2) := by decide +kernel
theorem dX12_counter_37 : decode cX12_counter 37 = .ok (.ireturn, 1) := by decide +kernel
theorem dX12_counter_38 : decode cX12_counter 38 = .ok (.iconst 1, 1) := by decide +kernel
theorem dX12_counter_39 : decode cX12_counter 39 = .ok (.istore_n 3, 1) := by decide +kernel
theorem dX12_counter_40 : decode cX12_counter 40 = .ok (.iload_n 3, 1) := by decide +kernel
theorem dX12_counter_41 : decode cX12_counter 41 = .ok (.iload_n 1, 1) := by decide +kernel
theorem dX12_counter_42 : decode cX12_counter 42 = .ok (.iload_n 2, 1) := by decide +kernel
theorem dX12_counter_43 : decode cX12_counter 43 = .ok (.invokestatic 250, 3) := by decide +kernel
theorem dX12_counter_46 : decode cX12_counter 46 = .ok (.if_icmp .gt 43, 3) := by decide +kernel
theorem dX12_counter_49 : decode cX12_counter 49 = .ok (.iconst 1, 1) := by decide +kernel
theorem dX12_counter_50 : decode cX12_counter 50 = .ok (.istore 4, 2) := by decide +kernel
theorem dX12_counter_52 : decode cX12_counter 52 = .ok (.iload 4, 2) := by decide +kernel
theorem dX12_counter_54 : decode cX12_counter 54 = .ok (.iload_n 3, 1) := by decide +kernel
theorem dX12_counter_55 : decode cX12_counter 55 = .ok (.if_icmp .gt 28, 3) := by decide +kernel
theorem dX12_counter_58 : decode cX12_counter 58 = .ok (.aload_n 0, 1) := by decide +kernel
theorem dX12_counter_59 : decode cX12_counter 59 = .ok (.getfield 96, 3) := by decide +kernel
theorem dX12_counter_62 : decode cX12_counter 62 = .ok (.bipush 100, 2) := by decide +kernel
theorem dX12_counter_64 : decode cX12_counter 64 = .ok (.iload_n 3, 1) := by decide +kernel
theorem dX12_counter_65 : decode cX12_counter 65 = .ok (.imul, 1) := by decide +kernel
theorem dX12_counter_66 : decode cX12_counter 66 = .ok (.iload 4, 2) := by decide +kernel
theorem dX12_counter_68 : decode cX12_counter 68 = .ok (.iadd, 1) := by decide +kernel
theorem dX12_counter_69 : decode cX12_counter 69 = .ok (.aload_n 0, 1) := by decide +kernel
theorem dX12_counter_70 : decode cX12_counter 70 = .ok (.iload_n 3, 1) := by decide +kernel
theorem dX12_counter_71 : decode cX12_counter 71 = .ok (.iload 4, 2) := by decide +kernel
theorem dX12_counter_73 : decode cX12_counter 73 = .ok (.invokevirtual 402, 3) := by decide +kernel
theorem dX12_counter_76 : decode cX12_counter 76 = .ok (.iastore, 1) := by decide +kernel
theorem dX12_counter_77 : decode cX12_counter 77 = .ok (.iinc 4 1, 3) := by decide +kernel
theorem dX12_counter_80 : decode cX12_counter 80 = .ok (.goto (-28), 3) := by decide +kernel
theorem dX12_counter_83 : decode cX12_counter 83 = .ok (.iinc 3 1, 3) := by decide +kernel
theorem dX12_counter_86 : decode cX12_counter 86 = .ok (.goto (-46), 3) := by decide +kernel
theorem dX12_counter_89 : decode cX12_counter 89 = .ok (.aload_n 0, 1) := by decide +kernel
theorem dX12_counter_90 : decode cX12_counter 90 = .ok (.iload_n 1, 1) := by decide +kernel
theorem dX12_counter_91 : decode cX12_counter 91 = .ok (.iload_n 2, 1) := by decide +kernel
theorem dX12_counter_92 : decode cX12_counter 92 = .ok (.invokevirtual 402, 3) := by decide +kernel
theorem dX12_counter_95 : decode cX12_counter 95 = .ok (.istore_n 3, 1) := by decide +kernel
theorem dX12_counter_96 : decode cX12_counter 96 = .ok (.aload_n 0, 1) := by decide +kernel
theorem dX12_counter_97 : decode cX12_counter 97 = .ok (.iconst 0, 1) := by decide +kernel
theorem dX12_counter_98 : decode cX12_counter 98 = .ok (.putfield 113, 3) := by decide +kernel
theorem dX12_counter_101 : decode cX12_counter 101 = .ok (.iload_n 3, 1) := by decide +kernel
theorem dX12_counter_102 : decode cX12_counter 102 = .ok (.ifCond .ne 5, 3) := by decide +kernel
theorem dX12_counter_105 : decode cX12_counter 105 = .ok (.iconst 0, 1) := by decide +kernel
theorem dX12_counter_106 : decode cX12_counter 106 = .ok (.ireturn, 1) := by decide +kernel
theorem dX12_counter_107 : decode cX12_counter 107 = .ok (.aload_n 0, 1) := by decide +kernel
theorem dX12_counter_108 : decode cX12_counter 108 = .ok (.iload_n 3, 1) := by decide +kernel
theorem dX12_counter_109 : decode cX12_counter 109 = .ok (.i2l, 1) := by decide +kernel
theorem dX12_counter_110 : decode cX12_counter 110 = .ok (.invokevirtual 329, 3) := by decide +kernel
theorem dX12_counter_113 : decode cX12_counter 113 = .ok (.iconst 1, 1) := by decide +kernel
theorem dX12_counter_114 : decode cX12_counter 114 = .ok (.ireturn, 1) := by decide +kernel
theorem dX12_common_0 : decode cX12_common 0 = .ok (.lload_n 2, 1) := by decide +kernel
theorem dX12_common_1 : decode cX12_common 1 = .ok (.lconst 0, 1) := by decide +kernel
theorem dX12_common_2 : decode cX12_common 2 = .ok (.lcmp, 1) := by decide +kernel
theorem dX12_common_3 : decode cX12_common 3 = .ok (.ifCond .ne 7, 3) := by decide +kernel
theorem dX12_common_6 : decode cX12_common 6 = .ok (.lload_n 0, 1) := by decide +kernel
theorem dX12_common_7 : decode cX12_common 7 = .ok (.goto 10, 3) := by decide +kernel
theorem dX12_common_10 : decode cX12_common 10 = .ok (.lload_n 2, 1) := by decide +kernel
theorem dX12_common_11 : decode cX12_common 11 = .ok (.lload_n 0, 1) := by decide +kernel
theorem dX12_common_12 : decode cX12_common 12 = .ok (.lload_n 2, 1) := by decide +kernel
theorem dX12_common_13 : decode cX12_common 13 = .ok (.lrem, 1) := by decide +kernel
theorem dX12_common_14 : decode cX12_common 14 = .ok (.invokestatic 405, 3) := by decide +kernel
theorem dX12_common_17 : decode cX12_common 17 = .ok (.lreturn, 1) := by decide +kernel
theorem dX12_tellPart_0 : decode cX12_tellPart 0 = .ok (.lload_n 1, 1) := by decide +kernel
theorem dX12_tellPart_1 : decode cX12_tellPart 1 = .ok (.lload_n 3, 1) := by decide +kernel
theorem dX12_tellPart_2 : decode cX12_tellPart 2 = .ok (.invokestatic 405, 3) := by decide +kernel
theorem dX12_tellPart_5 : decode cX12_tellPart 5 = .ok (.lstore 5, 2) := by decide +kernel
theorem dX12_tellPart_7 : decode cX12_tellPart 7 = .ok (.aload_n 0, 1) := by decide +kernel
theorem dX12_tellPart_8 : decode cX12_tellPart 8 = .ok (.iconst 0, 1) := by decide +kernel
theorem dX12_tellPart_9 : decode cX12_tellPart 9 = .ok (.putfield 113, 3) := by decide +kernel
theorem dX12_tellPart_12 : decode cX12_tellPart 12 = .ok (.aload_n 0, 1) := by decide +kernel
theorem dX12_tellPart_13 : decode cX12_tellPart 13 = .ok (.lload_n 1, 1) := by decide +kernel
theorem dX12_tellPart_14 : decode cX12_tellPart 14 = .ok (.lload 5, 2) := by decide +kernel
theorem dX12_tellPart_16 : decode cX12_tellPart 16 = .ok (.ldiv, 1) := by decide +kernel
theorem dX12_tellPart_17 : decode cX12_tellPart 17 = .ok (.invokevirtual 329, 3) := by decide +kernel
theorem dX12_tellPart_20 : decode cX12_tellPart 20 = .ok (.aload_n 0, 1) := by decide +kernel
theorem dX12_tellPart_21 : decode cX12_tellPart 21 = .ok (.lload_n 3, 1) := by decide +kernel
theorem dX12_tellPart_22 : decode cX12_tellPart 22 = .ok (.lload 5, 2) := by decide +kernel
theorem dX12_tellPart_24 : decode cX12_tellPart 24 = .ok (.ldiv, 1) := by decide +kernel
theorem dX12_tellPart_25 : decode cX12_tellPart 25 = .ok (.invokevirtual 329, 3) := by decide +kernel
theorem dX12_tellPart_28 : decode cX12_tellPart 28 = .ok (.return_, 1) := by decide +kernel
theorem dX12_orders_0 : decode cX12_orders 0 = .ok (.iload_n 0, 1) := by decide +kernel
theorem dX12_orders_1 : decode cX12_orders 1 = .ok (.ifCond .ne 7, 3) := by decide +kernel
theorem dX12_orders_4 : decode cX12_orders 4 = .ok (.lconst 1, 1) := by decide +kernel
theorem dX12_orders_5 : decode cX12_orders 5 = .ok (.goto 12, 3) := by decide +kernel
theorem dX12_orders_8 : decode cX12_orders 8 = .ok (.iload_n 0, 1) := by decide +kernel
theorem dX12_orders_9 : decode cX12_orders 9 = .ok (.i2l, 1) := by decide +kernel
theorem dX12_orders_10 : decode cX12_orders 10 = .ok (.iload_n 0, 1) := by decide +kernel
theorem dX12_orders_11 : decode cX12_orders 11 = .ok (.iconst 1, 1) := by decide +kernel
theorem dX12_orders_12 : decode cX12_orders 12 = .ok (.isub, 1) := by decide +kernel
theorem dX12_orders_13 : decode cX12_orders 13 = .ok (.invokestatic 409, 3) := by decide +kernel
theorem dX12_orders_16 : decode cX12_orders 16 = .ok (.lmul, 1) := by decide +kernel
theorem dX12_orders_17 : decode cX12_orders 17 = .ok (.lreturn, 1) := by decide +kernel
theorem dX12_strays_0 : decode cX12_strays 0 = .ok (.iload_n 0, 1) := by decide +kernel
theorem dX12_strays_1 : decode cX12_strays 1 = .ok (.ifCond .ne 7, 3) := by decide +kernel
theorem dX12_strays_4 : decode cX12_strays 4 = .ok (.lconst 1, 1) := by decide +kernel
theorem dX12_strays_5 : decode cX12_strays 5 = .ok (.goto 30, 3) := by decide +kernel
theorem dX12_strays_8 : decode cX12_strays 8 = .ok (.iload_n 0, 1) := by decide +kernel
theorem dX12_strays_9 : decode cX12_strays 9 = .ok (.iconst 1, 1) := by decide +kernel
theorem dX12_strays_10 : decode cX12_strays 10 = .ok (.if_icmp .ne 7, 3) := by decide +kernel
theorem dX12_strays_13 : decode cX12_strays 13 = .ok (.lconst 0, 1) := by decide +kernel
theorem dX12_strays_14 : decode cX12_strays 14 = .ok (.goto 21, 3) := by decide +kernel
theorem dX12_strays_17 : decode cX12_strays 17 = .ok (.iload_n 0, 1) := by decide +kernel
theorem dX12_strays_18 : decode cX12_strays 18 = .ok (.iconst 1, 1) := by decide +kernel
theorem dX12_strays_19 : decode cX12_strays 19 = .ok (.isub, 1) := by decide +kernel
theorem dX12_strays_20 : decode cX12_strays 20 = .ok (.i2l, 1) := by decide +kernel
theorem dX12_strays_21 : decode cX12_strays 21 = .ok (.iload_n 0, 1) := by decide +kernel
theorem dX12_strays_22 : decode cX12_strays 22 = .ok (.iconst 1, 1) := by decide +kernel
theorem dX12_strays_23 : decode cX12_strays 23 = .ok (.isub, 1) := by decide +kernel
theorem dX12_strays_24 : decode cX12_strays 24 = .ok (.invokestatic 413, 3) := by decide +kernel
theorem dX12_strays_27 : decode cX12_strays 27 = .ok (.iload_n 0, 1) := by decide +kernel
theorem dX12_strays_28 : decode cX12_strays 28 = .ok (.iconst 2, 1) := by decide +kernel
theorem dX12_strays_29 : decode cX12_strays 29 = .ok (.isub, 1) := by decide +kernel
theorem dX12_strays_30 : decode cX12_strays 30 = .ok (.invokestatic 413, 3) := by decide +kernel
theorem dX12_strays_33 : decode cX12_strays 33 = .ok (.ladd, 1) := by decide +kernel
theorem dX12_strays_34 : decode cX12_strays 34 = .ok (.lmul, 1) := by decide +kernel
theorem dX12_strays_35 : decode cX12_strays 35 = .ok (.lreturn, 1) := by decide +kernel
theorem dX12_right_0 : decode cX12_right 0 = .ok (.aload_n 0, 1) := by decide +kernel
theorem dX12_right_1 : decode cX12_right 1 = .ok (.iconst 0, 1) := by decide +kernel
theorem dX12_right_2 : decode cX12_right 2 = .ok (.putfield 109, 3) := by decide +kernel
theorem dX12_right_5 : decode cX12_right 5 = .ok (.iload_n 1, 1) := by decide +kernel
theorem dX12_right_6 : decode cX12_right 6 = .ok (.iconst 1, 1) := by decide +kernel
theorem dX12_right_7 : decode cX12_right 7 = .ok (.bipush 8, 2) := by decide +kernel
theorem dX12_right_9 : decode cX12_right 9 = .ok (.invokestatic 119, 3) := by decide +kernel
theorem dX12_right_12 : decode cX12_right 12 = .ok (.ifCond .eq 13, 3) := by decide +kernel
theorem dX12_right_15 : decode cX12_right 15 = .ok (.iload_n 2, 1) := by decide +kernel
theorem dX12_right_16 : decode cX12_right 16 = .ok (.iconst 0, 1) := by decide +kernel
theorem dX12_right_17 : decode cX12_right 17 = .ok (.bipush 8, 2) := by decide +kernel
theorem dX12_right_19 : decode cX12_right 19 = .ok (.invokestatic 119, 3) := by decide +kernel
theorem dX12_right_22 : decode cX12_right 22 = .ok (.ifCond .ne 5, 3) := by decide +kernel
theorem dX12_right_25 : decode cX12_right 25 = .ok (.iconst (-1), 1) := by decide +kernel
theorem dX12_right_26 : decode cX12_right 26 = .ok (.ireturn, 1) := by decide +kernel
theorem dX12_right_27 : decode cX12_right 27 = .ok (.aload_n 0, 1) := by decide +kernel
theorem dX12_right_28 : decode cX12_right 28 = .ok (.iload_n 2, 1) := by decide +kernel
theorem dX12_right_29 : decode cX12_right 29 = .ok (.iload_n 1, 1) := by decide +kernel
theorem dX12_right_30 : decode cX12_right 30 = .ok (.if_icmp .le 7, 3) := by decide +kernel
theorem dX12_right_33 : decode cX12_right 33 = .ok (.lconst 0, 1) := by decide +kernel
theorem dX12_right_34 : decode cX12_right 34 = .ok (.goto 26, 3) := by decide +kernel
theorem dX12_right_37 : decode cX12_right 37 = .ok (.iload_n 1, 1) := by decide +kernel
theorem dX12_right_38 : decode cX12_right 38 = .ok (.invokestatic 409, 3) := by decide +kernel
theorem dX12_right_41 : decode cX12_right 41 = .ok (.iload_n 2, 1) := by decide +kernel
theorem dX12_right_42 : decode cX12_right 42 = .ok (.invokestatic 409, 3) := by decide +kernel
theorem dX12_right_45 : decode cX12_right 45 = .ok (.ldiv, 1) := by decide +kernel
theorem dX12_right_46 : decode cX12_right 46 = .ok (.iload_n 1, 1) := by decide +kernel
theorem dX12_right_47 : decode cX12_right 47 = .ok (.iload_n 2, 1) := by decide +kernel
theorem dX12_right_48 : decode cX12_right 48 = .ok (.isub, 1) := by decide +kernel
theorem dX12_right_49 : decode cX12_right 49 = .ok (.invokestatic 409, 3) := by decide +kernel
theorem dX12_right_52 : decode cX12_right 52 = .ok (.ldiv, 1) := by decide +kernel
theorem dX12_right_53 : decode cX12_right 53 = .ok (.iload_n 1, 1) := by decide +kernel
theorem dX12_right_54 : decode cX12_right 54 = .ok (.iload_n 2, 1) := by decide +kernel
theorem dX12_right_55 : decode cX12_right 55 = .ok (.isub, 1) := by decide +kernel
theorem dX12_right_56 : decode cX12_right 56 = .ok (.invokestatic 413, 3) := by decide +kernel
theorem dX12_right_59 : decode cX12_right 59 = .ok (.lmul, 1) := by decide +kernel
theorem dX12_right_60 : decode cX12_right 60 = .ok (.iload_n 1, 1) := by decide +kernel
theorem dX12_right_61 : decode cX12_right 61 = .ok (.invokestatic 409, 3) := by decide +kernel
theorem dX12_right_64 : decode cX12_right 64 = .ok (.invokevirtual 416, 3) := by decide +kernel
theorem dX12_right_67 : decode cX12_right 67 = .ok (.iconst 0, 1) := by decide +kernel
theorem dX12_right_68 : decode cX12_right 68 = .ok (.ireturn, 1) := by decide +kernel
theorem dX12_falling_0 : decode cX12_falling 0 = .ok (.lconst 1, 1) := by decide +kernel
theorem dX12_falling_1 : decode cX12_falling 1 = .ok (.lstore_n 2, 1) := by decide +kernel
theorem dX12_falling_2 : decode cX12_falling 2 = .ok (.iconst 0, 1) := by decide +kernel
theorem dX12_falling_3 : decode cX12_falling 3 = .ok (.istore 4, 2) := by decide +kernel
theorem dX12_falling_5 : decode cX12_falling 5 = .ok (.iload 4, 2) := by decide +kernel
theorem dX12_falling_7 : decode cX12_falling 7 = .ok (.iload_n 1, 1) := by decide +kernel
theorem dX12_falling_8 : decode cX12_falling 8 = .ok (.if_icmp .ge 17, 3) := by decide +kernel
theorem dX12_falling_11 : decode cX12_falling 11 = .ok (.lload_n 2, 1) := by decide +kernel
theorem dX12_falling_12 : decode cX12_falling 12 = .ok (.iload_n 0, 1) := by decide +kernel
theorem dX12_falling_13 : decode cX12_falling 13 = .ok (.iload 4, 2) := by decide +kernel
theorem dX12_falling_15 : decode cX12_falling 15 = .ok (.isub, 1) := by decide +kernel
theorem dX12_falling_16 : decode cX12_falling 16 = .ok (.i2l, 1) := by decide +kernel
theorem dX12_falling_17 : decode cX12_falling 17 = .ok (.lmul, 1) := by decide +kernel
theorem dX12_falling_18 : decode cX12_falling 18 = .ok (.lstore_n 2, 1) := by decide +kernel
theorem dX12_falling_19 : decode cX12_falling 19 = .ok (.iinc 4 1, 3) := by decide +kernel
theorem dX12_falling_22 : decode cX12_falling 22 = .ok (.goto (-17), 3) := by decide +kernel
theorem dX12_falling_25 : decode cX12_falling 25 = .ok (.lload_n 2, 1) := by decide +kernel
theorem dX12_falling_26 : decode cX12_falling 26 = .ok (.lreturn, 1) := by decide +kernel
theorem dX12_same_0 : decode cX12_same 0 = .ok (.aload_n 0, 1) := by decide +kernel
theorem dX12_same_1 : decode cX12_same 1 = .ok (.iconst 0, 1) := by decide +kernel
theorem dX12_same_2 : decode cX12_same 2 = .ok (.putfield 109, 3) := by decide +kernel
theorem dX12_same_5 : decode cX12_same 5 = .ok (.iload_n 1, 1) := by decide +kernel
theorem dX12_same_6 : decode cX12_same 6 = .ok (.iconst 1, 1) := by decide +kernel
theorem dX12_same_7 : decode cX12_same 7 = .ok (.iconst 4, 1) := by decide +kernel
theorem dX12_same_8 : decode cX12_same 8 = .ok (.invokestatic 119, 3) := by decide +kernel
theorem dX12_same_11 : decode cX12_same 11 = .ok (.ifCond .ne 5, 3) := by decide +kernel
theorem dX12_same_14 : decode cX12_same 14 = .ok (.iconst (-1), 1) := by decide +kernel
theorem dX12_same_15 : decode cX12_same 15 = .ok (.ireturn, 1) := by decide +kernel
theorem dX12_same_16 : decode cX12_same 16 = .ok (.aload_n 0, 1) := by decide +kernel
theorem dX12_same_17 : decode cX12_same 17 = .ok (.invokevirtual 281, 3) := by decide +kernel
theorem dX12_same_20 : decode cX12_same 20 = .ok (.iload_n 1, 1) := by decide +kernel
theorem dX12_same_21 : decode cX12_same 21 = .ok (.if_icmp .ge 6, 3) := by decide +kernel
theorem dX12_same_24 : decode cX12_same 24 = .ok (.bipush (-2), 2) := by decide +kernel
theorem dX12_same_26 : decode cX12_same 26 = .ok (.ireturn, 1) := by decide +kernel
theorem dX12_same_27 : decode cX12_same 27 = .ok (.lconst 0, 1) := by decide +kernel
theorem dX12_same_28 : decode cX12_same 28 = .ok (.lstore_n 2, 1) := by decide +kernel
theorem dX12_same_29 : decode cX12_same 29 = .ok (.iconst 0, 1) := by decide +kernel
theorem dX12_same_30 : decode cX12_same 30 = .ok (.istore 4, 2) := by decide +kernel
theorem dX12_same_32 : decode cX12_same 32 = .ok (.iload 4, 2) := by decide +kernel
theorem dX12_same_34 : decode cX12_same 34 = .ok (.aload_n 0, 1) := by decide +kernel
theorem dX12_same_35 : decode cX12_same 35 = .ok (.getfield 116, 3) := by decide +kernel
theorem dX12_same_38 : decode cX12_same 38 = .ok (.if_icmp .ge 38, 3) := by decide +kernel
theorem dX12_same_41 : decode cX12_same 41 = .ok (.lload_n 2, 1) := by decide +kernel
theorem dX12_same_42 : decode cX12_same 42 = .ok (.aload_n 0, 1) := by decide +kernel
theorem dX12_same_43 : decode cX12_same 43 = .ok (.getfield 9, 3) := by decide +kernel
theorem dX12_same_46 : decode cX12_same 46 = .ok (.iload 4, 2) := by decide +kernel
theorem dX12_same_48 : decode cX12_same 48 = .ok (.iaload, 1) := by decide +kernel
theorem dX12_same_49 : decode cX12_same 49 = .ok (.iload_n 1, 1) := by decide +kernel
theorem dX12_same_50 : decode cX12_same 50 = .ok (.if_icmp .ge 7, 3) := by decide +kernel
theorem dX12_same_53 : decode cX12_same 53 = .ok (.lconst 0, 1) := by decide +kernel
theorem dX12_same_54 : decode cX12_same 54 = .ok (.goto 14, 3) := by decide +kernel
theorem dX12_same_57 : decode cX12_same 57 = .ok (.aload_n 0, 1) := by decide +kernel
theorem dX12_same_58 : decode cX12_same 58 = .ok (.getfield 9, 3) := by decide +kernel
theorem dX12_same_61 : decode cX12_same 61 = .ok (.iload 4, 2) := by decide +kernel
theorem dX12_same_63 : decode cX12_same 63 = .ok (.iaload, 1) := by decide +kernel
theorem dX12_same_64 : decode cX12_same 64 = .ok (.iload_n 1, 1) := by decide +kernel
theorem dX12_same_65 : decode cX12_same 65 = .ok (.invokestatic 420, 3) := by decide +kernel
theorem dX12_same_68 : decode cX12_same 68 = .ok (.ladd, 1) := by decide +kernel
theorem dX12_same_69 : decode cX12_same 69 = .ok (.lstore_n 2, 1) := by decide +kernel
theorem dX12_same_70 : decode cX12_same 70 = .ok (.iinc 4 1, 3) := by decide +kernel
theorem dX12_same_73 : decode cX12_same 73 = .ok (.goto (-41), 3) := by decide +kernel
theorem dX12_same_76 : decode cX12_same 76 = .ok (.aload_n 0, 1) := by decide +kernel
theorem dX12_same_77 : decode cX12_same 77 = .ok (.lload_n 2, 1) := by decide +kernel
theorem dX12_same_78 : decode cX12_same 78 = .ok (.aload_n 0, 1) := by decide +kernel
theorem dX12_same_79 : decode cX12_same 79 = .ok (.invokevirtual 281, 3) := by decide +kernel
theorem dX12_same_82 : decode cX12_same 82 = .ok (.iload_n 1, 1) := by decide +kernel
theorem dX12_same_83 : decode cX12_same 83 = .ok (.invokestatic 420, 3) := by decide +kernel
theorem dX12_same_86 : decode cX12_same 86 = .ok (.invokevirtual 416, 3) := by decide +kernel
theorem dX12_same_89 : decode cX12_same 89 = .ok (.iconst 0, 1) := by decide +kernel
theorem dX12_same_90 : decode cX12_same 90 = .ok (.ireturn, 1) := by decide +kernel
theorem dX12_manGets_0 : decode cX12_manGets 0 = .ok (.iload_n 1, 1) := by decide +kernel
theorem dX12_manGets_1 : decode cX12_manGets 1 = .ok (.iload_n 0, 1) := by decide +kernel
theorem dX12_manGets_2 : decode cX12_manGets 2 = .ok (.if_icmp .lt 7, 3) := by decide +kernel
theorem dX12_manGets_5 : decode cX12_manGets 5 = .ok (.iload_n 2, 1) := by decide +kernel
theorem dX12_manGets_6 : decode cX12_manGets 6 = .ok (.goto 4, 3) := by decide +kernel
theorem dX12_manGets_9 : decode cX12_manGets 9 = .ok (.iconst 0, 1) := by decide +kernel
theorem dX12_manGets_10 : decode cX12_manGets 10 = .ok (.iload_n 1, 1) := by decide +kernel
theorem dX12_manGets_11 : decode cX12_manGets 11 = .ok (.iload_n 3, 1) := by decide +kernel
theorem dX12_manGets_12 : decode cX12_manGets 12 = .ok (.imul, 1) := by decide +kernel
theorem dX12_manGets_13 : decode cX12_manGets 13 = .ok (.isub, 1) := by decide +kernel
theorem dX12_manGets_14 : decode cX12_manGets 14 = .ok (.ireturn, 1) := by decide +kernel
theorem dX12_clerkGets_0 : decode cX12_clerkGets 0 = .ok (.iload_n 1, 1) := by decide +kernel
theorem dX12_clerkGets_1 : decode cX12_clerkGets 1 = .ok (.iload_n 0, 1) := by decide +kernel
theorem dX12_clerkGets_2 : decode cX12_clerkGets 2 = .ok (.if_icmp .lt 7, 3) := by decide +kernel
theorem dX12_clerkGets_5 : decode cX12_clerkGets 5 = .ok (.iload_n 0, 1) := by decide +kernel
theorem dX12_clerkGets_6 : decode cX12_clerkGets 6 = .ok (.goto 4, 3) := by decide +kernel
theorem dX12_clerkGets_9 : decode cX12_clerkGets 9 = .ok (.iconst 0, 1) := by decide +kernel
theorem dX12_clerkGets_10 : decode cX12_clerkGets 10 = .ok (.ireturn, 1) := by decide +kernel
theorem dX12_isRest_0 : decode cX12_isRest 0 = .ok (.iconst 0, 1) := by decide +kernel
theorem dX12_isRest_1 : decode cX12_isRest 1 = .ok (.istore 4, 2) := by decide +kernel
theorem dX12_isRest_3 : decode cX12_isRest 3 = .ok (.iload 4, 2) := by decide +kernel
theorem dX12_isRest_5 : decode cX12_isRest 5 = .ok (.bipush 9, 2) := by decide +kernel
theorem dX12_isRest_7 : decode cX12_isRest 7 = .ok (.if_icmp .gt 43, 3) := by decide +kernel
theorem dX12_isRest_10 : decode cX12_isRest 10 = .ok (.iload 4, 2) := by decide +kernel
theorem dX12_isRest_12 : decode cX12_isRest 12 = .ok (.iload_n 1, 1) := by decide +kernel
theorem dX12_isRest_13 : decode cX12_isRest 13 = .ok (.invokestatic 424, 3) := by decide +kernel
theorem dX12_isRest_16 : decode cX12_isRest 16 = .ok (.iload_n 0, 1) := by decide +kernel
theorem dX12_isRest_17 : decode cX12_isRest 17 = .ok (.iload_n 1, 1) := by decide +kernel
theorem dX12_isRest_18 : decode cX12_isRest 18 = .ok (.invokestatic 424, 3) := by decide +kernel
theorem dX12_isRest_21 : decode cX12_isRest 21 = .ok (.if_icmp .gt 21, 3) := by decide +kernel
theorem dX12_isRest_24 : decode cX12_isRest 24 = .ok (.iload_n 0, 1) := by decide +kernel
theorem dX12_isRest_25 : decode cX12_isRest 25 = .ok (.iload 4, 2) := by decide +kernel
theorem dX12_isRest_27 : decode cX12_isRest 27 = .ok (.iload_n 2, 1) := by decide +kernel
theorem dX12_isRest_28 : decode cX12_isRest 28 = .ok (.iload_n 3, 1) := by decide +kernel
theorem dX12_isRest_29 : decode cX12_isRest 29 = .ok (.invokestatic 427, 3) := by decide +kernel
theorem dX12_isRest_32 : decode cX12_isRest 32 = .ok (.iload_n 0, 1) := by decide +kernel
theorem dX12_isRest_33 : decode cX12_isRest 33 = .ok (.iload_n 1, 1) := by decide +kernel
theorem dX12_isRest_34 : decode cX12_isRest 34 = .ok (.iload_n 2, 1) := by decide +kernel
theorem dX12_isRest_35 : decode cX12_isRest 35 = .ok (.iload_n 3, 1) := by decide +kernel
theorem dX12_isRest_36 : decode cX12_isRest 36 = .ok (.invokestatic 427, 3) := by decide +kernel
theorem dX12_isRest_39 : decode cX12_isRest 39 = .ok (.if_icmp .le 5, 3) := by decide +kernel
theorem dX12_isRest_42 : decode cX12_isRest 42 = .ok (.iconst 0, 1) := by decide +kernel
theorem dX12_isRest_43 : decode cX12_isRest 43 = .ok (.ireturn, 1) := by decide +kernel
theorem dX12_isRest_44 : decode cX12_isRest 44 = .ok (.iinc 4 1, 3) := by decide +kernel
theorem dX12_isRest_47 : decode cX12_isRest 47 = .ok (.goto (-44), 3) := by decide +kernel
theorem dX12_isRest_50 : decode cX12_isRest 50 = .ok (.iconst 1, 1) := by decide +kernel
theorem dX12_isRest_51 : decode cX12_isRest 51 = .ok (.ireturn, 1) := by decide +kernel
theorem dX12_rests_0 : decode cX12_rests 0 = .ok (.aload_n 0, 1) := by decide +kernel
theorem dX12_rests_1 : decode cX12_rests 1 = .ok (.iconst 0, 1) := by decide +kernel
theorem dX12_rests_2 : decode cX12_rests 2 = .ok (.putfield 109, 3) := by decide +kernel
theorem dX12_rests_5 : decode cX12_rests 5 = .ok (.iload_n 1, 1) := by decide +kernel
theorem dX12_rests_6 : decode cX12_rests 6 = .ok (.iconst 0, 1) := by decide +kernel
theorem dX12_rests_7 : decode cX12_rests 7 = .ok (.bipush 20, 2) := by decide +kernel
theorem dX12_rests_9 : decode cX12_rests 9 = .ok (.invokestatic 119, 3) := by decide +kernel
theorem dX12_rests_12 : decode cX12_rests 12 = .ok (.ifCond .eq 12, 3) := by decide +kernel
theorem dX12_rests_15 : decode cX12_rests 15 = .ok (.iload_n 2, 1) := by decide +kernel
theorem dX12_rests_16 : decode cX12_rests 16 = .ok (.iconst 0, 1) := by decide +kernel
theorem dX12_rests_17 : decode cX12_rests 17 = .ok (.iconst 5, 1) := by decide +kernel
theorem dX12_rests_18 : decode cX12_rests 18 = .ok (.invokestatic 119, 3) := by decide +kernel
theorem dX12_rests_21 : decode cX12_rests 21 = .ok (.ifCond .ne 5, 3) := by decide +kernel
theorem dX12_rests_24 : decode cX12_rests 24 = .ok (.iconst (-1), 1) := by decide +kernel
theorem dX12_rests_25 : decode cX12_rests 25 = .ok (.ireturn, 1) := by decide +kernel
theorem dX12_rests_26 : decode cX12_rests 26 = .ok (.iconst 0, 1) := by decide +kernel
theorem dX12_rests_27 : decode cX12_rests 27 = .ok (.istore_n 3, 1) := by decide +kernel
theorem dX12_rests_28 : decode cX12_rests 28 = .ok (.aload_n 0, 1) := by decide +kernel
theorem dX12_rests_29 : decode cX12_rests 29 = .ok (.iconst 0, 1) := by decide +kernel
theorem dX12_rests_30 : decode cX12_rests 30 = .ok (.putfield 113, 3) := by decide +kernel
theorem dX12_rests_33 : decode cX12_rests 33 = .ok (.iconst 0, 1) := by decide +kernel
theorem dX12_rests_34 : decode cX12_rests 34 = .ok (.istore 4, 2) := by decide +kernel
theorem dX12_rests_36 : decode cX12_rests 36 = .ok (.iload 4, 2) := by decide +kernel
theorem dX12_rests_38 : decode cX12_rests 38 = .ok (.bipush 9, 2) := by decide +kernel
theorem dX12_rests_40 : decode cX12_rests 40 = .ok (.if_icmp .gt 61, 3) := by decide +kernel
theorem dX12_rests_43 : decode cX12_rests 43 = .ok (.iconst 0, 1) := by decide +kernel
theorem dX12_rests_44 : decode cX12_rests 44 = .ok (.istore 5, 2) := by decide +kernel
theorem dX12_rests_46 : decode cX12_rests 46 = .ok (.iload 5, 2) := by decide +kernel
theorem dX12_rests_48 : decode cX12_rests 48 = .ok (.bipush 9, 2) := by decide +kernel
theorem dX12_rests_50 : decode cX12_rests 50 = .ok (.if_icmp .gt 45, 3) := by decide +kernel
theorem dX12_rests_53 : decode cX12_rests 53 = .ok (.iload 4, 2) := by decide +kernel
theorem dX12_rests_55 : decode cX12_rests 55 = .ok (.iload 5, 2) := by decide +kernel
theorem dX12_rests_57 : decode cX12_rests 57 = .ok (.iload_n 1, 1) := by decide +kernel
theorem dX12_rests_58 : decode cX12_rests 58 = .ok (.iload_n 2, 1) := by decide +kernel
theorem dX12_rests_59 : decode cX12_rests 59 = .ok (.invokestatic 431, 3) := by decide +kernel
theorem dX12_rests_62 : decode cX12_rests 62 = .ok (.ifCond .ne 6, 3) := by decide +kernel
theorem dX12_rests_65 : decode cX12_rests 65 = .ok (.goto 24, 3) := by decide +kernel
theorem dX12_rests_68 : decode cX12_rests 68 = .ok (.iload_n 3, 1) := by decide +kernel
theorem dX12_rests_69 : decode cX12_rests 69 = .ok (.ifCond .ne 17, 3) := by decide +kernel
theorem dX12_rests_72 : decode cX12_rests 72 = .ok (.aload_n 0, 1) := by decide +kernel
theorem dX12_rests_73 : decode cX12_rests 73 = .ok (.iload 4, 2) := by decide +kernel
theorem dX12_rests_75 : decode cX12_rests 75 = .ok (.i2l, 1) := by decide +kernel
theorem dX12_rests_76 : decode cX12_rests 76 = .ok (.invokevirtual 329, 3) := by decide +kernel
theorem dX12_rests_79 : decode cX12_rests 79 = .ok (.aload_n 0, 1) := by decide +kernel
theorem dX12_rests_80 : decode cX12_rests 80 = .ok (.iload 5, 2) := by decide +kernel
theorem dX12_rests_82 : decode cX12_rests 82 = .ok (.i2l, 1) := by decide +kernel
theorem dX12_rests_83 : decode cX12_rests 83 = .ok (.invokevirtual 329, 3) := by decide +kernel
theorem dX12_rests_86 : decode cX12_rests 86 = .ok (.iinc 3 1, 3) := by decide +kernel
theorem dX12_rests_89 : decode cX12_rests 89 = .ok (.iinc 5 1, 3) := by decide +kernel
theorem dX12_rests_92 : decode cX12_rests 92 = .ok (.goto (-46), 3) := by decide +kernel
theorem dX12_rests_95 : decode cX12_rests 95 = .ok (.iinc 4 1, 3) := by decide +kernel
theorem dX12_rests_98 : decode cX12_rests 98 = .ok (.goto (-62), 3) := by decide +kernel
theorem dX12_rests_101 : decode cX12_rests 101 = .ok (.iload_n 3, 1) := by decide +kernel
theorem dX12_rests_102 : decode cX12_rests 102 = .ok (.ireturn, 1) := by decide +kernel
theorem dX12_hadIn10_0 : decode cX12_hadIn10 0 = .ok (.aload_n 0, 1) := by decide +kernel
theorem dX12_hadIn10_1 : decode cX12_hadIn10 1 = .ok (.getfield 9, 3) := by decide +kernel
theorem dX12_hadIn10_4 : decode cX12_hadIn10 4 = .ok (.aload_n 0, 1) := by decide +kernel
theorem dX12_hadIn10_5 : decode cX12_hadIn10 5 = .ok (.getfield 57, 3) := by decide +kernel
theorem dX12_hadIn10_8 : decode cX12_hadIn10 8 = .ok (.iconst 0, 1) := by decide +kernel
theorem dX12_hadIn10_9 : decode cX12_hadIn10 9 = .ok (.invokestatic 284, 3) := by decide +kernel
theorem dX12_hadIn10_12 : decode cX12_hadIn10 12 = .ok (.aload_n 0, 1) := by decide +kernel
theorem dX12_hadIn10_13 : decode cX12_hadIn10 13 = .ok (.aload_n 0, 1) := by decide +kernel
theorem dX12_hadIn10_14 : decode cX12_hadIn10 14 = .ok (.getfield 57, 3) := by decide +kernel
theorem dX12_hadIn10_17 : decode cX12_hadIn10 17 = .ok (.bipush 10, 2) := by decide +kernel
theorem dX12_hadIn10_19 : decode cX12_hadIn10 19 = .ok (.invokevirtual 322, 3) := by decide +kernel
theorem dX12_hadIn10_22 : decode cX12_hadIn10 22 = .ok (.aload_n 0, 1) := by decide +kernel
theorem dX12_hadIn10_23 : decode cX12_hadIn10 23 = .ok (.aload_n 0, 1) := by decide +kernel
theorem dX12_hadIn10_24 : decode cX12_hadIn10 24 = .ok (.getfield 57, 3) := by decide +kernel
theorem dX12_hadIn10_27 : decode cX12_hadIn10 27 = .ok (.invokevirtual 333, 3) := by decide +kernel
theorem dX12_hadIn10_30 : decode cX12_hadIn10 30 = .ok (.ireturn, 1) := by decide +kernel
theorem dX12_law_0 : decode cX12_law 0 = .ok (.aload_n 0, 1) := by decide +kernel
theorem dX12_law_1 : decode cX12_law 1 = .ok (.iconst 0, 1) := by decide +kernel
theorem dX12_law_2 : decode cX12_law 2 = .ok (.putfield 109, 3) := by decide +kernel
theorem dX12_law_5 : decode cX12_law 5 = .ok (.aload_n 0, 1) := by decide +kernel
theorem dX12_law_6 : decode cX12_law 6 = .ok (.getfield 129, 3) := by decide +kernel
theorem dX12_law_9 : decode cX12_law 9 = .ok (.istore_n 1, 1) := by decide +kernel
theorem dX12_law_10 : decode cX12_law 10 = .ok (.aload_n 0, 1) := by decide +kernel
theorem dX12_law_11 : decode cX12_law 11 = .ok (.invokevirtual 226, 3) := by decide +kernel
theorem dX12_law_14 : decode cX12_law 14 = .ok (.ifCond .ne 12, 3) := by decide +kernel
theorem dX12_law_17 : decode cX12_law 17 = .ok (.sipush (-10000), 3) := by decide +kernel
theorem dX12_law_20 : decode cX12_law 20 = .ok (.aload_n 0, 1) := by decide +kernel
theorem dX12_law_21 : decode cX12_law 21 = .ok (.getfield 144, 3) := by decide +kernel
theorem dX12_law_24 : decode cX12_law 24 = .ok (.isub, 1) := by decide +kernel
theorem dX12_law_25 : decode cX12_law 25 = .ok (.ireturn, 1) := by decide +kernel
theorem dX12_law_26 : decode cX12_law 26 = .ok (.aload_n 0, 1) := by decide +kernel
theorem dX12_law_27 : decode cX12_law 27 = .ok (.invokevirtual 435, 3) := by decide +kernel
theorem dX12_law_30 : decode cX12_law 30 = .ok (.istore_n 2, 1) := by decide +kernel
theorem dX12_law_31 : decode cX12_law 31 = .ok (.aload_n 0, 1) := by decide +kernel
theorem dX12_law_32 : decode cX12_law 32 = .ok (.getfield 42, 3) := by decide +kernel
theorem dX12_law_35 : decode cX12_law 35 = .ok (.astore_n 3, 1) := by decide +kernel
theorem dX12_law_36 : decode cX12_law 36 = .ok (.aload_n 0, 1) := by decide +kernel
theorem dX12_law_37 : decode cX12_law 37 = .ok (.getfield 229, 3) := by decide +kernel
theorem dX12_law_40 : decode cX12_law 40 = .ok (.istore 4, 2) := by decide +kernel
theorem dX12_law_42 : decode cX12_law 42 = .ok (.aload_n 0, 1) := by decide +kernel
theorem dX12_law_43 : decode cX12_law 43 = .ok (.aload_n 0, 1) := by decide +kernel
theorem dX12_law_44 : decode cX12_law 44 = .ok (.getfield 45, 3) := by decide +kernel
theorem dX12_law_47 : decode cX12_law 47 = .ok (.putfield 42, 3) := by decide +kernel
theorem dX12_law_50 : decode cX12_law 50 = .ok (.aload_n 0, 1) := by decide +kernel
theorem dX12_law_51 : decode cX12_law 51 = .ok (.iload_n 1, 1) := by decide +kernel
theorem dX12_law_52 : decode cX12_law 52 = .ok (.putfield 229, 3) := by decide +kernel
theorem dX12_law_55 : decode cX12_law 55 = .ok (.iconst 0, 1) := by decide +kernel
theorem dX12_law_56 : decode cX12_law 56 = .ok (.istore 5, 2) := by decide +kernel
theorem dX12_law_58 : decode cX12_law 58 = .ok (.iload 5, 2) := by decide +kernel
theorem dX12_law_60 : decode cX12_law 60 = .ok (.iload_n 1, 1) := by decide +kernel
theorem dX12_law_61 : decode cX12_law 61 = .ok (.if_icmp .ge 23, 3) := by decide +kernel
theorem dX12_law_64 : decode cX12_law 64 = .ok (.aload_n 0, 1) := by decide +kernel
theorem dX12_law_65 : decode cX12_law 65 = .ok (.getfield 42, 3) := by decide +kernel
theorem dX12_law_68 : decode cX12_law 68 = .ok (.iload 5, 2) := by decide +kernel
theorem dX12_law_70 : decode cX12_law 70 = .ok (.aload_n 0, 1) := by decide +kernel
theorem dX12_law_71 : decode cX12_law 71 = .ok (.getfield 28, 3) := by decide +kernel
theorem dX12_law_74 : decode cX12_law 74 = .ok (.iload 5, 2) := by decide +kernel
theorem dX12_law_76 : decode cX12_law 76 = .ok (.baload, 1) := by decide +kernel
theorem dX12_law_77 : decode cX12_law 77 = .ok (.bastore, 1) := by decide +kernel
theorem dX12_law_78 : decode cX12_law 78 = .ok (.iinc 5 1, 3) := by decide +kernel
theorem dX12_law_81 : decode cX12_law 81 = .ok (.goto (-23), 3) := by decide +kernel
theorem dX12_law_84 : decode cX12_law 84 = .ok (.aload_n 0, 1) := by decide +kernel
theorem dX12_law_85 : decode cX12_law 85 = .ok (.invokevirtual 435, 3) := by decide +kernel
theorem dX12_law_88 : decode cX12_law 88 = .ok (.istore 5, 2) := by decide +kernel
theorem dX12_law_90 : decode cX12_law 90 = .ok (.aload_n 0, 1) := by decide +kernel
theorem dX12_law_91 : decode cX12_law 91 = .ok (.aload_n 3, 1) := by decide +kernel
theorem dX12_law_92 : decode cX12_law 92 = .ok (.putfield 42, 3) := by decide +kernel
theorem dX12_law_95 : decode cX12_law 95 = .ok (.aload_n 0, 1) := by decide +kernel
theorem dX12_law_96 : decode cX12_law 96 = .ok (.iload 4, 2) := by decide +kernel
theorem dX12_law_98 : decode cX12_law 98 = .ok (.putfield 229, 3) := by decide +kernel
theorem dX12_law_101 : decode cX12_law 101 = .ok (.aload_n 0, 1) := by decide +kernel
theorem dX12_law_102 : decode cX12_law 102 = .ok (.iconst 0, 1) := by decide +kernel
theorem dX12_law_103 : decode cX12_law 103 = .ok (.putfield 113, 3) := by decide +kernel
theorem dX12_law_106 : decode cX12_law 106 = .ok (.aload_n 0, 1) := by decide +kernel
theorem dX12_law_107 : decode cX12_law 107 = .ok (.iload 5, 2) := by decide +kernel
theorem dX12_law_109 : decode cX12_law 109 = .ok (.i2l, 1) := by decide +kernel
theorem dX12_law_110 : decode cX12_law 110 = .ok (.invokevirtual 329, 3) := by decide +kernel
theorem dX12_law_113 : decode cX12_law 113 = .ok (.aload_n 0, 1) := by decide +kernel
theorem dX12_law_114 : decode cX12_law 114 = .ok (.iload_n 2, 1) := by decide +kernel
theorem dX12_law_115 : decode cX12_law 115 = .ok (.i2l, 1) := by decide +kernel
theorem dX12_law_116 : decode cX12_law 116 = .ok (.invokevirtual 329, 3) := by decide +kernel
theorem dX12_law_119 : decode cX12_law 119 = .ok (.iload 5, 2) := by decide +kernel
theorem dX12_law_121 : decode cX12_law 121 = .ok (.iload_n 2, 1) := by decide +kernel
theorem dX12_law_122 : decode cX12_law 122 = .ok (.isub, 1) := by decide +kernel
theorem dX12_law_123 : decode cX12_law 123 = .ok (.ireturn, 1) := by decide +kernel
theorem dX12_draw_0 : decode cX12_draw 0 = .ok (.aload_n 0, 1) := by decide +kernel
theorem dX12_draw_1 : decode cX12_draw 1 = .ok (.aload_n 0, 1) := by decide +kernel
theorem dX12_draw_2 : decode cX12_draw 2 = .ok (.getfield 438, 3) := by decide +kernel
theorem dX12_draw_5 : decode cX12_draw 5 = .ok (.ldc_w 441, 3) := by decide +kernel
theorem dX12_draw_8 : decode cX12_draw 8 = .ok (.imul, 1) := by decide +kernel
theorem dX12_draw_9 : decode cX12_draw 9 = .ok (.sipush 12345, 3) := by decide +kernel
theorem dX12_draw_12 : decode cX12_draw 12 = .ok (.iadd, 1) := by decide +kernel
theorem dX12_draw_13 : decode cX12_draw 13 = .ok (.putfield 438, 3) := by decide +kernel
theorem dX12_draw_16 : decode cX12_draw 16 = .ok (.aload_n 0, 1) := by decide +kernel
theorem dX12_draw_17 : decode cX12_draw 17 = .ok (.getfield 438, 3) := by decide +kernel
theorem dX12_draw_20 : decode cX12_draw 20 = .ok (.bipush 16, 2) := by decide +kernel
theorem dX12_draw_22 : decode cX12_draw 22 = .ok (.iushr, 1) := by decide +kernel
theorem dX12_draw_23 : decode cX12_draw 23 = .ok (.iload_n 1, 1) := by decide +kernel
theorem dX12_draw_24 : decode cX12_draw 24 = .ok (.irem, 1) := by decide +kernel
theorem dX12_draw_25 : decode cX12_draw 25 = .ok (.ireturn, 1) := by decide +kernel
theorem dX12_years_0 : decode cX12_years 0 = .ok (.aload_n 0, 1) := by decide +kernel
theorem dX12_years_1 : decode cX12_years 1 = .ok (.iconst 0, 1) := by decide +kernel
theorem dX12_years_2 : decode cX12_years 2 = .ok (.putfield 109, 3) := by decide +kernel
theorem dX12_years_5 : decode cX12_years 5 = .ok (.iload_n 2, 1) := by decide +kernel
theorem dX12_years_6 : decode cX12_years 6 = .ok (.iconst 1, 1) := by decide +kernel
theorem dX12_years_7 : decode cX12_years 7 = .ok (.bipush 60, 2) := by decide +kernel
theorem dX12_years_9 : decode cX12_years 9 = .ok (.invokestatic 119, 3) := by decide +kernel
theorem dX12_years_12 : decode cX12_years 12 = .ok (.ifCond .ne 5, 3) := by decide +kernel
theorem dX12_years_15 : decode cX12_years 15 = .ok (.iconst (-1), 1) := by decide +kernel
theorem dX12_years_16 : decode cX12_years 16 = .ok (.ireturn, 1) := by decide +kernel
theorem dX12_years_17 : decode cX12_years 17 = .ok (.aload_n 0, 1) := by decide +kernel
theorem dX12_years_18 : decode cX12_years 18 = .ok (.iload_n 1, 1) := by decide +kernel
theorem dX12_years_19 : decode cX12_years 19 = .ok (.putfield 438, 3) := by decide +kernel
theorem dX12_years_22 : decode cX12_years 22 = .ok (.aload_n 0, 1) := by decide +kernel
theorem dX12_years_23 : decode cX12_years 23 = .ok (.getfield 9, 3) := by decide +kernel
theorem dX12_years_26 : decode cX12_years 26 = .ok (.aload_n 0, 1) := by decide +kernel
theorem dX12_years_27 : decode cX12_years 27 = .ok (.getfield 57, 3) := by decide +kernel
theorem dX12_years_30 : decode cX12_years 30 = .ok (.iconst 0, 1) := by decide +kernel
theorem dX12_years_31 : decode cX12_years 31 = .ok (.invokestatic 284, 3) := by decide +kernel
theorem dX12_years_34 : decode cX12_years 34 = .ok (.iconst 0, 1) := by decide +kernel
theorem dX12_years_35 : decode cX12_years 35 = .ok (.istore_n 3, 1) := by decide +kernel
theorem dX12_years_36 : decode cX12_years 36 = .ok (.iload_n 3, 1) := by decide +kernel
theorem dX12_years_37 : decode cX12_years 37 = .ok (.iload_n 2, 1) := by decide +kernel
theorem dX12_years_38 : decode cX12_years 38 = .ok (.if_icmp .ge 137, 3) := by decide +kernel
theorem dX12_years_41 : decode cX12_years 41 = .ok (.aload_n 0, 1) := by decide +kernel
theorem dX12_years_42 : decode cX12_years 42 = .ok (.iconst 4, 1) := by decide +kernel
theorem dX12_years_43 : decode cX12_years 43 = .ok (.invokevirtual 442, 3) := by decide +kernel
theorem dX12_years_46 : decode cX12_years 46 = .ok (.istore 4, 2) := by decide +kernel
theorem dX12_years_48 : decode cX12_years 48 = .ok (.iload 4, 2) := by decide +kernel
theorem dX12_years_50 : decode cX12_years 50 = .ok (.iconst 2, 1) := by decide +kernel
theorem dX12_years_51 : decode cX12_years 51 = .ok (.if_icmp .ge 11, 3) := by decide +kernel
theorem dX12_years_54 : decode cX12_years 54 = .ok (.aload_n 0, 1) := by decide +kernel
theorem dX12_years_55 : decode cX12_years 55 = .ok (.aload_n 0, 1) := by decide +kernel
theorem dX12_years_56 : decode cX12_years 56 = .ok (.getfield 57, 3) := by decide +kernel
theorem dX12_years_59 : decode cX12_years 59 = .ok (.invokevirtual 319, 3) := by decide +kernel
theorem dX12_years_62 : decode cX12_years 62 = .ok (.iload 4, 2) := by decide +kernel
theorem dX12_years_64 : decode cX12_years 64 = .ok (.iconst 2, 1) := by decide +kernel
theorem dX12_years_65 : decode cX12_years 65 = .ok (.if_icmp .lt 104, 3) := by decide +kernel
theorem dX12_years_68 : decode cX12_years 68 = .ok (.aload_n 0, 1) := by decide +kernel
theorem dX12_years_69 : decode cX12_years 69 = .ok (.getfield 123, 3) := by decide +kernel
theorem dX12_years_72 : decode cX12_years 72 = .ok (.ifCond .eq 97, 3) := by decide +kernel
theorem dX12_years_75 : decode cX12_years 75 = .ok (.aload_n 0, 1) := by decide +kernel
theorem dX12_years_76 : decode cX12_years 76 = .ok (.getfield 116, 3) := by decide +kernel
theorem dX12_years_79 : decode cX12_years 79 = .ok (.ifCond .ne 6, 3) := by decide +kernel
theorem dX12_years_82 : decode cX12_years 82 = .ok (.goto 87, 3) := by decide +kernel
theorem dX12_years_85 : decode cX12_years 85 = .ok (.aload_n 0, 1) := by decide +kernel
theorem dX12_years_86 : decode cX12_years 86 = .ok (.aload_n 0, 1) := by decide +kernel
theorem dX12_years_87 : decode cX12_years 87 = .ok (.getfield 123, 3) := by decide +kernel
theorem dX12_years_90 : decode cX12_years 90 = .ok (.invokevirtual 442, 3) := by decide +kernel
theorem dX12_years_93 : decode cX12_years 93 = .ok (.istore 5, 2) := by decide +kernel
theorem dX12_years_95 : decode cX12_years 95 = .ok (.aload_n 0, 1) := by decide +kernel
theorem dX12_years_96 : decode cX12_years 96 = .ok (.aload_n 0, 1) := by decide +kernel
theorem dX12_years_97 : decode cX12_years 97 = .ok (.getfield 116, 3) := by decide +kernel
theorem dX12_years_100 : decode cX12_years 100 = .ok (.invokevirtual 442, 3) := by decide +kernel
theorem dX12_years_103 : decode cX12_years 103 = .ok (.istore 6, 2) := by decide +kernel
theorem dX12_years_105 : decode cX12_years 105 = .ok (.iload 4, 2) := by decide +kernel
theorem dX12_years_107 : decode cX12_years 107 = .ok (.iconst 2, 1) := by decide +kernel
theorem dX12_years_108 : decode cX12_years 108 = .ok (.if_icmp .ne 29, 3) := by decide +kernel
theorem dX12_years_111 : decode cX12_years 111 = .ok (.aload_n 0, 1) := by decide +kernel
theorem dX12_years_112 : decode cX12_years 112 = .ok (.aload_n 0, 1) := by decide +kernel
theorem dX12_years_113 : decode cX12_years 113 = .ok (.getfield 57, 3) := by decide +kernel
theorem dX12_years_116 : decode cX12_years 116 = .ok (.iload 5, 2) := by decide +kernel
theorem dX12_years_118 : decode cX12_years 118 = .ok (.iload 6, 2) := by decide +kernel
theorem dX12_years_120 : decode cX12_years 120 = .ok (.invokevirtual 292, 3) := by decide +kernel
theorem dX12_years_123 : decode cX12_years 123 = .ok (.ifCond .ne 14, 3) := by decide +kernel
theorem dX12_years_126 : decode cX12_years 126 = .ok (.aload_n 0, 1) := by decide +kernel
theorem dX12_years_127 : decode cX12_years 127 = .ok (.getfield 57, 3) := by decide +kernel
theorem dX12_years_130 : decode cX12_years 130 = .ok (.iload 5, 2) := by decide +kernel
theorem dX12_years_132 : decode cX12_years 132 = .ok (.iload 6, 2) := by decide +kernel
theorem dX12_years_134 : decode cX12_years 134 = .ok (.invokestatic 299, 3) := by decide +kernel
theorem dX12_years_137 : decode cX12_years 137 = .ok (.iload 4, 2) := by decide +kernel
theorem dX12_years_139 : decode cX12_years 139 = .ok (.iconst 3, 1) := by decide +kernel
theorem dX12_years_140 : decode cX12_years 140 = .ok (.if_icmp .ne 29, 3) := by decide +kernel
theorem dX12_years_143 : decode cX12_years 143 = .ok (.aload_n 0, 1) := by decide +kernel
theorem dX12_years_144 : decode cX12_years 144 = .ok (.aload_n 0, 1) := by decide +kernel
theorem dX12_years_145 : decode cX12_years 145 = .ok (.getfield 57, 3) := by decide +kernel
theorem dX12_years_148 : decode cX12_years 148 = .ok (.iload 5, 2) := by decide +kernel
theorem dX12_years_150 : decode cX12_years 150 = .ok (.iload 6, 2) := by decide +kernel
theorem dX12_years_152 : decode cX12_years 152 = .ok (.invokevirtual 302, 3) := by decide +kernel
theorem dX12_years_155 : decode cX12_years 155 = .ok (.ifCond .ne 14, 3) := by decide +kernel
theorem dX12_years_158 : decode cX12_years 158 = .ok (.aload_n 0, 1) := by decide +kernel
theorem dX12_years_159 : decode cX12_years 159 = .ok (.getfield 57, 3) := by decide +kernel
theorem dX12_years_162 : decode cX12_years 162 = .ok (.iload 5, 2) := by decide +kernel
theorem dX12_years_164 : decode cX12_years 164 = .ok (.iload 6, 2) := by decide +kernel
theorem dX12_years_166 : decode cX12_years 166 = .ok (.invokestatic 305, 3) := by decide +kernel
theorem dX12_years_169 : decode cX12_years 169 = .ok (.iinc 3 1, 3) := by decide +kernel
theorem dX12_years_172 : decode cX12_years 172 = .ok (.goto (-136), 3) := by decide +kernel
theorem dX12_years_175 : decode cX12_years 175 = .ok (.aload_n 0, 1) := by decide +kernel
theorem dX12_years_176 : decode cX12_years 176 = .ok (.iconst 0, 1) := by decide +kernel
theorem dX12_years_177 : decode cX12_years 177 = .ok (.putfield 113, 3) := by decide +kernel
theorem dX12_years_180 : decode cX12_years 180 = .ok (.aload_n 0, 1) := by decide +kernel
theorem dX12_years_181 : decode cX12_years 181 = .ok (.aload_n 0, 1) := by decide +kernel
theorem dX12_years_182 : decode cX12_years 182 = .ok (.aload_n 0, 1) := by decide +kernel
theorem dX12_years_183 : decode cX12_years 183 = .ok (.getfield 57, 3) := by decide +kernel
theorem dX12_years_186 : decode cX12_years 186 = .ok (.invokevirtual 325, 3) := by decide +kernel
theorem dX12_years_189 : decode cX12_years 189 = .ok (.i2l, 1) := by decide +kernel
theorem dX12_years_190 : decode cX12_years 190 = .ok (.invokevirtual 329, 3) := by decide +kernel
theorem dX12_years_193 : decode cX12_years 193 = .ok (.aload_n 0, 1) := by decide +kernel
theorem dX12_years_194 : decode cX12_years 194 = .ok (.aload_n 0, 1) := by decide +kernel
theorem dX12_years_195 : decode cX12_years 195 = .ok (.aload_n 0, 1) := by decide +kernel
theorem dX12_years_196 : decode cX12_years 196 = .ok (.getfield 57, 3) := by decide +kernel
theorem dX12_years_199 : decode cX12_years 199 = .ok (.invokevirtual 445, 3) := by decide +kernel
theorem dX12_years_202 : decode cX12_years 202 = .ok (.i2l, 1) := by decide +kernel
theorem dX12_years_203 : decode cX12_years 203 = .ok (.invokevirtual 329, 3) := by decide +kernel
theorem dX12_years_206 : decode cX12_years 206 = .ok (.aload_n 0, 1) := by decide +kernel
theorem dX12_years_207 : decode cX12_years 207 = .ok (.aload_n 0, 1) := by decide +kernel
theorem dX12_years_208 : decode cX12_years 208 = .ok (.getfield 57, 3) := by decide +kernel
theorem dX12_years_211 : decode cX12_years 211 = .ok (.invokevirtual 333, 3) := by decide +kernel
theorem dX12_years_214 : decode cX12_years 214 = .ok (.ireturn, 1) := by decide +kernel
theorem dX12_keep_0 : decode cX12_keep 0 = .ok (.aload_n 0, 1) := by decide +kernel
theorem dX12_keep_1 : decode cX12_keep 1 = .ok (.iconst 0, 1) := by decide +kernel
theorem dX12_keep_2 : decode cX12_keep 2 = .ok (.putfield 109, 3) := by decide +kernel
theorem dX12_keep_5 : decode cX12_keep 5 = .ok (.iload_n 1, 1) := by decide +kernel
theorem dX12_keep_6 : decode cX12_keep 6 = .ok (.iconst 0, 1) := by decide +kernel
theorem dX12_keep_7 : decode cX12_keep 7 = .ok (.iconst 1, 1) := by decide +kernel
theorem dX12_keep_8 : decode cX12_keep 8 = .ok (.invokestatic 119, 3) := by decide +kernel
theorem dX12_keep_11 : decode cX12_keep 11 = .ok (.ifCond .ne 5, 3) := by decide +kernel
theorem dX12_keep_14 : decode cX12_keep 14 = .ok (.iconst 0, 1) := by decide +kernel
theorem dX12_keep_15 : decode cX12_keep 15 = .ok (.ireturn, 1) := by decide +kernel
theorem dX12_keep_16 : decode cX12_keep 16 = .ok (.aload_n 0, 1) := by decide +kernel
theorem dX12_keep_17 : decode cX12_keep 17 = .ok (.getfield 102, 3) := by decide +kernel
theorem dX12_keep_20 : decode cX12_keep 20 = .ok (.iload_n 1, 1) := by decide +kernel
theorem dX12_keep_21 : decode cX12_keep 21 = .ok (.iconst 1, 1) := by decide +kernel
theorem dX12_keep_22 : decode cX12_keep 22 = .ok (.bastore, 1) := by decide +kernel
theorem dX12_keep_23 : decode cX12_keep 23 = .ok (.aload_n 0, 1) := by decide +kernel
theorem dX12_keep_24 : decode cX12_keep 24 = .ok (.getfield 106, 3) := by decide +kernel
theorem dX12_keep_27 : decode cX12_keep 27 = .ok (.iload_n 1, 1) := by decide +kernel
theorem dX12_keep_28 : decode cX12_keep 28 = .ok (.aload_n 0, 1) := by decide +kernel
theorem dX12_keep_29 : decode cX12_keep 29 = .ok (.getfield 174, 3) := by decide +kernel
theorem dX12_keep_32 : decode cX12_keep 32 = .ok (.iastore, 1) := by decide +kernel
theorem dX12_keep_33 : decode cX12_keep 33 = .ok (.aload_n 0, 1) := by decide +kernel
theorem dX12_keep_34 : decode cX12_keep 34 = .ok (.getfield 9, 3) := by decide +kernel
theorem dX12_keep_37 : decode cX12_keep 37 = .ok (.aload_n 0, 1) := by decide +kernel
theorem dX12_keep_38 : decode cX12_keep 38 = .ok (.getfield 99, 3) := by decide +kernel
theorem dX12_keep_41 : decode cX12_keep 41 = .ok (.bipush 88, 2) := by decide +kernel
theorem dX12_keep_43 : decode cX12_keep 43 = .ok (.iload_n 1, 1) := by decide +kernel
theorem dX12_keep_44 : decode cX12_keep 44 = .ok (.imul, 1) := by decide +kernel
theorem dX12_keep_45 : decode cX12_keep 45 = .ok (.invokestatic 284, 3) := by decide +kernel
theorem dX12_keep_48 : decode cX12_keep 48 = .ok (.iconst 1, 1) := by decide +kernel
theorem dX12_keep_49 : decode cX12_keep 49 = .ok (.ireturn, 1) := by decide +kernel
theorem dX12_again_0 : decode cX12_again 0 = .ok (.aload_n 0, 1) := by decide +kernel
theorem dX12_again_1 : decode cX12_again 1 = .ok (.iconst 0, 1) := by decide +kernel
theorem dX12_again_2 : decode cX12_again 2 = .ok (.putfield 109, 3) := by decide +kernel
theorem dX12_again_5 : decode cX12_again 5 = .ok (.iload_n 1, 1) := by decide +kernel
theorem dX12_again_6 : decode cX12_again 6 = .ok (.iconst 0, 1) := by decide +kernel
theorem dX12_again_7 : decode cX12_again 7 = .ok (.iconst 1, 1) := by decide +kernel
theorem dX12_again_8 : decode cX12_again 8 = .ok (.invokestatic 119, 3) := by decide +kernel
theorem dX12_again_11 : decode cX12_again 11 = .ok (.ifCond .eq 25, 3) := by decide +kernel
theorem dX12_again_14 : decode cX12_again 14 = .ok (.aload_n 0, 1) := by decide +kernel
theorem dX12_again_15 : decode cX12_again 15 = .ok (.getfield 102, 3) := by decide +kernel
theorem dX12_again_18 : decode cX12_again 18 = .ok (.iload_n 1, 1) := by decide +kernel
theorem dX12_again_19 : decode cX12_again 19 = .ok (.baload, 1) := by decide +kernel
theorem dX12_again_20 : decode cX12_again 20 = .ok (.ifCond .eq 16, 3) := by decide +kernel
theorem dX12_again_23 : decode cX12_again 23 = .ok (.aload_n 0, 1) := by decide +kernel
theorem dX12_again_24 : decode cX12_again 24 = .ok (.getfield 106, 3) := by decide +kernel
theorem dX12_again_27 : decode cX12_again 27 = .ok (.iload_n 1, 1) := by decide +kernel
theorem dX12_again_28 : decode cX12_again 28 = .ok (.iaload, 1) := by decide +kernel
theorem dX12_again_29 : decode cX12_again 29 = .ok (.aload_n 0, 1) := by decide +kernel
theorem dX12_again_30 : decode cX12_again 30 = .ok (.getfield 174, 3) := by decide +kernel
theorem dX12_again_33 : decode cX12_again 33 = .ok (.if_icmp .eq 5, 3) := by decide +kernel
theorem dX12_again_36 : decode cX12_again 36 = .ok (.iconst 0, 1) := by decide +kernel
theorem dX12_again_37 : decode cX12_again 37 = .ok (.ireturn, 1) := by decide +kernel
theorem dX12_again_38 : decode cX12_again 38 = .ok (.iconst 0, 1) := by decide +kernel
theorem dX12_again_39 : decode cX12_again 39 = .ok (.istore_n 2, 1) := by decide +kernel
theorem dX12_again_40 : decode cX12_again 40 = .ok (.iload_n 2, 1) := by decide +kernel
theorem dX12_again_41 : decode cX12_again 41 = .ok (.bipush 88, 2) := by decide +kernel
theorem dX12_again_43 : decode cX12_again 43 = .ok (.if_icmp .ge 26, 3) := by decide +kernel
theorem dX12_again_46 : decode cX12_again 46 = .ok (.aload_n 0, 1) := by decide +kernel
theorem dX12_again_47 : decode cX12_again 47 = .ok (.getfield 9, 3) := by decide +kernel
theorem dX12_again_50 : decode cX12_again 50 = .ok (.iload_n 2, 1) := by decide +kernel
theorem dX12_again_51 : decode cX12_again 51 = .ok (.aload_n 0, 1) := by decide +kernel
theorem dX12_again_52 : decode cX12_again 52 = .ok (.getfield 99, 3) := by decide +kernel
theorem dX12_again_55 : decode cX12_again 55 = .ok (.bipush 88, 2) := by decide +kernel
theorem dX12_again_57 : decode cX12_again 57 = .ok (.iload_n 1, 1) := by decide +kernel
theorem dX12_again_58 : decode cX12_again 58 = .ok (.imul, 1) := by decide +kernel
theorem dX12_again_59 : decode cX12_again 59 = .ok (.iload_n 2, 1) := by decide +kernel
theorem dX12_again_60 : decode cX12_again 60 = .ok (.iadd, 1) := by decide +kernel
theorem dX12_again_61 : decode cX12_again 61 = .ok (.iaload, 1) := by decide +kernel
theorem dX12_again_62 : decode cX12_again 62 = .ok (.iastore, 1) := by decide +kernel
theorem dX12_again_63 : decode cX12_again 63 = .ok (.iinc 2 1, 3) := by decide +kernel
theorem dX12_again_66 : decode cX12_again 66 = .ok (.goto (-26), 3) := by decide +kernel
theorem dX12_again_69 : decode cX12_again 69 = .ok (.aload_n 0, 1) := by decide +kernel
theorem dX12_again_70 : decode cX12_again 70 = .ok (.iconst 0, 1) := by decide +kernel
theorem dX12_again_71 : decode cX12_again 71 = .ok (.putfield 171, 3) := by decide +kernel
theorem dX12_again_74 : decode cX12_again 74 = .ok (.iconst 1, 1) := by decide +kernel
theorem dX12_again_75 : decode cX12_again 75 = .ok (.ireturn, 1) := by decide +kernel
theorem dX12_count_0 : decode cX12_count 0 = .ok (.aload_n 0, 1) := by decide +kernel
theorem dX12_count_1 : decode cX12_count 1 = .ok (.iconst 0, 1) := by decide +kernel
theorem dX12_count_2 : decode cX12_count 2 = .ok (.putfield 109, 3) := by decide +kernel
theorem dX12_count_5 : decode cX12_count 5 = .ok (.iload_n 1, 1) := by decide +kernel
theorem dX12_count_6 : decode cX12_count 6 = .ok (.tableswitch 149 0 12 #[66, 71, 76, 81, 89, 97, 102, 111, 120, 129, 134, 139, 144], 66) := by decide +kernel
theorem dX12_count_72 : decode cX12_count 72 = .ok (.aload_n 0, 1) := by decide +kernel
theorem dX12_count_73 : decode cX12_count 73 = .ok (.getfield 116, 3) := by decide +kernel
theorem dX12_count_76 : decode cX12_count 76 = .ok (.ireturn, 1) := by decide +kernel
theorem dX12_count_77 : decode cX12_count 77 = .ok (.aload_n 0, 1) := by decide +kernel
theorem dX12_count_78 : decode cX12_count 78 = .ok (.getfield 123, 3) := by decide +kernel
theorem dX12_count_81 : decode cX12_count 81 = .ok (.ireturn, 1) := by decide +kernel
theorem dX12_count_82 : decode cX12_count 82 = .ok (.aload_n 0, 1) := by decide +kernel
theorem dX12_count_83 : decode cX12_count 83 = .ok (.getfield 126, 3) := by decide +kernel
theorem dX12_count_86 : decode cX12_count 86 = .ok (.ireturn, 1) := by decide +kernel
theorem dX12_count_87 : decode cX12_count 87 = .ok (.aload_n 0, 1) := by decide +kernel
theorem dX12_count_88 : decode cX12_count 88 = .ok (.getfield 9, 3) := by decide +kernel
theorem dX12_count_91 : decode cX12_count 91 = .ok (.bipush 86, 2) := by decide +kernel
theorem dX12_count_93 : decode cX12_count 93 = .ok (.iaload, 1) := by decide +kernel
theorem dX12_count_94 : decode cX12_count 94 = .ok (.ireturn, 1) := by decide +kernel
theorem dX12_count_95 : decode cX12_count 95 = .ok (.aload_n 0, 1) := by decide +kernel
theorem dX12_count_96 : decode cX12_count 96 = .ok (.getfield 9, 3) := by decide +kernel
theorem dX12_count_99 : decode cX12_count 99 = .ok (.bipush 87, 2) := by decide +kernel
theorem dX12_count_101 : decode cX12_count 101 = .ok (.iaload, 1) := by decide +kernel
theorem dX12_count_102 : decode cX12_count 102 = .ok (.ireturn, 1) := by decide +kernel
theorem dX12_count_103 : decode cX12_count 103 = .ok (.aload_n 0, 1) := by decide +kernel
theorem dX12_count_104 : decode cX12_count 104 = .ok (.invokevirtual 281, 3) := by decide +kernel
theorem dX12_count_107 : decode cX12_count 107 = .ok (.ireturn, 1) := by decide +kernel
theorem dX12_count_108 : decode cX12_count 108 = .ok (.aload_n 0, 1) := by decide +kernel
theorem dX12_count_109 : decode cX12_count 109 = .ok (.aload_n 0, 1) := by decide +kernel
theorem dX12_count_110 : decode cX12_count 110 = .ok (.getfield 9, 3) := by decide +kernel
theorem dX12_count_113 : decode cX12_count 113 = .ok (.invokevirtual 445, 3) := by decide +kernel
theorem dX12_count_116 : decode cX12_count 116 = .ok (.ireturn, 1) := by decide +kernel
theorem dX12_count_117 : decode cX12_count 117 = .ok (.aload_n 0, 1) := by decide +kernel
theorem dX12_count_118 : decode cX12_count 118 = .ok (.aload_n 0, 1) := by decide +kernel
theorem dX12_count_119 : decode cX12_count 119 = .ok (.getfield 9, 3) := by decide +kernel
theorem dX12_count_122 : decode cX12_count 122 = .ok (.invokevirtual 333, 3) := by decide +kernel
theorem dX12_count_125 : decode cX12_count 125 = .ok (.ireturn, 1) := by decide +kernel
theorem dX12_count_126 : decode cX12_count 126 = .ok (.aload_n 0, 1) := by decide +kernel
theorem dX12_count_127 : decode cX12_count 127 = .ok (.aload_n 0, 1) := by decide +kernel
theorem dX12_count_128 : decode cX12_count 128 = .ok (.getfield 9, 3) := by decide +kernel
theorem dX12_count_131 : decode cX12_count 131 = .ok (.invokevirtual 325, 3) := by decide +kernel
theorem dX12_count_134 : decode cX12_count 134 = .ok (.ireturn, 1) := by decide +kernel
theorem dX12_count_135 : decode cX12_count 135 = .ok (.aload_n 0, 1) := by decide +kernel
theorem dX12_count_136 : decode cX12_count 136 = .ok (.getfield 379, 3) := by decide +kernel
theorem dX12_count_139 : decode cX12_count 139 = .ok (.ireturn, 1) := by decide +kernel
theorem dX12_count_140 : decode cX12_count 140 = .ok (.aload_n 0, 1) := by decide +kernel
theorem dX12_count_141 : decode cX12_count 141 = .ok (.getfield 171, 3) := by decide +kernel
theorem dX12_count_144 : decode cX12_count 144 = .ok (.ireturn, 1) := by decide +kernel
theorem dX12_count_145 : decode cX12_count 145 = .ok (.aload_n 0, 1) := by decide +kernel
theorem dX12_count_146 : decode cX12_count 146 = .ok (.getfield 113, 3) := by decide +kernel
theorem dX12_count_149 : decode cX12_count 149 = .ok (.ireturn, 1) := by decide +kernel
theorem dX12_count_150 : decode cX12_count 150 = .ok (.aload_n 0, 1) := by decide +kernel
theorem dX12_count_151 : decode cX12_count 151 = .ok (.getfield 129, 3) := by decide +kernel
theorem dX12_count_154 : decode cX12_count 154 = .ok (.ireturn, 1) := by decide +kernel
theorem dX12_count_155 : decode cX12_count 155 = .ok (.iconst (-1), 1) := by decide +kernel
theorem dX12_count_156 : decode cX12_count 156 = .ok (.ireturn, 1) := by decide +kernel
theorem dX12_row_0 : decode cX12_row 0 = .ok (.aload_n 0, 1) := by decide +kernel
theorem dX12_row_1 : decode cX12_row 1 = .ok (.iconst 0, 1) := by decide +kernel
theorem dX12_row_2 : decode cX12_row 2 = .ok (.putfield 109, 3) := by decide +kernel
theorem dX12_row_5 : decode cX12_row 5 = .ok (.iload_n 1, 1) := by decide +kernel
theorem dX12_row_6 : decode cX12_row 6 = .ok (.iconst 0, 1) := by decide +kernel
theorem dX12_row_7 : decode cX12_row 7 = .ok (.aload_n 0, 1) := by decide +kernel
theorem dX12_row_8 : decode cX12_row 8 = .ok (.getfield 113, 3) := by decide +kernel
theorem dX12_row_11 : decode cX12_row 11 = .ok (.iconst 1, 1) := by decide +kernel
theorem dX12_row_12 : decode cX12_row 12 = .ok (.isub, 1) := by decide +kernel
theorem dX12_row_13 : decode cX12_row 13 = .ok (.invokestatic 119, 3) := by decide +kernel
theorem dX12_row_16 : decode cX12_row 16 = .ok (.ifCond .eq 12, 3) := by decide +kernel
theorem dX12_row_19 : decode cX12_row 19 = .ok (.aload_n 0, 1) := by decide +kernel
theorem dX12_row_20 : decode cX12_row 20 = .ok (.getfield 32, 3) := by decide +kernel
theorem dX12_row_23 : decode cX12_row 23 = .ok (.iload_n 1, 1) := by decide +kernel
theorem dX12_row_24 : decode cX12_row 24 = .ok (.laload, 1) := by decide +kernel
theorem dX12_row_25 : decode cX12_row 25 = .ok (.goto 8, 3) := by decide +kernel
theorem dX12_row_28 : decode cX12_row 28 = .ok (.aload_n 0, 1) := by decide +kernel
theorem dX12_row_29 : decode cX12_row 29 = .ok (.invokevirtual 272, 3) := by decide +kernel
theorem dX12_row_32 : decode cX12_row 32 = .ok (.i2l, 1) := by decide +kernel
theorem dX12_row_33 : decode cX12_row 33 = .ok (.lreturn, 1) := by decide +kernel
theorem dJ11_isValidCodePoint_9a6ad_0 : decode cJ11_isValidCodePoint_9a6ad 0 = .ok (.iload_n 0, 1) := by decide +kernel
theorem dJ11_isValidCodePoint_9a6ad_1 : decode cJ11_isValidCodePoint_9a6ad 1 = .ok (.bipush 16, 2) := by decide +kernel
theorem dJ11_isValidCodePoint_9a6ad_3 : decode cJ11_isValidCodePoint_9a6ad 3 = .ok (.iushr, 1) := by decide +kernel
theorem dJ11_isValidCodePoint_9a6ad_4 : decode cJ11_isValidCodePoint_9a6ad 4 = .ok (.istore_n 1, 1) := by decide +kernel
theorem dJ11_isValidCodePoint_9a6ad_5 : decode cJ11_isValidCodePoint_9a6ad 5 = .ok (.iload_n 1, 1) := by decide +kernel
theorem dJ11_isValidCodePoint_9a6ad_6 : decode cJ11_isValidCodePoint_9a6ad 6 = .ok (.bipush 17, 2) := by decide +kernel
theorem dJ11_isValidCodePoint_9a6ad_8 : decode cJ11_isValidCodePoint_9a6ad 8 = .ok (.if_icmp .ge 7, 3) := by decide +kernel
theorem dJ11_isValidCodePoint_9a6ad_11 : decode cJ11_isValidCodePoint_9a6ad 11 = .ok (.iconst 1, 1) := by decide +kernel
theorem dJ11_isValidCodePoint_9a6ad_12 : decode cJ11_isValidCodePoint_9a6ad 12 = .ok (.goto 4, 3) := by decide +kernel
theorem dJ11_isValidCodePoint_9a6ad_15 : decode cJ11_isValidCodePoint_9a6ad 15 = .ok (.iconst 0, 1) := by decide +kernel
theorem dJ11_isValidCodePoint_9a6ad_16 : decode cJ11_isValidCodePoint_9a6ad 16 = .ok (.ireturn, 1) := by decide +kernel
theorem dJ11_highSurrogate_5068e_0 : decode cJ11_highSurrogate_5068e 0 = .ok (.iload_n 0, 1) := by decide +kernel
theorem dJ11_highSurrogate_5068e_1 : decode cJ11_highSurrogate_5068e 1 = .ok (.bipush 10, 2) := by decide +kernel
theorem dJ11_highSurrogate_5068e_3 : decode cJ11_highSurrogate_5068e 3 = .ok (.iushr, 1) := by decide +kernel
theorem dJ11_highSurrogate_5068e_4 : decode cJ11_highSurrogate_5068e 4 = .ok (.ldc 110, 2) := by decide +kernel
theorem dJ11_highSurrogate_5068e_6 : decode cJ11_highSurrogate_5068e 6 = .ok (.iadd, 1) := by decide +kernel
theorem dJ11_highSurrogate_5068e_7 : decode cJ11_highSurrogate_5068e 7 = .ok (.i2c, 1) := by decide +kernel
theorem dJ11_highSurrogate_5068e_8 : decode cJ11_highSurrogate_5068e 8 = .ok (.ireturn, 1) := by decide +kernel
theorem dJ11_lowSurrogate_5068e_0 : decode cJ11_lowSurrogate_5068e 0 = .ok (.iload_n 0, 1) := by decide +kernel
theorem dJ11_lowSurrogate_5068e_1 : decode cJ11_lowSurrogate_5068e 1 = .ok (.sipush 1023, 3) := by decide +kernel
theorem dJ11_lowSurrogate_5068e_4 : decode cJ11_lowSurrogate_5068e 4 = .ok (.iand, 1) := by decide +kernel
theorem dJ11_lowSurrogate_5068e_5 : decode cJ11_lowSurrogate_5068e 5 = .ok (.ldc 76, 2) := by decide +kernel
theorem dJ11_lowSurrogate_5068e_7 : decode cJ11_lowSurrogate_5068e 7 = .ok (.iadd, 1) := by decide +kernel
theorem dJ11_lowSurrogate_5068e_8 : decode cJ11_lowSurrogate_5068e 8 = .ok (.i2c, 1) := by decide +kernel
theorem dJ11_lowSurrogate_5068e_9 : decode cJ11_lowSurrogate_5068e 9 = .ok (.ireturn, 1) := by decide +kernel
theorem dJ6_compare_7cf53_0 : decode cJ6_compare_7cf53 0 = .ok (.iload_n 0, 1) := by decide +kernel
theorem dJ6_compare_7cf53_1 : decode cJ6_compare_7cf53 1 = .ok (.iload_n 1, 1) := by decide +kernel
theorem dJ6_compare_7cf53_2 : decode cJ6_compare_7cf53 2 = .ok (.if_icmp .ge 7, 3) := by decide +kernel
theorem dJ6_compare_7cf53_5 : decode cJ6_compare_7cf53 5 = .ok (.iconst (-1), 1) := by decide +kernel
theorem dJ6_compare_7cf53_6 : decode cJ6_compare_7cf53 6 = .ok (.goto 13, 3) := by decide +kernel
theorem dJ6_compare_7cf53_9 : decode cJ6_compare_7cf53 9 = .ok (.iload_n 0, 1) := by decide +kernel
theorem dJ6_compare_7cf53_10 : decode cJ6_compare_7cf53 10 = .ok (.iload_n 1, 1) := by decide +kernel
theorem dJ6_compare_7cf53_11 : decode cJ6_compare_7cf53 11 = .ok (.if_icmp .ne 7, 3) := by decide +kernel
theorem dJ6_compare_7cf53_14 : decode cJ6_compare_7cf53 14 = .ok (.iconst 0, 1) := by decide +kernel
theorem dJ6_compare_7cf53_15 : decode cJ6_compare_7cf53 15 = .ok (.goto 4, 3) := by decide +kernel
theorem dJ6_compare_7cf53_18 : decode cJ6_compare_7cf53 18 = .ok (.iconst 1, 1) := by decide +kernel
theorem dJ6_compare_7cf53_19 : decode cJ6_compare_7cf53 19 = .ok (.ireturn, 1) := by decide +kernel
theorem dJ6_bitCount_0f7a4_0 : decode cJ6_bitCount_0f7a4 0 = .ok (.iload_n 0, 1) := by decide +kernel
theorem dJ6_bitCount_0f7a4_1 : decode cJ6_bitCount_0f7a4 1 = .ok (.iload_n 0, 1) := by decide +kernel
theorem dJ6_bitCount_0f7a4_2 : decode cJ6_bitCount_0f7a4 2 = .ok (.iconst 1, 1) := by decide +kernel
theorem dJ6_bitCount_0f7a4_3 : decode cJ6_bitCount_0f7a4 3 = .ok (.iushr, 1) := by decide +kernel
theorem dJ6_bitCount_0f7a4_4 : decode cJ6_bitCount_0f7a4 4 = .ok (.ldc_w 265, 3) := by decide +kernel
theorem dJ6_bitCount_0f7a4_7 : decode cJ6_bitCount_0f7a4 7 = .ok (.iand, 1) := by decide +kernel
theorem dJ6_bitCount_0f7a4_8 : decode cJ6_bitCount_0f7a4 8 = .ok (.isub, 1) := by decide +kernel
theorem dJ6_bitCount_0f7a4_9 : decode cJ6_bitCount_0f7a4 9 = .ok (.istore_n 0, 1) := by decide +kernel
theorem dJ6_bitCount_0f7a4_10 : decode cJ6_bitCount_0f7a4 10 = .ok (.iload_n 0, 1) := by decide +kernel
theorem dJ6_bitCount_0f7a4_11 : decode cJ6_bitCount_0f7a4 11 = .ok (.ldc_w 266, 3) := by decide +kernel
theorem dJ6_bitCount_0f7a4_14 : decode cJ6_bitCount_0f7a4 14 = .ok (.iand, 1) := by decide +kernel
theorem dJ6_bitCount_0f7a4_15 : decode cJ6_bitCount_0f7a4 15 = .ok (.iload_n 0, 1) := by decide +kernel
theorem dJ6_bitCount_0f7a4_16 : decode cJ6_bitCount_0f7a4 16 = .ok (.iconst 2, 1) := by decide +kernel
theorem dJ6_bitCount_0f7a4_17 : decode cJ6_bitCount_0f7a4 17 = .ok (.iushr, 1) := by decide +kernel
theorem dJ6_bitCount_0f7a4_18 : decode cJ6_bitCount_0f7a4 18 = .ok (.ldc_w 266, 3) := by decide +kernel
theorem dJ6_bitCount_0f7a4_21 : decode cJ6_bitCount_0f7a4 21 = .ok (.iand, 1) := by decide +kernel
theorem dJ6_bitCount_0f7a4_22 : decode cJ6_bitCount_0f7a4 22 = .ok (.iadd, 1) := by decide +kernel
theorem dJ6_bitCount_0f7a4_23 : decode cJ6_bitCount_0f7a4 23 = .ok (.istore_n 0, 1) := by decide +kernel
theorem dJ6_bitCount_0f7a4_24 : decode cJ6_bitCount_0f7a4 24 = .ok (.iload_n 0, 1) := by decide +kernel
theorem dJ6_bitCount_0f7a4_25 : decode cJ6_bitCount_0f7a4 25 = .ok (.iload_n 0, 1) := by decide +kernel
theorem dJ6_bitCount_0f7a4_26 : decode cJ6_bitCount_0f7a4 26 = .ok (.iconst 4, 1) := by decide +kernel
theorem dJ6_bitCount_0f7a4_27 : decode cJ6_bitCount_0f7a4 27 = .ok (.iushr, 1) := by decide +kernel
theorem dJ6_bitCount_0f7a4_28 : decode cJ6_bitCount_0f7a4 28 = .ok (.iadd, 1) := by decide +kernel
theorem dJ6_bitCount_0f7a4_29 : decode cJ6_bitCount_0f7a4 29 = .ok (.ldc_w 267, 3) := by decide +kernel
theorem dJ6_bitCount_0f7a4_32 : decode cJ6_bitCount_0f7a4 32 = .ok (.iand, 1) := by decide +kernel
theorem dJ6_bitCount_0f7a4_33 : decode cJ6_bitCount_0f7a4 33 = .ok (.istore_n 0, 1) := by decide +kernel
theorem dJ6_bitCount_0f7a4_34 : decode cJ6_bitCount_0f7a4 34 = .ok (.iload_n 0, 1) := by decide +kernel
theorem dJ6_bitCount_0f7a4_35 : decode cJ6_bitCount_0f7a4 35 = .ok (.iload_n 0, 1) := by decide +kernel
theorem dJ6_bitCount_0f7a4_36 : decode cJ6_bitCount_0f7a4 36 = .ok (.bipush 8, 2) := by decide +kernel
theorem dJ6_bitCount_0f7a4_38 : decode cJ6_bitCount_0f7a4 38 = .ok (.iushr, 1) := by decide +kernel
theorem dJ6_bitCount_0f7a4_39 : decode cJ6_bitCount_0f7a4 39 = .ok (.iadd, 1) := by decide +kernel
theorem dJ6_bitCount_0f7a4_40 : decode cJ6_bitCount_0f7a4 40 = .ok (.istore_n 0, 1) := by decide +kernel
theorem dJ6_bitCount_0f7a4_41 : decode cJ6_bitCount_0f7a4 41 = .ok (.iload_n 0, 1) := by decide +kernel
theorem dJ6_bitCount_0f7a4_42 : decode cJ6_bitCount_0f7a4 42 = .ok (.iload_n 0, 1) := by decide +kernel
theorem dJ6_bitCount_0f7a4_43 : decode cJ6_bitCount_0f7a4 43 = .ok (.bipush 16, 2) := by decide +kernel
theorem dJ6_bitCount_0f7a4_45 : decode cJ6_bitCount_0f7a4 45 = .ok (.iushr, 1) := by decide +kernel
theorem dJ6_bitCount_0f7a4_46 : decode cJ6_bitCount_0f7a4 46 = .ok (.iadd, 1) := by decide +kernel
theorem dJ6_bitCount_0f7a4_47 : decode cJ6_bitCount_0f7a4 47 = .ok (.istore_n 0, 1) := by decide +kernel
theorem dJ6_bitCount_0f7a4_48 : decode cJ6_bitCount_0f7a4 48 = .ok (.iload_n 0, 1) := by decide +kernel
theorem dJ6_bitCount_0f7a4_49 : decode cJ6_bitCount_0f7a4 49 = .ok (.bipush 63, 2) := by decide +kernel
theorem dJ6_bitCount_0f7a4_51 : decode cJ6_bitCount_0f7a4 51 = .ok (.iand, 1) := by decide +kernel
theorem dJ6_bitCount_0f7a4_52 : decode cJ6_bitCount_0f7a4 52 = .ok (.ireturn, 1) := by decide +kernel
theorem dJ9_abs_0f7a4_0 : decode cJ9_abs_0f7a4 0 = .ok (.iload_n 0, 1) := by decide +kernel
theorem dJ9_abs_0f7a4_1 : decode cJ9_abs_0f7a4 1 = .ok (.ifCond .ge 8, 3) := by decide +kernel
theorem dJ9_abs_0f7a4_4 : decode cJ9_abs_0f7a4 4 = .ok (.iload_n 0, 1) := by decide +kernel
theorem dJ9_abs_0f7a4_5 : decode cJ9_abs_0f7a4 5 = .ok (.ineg, 1) := by decide +kernel
theorem dJ9_abs_0f7a4_6 : decode cJ9_abs_0f7a4 6 = .ok (.goto 4, 3) := by decide +kernel
theorem dJ9_abs_0f7a4_9 : decode cJ9_abs_0f7a4 9 = .ok (.iload_n 0, 1) := by decide +kernel
theorem dJ9_abs_0f7a4_10 : decode cJ9_abs_0f7a4 10 = .ok (.ireturn, 1) := by decide +kernel
theorem dJ9_max_7cf53_0 : decode cJ9_max_7cf53 0 = .ok (.iload_n 0, 1) := by decide +kernel
theorem dJ9_max_7cf53_1 : decode cJ9_max_7cf53 1 = .ok (.iload_n 1, 1) := by decide +kernel
theorem dJ9_max_7cf53_2 : decode cJ9_max_7cf53 2 = .ok (.if_icmp .lt 7, 3) := by decide +kernel
theorem dJ9_max_7cf53_5 : decode cJ9_max_7cf53 5 = .ok (.iload_n 0, 1) := by decide +kernel
theorem dJ9_max_7cf53_6 : decode cJ9_max_7cf53 6 = .ok (.goto 4, 3) := by decide +kernel
theorem dJ9_max_7cf53_9 : decode cJ9_max_7cf53 9 = .ok (.iload_n 1, 1) := by decide +kernel
theorem dJ9_max_7cf53_10 : decode cJ9_max_7cf53 10 = .ok (.ireturn, 1) := by decide +kernel
theorem dJ9_min_7cf53_0 : decode cJ9_min_7cf53 0 = .ok (.iload_n 0, 1) := by decide +kernel
theorem dJ9_min_7cf53_1 : decode cJ9_min_7cf53 1 = .ok (.iload_n 1, 1) := by decide +kernel
theorem dJ9_min_7cf53_2 : decode cJ9_min_7cf53 2 = .ok (.if_icmp .gt 7, 3) := by decide +kernel
theorem dJ9_min_7cf53_5 : decode cJ9_min_7cf53 5 = .ok (.iload_n 0, 1) := by decide +kernel
theorem dJ9_min_7cf53_6 : decode cJ9_min_7cf53 6 = .ok (.goto 4, 3) := by decide +kernel
theorem dJ9_min_7cf53_9 : decode cJ9_min_7cf53 9 = .ok (.iload_n 1, 1) := by decide +kernel
theorem dJ9_min_7cf53_10 : decode cJ9_min_7cf53 10 = .ok (.ireturn, 1) := by decide +kernel
theorem dJ0_length_8abf5_0 : decode cJ0_length_8abf5 0 = .ok (.aload_n 0, 1) := by decide +kernel
theorem dJ0_length_8abf5_1 : decode cJ0_length_8abf5 1 = .ok (.getfield 9, 3) := by decide +kernel
theorem dJ0_length_8abf5_4 : decode cJ0_length_8abf5 4 = .ok (.arraylength, 1) := by decide +kernel
theorem dJ0_length_8abf5_5 : decode cJ0_length_8abf5 5 = .ok (.aload_n 0, 1) := by decide +kernel
theorem dJ0_length_8abf5_6 : decode cJ0_length_8abf5 6 = .ok (.invokevirtual 335, 3) := by decide +kernel
theorem dJ0_length_8abf5_9 : decode cJ0_length_8abf5 9 = .ok (.ishr, 1) := by decide +kernel
theorem dJ0_length_8abf5_10 : decode cJ0_length_8abf5 10 = .ok (.ireturn, 1) := by decide +kernel
theorem dJ0_indexOf_0f7a4_0 : decode cJ0_indexOf_0f7a4 0 = .ok (.aload_n 0, 1) := by decide +kernel
theorem dJ0_indexOf_0f7a4_1 : decode cJ0_indexOf_0f7a4 1 = .ok (.iload_n 1, 1) := by decide +kernel
theorem dJ0_indexOf_0f7a4_2 : decode cJ0_indexOf_0f7a4 2 = .ok (.iconst 0, 1) := by decide +kernel
theorem dJ0_indexOf_0f7a4_3 : decode cJ0_indexOf_0f7a4 3 = .ok (.invokevirtual 633, 3) := by decide +kernel
theorem dJ0_indexOf_0f7a4_6 : decode cJ0_indexOf_0f7a4 6 = .ok (.ireturn, 1) := by decide +kernel
theorem dJ0_indexOf_7cf53_0 : decode cJ0_indexOf_7cf53 0 = .ok (.aload_n 0, 1) := by decide +kernel
theorem dJ0_indexOf_7cf53_1 : decode cJ0_indexOf_7cf53 1 = .ok (.invokevirtual 492, 3) := by decide +kernel
theorem dJ0_indexOf_7cf53_4 : decode cJ0_indexOf_7cf53 4 = .ok (.ifCond .eq 19, 3) := by decide +kernel
theorem dJ0_indexOf_7cf53_7 : decode cJ0_indexOf_7cf53 7 = .ok (.aload_n 0, 1) := by decide +kernel
theorem dJ0_indexOf_7cf53_8 : decode cJ0_indexOf_7cf53 8 = .ok (.getfield 9, 3) := by decide +kernel
theorem dJ0_indexOf_7cf53_11 : decode cJ0_indexOf_7cf53 11 = .ok (.iload_n 1, 1) := by decide +kernel
theorem dJ0_indexOf_7cf53_12 : decode cJ0_indexOf_7cf53 12 = .ok (.iload_n 2, 1) := by decide +kernel
theorem dJ0_indexOf_7cf53_13 : decode cJ0_indexOf_7cf53 13 = .ok (.aload_n 0, 1) := by decide +kernel
theorem dJ0_indexOf_7cf53_14 : decode cJ0_indexOf_7cf53 14 = .ok (.invokevirtual 505, 3) := by decide +kernel
theorem dJ0_indexOf_7cf53_17 : decode cJ0_indexOf_7cf53 17 = .ok (.invokestatic 637, 3) := by decide +kernel
theorem dJ0_indexOf_7cf53_20 : decode cJ0_indexOf_7cf53 20 = .ok (.goto 16, 3) := by decide +kernel
theorem dJ0_indexOf_7cf53_23 : decode cJ0_indexOf_7cf53 23 = .ok (.aload_n 0, 1) := by decide +kernel
theorem dJ0_indexOf_7cf53_24 : decode cJ0_indexOf_7cf53 24 = .ok (.getfield 9, 3) := by decide +kernel
theorem dJ0_indexOf_7cf53_27 : decode cJ0_indexOf_7cf53 27 = .ok (.iload_n 1, 1) := by decide +kernel
theorem dJ0_indexOf_7cf53_28 : decode cJ0_indexOf_7cf53 28 = .ok (.iload_n 2, 1) := by decide +kernel
theorem dJ0_indexOf_7cf53_29 : decode cJ0_indexOf_7cf53 29 = .ok (.aload_n 0, 1) := by decide +kernel
theorem dJ0_indexOf_7cf53_30 : decode cJ0_indexOf_7cf53 30 = .ok (.invokevirtual 505, 3) := by decide +kernel
theorem dJ0_indexOf_7cf53_33 : decode cJ0_indexOf_7cf53 33 = .ok (.invokestatic 640, 3) := by decide +kernel
theorem dJ0_indexOf_7cf53_36 : decode cJ0_indexOf_7cf53 36 = .ok (.ireturn, 1) := by decide +kernel
theorem dJ0_coder_7d493_0 : decode cJ0_coder_7d493 0 = .ok (.getstatic 38, 3) := by decide +kernel
theorem dJ0_coder_7d493_3 : decode cJ0_coder_7d493 3 = .ok (.ifCond .eq 10, 3) := by decide +kernel
theorem dJ0_coder_7d493_6 : decode cJ0_coder_7d493 6 = .ok (.aload_n 0, 1) := by decide +kernel
theorem dJ0_coder_7d493_7 : decode cJ0_coder_7d493 7 = .ok (.getfield 15, 3) := by decide +kernel
theorem dJ0_coder_7d493_10 : decode cJ0_coder_7d493 10 = .ok (.goto 4, 3) := by decide +kernel
theorem dJ0_coder_7d493_13 : decode cJ0_coder_7d493 13 = .ok (.iconst 1, 1) := by decide +kernel
theorem dJ0_coder_7d493_14 : decode cJ0_coder_7d493 14 = .ok (.ireturn, 1) := by decide +kernel
theorem dJ0_isLatin1_aae02_0 : decode cJ0_isLatin1_aae02 0 = .ok (.getstatic 38, 3) := by decide +kernel
theorem dJ0_isLatin1_aae02_3 : decode cJ0_isLatin1_aae02 3 = .ok (.ifCond .eq 14, 3) := by decide +kernel
theorem dJ0_isLatin1_aae02_6 : decode cJ0_isLatin1_aae02 6 = .ok (.aload_n 0, 1) := by decide +kernel
theorem dJ0_isLatin1_aae02_7 : decode cJ0_isLatin1_aae02 7 = .ok (.getfield 15, 3) := by decide +kernel
theorem dJ0_isLatin1_aae02_10 : decode cJ0_isLatin1_aae02 10 = .ok (.ifCond .ne 7, 3) := by decide +kernel
theorem dJ0_isLatin1_aae02_13 : decode cJ0_isLatin1_aae02 13 = .ok (.iconst 1, 1) := by decide +kernel
theorem dJ0_isLatin1_aae02_14 : decode cJ0_isLatin1_aae02 14 = .ok (.goto 4, 3) := by decide +kernel
theorem dJ0_isLatin1_aae02_17 : decode cJ0_isLatin1_aae02 17 = .ok (.iconst 0, 1) := by decide +kernel
theorem dJ0_isLatin1_aae02_18 : decode cJ0_isLatin1_aae02 18 = .ok (.ireturn, 1) := by decide +kernel
theorem dJ0_checkBoundsBeginEnd_23922_0 : decode cJ0_checkBoundsBeginEnd_23922 0 = .ok (.iload_n 0, 1) := by decide +kernel
theorem dJ0_checkBoundsBeginEnd_23922_1 : decode cJ0_checkBoundsBeginEnd_23922 1 = .ok (.iload_n 1, 1) := by decide +kernel
theorem dJ0_checkBoundsBeginEnd_23922_2 : decode cJ0_checkBoundsBeginEnd_23922 2 = .ok (.iload_n 2, 1) := by decide +kernel
theorem dJ0_checkBoundsBeginEnd_23922_3 : decode cJ0_checkBoundsBeginEnd_23922 3 = .ok (.getstatic 1053, 3) := by decide +kernel
theorem dJ0_checkBoundsBeginEnd_23922_6 : decode cJ0_checkBoundsBeginEnd_23922 6 = .ok (.invokestatic 1062, 3) := by decide +kernel
theorem dJ0_checkBoundsBeginEnd_23922_9 : decode cJ0_checkBoundsBeginEnd_23922 9 = .ok (.pop, 1) := by decide +kernel
theorem dJ0_checkBoundsBeginEnd_23922_10 : decode cJ0_checkBoundsBeginEnd_23922 10 = .ok (.return_, 1) := by decide +kernel
theorem dJ1_canEncode_9a6ad_0 : decode cJ1_canEncode_9a6ad 0 = .ok (.iload_n 0, 1) := by decide +kernel
theorem dJ1_canEncode_9a6ad_1 : decode cJ1_canEncode_9a6ad 1 = .ok (.ifCond .lt 14, 3) := by decide +kernel
theorem dJ1_canEncode_9a6ad_4 : decode cJ1_canEncode_9a6ad 4 = .ok (.iload_n 0, 1) := by decide +kernel
theorem dJ1_canEncode_9a6ad_5 : decode cJ1_canEncode_9a6ad 5 = .ok (.sipush 255, 3) := by decide +kernel
theorem dJ1_canEncode_9a6ad_8 : decode cJ1_canEncode_9a6ad 8 = .ok (.if_icmp .gt 7, 3) := by decide +kernel
theorem dJ1_canEncode_9a6ad_11 : decode cJ1_canEncode_9a6ad 11 = .ok (.iconst 1, 1) := by decide +kernel
theorem dJ1_canEncode_9a6ad_12 : decode cJ1_canEncode_9a6ad 12 = .ok (.goto 4, 3) := by decide +kernel
theorem dJ1_canEncode_9a6ad_15 : decode cJ1_canEncode_9a6ad 15 = .ok (.iconst 0, 1) := by decide +kernel
theorem dJ1_canEncode_9a6ad_16 : decode cJ1_canEncode_9a6ad 16 = .ok (.ireturn, 1) := by decide +kernel
theorem dJ1_indexOf_4cfef_0 : decode cJ1_indexOf_4cfef 0 = .ok (.iload_n 1, 1) := by decide +kernel
theorem dJ1_indexOf_4cfef_1 : decode cJ1_indexOf_4cfef 1 = .ok (.invokestatic 88, 3) := by decide +kernel
theorem dJ1_indexOf_4cfef_4 : decode cJ1_indexOf_4cfef 4 = .ok (.ifCond .ne 5, 3) := by decide +kernel
theorem dJ1_indexOf_4cfef_7 : decode cJ1_indexOf_4cfef 7 = .ok (.iconst (-1), 1) := by decide +kernel
theorem dJ1_indexOf_4cfef_8 : decode cJ1_indexOf_4cfef 8 = .ok (.ireturn, 1) := by decide +kernel
theorem dJ1_indexOf_4cfef_9 : decode cJ1_indexOf_4cfef 9 = .ok (.iload_n 2, 1) := by decide +kernel
theorem dJ1_indexOf_4cfef_10 : decode cJ1_indexOf_4cfef 10 = .ok (.iconst 0, 1) := by decide +kernel
theorem dJ1_indexOf_4cfef_11 : decode cJ1_indexOf_4cfef 11 = .ok (.invokestatic 92, 3) := by decide +kernel
theorem dJ1_indexOf_4cfef_14 : decode cJ1_indexOf_4cfef 14 = .ok (.istore_n 2, 1) := by decide +kernel
theorem dJ1_indexOf_4cfef_15 : decode cJ1_indexOf_4cfef 15 = .ok (.iload_n 3, 1) := by decide +kernel
theorem dJ1_indexOf_4cfef_16 : decode cJ1_indexOf_4cfef 16 = .ok (.aload_n 0, 1) := by decide +kernel
theorem dJ1_indexOf_4cfef_17 : decode cJ1_indexOf_4cfef 17 = .ok (.arraylength, 1) := by decide +kernel
theorem dJ1_indexOf_4cfef_18 : decode cJ1_indexOf_4cfef 18 = .ok (.invokestatic 38, 3) := by decide +kernel
theorem dJ1_indexOf_4cfef_21 : decode cJ1_indexOf_4cfef 21 = .ok (.istore_n 3, 1) := by decide +kernel
theorem dJ1_indexOf_4cfef_22 : decode cJ1_indexOf_4cfef 22 = .ok (.iload_n 2, 1) := by decide +kernel
theorem dJ1_indexOf_4cfef_23 : decode cJ1_indexOf_4cfef 23 = .ok (.iload_n 3, 1) := by decide +kernel
theorem dJ1_indexOf_4cfef_24 : decode cJ1_indexOf_4cfef 24 = .ok (.if_icmp .lt 5, 3) := by decide +kernel
theorem dJ1_indexOf_4cfef_27 : decode cJ1_indexOf_4cfef 27 = .ok (.iconst (-1), 1) := by decide +kernel
theorem dJ1_indexOf_4cfef_28 : decode cJ1_indexOf_4cfef 28 = .ok (.ireturn, 1) := by decide +kernel
theorem dJ1_indexOf_4cfef_29 : decode cJ1_indexOf_4cfef 29 = .ok (.aload_n 0, 1) := by decide +kernel
theorem dJ1_indexOf_4cfef_30 : decode cJ1_indexOf_4cfef 30 = .ok (.iload_n 1, 1) := by decide +kernel
theorem dJ1_indexOf_4cfef_31 : decode cJ1_indexOf_4cfef 31 = .ok (.iload_n 2, 1) := by decide +kernel
theorem dJ1_indexOf_4cfef_32 : decode cJ1_indexOf_4cfef 32 = .ok (.iload_n 3, 1) := by decide +kernel
theorem dJ1_indexOf_4cfef_33 : decode cJ1_indexOf_4cfef 33 = .ok (.invokestatic 95, 3) := by decide +kernel
theorem dJ1_indexOf_4cfef_36 : decode cJ1_indexOf_4cfef 36 = .ok (.ireturn, 1) := by decide +kernel
theorem dJ1_indexOfChar_4cfef_0 : decode cJ1_indexOfChar_4cfef 0 = .ok (.iload_n 1, 1) := by decide +kernel
theorem dJ1_indexOfChar_4cfef_1 : decode cJ1_indexOfChar_4cfef 1 = .ok (.i2b, 1) := by decide +kernel
theorem dJ1_indexOfChar_4cfef_2 : decode cJ1_indexOfChar_4cfef 2 = .ok (.istore 4, 2) := by decide +kernel
theorem dJ1_indexOfChar_4cfef_4 : decode cJ1_indexOfChar_4cfef 4 = .ok (.iload_n 2, 1) := by decide +kernel
theorem dJ1_indexOfChar_4cfef_5 : decode cJ1_indexOfChar_4cfef 5 = .ok (.istore 5, 2) := by decide +kernel
theorem dJ1_indexOfChar_4cfef_7 : decode cJ1_indexOfChar_4cfef 7 = .ok (.iload 5, 2) := by decide +kernel
theorem dJ1_indexOfChar_4cfef_9 : decode cJ1_indexOfChar_4cfef 9 = .ok (.iload_n 3, 1) := by decide +kernel
theorem dJ1_indexOfChar_4cfef_10 : decode cJ1_indexOfChar_4cfef 10 = .ok (.if_icmp .ge 21, 3) := by decide +kernel
theorem dJ1_indexOfChar_4cfef_13 : decode cJ1_indexOfChar_4cfef 13 = .ok (.aload_n 0, 1) := by decide +kernel
theorem dJ1_indexOfChar_4cfef_14 : decode cJ1_indexOfChar_4cfef 14 = .ok (.iload 5, 2) := by decide +kernel
theorem dJ1_indexOfChar_4cfef_16 : decode cJ1_indexOfChar_4cfef 16 = .ok (.baload, 1) := by decide +kernel
theorem dJ1_indexOfChar_4cfef_17 : decode cJ1_indexOfChar_4cfef 17 = .ok (.iload 4, 2) := by decide +kernel
theorem dJ1_indexOfChar_4cfef_19 : decode cJ1_indexOfChar_4cfef 19 = .ok (.if_icmp .ne 6, 3) := by decide +kernel
theorem dJ1_indexOfChar_4cfef_22 : decode cJ1_indexOfChar_4cfef 22 = .ok (.iload 5, 2) := by decide +kernel
theorem dJ1_indexOfChar_4cfef_24 : decode cJ1_indexOfChar_4cfef 24 = .ok (.ireturn, 1) := by decide +kernel
theorem dJ1_indexOfChar_4cfef_25 : decode cJ1_indexOfChar_4cfef 25 = .ok (.iinc 5 1, 3) := by decide +kernel
theorem dJ1_indexOfChar_4cfef_28 : decode cJ1_indexOfChar_4cfef 28 = .ok (.goto (-21), 3) := by decide +kernel
theorem dJ1_indexOfChar_4cfef_31 : decode cJ1_indexOfChar_4cfef 31 = .ok (.iconst (-1), 1) := by decide +kernel
theorem dJ1_indexOfChar_4cfef_32 : decode cJ1_indexOfChar_4cfef 32 = .ok (.ireturn, 1) := by decide +kernel
theorem dJ2_getChar_3b067_0 : decode cJ2_getChar_3b067 0 = .ok (.getstatic 44, 3) := by decide +kernel
theorem dJ2_getChar_3b067_3 : decode cJ2_getChar_3b067 3 = .ok (.ifCond .ne 25, 3) := by decide +kernel
theorem dJ2_getChar_3b067_6 : decode cJ2_getChar_3b067 6 = .ok (.iload_n 1, 1) := by decide +kernel
theorem dJ2_getChar_3b067_7 : decode cJ2_getChar_3b067 7 = .ok (.ifCond .lt 11, 3) := by decide +kernel
theorem dJ2_getChar_3b067_10 : decode cJ2_getChar_3b067 10 = .ok (.iload_n 1, 1) := by decide +kernel
theorem dJ2_getChar_3b067_11 : decode cJ2_getChar_3b067 11 = .ok (.aload_n 0, 1) := by decide +kernel
theorem dJ2_getChar_3b067_12 : decode cJ2_getChar_3b067 12 = .ok (.invokestatic 48, 3) := by decide +kernel
theorem dJ2_getChar_3b067_15 : decode cJ2_getChar_3b067 15 = .ok (.if_icmp .lt 13, 3) := by decide +kernel
theorem dJ2_getChar_3b067_18 : decode cJ2_getChar_3b067 18 = .ok (.new 52, 3) := by decide +kernel
theorem dJ2_getChar_3b067_21 : decode cJ2_getChar_3b067 21 = .ok (.dup, 1) := by decide +kernel
theorem dJ2_getChar_3b067_22 : decode cJ2_getChar_3b067 22 = .ok (.ldc 54, 2) := by decide +kernel
theorem dJ2_getChar_3b067_24 : decode cJ2_getChar_3b067 24 = .ok (.invokespecial 56, 3) := by decide +kernel
theorem dJ2_getChar_3b067_27 : decode cJ2_getChar_3b067 27 = .ok (.athrow, 1) := by decide +kernel
theorem dJ2_getChar_3b067_28 : decode cJ2_getChar_3b067 28 = .ok (.iload_n 1, 1) := by decide +kernel
theorem dJ2_getChar_3b067_29 : decode cJ2_getChar_3b067 29 = .ok (.iconst 1, 1) := by decide +kernel
theorem dJ2_getChar_3b067_30 : decode cJ2_getChar_3b067 30 = .ok (.ishl, 1) := by decide +kernel
theorem dJ2_getChar_3b067_31 : decode cJ2_getChar_3b067 31 = .ok (.istore_n 1, 1) := by decide +kernel
theorem dJ2_getChar_3b067_32 : decode cJ2_getChar_3b067 32 = .ok (.aload_n 0, 1) := by decide +kernel
theorem dJ2_getChar_3b067_33 : decode cJ2_getChar_3b067 33 = .ok (.iload_n 1, 1) := by decide +kernel
theorem dJ2_getChar_3b067_34 : decode cJ2_getChar_3b067 34 = .ok (.iinc 1 1, 3) := by decide +kernel
theorem dJ2_getChar_3b067_37 : decode cJ2_getChar_3b067 37 = .ok (.baload, 1) := by decide +kernel
theorem dJ2_getChar_3b067_38 : decode cJ2_getChar_3b067 38 = .ok (.sipush 255, 3) := by decide +kernel
theorem dJ2_getChar_3b067_41 : decode cJ2_getChar_3b067 41 = .ok (.iand, 1) := by decide +kernel
theorem dJ2_getChar_3b067_42 : decode cJ2_getChar_3b067 42 = .ok (.getstatic 59, 3) := by decide +kernel
theorem dJ2_getChar_3b067_45 : decode cJ2_getChar_3b067 45 = .ok (.ishl, 1) := by decide +kernel
theorem dJ2_getChar_3b067_46 : decode cJ2_getChar_3b067 46 = .ok (.aload_n 0, 1) := by decide +kernel
theorem dJ2_getChar_3b067_47 : decode cJ2_getChar_3b067 47 = .ok (.iload_n 1, 1) := by decide +kernel
theorem dJ2_getChar_3b067_48 : decode cJ2_getChar_3b067 48 = .ok (.baload, 1) := by decide +kernel
theorem dJ2_getChar_3b067_49 : decode cJ2_getChar_3b067 49 = .ok (.sipush 255, 3) := by decide +kernel
theorem dJ2_getChar_3b067_52 : decode cJ2_getChar_3b067 52 = .ok (.iand, 1) := by decide +kernel
theorem dJ2_getChar_3b067_53 : decode cJ2_getChar_3b067 53 = .ok (.getstatic 63, 3) := by decide +kernel
theorem dJ2_getChar_3b067_56 : decode cJ2_getChar_3b067 56 = .ok (.ishl, 1) := by decide +kernel
theorem dJ2_getChar_3b067_57 : decode cJ2_getChar_3b067 57 = .ok (.ior, 1) := by decide +kernel
theorem dJ2_getChar_3b067_58 : decode cJ2_getChar_3b067 58 = .ok (.i2c, 1) := by decide +kernel
theorem dJ2_getChar_3b067_59 : decode cJ2_getChar_3b067 59 = .ok (.ireturn, 1) := by decide +kernel
theorem dJ2_length_9d52b_0 : decode cJ2_length_9d52b 0 = .ok (.aload_n 0, 1) := by decide +kernel
theorem dJ2_length_9d52b_1 : decode cJ2_length_9d52b 1 = .ok (.arraylength, 1) := by decide +kernel
theorem dJ2_length_9d52b_2 : decode cJ2_length_9d52b 2 = .ok (.iconst 1, 1) := by decide +kernel
theorem dJ2_length_9d52b_3 : decode cJ2_length_9d52b 3 = .ok (.ishr, 1) := by decide +kernel
theorem dJ2_length_9d52b_4 : decode cJ2_length_9d52b 4 = .ok (.ireturn, 1) := by decide +kernel
theorem dJ2_indexOf_4cfef_0 : decode cJ2_indexOf_4cfef 0 = .ok (.iload_n 2, 1) := by decide +kernel
theorem dJ2_indexOf_4cfef_1 : decode cJ2_indexOf_4cfef 1 = .ok (.iconst 0, 1) := by decide +kernel
theorem dJ2_indexOf_4cfef_2 : decode cJ2_indexOf_4cfef 2 = .ok (.invokestatic 224, 3) := by decide +kernel
theorem dJ2_indexOf_4cfef_5 : decode cJ2_indexOf_4cfef 5 = .ok (.istore_n 2, 1) := by decide +kernel
theorem dJ2_indexOf_4cfef_6 : decode cJ2_indexOf_4cfef 6 = .ok (.iload_n 3, 1) := by decide +kernel
theorem dJ2_indexOf_4cfef_7 : decode cJ2_indexOf_4cfef 7 = .ok (.aload_n 0, 1) := by decide +kernel
theorem dJ2_indexOf_4cfef_8 : decode cJ2_indexOf_4cfef 8 = .ok (.arraylength, 1) := by decide +kernel
theorem dJ2_indexOf_4cfef_9 : decode cJ2_indexOf_4cfef 9 = .ok (.iconst 1, 1) := by decide +kernel
theorem dJ2_indexOf_4cfef_10 : decode cJ2_indexOf_4cfef 10 = .ok (.ishr, 1) := by decide +kernel
theorem dJ2_indexOf_4cfef_11 : decode cJ2_indexOf_4cfef 11 = .ok (.invokestatic 183, 3) := by decide +kernel
theorem dJ2_indexOf_4cfef_14 : decode cJ2_indexOf_4cfef 14 = .ok (.istore_n 3, 1) := by decide +kernel
theorem dJ2_indexOf_4cfef_15 : decode cJ2_indexOf_4cfef 15 = .ok (.iload_n 2, 1) := by decide +kernel
theorem dJ2_indexOf_4cfef_16 : decode cJ2_indexOf_4cfef 16 = .ok (.iload_n 3, 1) := by decide +kernel
theorem dJ2_indexOf_4cfef_17 : decode cJ2_indexOf_4cfef 17 = .ok (.if_icmp .lt 5, 3) := by decide +kernel
theorem dJ2_indexOf_4cfef_20 : decode cJ2_indexOf_4cfef 20 = .ok (.iconst (-1), 1) := by decide +kernel
theorem dJ2_indexOf_4cfef_21 : decode cJ2_indexOf_4cfef 21 = .ok (.ireturn, 1) := by decide +kernel
theorem dJ2_indexOf_4cfef_22 : decode cJ2_indexOf_4cfef 22 = .ok (.iload_n 1, 1) := by decide +kernel
theorem dJ2_indexOf_4cfef_23 : decode cJ2_indexOf_4cfef 23 = .ok (.ldc 227, 2) := by decide +kernel
theorem dJ2_indexOf_4cfef_25 : decode cJ2_indexOf_4cfef 25 = .ok (.if_icmp .ge 11, 3) := by decide +kernel
theorem dJ2_indexOf_4cfef_28 : decode cJ2_indexOf_4cfef 28 = .ok (.aload_n 0, 1) := by decide +kernel
theorem dJ2_indexOf_4cfef_29 : decode cJ2_indexOf_4cfef 29 = .ok (.iload_n 1, 1) := by decide +kernel
theorem dJ2_indexOf_4cfef_30 : decode cJ2_indexOf_4cfef 30 = .ok (.iload_n 2, 1) := by decide +kernel
theorem dJ2_indexOf_4cfef_31 : decode cJ2_indexOf_4cfef 31 = .ok (.iload_n 3, 1) := by decide +kernel
theorem dJ2_indexOf_4cfef_32 : decode cJ2_indexOf_4cfef 32 = .ok (.invokestatic 228, 3) := by decide +kernel
theorem dJ2_indexOf_4cfef_35 : decode cJ2_indexOf_4cfef 35 = .ok (.ireturn, 1) := by decide +kernel
theorem dJ2_indexOf_4cfef_36 : decode cJ2_indexOf_4cfef 36 = .ok (.aload_n 0, 1) := by decide +kernel
theorem dJ2_indexOf_4cfef_37 : decode cJ2_indexOf_4cfef 37 = .ok (.iload_n 1, 1) := by decide +kernel
theorem dJ2_indexOf_4cfef_38 : decode cJ2_indexOf_4cfef 38 = .ok (.iload_n 2, 1) := by decide +kernel
theorem dJ2_indexOf_4cfef_39 : decode cJ2_indexOf_4cfef 39 = .ok (.iload_n 3, 1) := by decide +kernel
theorem dJ2_indexOf_4cfef_40 : decode cJ2_indexOf_4cfef 40 = .ok (.invokestatic 232, 3) := by decide +kernel
theorem dJ2_indexOf_4cfef_43 : decode cJ2_indexOf_4cfef 43 = .ok (.ireturn, 1) := by decide +kernel
theorem dJ2_indexOfChar_4cfef_0 : decode cJ2_indexOfChar_4cfef 0 = .ok (.iload_n 2, 1) := by decide +kernel
theorem dJ2_indexOfChar_4cfef_1 : decode cJ2_indexOfChar_4cfef 1 = .ok (.iload_n 3, 1) := by decide +kernel
theorem dJ2_indexOfChar_4cfef_2 : decode cJ2_indexOfChar_4cfef 2 = .ok (.aload_n 0, 1) := by decide +kernel
theorem dJ2_indexOfChar_4cfef_3 : decode cJ2_indexOfChar_4cfef 3 = .ok (.invokestatic 96, 3) := by decide +kernel
theorem dJ2_indexOfChar_4cfef_6 : decode cJ2_indexOfChar_4cfef 6 = .ok (.aload_n 0, 1) := by decide +kernel
theorem dJ2_indexOfChar_4cfef_7 : decode cJ2_indexOfChar_4cfef 7 = .ok (.iload_n 1, 1) := by decide +kernel
theorem dJ2_indexOfChar_4cfef_8 : decode cJ2_indexOfChar_4cfef 8 = .ok (.iload_n 2, 1) := by decide +kernel
theorem dJ2_indexOfChar_4cfef_9 : decode cJ2_indexOfChar_4cfef 9 = .ok (.iload_n 3, 1) := by decide +kernel
theorem dJ2_indexOfChar_4cfef_10 : decode cJ2_indexOfChar_4cfef 10 = .ok (.invokestatic 244, 3) := by decide +kernel
theorem dJ2_indexOfChar_4cfef_13 : decode cJ2_indexOfChar_4cfef 13 = .ok (.ireturn, 1) := by decide +kernel
theorem dJ2_indexOfCharUnsafe_4cfef_0 : decode cJ2_indexOfCharUnsafe_4cfef 0 = .ok (.iload_n 2, 1) := by decide +kernel
theorem dJ2_indexOfCharUnsafe_4cfef_1 : decode cJ2_indexOfCharUnsafe_4cfef 1 = .ok (.istore 4, 2) := by decide +kernel
theorem dJ2_indexOfCharUnsafe_4cfef_3 : decode cJ2_indexOfCharUnsafe_4cfef 3 = .ok (.iload 4, 2) := by decide +kernel
theorem dJ2_indexOfCharUnsafe_4cfef_5 : decode cJ2_indexOfCharUnsafe_4cfef 5 = .ok (.iload_n 3, 1) := by decide +kernel
theorem dJ2_indexOfCharUnsafe_4cfef_6 : decode cJ2_indexOfCharUnsafe_4cfef 6 = .ok (.if_icmp .ge 22, 3) := by decide +kernel
theorem dJ2_indexOfCharUnsafe_4cfef_9 : decode cJ2_indexOfCharUnsafe_4cfef 9 = .ok (.aload_n 0, 1) := by decide +kernel
theorem dJ2_indexOfCharUnsafe_4cfef_10 : decode cJ2_indexOfCharUnsafe_4cfef 10 = .ok (.iload 4, 2) := by decide +kernel
theorem dJ2_indexOfCharUnsafe_4cfef_12 : decode cJ2_indexOfCharUnsafe_4cfef 12 = .ok (.invokestatic 71, 3) := by decide +kernel
theorem dJ2_indexOfCharUnsafe_4cfef_15 : decode cJ2_indexOfCharUnsafe_4cfef 15 = .ok (.iload_n 1, 1) := by decide +kernel
theorem dJ2_indexOfCharUnsafe_4cfef_16 : decode cJ2_indexOfCharUnsafe_4cfef 16 = .ok (.if_icmp .ne 6, 3) := by decide +kernel
theorem dJ2_indexOfCharUnsafe_4cfef_19 : decode cJ2_indexOfCharUnsafe_4cfef 19 = .ok (.iload 4, 2) := by decide +kernel
theorem dJ2_indexOfCharUnsafe_4cfef_21 : decode cJ2_indexOfCharUnsafe_4cfef 21 = .ok (.ireturn, 1) := by decide +kernel
theorem dJ2_indexOfCharUnsafe_4cfef_22 : decode cJ2_indexOfCharUnsafe_4cfef 22 = .ok (.iinc 4 1, 3) := by decide +kernel
theorem dJ2_indexOfCharUnsafe_4cfef_25 : decode cJ2_indexOfCharUnsafe_4cfef 25 = .ok (.goto (-22), 3) := by decide +kernel
theorem dJ2_indexOfCharUnsafe_4cfef_28 : decode cJ2_indexOfCharUnsafe_4cfef 28 = .ok (.iconst (-1), 1) := by decide +kernel
theorem dJ2_indexOfCharUnsafe_4cfef_29 : decode cJ2_indexOfCharUnsafe_4cfef 29 = .ok (.ireturn, 1) := by decide +kernel
theorem dJ2_indexOfSupplementary_4cfef_0 : decode cJ2_indexOfSupplementary_4cfef 0 = .ok (.iload_n 1, 1) := by decide +kernel
theorem dJ2_indexOfSupplementary_4cfef_1 : decode cJ2_indexOfSupplementary_4cfef 1 = .ok (.invokestatic 164, 3) := by decide +kernel
theorem dJ2_indexOfSupplementary_4cfef_4 : decode cJ2_indexOfSupplementary_4cfef 4 = .ok (.ifCond .eq 65, 3) := by decide +kernel
theorem dJ2_indexOfSupplementary_4cfef_7 : decode cJ2_indexOfSupplementary_4cfef 7 = .ok (.iload_n 1, 1) := by decide +kernel
theorem dJ2_indexOfSupplementary_4cfef_8 : decode cJ2_indexOfSupplementary_4cfef 8 = .ok (.invokestatic 157, 3) := by decide +kernel
theorem dJ2_indexOfSupplementary_4cfef_11 : decode cJ2_indexOfSupplementary_4cfef 11 = .ok (.istore 4, 2) := by decide +kernel
theorem dJ2_indexOfSupplementary_4cfef_13 : decode cJ2_indexOfSupplementary_4cfef 13 = .ok (.iload_n 1, 1) := by decide +kernel
theorem dJ2_indexOfSupplementary_4cfef_14 : decode cJ2_indexOfSupplementary_4cfef 14 = .ok (.invokestatic 161, 3) := by decide +kernel
theorem dJ2_indexOfSupplementary_4cfef_17 : decode cJ2_indexOfSupplementary_4cfef 17 = .ok (.istore 5, 2) := by decide +kernel
theorem dJ2_indexOfSupplementary_4cfef_19 : decode cJ2_indexOfSupplementary_4cfef 19 = .ok (.iload_n 2, 1) := by decide +kernel
theorem dJ2_indexOfSupplementary_4cfef_20 : decode cJ2_indexOfSupplementary_4cfef 20 = .ok (.iload_n 3, 1) := by decide +kernel
theorem dJ2_indexOfSupplementary_4cfef_21 : decode cJ2_indexOfSupplementary_4cfef 21 = .ok (.aload_n 0, 1) := by decide +kernel
theorem dJ2_indexOfSupplementary_4cfef_22 : decode cJ2_indexOfSupplementary_4cfef 22 = .ok (.invokestatic 96, 3) := by decide +kernel
theorem dJ2_indexOfSupplementary_4cfef_25 : decode cJ2_indexOfSupplementary_4cfef 25 = .ok (.iload_n 2, 1) := by decide +kernel
theorem dJ2_indexOfSupplementary_4cfef_26 : decode cJ2_indexOfSupplementary_4cfef 26 = .ok (.istore 6, 2) := by decide +kernel
theorem dJ2_indexOfSupplementary_4cfef_28 : decode cJ2_indexOfSupplementary_4cfef 28 = .ok (.iload 6, 2) := by decide +kernel
theorem dJ2_indexOfSupplementary_4cfef_30 : decode cJ2_indexOfSupplementary_4cfef 30 = .ok (.iload_n 3, 1) := by decide +kernel
theorem dJ2_indexOfSupplementary_4cfef_31 : decode cJ2_indexOfSupplementary_4cfef 31 = .ok (.iconst 1, 1) := by decide +kernel
theorem dJ2_indexOfSupplementary_4cfef_32 : decode cJ2_indexOfSupplementary_4cfef 32 = .ok (.isub, 1) := by decide +kernel
theorem dJ2_indexOfSupplementary_4cfef_33 : decode cJ2_indexOfSupplementary_4cfef 33 = .ok (.if_icmp .ge 36, 3) := by decide +kernel
theorem dJ2_indexOfSupplementary_4cfef_36 : decode cJ2_indexOfSupplementary_4cfef 36 = .ok (.aload_n 0, 1) := by decide +kernel
theorem dJ2_indexOfSupplementary_4cfef_37 : decode cJ2_indexOfSupplementary_4cfef 37 = .ok (.iload 6, 2) := by decide +kernel
theorem dJ2_indexOfSupplementary_4cfef_39 : decode cJ2_indexOfSupplementary_4cfef 39 = .ok (.invokestatic 71, 3) := by decide +kernel
theorem dJ2_indexOfSupplementary_4cfef_42 : decode cJ2_indexOfSupplementary_4cfef 42 = .ok (.iload 4, 2) := by decide +kernel
theorem dJ2_indexOfSupplementary_4cfef_44 : decode cJ2_indexOfSupplementary_4cfef 44 = .ok (.if_icmp .ne 19, 3) := by decide +kernel
theorem dJ2_indexOfSupplementary_4cfef_47 : decode cJ2_indexOfSupplementary_4cfef 47 = .ok (.aload_n 0, 1) := by decide +kernel
theorem dJ2_indexOfSupplementary_4cfef_48 : decode cJ2_indexOfSupplementary_4cfef 48 = .ok (.iload 6, 2) := by decide +kernel
theorem dJ2_indexOfSupplementary_4cfef_50 : decode cJ2_indexOfSupplementary_4cfef 50 = .ok (.iconst 1, 1) := by decide +kernel
theorem dJ2_indexOfSupplementary_4cfef_51 : decode cJ2_indexOfSupplementary_4cfef 51 = .ok (.iadd, 1) := by decide +kernel
theorem dJ2_indexOfSupplementary_4cfef_52 : decode cJ2_indexOfSupplementary_4cfef 52 = .ok (.invokestatic 71, 3) := by decide +kernel
theorem dJ2_indexOfSupplementary_4cfef_55 : decode cJ2_indexOfSupplementary_4cfef 55 = .ok (.iload 5, 2) := by decide +kernel
theorem dJ2_indexOfSupplementary_4cfef_57 : decode cJ2_indexOfSupplementary_4cfef 57 = .ok (.if_icmp .ne 6, 3) := by decide +kernel
theorem dJ2_indexOfSupplementary_4cfef_60 : decode cJ2_indexOfSupplementary_4cfef 60 = .ok (.iload 6, 2) := by decide +kernel
theorem dJ2_indexOfSupplementary_4cfef_62 : decode cJ2_indexOfSupplementary_4cfef 62 = .ok (.ireturn, 1) := by decide +kernel
theorem dJ2_indexOfSupplementary_4cfef_63 : decode cJ2_indexOfSupplementary_4cfef 63 = .ok (.iinc 6 1, 3) := by decide +kernel
theorem dJ2_indexOfSupplementary_4cfef_66 : decode cJ2_indexOfSupplementary_4cfef 66 = .ok (.goto (-38), 3) := by decide +kernel
theorem dJ2_indexOfSupplementary_4cfef_69 : decode cJ2_indexOfSupplementary_4cfef 69 = .ok (.iconst (-1), 1) := by decide +kernel
theorem dJ2_indexOfSupplementary_4cfef_70 : decode cJ2_indexOfSupplementary_4cfef 70 = .ok (.ireturn, 1) := by decide +kernel
theorem dJ2_checkBoundsBeginEnd_d044e_0 : decode cJ2_checkBoundsBeginEnd_d044e 0 = .ok (.iload_n 0, 1) := by decide +kernel
theorem dJ2_checkBoundsBeginEnd_d044e_1 : decode cJ2_checkBoundsBeginEnd_d044e 1 = .ok (.iload_n 1, 1) := by decide +kernel
theorem dJ2_checkBoundsBeginEnd_d044e_2 : decode cJ2_checkBoundsBeginEnd_d044e 2 = .ok (.aload_n 2, 1) := by decide +kernel
theorem dJ2_checkBoundsBeginEnd_d044e_3 : decode cJ2_checkBoundsBeginEnd_d044e 3 = .ok (.invokestatic 48, 3) := by decide +kernel
theorem dJ2_checkBoundsBeginEnd_d044e_6 : decode cJ2_checkBoundsBeginEnd_d044e 6 = .ok (.invokestatic 241, 3) := by decide +kernel
theorem dJ2_checkBoundsBeginEnd_d044e_9 : decode cJ2_checkBoundsBeginEnd_d044e 9 = .ok (.return_, 1) := by decide +kernel
theorem dJ7_fill_53178_0 : decode cJ7_fill_53178 0 = .ok (.iconst 0, 1) := by decide +kernel
theorem dJ7_fill_53178_1 : decode cJ7_fill_53178 1 = .ok (.istore_n 2, 1) := by decide +kernel
theorem dJ7_fill_53178_2 : decode cJ7_fill_53178 2 = .ok (.aload_n 0, 1) := by decide +kernel
theorem dJ7_fill_53178_3 : decode cJ7_fill_53178 3 = .ok (.arraylength, 1) := by decide +kernel
theorem dJ7_fill_53178_4 : decode cJ7_fill_53178 4 = .ok (.istore_n 3, 1) := by decide +kernel
theorem dJ7_fill_53178_5 : decode cJ7_fill_53178 5 = .ok (.iload_n 2, 1) := by decide +kernel
theorem dJ7_fill_53178_6 : decode cJ7_fill_53178 6 = .ok (.iload_n 3, 1) := by decide +kernel
theorem dJ7_fill_53178_7 : decode cJ7_fill_53178 7 = .ok (.if_icmp .ge 13, 3) := by decide +kernel
theorem dJ7_fill_53178_10 : decode cJ7_fill_53178 10 = .ok (.aload_n 0, 1) := by decide +kernel
theorem dJ7_fill_53178_11 : decode cJ7_fill_53178 11 = .ok (.iload_n 2, 1) := by decide +kernel
theorem dJ7_fill_53178_12 : decode cJ7_fill_53178 12 = .ok (.iload_n 1, 1) := by decide +kernel
theorem dJ7_fill_53178_13 : decode cJ7_fill_53178 13 = .ok (.iastore, 1) := by decide +kernel
theorem dJ7_fill_53178_14 : decode cJ7_fill_53178 14 = .ok (.iinc 2 1, 3) := by decide +kernel
theorem dJ7_fill_53178_17 : decode cJ7_fill_53178 17 = .ok (.goto (-12), 3) := by decide +kernel
theorem dJ7_fill_53178_20 : decode cJ7_fill_53178 20 = .ok (.return_, 1) := by decide +kernel
theorem dJ3_checkFromToIndex_8c36e_0 : decode cJ3_checkFromToIndex_8c36e 0 = .ok (.iload_n 0, 1) := by decide +kernel
theorem dJ3_checkFromToIndex_8c36e_1 : decode cJ3_checkFromToIndex_8c36e 1 = .ok (.ifCond .lt 13, 3) := by decide +kernel
theorem dJ3_checkFromToIndex_8c36e_4 : decode cJ3_checkFromToIndex_8c36e 4 = .ok (.iload_n 0, 1) := by decide +kernel
theorem dJ3_checkFromToIndex_8c36e_5 : decode cJ3_checkFromToIndex_8c36e 5 = .ok (.iload_n 1, 1) := by decide +kernel
theorem dJ3_checkFromToIndex_8c36e_6 : decode cJ3_checkFromToIndex_8c36e 6 = .ok (.if_icmp .gt 8, 3) := by decide +kernel
theorem dJ3_checkFromToIndex_8c36e_9 : decode cJ3_checkFromToIndex_8c36e 9 = .ok (.iload_n 1, 1) := by decide +kernel
theorem dJ3_checkFromToIndex_8c36e_10 : decode cJ3_checkFromToIndex_8c36e 10 = .ok (.iload_n 2, 1) := by decide +kernel
theorem dJ3_checkFromToIndex_8c36e_11 : decode cJ3_checkFromToIndex_8c36e 11 = .ok (.if_icmp .le 11, 3) := by decide +kernel
theorem dJ3_checkFromToIndex_8c36e_14 : decode cJ3_checkFromToIndex_8c36e 14 = .ok (.aload_n 3, 1) := by decide +kernel
theorem dJ3_checkFromToIndex_8c36e_15 : decode cJ3_checkFromToIndex_8c36e 15 = .ok (.iload_n 0, 1) := by decide +kernel
theorem dJ3_checkFromToIndex_8c36e_16 : decode cJ3_checkFromToIndex_8c36e 16 = .ok (.iload_n 1, 1) := by decide +kernel
theorem dJ3_checkFromToIndex_8c36e_17 : decode cJ3_checkFromToIndex_8c36e 17 = .ok (.iload_n 2, 1) := by decide +kernel
theorem dJ3_checkFromToIndex_8c36e_18 : decode cJ3_checkFromToIndex_8c36e 18 = .ok (.invokestatic 99, 3) := by decide +kernel
theorem dJ3_checkFromToIndex_8c36e_21 : decode cJ3_checkFromToIndex_8c36e 21 = .ok (.athrow, 1) := by decide +kernel
theorem dJ3_checkFromToIndex_8c36e_22 : decode cJ3_checkFromToIndex_8c36e 22 = .ok (.iload_n 0, 1) := by decide +kernel
theorem dJ3_checkFromToIndex_8c36e_23 : decode cJ3_checkFromToIndex_8c36e 23 = .ok (.ireturn, 1) := by decide +kernel
theorem dL_ground_0 : decode cL_ground 0 = .ok (.aload_n 3, 1) := by decide +kernel
theorem dL_ground_1 : decode cL_ground 1 = .ok (.iconst 0, 1) := by decide +kernel
theorem dL_ground_2 : decode cL_ground 2 = .ok (.aload_n 0, 1) := by decide +kernel
theorem dL_ground_3 : decode cL_ground 3 = .ok (.iload_n 1, 1) := by decide +kernel
theorem dL_ground_4 : decode cL_ground 4 = .ok (.iload_n 2, 1) := by decide +kernel
theorem dL_ground_5 : decode cL_ground 5 = .ok (.invokevirtual 7, 3) := by decide +kernel
theorem dL_ground_8 : decode cL_ground 8 = .ok (.i2l, 1) := by decide +kernel
theorem dL_ground_9 : decode cL_ground 9 = .ok (.lastore, 1) := by decide +kernel
theorem dL_ground_10 : decode cL_ground 10 = .ok (.goto 7, 3) := by decide +kernel
theorem dL_ground_13 : decode cL_ground 13 = .ok (.astore 4, 2) := by decide +kernel
theorem dL_ground_15 : decode cL_ground 15 = .ok (.iconst 1, 1) := by decide +kernel
theorem dL_ground_16 : decode cL_ground 16 = .ok (.ireturn, 1) := by decide +kernel
theorem dL_ground_17 : decode cL_ground 17 = .ok (.iconst 0, 1) := by decide +kernel
theorem dL_ground_18 : decode cL_ground 18 = .ok (.ireturn, 1) := by decide +kernel
theorem dL_person_0 : decode cL_person 0 = .ok (.aload_n 3, 1) := by decide +kernel
theorem dL_person_1 : decode cL_person 1 = .ok (.iconst 0, 1) := by decide +kernel
theorem dL_person_2 : decode cL_person 2 = .ok (.aload_n 0, 1) := by decide +kernel
theorem dL_person_3 : decode cL_person 3 = .ok (.iload_n 1, 1) := by decide +kernel
theorem dL_person_4 : decode cL_person 4 = .ok (.iload_n 2, 1) := by decide +kernel
theorem dL_person_5 : decode cL_person 5 = .ok (.invokevirtual 15, 3) := by decide +kernel
theorem dL_person_8 : decode cL_person 8 = .ok (.i2l, 1) := by decide +kernel
theorem dL_person_9 : decode cL_person 9 = .ok (.lastore, 1) := by decide +kernel
theorem dL_person_10 : decode cL_person 10 = .ok (.goto 7, 3) := by decide +kernel
theorem dL_person_13 : decode cL_person 13 = .ok (.astore 4, 2) := by decide +kernel
theorem dL_person_15 : decode cL_person 15 = .ok (.iconst 1, 1) := by decide +kernel
theorem dL_person_16 : decode cL_person 16 = .ok (.ireturn, 1) := by decide +kernel
theorem dL_person_17 : decode cL_person 17 = .ok (.iconst 0, 1) := by decide +kernel
theorem dL_person_18 : decode cL_person 18 = .ok (.ireturn, 1) := by decide +kernel
theorem dL_row_0 : decode cL_row 0 = .ok (.aload_n 2, 1) := by decide +kernel
theorem dL_row_1 : decode cL_row 1 = .ok (.iconst 0, 1) := by decide +kernel
theorem dL_row_2 : decode cL_row 2 = .ok (.aload_n 0, 1) := by decide +kernel
theorem dL_row_3 : decode cL_row 3 = .ok (.iload_n 1, 1) := by decide +kernel
theorem dL_row_4 : decode cL_row 4 = .ok (.invokevirtual 18, 3) := by decide +kernel
theorem dL_row_7 : decode cL_row 7 = .ok (.lastore, 1) := by decide +kernel
theorem dL_row_8 : decode cL_row 8 = .ok (.goto 6, 3) := by decide +kernel
theorem dL_row_11 : decode cL_row 11 = .ok (.astore_n 3, 1) := by decide +kernel
theorem dL_row_12 : decode cL_row 12 = .ok (.iconst 1, 1) := by decide +kernel
theorem dL_row_13 : decode cL_row 13 = .ok (.ireturn, 1) := by decide +kernel
theorem dL_row_14 : decode cL_row 14 = .ok (.iconst 0, 1) := by decide +kernel
theorem dL_row_15 : decode cL_row 15 = .ok (.ireturn, 1) := by decide +kernel
theorem dL_law_0 : decode cL_law 0 = .ok (.new 8, 3) := by decide +kernel
theorem dL_law_3 : decode cL_law 3 = .ok (.dup, 1) := by decide +kernel
theorem dL_law_4 : decode cL_law 4 = .ok (.invokespecial 22, 3) := by decide +kernel
theorem dL_law_7 : decode cL_law 7 = .ok (.astore_n 1, 1) := by decide +kernel
theorem dL_law_8 : decode cL_law 8 = .ok (.new 23, 3) := by decide +kernel
theorem dL_law_11 : decode cL_law 11 = .ok (.dup, 1) := by decide +kernel
theorem dL_law_12 : decode cL_law 12 = .ok (.invokespecial 25, 3) := by decide +kernel
theorem dL_law_15 : decode cL_law 15 = .ok (.astore_n 2, 1) := by decide +kernel
theorem dL_law_16 : decode cL_law 16 = .ok (.iconst 1, 1) := by decide +kernel
theorem dL_law_17 : decode cL_law 17 = .ok (.newarray .long, 2) := by decide +kernel
theorem dL_law_19 : decode cL_law 19 = .ok (.astore_n 3, 1) := by decide +kernel
theorem dL_law_20 : decode cL_law 20 = .ok (.iconst 0, 1) := by decide +kernel
theorem dL_law_21 : decode cL_law 21 = .ok (.istore 4, 2) := by decide +kernel
theorem dL_law_23 : decode cL_law 23 = .ok (.iload 4, 2) := by decide +kernel
theorem dL_law_25 : decode cL_law 25 = .ok (.aload_n 0, 1) := by decide +kernel
theorem dL_law_26 : decode cL_law 26 = .ok (.arraylength, 1) := by decide +kernel
theorem dL_law_27 : decode cL_law 27 = .ok (.iconst 5, 1) := by decide +kernel
theorem dL_law_28 : decode cL_law 28 = .ok (.isub, 1) := by decide +kernel
theorem dL_law_29 : decode cL_law 29 = .ok (.if_icmp .gt 1601, 3) := by decide +kernel
theorem dL_law_32 : decode cL_law 32 = .ok (.aload_n 0, 1) := by decide +kernel
theorem dL_law_33 : decode cL_law 33 = .ok (.iload 4, 2) := by decide +kernel
theorem dL_law_35 : decode cL_law 35 = .ok (.iaload, 1) := by decide +kernel
theorem dL_law_36 : decode cL_law 36 = .ok (.bipush 63, 2) := by decide +kernel
theorem dL_law_38 : decode cL_law 38 = .ok (.iand, 1) := by decide +kernel
theorem dL_law_39 : decode cL_law 39 = .ok (.tableswitch 1585 0 43 #[189, 214, 239, 252, 265, 278, 291, 359, 427, 464, 525, 562, 599, 636, 661, 674, 687, 736, 761, 798, 835, 848, 897, 946, 983, 1020, 1045, 1070, 1095, 1144, 1157, 1182, 1219, 1244, 1269, 1306, 1343, 1368, 1405, 1418, 1455, 1480, 1505, 1530], 189) := by decide +kernel
theorem dL_law_228 : decode cL_law 228 = .ok (.aload_n 1, 1) := by decide +kernel
theorem dL_law_229 : decode cL_law 229 = .ok (.aload_n 0, 1) := by decide +kernel
theorem dL_law_230 : decode cL_law 230 = .ok (.iload 4, 2) := by decide +kernel
theorem dL_law_232 : decode cL_law 232 = .ok (.iconst 1, 1) := by decide +kernel
theorem dL_law_233 : decode cL_law 233 = .ok (.iadd, 1) := by decide +kernel
theorem dL_law_234 : decode cL_law 234 = .ok (.iaload, 1) := by decide +kernel
theorem dL_law_235 : decode cL_law 235 = .ok (.invokevirtual 26, 3) := by decide +kernel
theorem dL_law_238 : decode cL_law 238 = .ok (.aload_n 2, 1) := by decide +kernel
theorem dL_law_239 : decode cL_law 239 = .ok (.aload_n 0, 1) := by decide +kernel
theorem dL_law_240 : decode cL_law 240 = .ok (.iload 4, 2) := by decide +kernel
theorem dL_law_242 : decode cL_law 242 = .ok (.iconst 1, 1) := by decide +kernel
theorem dL_law_243 : decode cL_law 243 = .ok (.iadd, 1) := by decide +kernel
theorem dL_law_244 : decode cL_law 244 = .ok (.iaload, 1) := by decide +kernel
theorem dL_law_245 : decode cL_law 245 = .ok (.invokevirtual 30, 3) := by decide +kernel
theorem dL_law_248 : decode cL_law 248 = .ok (.if_icmp .eq 1376, 3) := by decide +kernel
theorem dL_law_251 : decode cL_law 251 = .ok (.iconst 0, 1) := by decide +kernel
theorem dL_law_252 : decode cL_law 252 = .ok (.ireturn, 1) := by decide +kernel
theorem dL_law_253 : decode cL_law 253 = .ok (.aload_n 1, 1) := by decide +kernel
theorem dL_law_254 : decode cL_law 254 = .ok (.aload_n 0, 1) := by decide +kernel
theorem dL_law_255 : decode cL_law 255 = .ok (.iload 4, 2) := by decide +kernel
theorem dL_law_257 : decode cL_law 257 = .ok (.iconst 1, 1) := by decide +kernel
theorem dL_law_258 : decode cL_law 258 = .ok (.iadd, 1) := by decide +kernel
theorem dL_law_259 : decode cL_law 259 = .ok (.iaload, 1) := by decide +kernel
theorem dL_law_260 : decode cL_law 260 = .ok (.invokevirtual 31, 3) := by decide +kernel
theorem dL_law_263 : decode cL_law 263 = .ok (.aload_n 2, 1) := by decide +kernel
theorem dL_law_264 : decode cL_law 264 = .ok (.aload_n 0, 1) := by decide +kernel
theorem dL_law_265 : decode cL_law 265 = .ok (.iload 4, 2) := by decide +kernel
theorem dL_law_267 : decode cL_law 267 = .ok (.iconst 1, 1) := by decide +kernel
theorem dL_law_268 : decode cL_law 268 = .ok (.iadd, 1) := by decide +kernel
theorem dL_law_269 : decode cL_law 269 = .ok (.iaload, 1) := by decide +kernel
theorem dL_law_270 : decode cL_law 270 = .ok (.invokevirtual 35, 3) := by decide +kernel
theorem dL_law_273 : decode cL_law 273 = .ok (.if_icmp .eq 1351, 3) := by decide +kernel
theorem dL_law_276 : decode cL_law 276 = .ok (.iconst 0, 1) := by decide +kernel
theorem dL_law_277 : decode cL_law 277 = .ok (.ireturn, 1) := by decide +kernel
theorem dL_law_278 : decode cL_law 278 = .ok (.aload_n 1, 1) := by decide +kernel
theorem dL_law_279 : decode cL_law 279 = .ok (.invokevirtual 36, 3) := by decide +kernel
theorem dL_law_282 : decode cL_law 282 = .ok (.aload_n 2, 1) := by decide +kernel
theorem dL_law_283 : decode cL_law 283 = .ok (.invokevirtual 40, 3) := by decide +kernel
theorem dL_law_286 : decode cL_law 286 = .ok (.if_icmp .eq 1338, 3) := by decide +kernel
theorem dL_law_289 : decode cL_law 289 = .ok (.iconst 0, 1) := by decide +kernel
theorem dL_law_290 : decode cL_law 290 = .ok (.ireturn, 1) := by decide +kernel
theorem dL_law_291 : decode cL_law 291 = .ok (.aload_n 1, 1) := by decide +kernel
theorem dL_law_292 : decode cL_law 292 = .ok (.invokevirtual 41, 3) := by decide +kernel
theorem dL_law_295 : decode cL_law 295 = .ok (.aload_n 2, 1) := by decide +kernel
theorem dL_law_296 : decode cL_law 296 = .ok (.invokevirtual 44, 3) := by decide +kernel
theorem dL_law_299 : decode cL_law 299 = .ok (.if_icmp .eq 1325, 3) := by decide +kernel
theorem dL_law_302 : decode cL_law 302 = .ok (.iconst 0, 1) := by decide +kernel
theorem dL_law_303 : decode cL_law 303 = .ok (.ireturn, 1) := by decide +kernel
theorem dL_law_304 : decode cL_law 304 = .ok (.aload_n 1, 1) := by decide +kernel
theorem dL_law_305 : decode cL_law 305 = .ok (.invokevirtual 45, 3) := by decide +kernel
theorem dL_law_308 : decode cL_law 308 = .ok (.aload_n 2, 1) := by decide +kernel
theorem dL_law_309 : decode cL_law 309 = .ok (.invokevirtual 48, 3) := by decide +kernel
theorem dL_law_312 : decode cL_law 312 = .ok (.if_icmp .eq 1312, 3) := by decide +kernel
theorem dL_law_315 : decode cL_law 315 = .ok (.iconst 0, 1) := by decide +kernel
theorem dL_law_316 : decode cL_law 316 = .ok (.ireturn, 1) := by decide +kernel
theorem dL_law_317 : decode cL_law 317 = .ok (.aload_n 1, 1) := by decide +kernel
theorem dL_law_318 : decode cL_law 318 = .ok (.invokevirtual 49, 3) := by decide +kernel
theorem dL_law_321 : decode cL_law 321 = .ok (.aload_n 2, 1) := by decide +kernel
theorem dL_law_322 : decode cL_law 322 = .ok (.invokevirtual 52, 3) := by decide +kernel
theorem dL_law_325 : decode cL_law 325 = .ok (.if_icmp .eq 1299, 3) := by decide +kernel
theorem dL_law_328 : decode cL_law 328 = .ok (.iconst 0, 1) := by decide +kernel
theorem dL_law_329 : decode cL_law 329 = .ok (.ireturn, 1) := by decide +kernel
theorem dL_law_330 : decode cL_law 330 = .ok (.aload_n 1, 1) := by decide +kernel
theorem dL_law_331 : decode cL_law 331 = .ok (.aload_n 0, 1) := by decide +kernel
theorem dL_law_332 : decode cL_law 332 = .ok (.iload 4, 2) := by decide +kernel
theorem dL_law_334 : decode cL_law 334 = .ok (.iconst 1, 1) := by decide +kernel
theorem dL_law_335 : decode cL_law 335 = .ok (.iadd, 1) := by decide +kernel
theorem dL_law_336 : decode cL_law 336 = .ok (.iaload, 1) := by decide +kernel
theorem dL_law_337 : decode cL_law 337 = .ok (.aload_n 0, 1) := by decide +kernel
theorem dL_law_338 : decode cL_law 338 = .ok (.iload 4, 2) := by decide +kernel
theorem dL_law_340 : decode cL_law 340 = .ok (.iconst 2, 1) := by decide +kernel
theorem dL_law_341 : decode cL_law 341 = .ok (.iadd, 1) := by decide +kernel
theorem dL_law_342 : decode cL_law 342 = .ok (.iaload, 1) := by decide +kernel
theorem dL_law_343 : decode cL_law 343 = .ok (.aload_n 3, 1) := by decide +kernel
theorem dL_law_344 : decode cL_law 344 = .ok (.invokestatic 53, 3) := by decide +kernel
theorem dL_law_347 : decode cL_law 347 = .ok (.istore 5, 2) := by decide +kernel
theorem dL_law_349 : decode cL_law 349 = .ok (.aload_n 2, 1) := by decide +kernel
theorem dL_law_350 : decode cL_law 350 = .ok (.aload_n 0, 1) := by decide +kernel
theorem dL_law_351 : decode cL_law 351 = .ok (.iload 4, 2) := by decide +kernel
theorem dL_law_353 : decode cL_law 353 = .ok (.iconst 1, 1) := by decide +kernel
theorem dL_law_354 : decode cL_law 354 = .ok (.iadd, 1) := by decide +kernel
theorem dL_law_355 : decode cL_law 355 = .ok (.iaload, 1) := by decide +kernel
theorem dL_law_356 : decode cL_law 356 = .ok (.aload_n 0, 1) := by decide +kernel
theorem dL_law_357 : decode cL_law 357 = .ok (.iload 4, 2) := by decide +kernel
theorem dL_law_359 : decode cL_law 359 = .ok (.iconst 2, 1) := by decide +kernel
theorem dL_law_360 : decode cL_law 360 = .ok (.iadd, 1) := by decide +kernel
theorem dL_law_361 : decode cL_law 361 = .ok (.iaload, 1) := by decide +kernel
theorem dL_law_362 : decode cL_law 362 = .ok (.invokevirtual 58, 3) := by decide +kernel
theorem dL_law_365 : decode cL_law 365 = .ok (.istore 6, 2) := by decide +kernel
theorem dL_law_367 : decode cL_law 367 = .ok (.aload_n 2, 1) := by decide +kernel
theorem dL_law_368 : decode cL_law 368 = .ok (.invokevirtual 59, 3) := by decide +kernel
theorem dL_law_371 : decode cL_law 371 = .ok (.iload 5, 2) := by decide +kernel
theorem dL_law_373 : decode cL_law 373 = .ok (.if_icmp .eq 5, 3) := by decide +kernel
theorem dL_law_376 : decode cL_law 376 = .ok (.iconst 0, 1) := by decide +kernel
theorem dL_law_377 : decode cL_law 377 = .ok (.ireturn, 1) := by decide +kernel
theorem dL_law_378 : decode cL_law 378 = .ok (.iload 5, 2) := by decide +kernel
theorem dL_law_380 : decode cL_law 380 = .ok (.ifCond .ne 15, 3) := by decide +kernel
theorem dL_law_383 : decode cL_law 383 = .ok (.aload_n 3, 1) := by decide +kernel
theorem dL_law_384 : decode cL_law 384 = .ok (.iconst 0, 1) := by decide +kernel
theorem dL_law_385 : decode cL_law 385 = .ok (.laload, 1) := by decide +kernel
theorem dL_law_386 : decode cL_law 386 = .ok (.iload 6, 2) := by decide +kernel
theorem dL_law_388 : decode cL_law 388 = .ok (.i2l, 1) := by decide +kernel
theorem dL_law_389 : decode cL_law 389 = .ok (.lcmp, 1) := by decide +kernel
theorem dL_law_390 : decode cL_law 390 = .ok (.ifCond .eq 5, 3) := by decide +kernel
theorem dL_law_393 : decode cL_law 393 = .ok (.iconst 0, 1) := by decide +kernel
theorem dL_law_394 : decode cL_law 394 = .ok (.ireturn, 1) := by decide +kernel
theorem dL_law_395 : decode cL_law 395 = .ok (.goto 1229, 3) := by decide +kernel
theorem dL_law_398 : decode cL_law 398 = .ok (.aload_n 1, 1) := by decide +kernel
theorem dL_law_399 : decode cL_law 399 = .ok (.aload_n 0, 1) := by decide +kernel
theorem dL_law_400 : decode cL_law 400 = .ok (.iload 4, 2) := by decide +kernel
theorem dL_law_402 : decode cL_law 402 = .ok (.iconst 1, 1) := by decide +kernel
theorem dL_law_403 : decode cL_law 403 = .ok (.iadd, 1) := by decide +kernel
theorem dL_law_404 : decode cL_law 404 = .ok (.iaload, 1) := by decide +kernel
theorem dL_law_405 : decode cL_law 405 = .ok (.aload_n 0, 1) := by decide +kernel
theorem dL_law_406 : decode cL_law 406 = .ok (.iload 4, 2) := by decide +kernel
theorem dL_law_408 : decode cL_law 408 = .ok (.iconst 2, 1) := by decide +kernel
theorem dL_law_409 : decode cL_law 409 = .ok (.iadd, 1) := by decide +kernel
theorem dL_law_410 : decode cL_law 410 = .ok (.iaload, 1) := by decide +kernel
theorem dL_law_411 : decode cL_law 411 = .ok (.aload_n 3, 1) := by decide +kernel
theorem dL_law_412 : decode cL_law 412 = .ok (.invokestatic 62, 3) := by decide +kernel
theorem dL_law_415 : decode cL_law 415 = .ok (.istore 5, 2) := by decide +kernel
theorem dL_law_417 : decode cL_law 417 = .ok (.aload_n 2, 1) := by decide +kernel
theorem dL_law_418 : decode cL_law 418 = .ok (.aload_n 0, 1) := by decide +kernel
theorem dL_law_419 : decode cL_law 419 = .ok (.iload 4, 2) := by decide +kernel
theorem dL_law_421 : decode cL_law 421 = .ok (.iconst 1, 1) := by decide +kernel
theorem dL_law_422 : decode cL_law 422 = .ok (.iadd, 1) := by decide +kernel
theorem dL_law_423 : decode cL_law 423 = .ok (.iaload, 1) := by decide +kernel
theorem dL_law_424 : decode cL_law 424 = .ok (.aload_n 0, 1) := by decide +kernel
theorem dL_law_425 : decode cL_law 425 = .ok (.iload 4, 2) := by decide +kernel
theorem dL_law_427 : decode cL_law 427 = .ok (.iconst 2, 1) := by decide +kernel
theorem dL_law_428 : decode cL_law 428 = .ok (.iadd, 1) := by decide +kernel
theorem dL_law_429 : decode cL_law 429 = .ok (.iaload, 1) := by decide +kernel
theorem dL_law_430 : decode cL_law 430 = .ok (.invokevirtual 64, 3) := by decide +kernel
theorem dL_law_433 : decode cL_law 433 = .ok (.istore 6, 2) := by decide +kernel
theorem dL_law_435 : decode cL_law 435 = .ok (.aload_n 2, 1) := by decide +kernel
theorem dL_law_436 : decode cL_law 436 = .ok (.invokevirtual 59, 3) := by decide +kernel
theorem dL_law_439 : decode cL_law 439 = .ok (.iload 5, 2) := by decide +kernel
theorem dL_law_441 : decode cL_law 441 = .ok (.if_icmp .eq 5, 3) := by decide +kernel
theorem dL_law_444 : decode cL_law 444 = .ok (.iconst 0, 1) := by decide +kernel
theorem dL_law_445 : decode cL_law 445 = .ok (.ireturn, 1) := by decide +kernel
theorem dL_law_446 : decode cL_law 446 = .ok (.iload 5, 2) := by decide +kernel
theorem dL_law_448 : decode cL_law 448 = .ok (.ifCond .ne 15, 3) := by decide +kernel
theorem dL_law_451 : decode cL_law 451 = .ok (.aload_n 3, 1) := by decide +kernel
theorem dL_law_452 : decode cL_law 452 = .ok (.iconst 0, 1) := by decide +kernel
theorem dL_law_453 : decode cL_law 453 = .ok (.laload, 1) := by decide +kernel
theorem dL_law_454 : decode cL_law 454 = .ok (.iload 6, 2) := by decide +kernel
theorem dL_law_456 : decode cL_law 456 = .ok (.i2l, 1) := by decide +kernel
theorem dL_law_457 : decode cL_law 457 = .ok (.lcmp, 1) := by decide +kernel
theorem dL_law_458 : decode cL_law 458 = .ok (.ifCond .eq 5, 3) := by decide +kernel
theorem dL_law_461 : decode cL_law 461 = .ok (.iconst 0, 1) := by decide +kernel
theorem dL_law_462 : decode cL_law 462 = .ok (.ireturn, 1) := by decide +kernel
theorem dL_law_463 : decode cL_law 463 = .ok (.goto 1161, 3) := by decide +kernel
theorem dL_law_466 : decode cL_law 466 = .ok (.aload_n 1, 1) := by decide +kernel
theorem dL_law_467 : decode cL_law 467 = .ok (.aload_n 0, 1) := by decide +kernel
theorem dL_law_468 : decode cL_law 468 = .ok (.iload 4, 2) := by decide +kernel
theorem dL_law_470 : decode cL_law 470 = .ok (.iconst 1, 1) := by decide +kernel
theorem dL_law_471 : decode cL_law 471 = .ok (.iadd, 1) := by decide +kernel
theorem dL_law_472 : decode cL_law 472 = .ok (.iaload, 1) := by decide +kernel
theorem dL_law_473 : decode cL_law 473 = .ok (.aload_n 0, 1) := by decide +kernel
theorem dL_law_474 : decode cL_law 474 = .ok (.iload 4, 2) := by decide +kernel
theorem dL_law_476 : decode cL_law 476 = .ok (.iconst 2, 1) := by decide +kernel
theorem dL_law_477 : decode cL_law 477 = .ok (.iadd, 1) := by decide +kernel
theorem dL_law_478 : decode cL_law 478 = .ok (.iaload, 1) := by decide +kernel
theorem dL_law_479 : decode cL_law 479 = .ok (.invokevirtual 65, 3) := by decide +kernel
theorem dL_law_482 : decode cL_law 482 = .ok (.aload_n 2, 1) := by decide +kernel
theorem dL_law_483 : decode cL_law 483 = .ok (.aload_n 0, 1) := by decide +kernel
theorem dL_law_484 : decode cL_law 484 = .ok (.iload 4, 2) := by decide +kernel
theorem dL_law_486 : decode cL_law 486 = .ok (.iconst 1, 1) := by decide +kernel
theorem dL_law_487 : decode cL_law 487 = .ok (.iadd, 1) := by decide +kernel
theorem dL_law_488 : decode cL_law 488 = .ok (.iaload, 1) := by decide +kernel
theorem dL_law_489 : decode cL_law 489 = .ok (.aload_n 0, 1) := by decide +kernel
theorem dL_law_490 : decode cL_law 490 = .ok (.iload 4, 2) := by decide +kernel
theorem dL_law_492 : decode cL_law 492 = .ok (.iconst 2, 1) := by decide +kernel
theorem dL_law_493 : decode cL_law 493 = .ok (.iadd, 1) := by decide +kernel
theorem dL_law_494 : decode cL_law 494 = .ok (.iaload, 1) := by decide +kernel
theorem dL_law_495 : decode cL_law 495 = .ok (.invokevirtual 68, 3) := by decide +kernel
theorem dL_law_498 : decode cL_law 498 = .ok (.if_icmp .eq 1126, 3) := by decide +kernel
theorem dL_law_501 : decode cL_law 501 = .ok (.iconst 0, 1) := by decide +kernel
theorem dL_law_502 : decode cL_law 502 = .ok (.ireturn, 1) := by decide +kernel
theorem dL_law_503 : decode cL_law 503 = .ok (.aload_n 1, 1) := by decide +kernel
theorem dL_law_504 : decode cL_law 504 = .ok (.aload_n 0, 1) := by decide +kernel
theorem dL_law_505 : decode cL_law 505 = .ok (.iload 4, 2) := by decide +kernel
theorem dL_law_507 : decode cL_law 507 = .ok (.iconst 1, 1) := by decide +kernel
theorem dL_law_508 : decode cL_law 508 = .ok (.iadd, 1) := by decide +kernel
theorem dL_law_509 : decode cL_law 509 = .ok (.iaload, 1) := by decide +kernel
theorem dL_law_510 : decode cL_law 510 = .ok (.aload_n 0, 1) := by decide +kernel
theorem dL_law_511 : decode cL_law 511 = .ok (.iload 4, 2) := by decide +kernel
theorem dL_law_513 : decode cL_law 513 = .ok (.iconst 2, 1) := by decide +kernel
theorem dL_law_514 : decode cL_law 514 = .ok (.iadd, 1) := by decide +kernel
theorem dL_law_515 : decode cL_law 515 = .ok (.iaload, 1) := by decide +kernel
theorem dL_law_516 : decode cL_law 516 = .ok (.aload_n 0, 1) := by decide +kernel
theorem dL_law_517 : decode cL_law 517 = .ok (.iload 4, 2) := by decide +kernel
theorem dL_law_519 : decode cL_law 519 = .ok (.iconst 3, 1) := by decide +kernel
theorem dL_law_520 : decode cL_law 520 = .ok (.iadd, 1) := by decide +kernel
theorem dL_law_521 : decode cL_law 521 = .ok (.iaload, 1) := by decide +kernel
theorem dL_law_522 : decode cL_law 522 = .ok (.aload_n 0, 1) := by decide +kernel
theorem dL_law_523 : decode cL_law 523 = .ok (.iload 4, 2) := by decide +kernel
theorem dL_law_525 : decode cL_law 525 = .ok (.iconst 4, 1) := by decide +kernel
theorem dL_law_526 : decode cL_law 526 = .ok (.iadd, 1) := by decide +kernel
theorem dL_law_527 : decode cL_law 527 = .ok (.iaload, 1) := by decide +kernel
theorem dL_law_528 : decode cL_law 528 = .ok (.invokevirtual 69, 3) := by decide +kernel
theorem dL_law_531 : decode cL_law 531 = .ok (.aload_n 2, 1) := by decide +kernel
theorem dL_law_532 : decode cL_law 532 = .ok (.aload_n 0, 1) := by decide +kernel
theorem dL_law_533 : decode cL_law 533 = .ok (.iload 4, 2) := by decide +kernel
theorem dL_law_535 : decode cL_law 535 = .ok (.iconst 1, 1) := by decide +kernel
theorem dL_law_536 : decode cL_law 536 = .ok (.iadd, 1) := by decide +kernel
theorem dL_law_537 : decode cL_law 537 = .ok (.iaload, 1) := by decide +kernel
theorem dL_law_538 : decode cL_law 538 = .ok (.aload_n 0, 1) := by decide +kernel
theorem dL_law_539 : decode cL_law 539 = .ok (.iload 4, 2) := by decide +kernel
theorem dL_law_541 : decode cL_law 541 = .ok (.iconst 2, 1) := by decide +kernel
theorem dL_law_542 : decode cL_law 542 = .ok (.iadd, 1) := by decide +kernel
theorem dL_law_543 : decode cL_law 543 = .ok (.iaload, 1) := by decide +kernel
theorem dL_law_544 : decode cL_law 544 = .ok (.aload_n 0, 1) := by decide +kernel
theorem dL_law_545 : decode cL_law 545 = .ok (.iload 4, 2) := by decide +kernel
theorem dL_law_547 : decode cL_law 547 = .ok (.iconst 3, 1) := by decide +kernel
theorem dL_law_548 : decode cL_law 548 = .ok (.iadd, 1) := by decide +kernel
theorem dL_law_549 : decode cL_law 549 = .ok (.iaload, 1) := by decide +kernel
theorem dL_law_550 : decode cL_law 550 = .ok (.aload_n 0, 1) := by decide +kernel
theorem dL_law_551 : decode cL_law 551 = .ok (.iload 4, 2) := by decide +kernel
theorem dL_law_553 : decode cL_law 553 = .ok (.iconst 4, 1) := by decide +kernel
theorem dL_law_554 : decode cL_law 554 = .ok (.iadd, 1) := by decide +kernel
theorem dL_law_555 : decode cL_law 555 = .ok (.iaload, 1) := by decide +kernel
theorem dL_law_556 : decode cL_law 556 = .ok (.invokevirtual 73, 3) := by decide +kernel
theorem dL_law_559 : decode cL_law 559 = .ok (.if_icmp .eq 1065, 3) := by decide +kernel
theorem dL_law_562 : decode cL_law 562 = .ok (.iconst 0, 1) := by decide +kernel
theorem dL_law_563 : decode cL_law 563 = .ok (.ireturn, 1) := by decide +kernel
theorem dL_law_564 : decode cL_law 564 = .ok (.aload_n 1, 1) := by decide +kernel
theorem dL_law_565 : decode cL_law 565 = .ok (.aload_n 0, 1) := by decide +kernel
theorem dL_law_566 : decode cL_law 566 = .ok (.iload 4, 2) := by decide +kernel
theorem dL_law_568 : decode cL_law 568 = .ok (.iconst 1, 1) := by decide +kernel
theorem dL_law_569 : decode cL_law 569 = .ok (.iadd, 1) := by decide +kernel
theorem dL_law_570 : decode cL_law 570 = .ok (.iaload, 1) := by decide +kernel
theorem dL_law_571 : decode cL_law 571 = .ok (.aload_n 0, 1) := by decide +kernel
theorem dL_law_572 : decode cL_law 572 = .ok (.iload 4, 2) := by decide +kernel
theorem dL_law_574 : decode cL_law 574 = .ok (.iconst 2, 1) := by decide +kernel
theorem dL_law_575 : decode cL_law 575 = .ok (.iadd, 1) := by decide +kernel
theorem dL_law_576 : decode cL_law 576 = .ok (.iaload, 1) := by decide +kernel
theorem dL_law_577 : decode cL_law 577 = .ok (.invokevirtual 74, 3) := by decide +kernel
theorem dL_law_580 : decode cL_law 580 = .ok (.aload_n 2, 1) := by decide +kernel
theorem dL_law_581 : decode cL_law 581 = .ok (.aload_n 0, 1) := by decide +kernel
theorem dL_law_582 : decode cL_law 582 = .ok (.iload 4, 2) := by decide +kernel
theorem dL_law_584 : decode cL_law 584 = .ok (.iconst 1, 1) := by decide +kernel
theorem dL_law_585 : decode cL_law 585 = .ok (.iadd, 1) := by decide +kernel
theorem dL_law_586 : decode cL_law 586 = .ok (.iaload, 1) := by decide +kernel
theorem dL_law_587 : decode cL_law 587 = .ok (.aload_n 0, 1) := by decide +kernel
theorem dL_law_588 : decode cL_law 588 = .ok (.iload 4, 2) := by decide +kernel
theorem dL_law_590 : decode cL_law 590 = .ok (.iconst 2, 1) := by decide +kernel
theorem dL_law_591 : decode cL_law 591 = .ok (.iadd, 1) := by decide +kernel
theorem dL_law_592 : decode cL_law 592 = .ok (.iaload, 1) := by decide +kernel
theorem dL_law_593 : decode cL_law 593 = .ok (.invokevirtual 77, 3) := by decide +kernel
theorem dL_law_596 : decode cL_law 596 = .ok (.if_icmp .eq 1028, 3) := by decide +kernel
theorem dL_law_599 : decode cL_law 599 = .ok (.iconst 0, 1) := by decide +kernel
theorem dL_law_600 : decode cL_law 600 = .ok (.ireturn, 1) := by decide +kernel
theorem dL_law_601 : decode cL_law 601 = .ok (.aload_n 1, 1) := by decide +kernel
theorem dL_law_602 : decode cL_law 602 = .ok (.aload_n 0, 1) := by decide +kernel
theorem dL_law_603 : decode cL_law 603 = .ok (.iload 4, 2) := by decide +kernel
theorem dL_law_605 : decode cL_law 605 = .ok (.iconst 1, 1) := by decide +kernel
theorem dL_law_606 : decode cL_law 606 = .ok (.iadd, 1) := by decide +kernel
theorem dL_law_607 : decode cL_law 607 = .ok (.iaload, 1) := by decide +kernel
theorem dL_law_608 : decode cL_law 608 = .ok (.aload_n 0, 1) := by decide +kernel
theorem dL_law_609 : decode cL_law 609 = .ok (.iload 4, 2) := by decide +kernel
theorem dL_law_611 : decode cL_law 611 = .ok (.iconst 2, 1) := by decide +kernel
theorem dL_law_612 : decode cL_law 612 = .ok (.iadd, 1) := by decide +kernel
theorem dL_law_613 : decode cL_law 613 = .ok (.iaload, 1) := by decide +kernel
theorem dL_law_614 : decode cL_law 614 = .ok (.invokevirtual 78, 3) := by decide +kernel
theorem dL_law_617 : decode cL_law 617 = .ok (.aload_n 2, 1) := by decide +kernel
theorem dL_law_618 : decode cL_law 618 = .ok (.aload_n 0, 1) := by decide +kernel
theorem dL_law_619 : decode cL_law 619 = .ok (.iload 4, 2) := by decide +kernel
theorem dL_law_621 : decode cL_law 621 = .ok (.iconst 1, 1) := by decide +kernel
theorem dL_law_622 : decode cL_law 622 = .ok (.iadd, 1) := by decide +kernel
theorem dL_law_623 : decode cL_law 623 = .ok (.iaload, 1) := by decide +kernel
theorem dL_law_624 : decode cL_law 624 = .ok (.aload_n 0, 1) := by decide +kernel
theorem dL_law_625 : decode cL_law 625 = .ok (.iload 4, 2) := by decide +kernel
theorem dL_law_627 : decode cL_law 627 = .ok (.iconst 2, 1) := by decide +kernel
theorem dL_law_628 : decode cL_law 628 = .ok (.iadd, 1) := by decide +kernel
theorem dL_law_629 : decode cL_law 629 = .ok (.iaload, 1) := by decide +kernel
theorem dL_law_630 : decode cL_law 630 = .ok (.invokevirtual 81, 3) := by decide +kernel
theorem dL_law_633 : decode cL_law 633 = .ok (.if_icmp .eq 991, 3) := by decide +kernel
theorem dL_law_636 : decode cL_law 636 = .ok (.iconst 0, 1) := by decide +kernel
theorem dL_law_637 : decode cL_law 637 = .ok (.ireturn, 1) := by decide +kernel
theorem dL_law_638 : decode cL_law 638 = .ok (.aload_n 1, 1) := by decide +kernel
theorem dL_law_639 : decode cL_law 639 = .ok (.aload_n 0, 1) := by decide +kernel
theorem dL_law_640 : decode cL_law 640 = .ok (.iload 4, 2) := by decide +kernel
theorem dL_law_642 : decode cL_law 642 = .ok (.iconst 1, 1) := by decide +kernel
theorem dL_law_643 : decode cL_law 643 = .ok (.iadd, 1) := by decide +kernel
theorem dL_law_644 : decode cL_law 644 = .ok (.iaload, 1) := by decide +kernel
theorem dL_law_645 : decode cL_law 645 = .ok (.aload_n 0, 1) := by decide +kernel
theorem dL_law_646 : decode cL_law 646 = .ok (.iload 4, 2) := by decide +kernel
theorem dL_law_648 : decode cL_law 648 = .ok (.iconst 2, 1) := by decide +kernel
theorem dL_law_649 : decode cL_law 649 = .ok (.iadd, 1) := by decide +kernel
theorem dL_law_650 : decode cL_law 650 = .ok (.iaload, 1) := by decide +kernel
theorem dL_law_651 : decode cL_law 651 = .ok (.invokevirtual 82, 3) := by decide +kernel
theorem dL_law_654 : decode cL_law 654 = .ok (.aload_n 2, 1) := by decide +kernel
theorem dL_law_655 : decode cL_law 655 = .ok (.aload_n 0, 1) := by decide +kernel
theorem dL_law_656 : decode cL_law 656 = .ok (.iload 4, 2) := by decide +kernel
theorem dL_law_658 : decode cL_law 658 = .ok (.iconst 1, 1) := by decide +kernel
theorem dL_law_659 : decode cL_law 659 = .ok (.iadd, 1) := by decide +kernel
theorem dL_law_660 : decode cL_law 660 = .ok (.iaload, 1) := by decide +kernel
theorem dL_law_661 : decode cL_law 661 = .ok (.aload_n 0, 1) := by decide +kernel
theorem dL_law_662 : decode cL_law 662 = .ok (.iload 4, 2) := by decide +kernel
theorem dL_law_664 : decode cL_law 664 = .ok (.iconst 2, 1) := by decide +kernel
theorem dL_law_665 : decode cL_law 665 = .ok (.iadd, 1) := by decide +kernel
theorem dL_law_666 : decode cL_law 666 = .ok (.iaload, 1) := by decide +kernel
theorem dL_law_667 : decode cL_law 667 = .ok (.invokevirtual 85, 3) := by decide +kernel
theorem dL_law_670 : decode cL_law 670 = .ok (.if_icmp .eq 954, 3) := by decide +kernel
theorem dL_law_673 : decode cL_law 673 = .ok (.iconst 0, 1) := by decide +kernel
theorem dL_law_674 : decode cL_law 674 = .ok (.ireturn, 1) := by decide +kernel
theorem dL_law_675 : decode cL_law 675 = .ok (.aload_n 1, 1) := by decide +kernel
theorem dL_law_676 : decode cL_law 676 = .ok (.aload_n 0, 1) := by decide +kernel
theorem dL_law_677 : decode cL_law 677 = .ok (.iload 4, 2) := by decide +kernel
theorem dL_law_679 : decode cL_law 679 = .ok (.iconst 1, 1) := by decide +kernel
theorem dL_law_680 : decode cL_law 680 = .ok (.iadd, 1) := by decide +kernel
theorem dL_law_681 : decode cL_law 681 = .ok (.iaload, 1) := by decide +kernel
theorem dL_law_682 : decode cL_law 682 = .ok (.invokevirtual 86, 3) := by decide +kernel
theorem dL_law_685 : decode cL_law 685 = .ok (.aload_n 2, 1) := by decide +kernel
theorem dL_law_686 : decode cL_law 686 = .ok (.aload_n 0, 1) := by decide +kernel
theorem dL_law_687 : decode cL_law 687 = .ok (.iload 4, 2) := by decide +kernel
theorem dL_law_689 : decode cL_law 689 = .ok (.iconst 1, 1) := by decide +kernel
theorem dL_law_690 : decode cL_law 690 = .ok (.iadd, 1) := by decide +kernel
theorem dL_law_691 : decode cL_law 691 = .ok (.iaload, 1) := by decide +kernel
theorem dL_law_692 : decode cL_law 692 = .ok (.invokevirtual 89, 3) := by decide +kernel
theorem dL_law_695 : decode cL_law 695 = .ok (.if_icmp .eq 929, 3) := by decide +kernel
theorem dL_law_698 : decode cL_law 698 = .ok (.iconst 0, 1) := by decide +kernel
theorem dL_law_699 : decode cL_law 699 = .ok (.ireturn, 1) := by decide +kernel
theorem dL_law_700 : decode cL_law 700 = .ok (.aload_n 1, 1) := by decide +kernel
theorem dL_law_701 : decode cL_law 701 = .ok (.invokevirtual 90, 3) := by decide +kernel
theorem dL_law_704 : decode cL_law 704 = .ok (.aload_n 2, 1) := by decide +kernel
theorem dL_law_705 : decode cL_law 705 = .ok (.invokevirtual 93, 3) := by decide +kernel
theorem dL_law_708 : decode cL_law 708 = .ok (.if_icmp .eq 916, 3) := by decide +kernel
theorem dL_law_711 : decode cL_law 711 = .ok (.iconst 0, 1) := by decide +kernel
theorem dL_law_712 : decode cL_law 712 = .ok (.ireturn, 1) := by decide +kernel
theorem dL_law_713 : decode cL_law 713 = .ok (.aload_n 1, 1) := by decide +kernel
theorem dL_law_714 : decode cL_law 714 = .ok (.invokevirtual 94, 3) := by decide +kernel
theorem dL_law_717 : decode cL_law 717 = .ok (.aload_n 2, 1) := by decide +kernel
theorem dL_law_718 : decode cL_law 718 = .ok (.invokevirtual 97, 3) := by decide +kernel
theorem dL_law_721 : decode cL_law 721 = .ok (.if_icmp .eq 903, 3) := by decide +kernel
theorem dL_law_724 : decode cL_law 724 = .ok (.iconst 0, 1) := by decide +kernel
theorem dL_law_725 : decode cL_law 725 = .ok (.ireturn, 1) := by decide +kernel
theorem dL_law_726 : decode cL_law 726 = .ok (.aload_n 1, 1) := by decide +kernel
theorem dL_law_727 : decode cL_law 727 = .ok (.aload_n 0, 1) := by decide +kernel
theorem dL_law_728 : decode cL_law 728 = .ok (.iload 4, 2) := by decide +kernel
theorem dL_law_730 : decode cL_law 730 = .ok (.iconst 1, 1) := by decide +kernel
theorem dL_law_731 : decode cL_law 731 = .ok (.iadd, 1) := by decide +kernel
theorem dL_law_732 : decode cL_law 732 = .ok (.iaload, 1) := by decide +kernel
theorem dL_law_733 : decode cL_law 733 = .ok (.aload_n 0, 1) := by decide +kernel
theorem dL_law_734 : decode cL_law 734 = .ok (.iload 4, 2) := by decide +kernel
theorem dL_law_736 : decode cL_law 736 = .ok (.iconst 2, 1) := by decide +kernel
theorem dL_law_737 : decode cL_law 737 = .ok (.iadd, 1) := by decide +kernel
theorem dL_law_738 : decode cL_law 738 = .ok (.iaload, 1) := by decide +kernel
theorem dL_law_739 : decode cL_law 739 = .ok (.aload_n 0, 1) := by decide +kernel
theorem dL_law_740 : decode cL_law 740 = .ok (.iload 4, 2) := by decide +kernel
theorem dL_law_742 : decode cL_law 742 = .ok (.iconst 3, 1) := by decide +kernel
theorem dL_law_743 : decode cL_law 743 = .ok (.iadd, 1) := by decide +kernel
theorem dL_law_744 : decode cL_law 744 = .ok (.iaload, 1) := by decide +kernel
theorem dL_law_745 : decode cL_law 745 = .ok (.invokevirtual 98, 3) := by decide +kernel
theorem dL_law_748 : decode cL_law 748 = .ok (.aload_n 2, 1) := by decide +kernel
theorem dL_law_749 : decode cL_law 749 = .ok (.aload_n 0, 1) := by decide +kernel
theorem dL_law_750 : decode cL_law 750 = .ok (.iload 4, 2) := by decide +kernel
theorem dL_law_752 : decode cL_law 752 = .ok (.iconst 1, 1) := by decide +kernel
theorem dL_law_753 : decode cL_law 753 = .ok (.iadd, 1) := by decide +kernel
theorem dL_law_754 : decode cL_law 754 = .ok (.iaload, 1) := by decide +kernel
theorem dL_law_755 : decode cL_law 755 = .ok (.aload_n 0, 1) := by decide +kernel
theorem dL_law_756 : decode cL_law 756 = .ok (.iload 4, 2) := by decide +kernel
theorem dL_law_758 : decode cL_law 758 = .ok (.iconst 2, 1) := by decide +kernel
theorem dL_law_759 : decode cL_law 759 = .ok (.iadd, 1) := by decide +kernel
theorem dL_law_760 : decode cL_law 760 = .ok (.iaload, 1) := by decide +kernel
theorem dL_law_761 : decode cL_law 761 = .ok (.aload_n 0, 1) := by decide +kernel
theorem dL_law_762 : decode cL_law 762 = .ok (.iload 4, 2) := by decide +kernel
theorem dL_law_764 : decode cL_law 764 = .ok (.iconst 3, 1) := by decide +kernel
theorem dL_law_765 : decode cL_law 765 = .ok (.iadd, 1) := by decide +kernel
theorem dL_law_766 : decode cL_law 766 = .ok (.iaload, 1) := by decide +kernel
theorem dL_law_767 : decode cL_law 767 = .ok (.invokevirtual 102, 3) := by decide +kernel
theorem dL_law_770 : decode cL_law 770 = .ok (.if_icmp .eq 854, 3) := by decide +kernel
theorem dL_law_773 : decode cL_law 773 = .ok (.iconst 0, 1) := by decide +kernel
theorem dL_law_774 : decode cL_law 774 = .ok (.ireturn, 1) := by decide +kernel
theorem dL_law_775 : decode cL_law 775 = .ok (.aload_n 1, 1) := by decide +kernel
theorem dL_law_776 : decode cL_law 776 = .ok (.aload_n 0, 1) := by decide +kernel
theorem dL_law_777 : decode cL_law 777 = .ok (.iload 4, 2) := by decide +kernel
theorem dL_law_779 : decode cL_law 779 = .ok (.iconst 1, 1) := by decide +kernel
theorem dL_law_780 : decode cL_law 780 = .ok (.iadd, 1) := by decide +kernel
theorem dL_law_781 : decode cL_law 781 = .ok (.iaload, 1) := by decide +kernel
theorem dL_law_782 : decode cL_law 782 = .ok (.invokevirtual 103, 3) := by decide +kernel
theorem dL_law_785 : decode cL_law 785 = .ok (.aload_n 2, 1) := by decide +kernel
theorem dL_law_786 : decode cL_law 786 = .ok (.aload_n 0, 1) := by decide +kernel
theorem dL_law_787 : decode cL_law 787 = .ok (.iload 4, 2) := by decide +kernel
theorem dL_law_789 : decode cL_law 789 = .ok (.iconst 1, 1) := by decide +kernel
theorem dL_law_790 : decode cL_law 790 = .ok (.iadd, 1) := by decide +kernel
theorem dL_law_791 : decode cL_law 791 = .ok (.iaload, 1) := by decide +kernel
theorem dL_law_792 : decode cL_law 792 = .ok (.invokevirtual 106, 3) := by decide +kernel
theorem dL_law_795 : decode cL_law 795 = .ok (.if_icmp .eq 829, 3) := by decide +kernel
theorem dL_law_798 : decode cL_law 798 = .ok (.iconst 0, 1) := by decide +kernel
theorem dL_law_799 : decode cL_law 799 = .ok (.ireturn, 1) := by decide +kernel
theorem dL_law_800 : decode cL_law 800 = .ok (.aload_n 1, 1) := by decide +kernel
theorem dL_law_801 : decode cL_law 801 = .ok (.aload_n 0, 1) := by decide +kernel
theorem dL_law_802 : decode cL_law 802 = .ok (.iload 4, 2) := by decide +kernel
theorem dL_law_804 : decode cL_law 804 = .ok (.iconst 1, 1) := by decide +kernel
theorem dL_law_805 : decode cL_law 805 = .ok (.iadd, 1) := by decide +kernel
theorem dL_law_806 : decode cL_law 806 = .ok (.iaload, 1) := by decide +kernel
theorem dL_law_807 : decode cL_law 807 = .ok (.aload_n 0, 1) := by decide +kernel
theorem dL_law_808 : decode cL_law 808 = .ok (.iload 4, 2) := by decide +kernel
theorem dL_law_810 : decode cL_law 810 = .ok (.iconst 2, 1) := by decide +kernel
theorem dL_law_811 : decode cL_law 811 = .ok (.iadd, 1) := by decide +kernel
theorem dL_law_812 : decode cL_law 812 = .ok (.iaload, 1) := by decide +kernel
theorem dL_law_813 : decode cL_law 813 = .ok (.invokevirtual 107, 3) := by decide +kernel
theorem dL_law_816 : decode cL_law 816 = .ok (.aload_n 2, 1) := by decide +kernel
theorem dL_law_817 : decode cL_law 817 = .ok (.aload_n 0, 1) := by decide +kernel
theorem dL_law_818 : decode cL_law 818 = .ok (.iload 4, 2) := by decide +kernel
theorem dL_law_820 : decode cL_law 820 = .ok (.iconst 1, 1) := by decide +kernel
theorem dL_law_821 : decode cL_law 821 = .ok (.iadd, 1) := by decide +kernel
theorem dL_law_822 : decode cL_law 822 = .ok (.iaload, 1) := by decide +kernel
theorem dL_law_823 : decode cL_law 823 = .ok (.aload_n 0, 1) := by decide +kernel
theorem dL_law_824 : decode cL_law 824 = .ok (.iload 4, 2) := by decide +kernel
theorem dL_law_826 : decode cL_law 826 = .ok (.iconst 2, 1) := by decide +kernel
theorem dL_law_827 : decode cL_law 827 = .ok (.iadd, 1) := by decide +kernel
theorem dL_law_828 : decode cL_law 828 = .ok (.iaload, 1) := by decide +kernel
theorem dL_law_829 : decode cL_law 829 = .ok (.invokevirtual 110, 3) := by decide +kernel
theorem dL_law_832 : decode cL_law 832 = .ok (.if_icmp .eq 792, 3) := by decide +kernel
theorem dL_law_835 : decode cL_law 835 = .ok (.iconst 0, 1) := by decide +kernel
theorem dL_law_836 : decode cL_law 836 = .ok (.ireturn, 1) := by decide +kernel
theorem dL_law_837 : decode cL_law 837 = .ok (.aload_n 1, 1) := by decide +kernel
theorem dL_law_838 : decode cL_law 838 = .ok (.aload_n 0, 1) := by decide +kernel
theorem dL_law_839 : decode cL_law 839 = .ok (.iload 4, 2) := by decide +kernel
theorem dL_law_841 : decode cL_law 841 = .ok (.iconst 1, 1) := by decide +kernel
theorem dL_law_842 : decode cL_law 842 = .ok (.iadd, 1) := by decide +kernel
theorem dL_law_843 : decode cL_law 843 = .ok (.iaload, 1) := by decide +kernel
theorem dL_law_844 : decode cL_law 844 = .ok (.aload_n 0, 1) := by decide +kernel
theorem dL_law_845 : decode cL_law 845 = .ok (.iload 4, 2) := by decide +kernel
theorem dL_law_847 : decode cL_law 847 = .ok (.iconst 2, 1) := by decide +kernel
theorem dL_law_848 : decode cL_law 848 = .ok (.iadd, 1) := by decide +kernel
theorem dL_law_849 : decode cL_law 849 = .ok (.iaload, 1) := by decide +kernel
theorem dL_law_850 : decode cL_law 850 = .ok (.invokevirtual 111, 3) := by decide +kernel
theorem dL_law_853 : decode cL_law 853 = .ok (.aload_n 2, 1) := by decide +kernel
theorem dL_law_854 : decode cL_law 854 = .ok (.aload_n 0, 1) := by decide +kernel
theorem dL_law_855 : decode cL_law 855 = .ok (.iload 4, 2) := by decide +kernel
theorem dL_law_857 : decode cL_law 857 = .ok (.iconst 1, 1) := by decide +kernel
theorem dL_law_858 : decode cL_law 858 = .ok (.iadd, 1) := by decide +kernel
theorem dL_law_859 : decode cL_law 859 = .ok (.iaload, 1) := by decide +kernel
theorem dL_law_860 : decode cL_law 860 = .ok (.aload_n 0, 1) := by decide +kernel
theorem dL_law_861 : decode cL_law 861 = .ok (.iload 4, 2) := by decide +kernel
theorem dL_law_863 : decode cL_law 863 = .ok (.iconst 2, 1) := by decide +kernel
theorem dL_law_864 : decode cL_law 864 = .ok (.iadd, 1) := by decide +kernel
theorem dL_law_865 : decode cL_law 865 = .ok (.iaload, 1) := by decide +kernel
theorem dL_law_866 : decode cL_law 866 = .ok (.invokevirtual 114, 3) := by decide +kernel
theorem dL_law_869 : decode cL_law 869 = .ok (.if_icmp .eq 755, 3) := by decide +kernel
theorem dL_law_872 : decode cL_law 872 = .ok (.iconst 0, 1) := by decide +kernel
theorem dL_law_873 : decode cL_law 873 = .ok (.ireturn, 1) := by decide +kernel
theorem dL_law_874 : decode cL_law 874 = .ok (.aload_n 1, 1) := by decide +kernel
theorem dL_law_875 : decode cL_law 875 = .ok (.invokevirtual 115, 3) := by decide +kernel
theorem dL_law_878 : decode cL_law 878 = .ok (.aload_n 2, 1) := by decide +kernel
theorem dL_law_879 : decode cL_law 879 = .ok (.invokevirtual 118, 3) := by decide +kernel
theorem dL_law_882 : decode cL_law 882 = .ok (.if_icmp .eq 742, 3) := by decide +kernel
theorem dL_law_885 : decode cL_law 885 = .ok (.iconst 0, 1) := by decide +kernel
theorem dL_law_886 : decode cL_law 886 = .ok (.ireturn, 1) := by decide +kernel
theorem dL_law_887 : decode cL_law 887 = .ok (.aload_n 1, 1) := by decide +kernel
theorem dL_law_888 : decode cL_law 888 = .ok (.aload_n 0, 1) := by decide +kernel
theorem dL_law_889 : decode cL_law 889 = .ok (.iload 4, 2) := by decide +kernel
theorem dL_law_891 : decode cL_law 891 = .ok (.iconst 1, 1) := by decide +kernel
theorem dL_law_892 : decode cL_law 892 = .ok (.iadd, 1) := by decide +kernel
theorem dL_law_893 : decode cL_law 893 = .ok (.iaload, 1) := by decide +kernel
theorem dL_law_894 : decode cL_law 894 = .ok (.aload_n 0, 1) := by decide +kernel
theorem dL_law_895 : decode cL_law 895 = .ok (.iload 4, 2) := by decide +kernel
theorem dL_law_897 : decode cL_law 897 = .ok (.iconst 2, 1) := by decide +kernel
theorem dL_law_898 : decode cL_law 898 = .ok (.iadd, 1) := by decide +kernel
theorem dL_law_899 : decode cL_law 899 = .ok (.iaload, 1) := by decide +kernel
theorem dL_law_900 : decode cL_law 900 = .ok (.aload_n 0, 1) := by decide +kernel
theorem dL_law_901 : decode cL_law 901 = .ok (.iload 4, 2) := by decide +kernel
theorem dL_law_903 : decode cL_law 903 = .ok (.iconst 3, 1) := by decide +kernel
theorem dL_law_904 : decode cL_law 904 = .ok (.iadd, 1) := by decide +kernel
theorem dL_law_905 : decode cL_law 905 = .ok (.iaload, 1) := by decide +kernel
theorem dL_law_906 : decode cL_law 906 = .ok (.invokevirtual 119, 3) := by decide +kernel
theorem dL_law_909 : decode cL_law 909 = .ok (.aload_n 2, 1) := by decide +kernel
theorem dL_law_910 : decode cL_law 910 = .ok (.aload_n 0, 1) := by decide +kernel
theorem dL_law_911 : decode cL_law 911 = .ok (.iload 4, 2) := by decide +kernel
theorem dL_law_913 : decode cL_law 913 = .ok (.iconst 1, 1) := by decide +kernel
theorem dL_law_914 : decode cL_law 914 = .ok (.iadd, 1) := by decide +kernel
theorem dL_law_915 : decode cL_law 915 = .ok (.iaload, 1) := by decide +kernel
theorem dL_law_916 : decode cL_law 916 = .ok (.aload_n 0, 1) := by decide +kernel
theorem dL_law_917 : decode cL_law 917 = .ok (.iload 4, 2) := by decide +kernel
theorem dL_law_919 : decode cL_law 919 = .ok (.iconst 2, 1) := by decide +kernel
theorem dL_law_920 : decode cL_law 920 = .ok (.iadd, 1) := by decide +kernel
theorem dL_law_921 : decode cL_law 921 = .ok (.iaload, 1) := by decide +kernel
theorem dL_law_922 : decode cL_law 922 = .ok (.aload_n 0, 1) := by decide +kernel
theorem dL_law_923 : decode cL_law 923 = .ok (.iload 4, 2) := by decide +kernel
theorem dL_law_925 : decode cL_law 925 = .ok (.iconst 3, 1) := by decide +kernel
theorem dL_law_926 : decode cL_law 926 = .ok (.iadd, 1) := by decide +kernel
theorem dL_law_927 : decode cL_law 927 = .ok (.iaload, 1) := by decide +kernel
theorem dL_law_928 : decode cL_law 928 = .ok (.invokevirtual 122, 3) := by decide +kernel
theorem dL_law_931 : decode cL_law 931 = .ok (.if_icmp .eq 693, 3) := by decide +kernel
theorem dL_law_934 : decode cL_law 934 = .ok (.iconst 0, 1) := by decide +kernel
theorem dL_law_935 : decode cL_law 935 = .ok (.ireturn, 1) := by decide +kernel
theorem dL_law_936 : decode cL_law 936 = .ok (.aload_n 1, 1) := by decide +kernel
theorem dL_law_937 : decode cL_law 937 = .ok (.aload_n 0, 1) := by decide +kernel
theorem dL_law_938 : decode cL_law 938 = .ok (.iload 4, 2) := by decide +kernel
theorem dL_law_940 : decode cL_law 940 = .ok (.iconst 1, 1) := by decide +kernel
theorem dL_law_941 : decode cL_law 941 = .ok (.iadd, 1) := by decide +kernel
theorem dL_law_942 : decode cL_law 942 = .ok (.iaload, 1) := by decide +kernel
theorem dL_law_943 : decode cL_law 943 = .ok (.aload_n 0, 1) := by decide +kernel
theorem dL_law_944 : decode cL_law 944 = .ok (.iload 4, 2) := by decide +kernel
theorem dL_law_946 : decode cL_law 946 = .ok (.iconst 2, 1) := by decide +kernel
theorem dL_law_947 : decode cL_law 947 = .ok (.iadd, 1) := by decide +kernel
theorem dL_law_948 : decode cL_law 948 = .ok (.iaload, 1) := by decide +kernel
theorem dL_law_949 : decode cL_law 949 = .ok (.aload_n 0, 1) := by decide +kernel
theorem dL_law_950 : decode cL_law 950 = .ok (.iload 4, 2) := by decide +kernel
theorem dL_law_952 : decode cL_law 952 = .ok (.iconst 3, 1) := by decide +kernel
theorem dL_law_953 : decode cL_law 953 = .ok (.iadd, 1) := by decide +kernel
theorem dL_law_954 : decode cL_law 954 = .ok (.iaload, 1) := by decide +kernel
theorem dL_law_955 : decode cL_law 955 = .ok (.invokevirtual 123, 3) := by decide +kernel
theorem dL_law_958 : decode cL_law 958 = .ok (.aload_n 2, 1) := by decide +kernel
theorem dL_law_959 : decode cL_law 959 = .ok (.aload_n 0, 1) := by decide +kernel
theorem dL_law_960 : decode cL_law 960 = .ok (.iload 4, 2) := by decide +kernel
theorem dL_law_962 : decode cL_law 962 = .ok (.iconst 1, 1) := by decide +kernel
theorem dL_law_963 : decode cL_law 963 = .ok (.iadd, 1) := by decide +kernel
theorem dL_law_964 : decode cL_law 964 = .ok (.iaload, 1) := by decide +kernel
theorem dL_law_965 : decode cL_law 965 = .ok (.aload_n 0, 1) := by decide +kernel
theorem dL_law_966 : decode cL_law 966 = .ok (.iload 4, 2) := by decide +kernel
theorem dL_law_968 : decode cL_law 968 = .ok (.iconst 2, 1) := by decide +kernel
theorem dL_law_969 : decode cL_law 969 = .ok (.iadd, 1) := by decide +kernel
theorem dL_law_970 : decode cL_law 970 = .ok (.iaload, 1) := by decide +kernel
theorem dL_law_971 : decode cL_law 971 = .ok (.aload_n 0, 1) := by decide +kernel
theorem dL_law_972 : decode cL_law 972 = .ok (.iload 4, 2) := by decide +kernel
theorem dL_law_974 : decode cL_law 974 = .ok (.iconst 3, 1) := by decide +kernel
theorem dL_law_975 : decode cL_law 975 = .ok (.iadd, 1) := by decide +kernel
theorem dL_law_976 : decode cL_law 976 = .ok (.iaload, 1) := by decide +kernel
theorem dL_law_977 : decode cL_law 977 = .ok (.invokevirtual 126, 3) := by decide +kernel
theorem dL_law_980 : decode cL_law 980 = .ok (.if_icmp .eq 644, 3) := by decide +kernel
theorem dL_law_983 : decode cL_law 983 = .ok (.iconst 0, 1) := by decide +kernel
theorem dL_law_984 : decode cL_law 984 = .ok (.ireturn, 1) := by decide +kernel
theorem dL_law_985 : decode cL_law 985 = .ok (.aload_n 1, 1) := by decide +kernel
theorem dL_law_986 : decode cL_law 986 = .ok (.aload_n 0, 1) := by decide +kernel
theorem dL_law_987 : decode cL_law 987 = .ok (.iload 4, 2) := by decide +kernel
theorem dL_law_989 : decode cL_law 989 = .ok (.iconst 1, 1) := by decide +kernel
theorem dL_law_990 : decode cL_law 990 = .ok (.iadd, 1) := by decide +kernel
theorem dL_law_991 : decode cL_law 991 = .ok (.iaload, 1) := by decide +kernel
theorem dL_law_992 : decode cL_law 992 = .ok (.aload_n 0, 1) := by decide +kernel
theorem dL_law_993 : decode cL_law 993 = .ok (.iload 4, 2) := by decide +kernel
theorem dL_law_995 : decode cL_law 995 = .ok (.iconst 2, 1) := by decide +kernel
theorem dL_law_996 : decode cL_law 996 = .ok (.iadd, 1) := by decide +kernel
theorem dL_law_997 : decode cL_law 997 = .ok (.iaload, 1) := by decide +kernel
theorem dL_law_998 : decode cL_law 998 = .ok (.invokevirtual 127, 3) := by decide +kernel
theorem dL_law_1001 : decode cL_law 1001 = .ok (.aload_n 2, 1) := by decide +kernel
theorem dL_law_1002 : decode cL_law 1002 = .ok (.aload_n 0, 1) := by decide +kernel
theorem dL_law_1003 : decode cL_law 1003 = .ok (.iload 4, 2) := by decide +kernel
theorem dL_law_1005 : decode cL_law 1005 = .ok (.iconst 1, 1) := by decide +kernel
theorem dL_law_1006 : decode cL_law 1006 = .ok (.iadd, 1) := by decide +kernel
theorem dL_law_1007 : decode cL_law 1007 = .ok (.iaload, 1) := by decide +kernel
theorem dL_law_1008 : decode cL_law 1008 = .ok (.aload_n 0, 1) := by decide +kernel
theorem dL_law_1009 : decode cL_law 1009 = .ok (.iload 4, 2) := by decide +kernel
theorem dL_law_1011 : decode cL_law 1011 = .ok (.iconst 2, 1) := by decide +kernel
theorem dL_law_1012 : decode cL_law 1012 = .ok (.iadd, 1) := by decide +kernel
theorem dL_law_1013 : decode cL_law 1013 = .ok (.iaload, 1) := by decide +kernel
theorem dL_law_1014 : decode cL_law 1014 = .ok (.invokevirtual 130, 3) := by decide +kernel
theorem dL_law_1017 : decode cL_law 1017 = .ok (.if_icmp .eq 607, 3) := by decide +kernel
theorem dL_law_1020 : decode cL_law 1020 = .ok (.iconst 0, 1) := by decide +kernel
theorem dL_law_1021 : decode cL_law 1021 = .ok (.ireturn, 1) := by decide +kernel
theorem dL_law_1022 : decode cL_law 1022 = .ok (.aload_n 1, 1) := by decide +kernel
theorem dL_law_1023 : decode cL_law 1023 = .ok (.aload_n 0, 1) := by decide +kernel
theorem dL_law_1024 : decode cL_law 1024 = .ok (.iload 4, 2) := by decide +kernel
theorem dL_law_1026 : decode cL_law 1026 = .ok (.iconst 1, 1) := by decide +kernel
theorem dL_law_1027 : decode cL_law 1027 = .ok (.iadd, 1) := by decide +kernel
theorem dL_law_1028 : decode cL_law 1028 = .ok (.iaload, 1) := by decide +kernel
theorem dL_law_1029 : decode cL_law 1029 = .ok (.aload_n 0, 1) := by decide +kernel
theorem dL_law_1030 : decode cL_law 1030 = .ok (.iload 4, 2) := by decide +kernel
theorem dL_law_1032 : decode cL_law 1032 = .ok (.iconst 2, 1) := by decide +kernel
theorem dL_law_1033 : decode cL_law 1033 = .ok (.iadd, 1) := by decide +kernel
theorem dL_law_1034 : decode cL_law 1034 = .ok (.iaload, 1) := by decide +kernel
theorem dL_law_1035 : decode cL_law 1035 = .ok (.invokevirtual 131, 3) := by decide +kernel
theorem dL_law_1038 : decode cL_law 1038 = .ok (.aload_n 2, 1) := by decide +kernel
theorem dL_law_1039 : decode cL_law 1039 = .ok (.aload_n 0, 1) := by decide +kernel
theorem dL_law_1040 : decode cL_law 1040 = .ok (.iload 4, 2) := by decide +kernel
theorem dL_law_1042 : decode cL_law 1042 = .ok (.iconst 1, 1) := by decide +kernel
theorem dL_law_1043 : decode cL_law 1043 = .ok (.iadd, 1) := by decide +kernel
theorem dL_law_1044 : decode cL_law 1044 = .ok (.iaload, 1) := by decide +kernel
theorem dL_law_1045 : decode cL_law 1045 = .ok (.aload_n 0, 1) := by decide +kernel
theorem dL_law_1046 : decode cL_law 1046 = .ok (.iload 4, 2) := by decide +kernel
theorem dL_law_1048 : decode cL_law 1048 = .ok (.iconst 2, 1) := by decide +kernel
theorem dL_law_1049 : decode cL_law 1049 = .ok (.iadd, 1) := by decide +kernel
theorem dL_law_1050 : decode cL_law 1050 = .ok (.iaload, 1) := by decide +kernel
theorem dL_law_1051 : decode cL_law 1051 = .ok (.invokevirtual 134, 3) := by decide +kernel
theorem dL_law_1054 : decode cL_law 1054 = .ok (.if_icmp .eq 570, 3) := by decide +kernel
theorem dL_law_1057 : decode cL_law 1057 = .ok (.iconst 0, 1) := by decide +kernel
theorem dL_law_1058 : decode cL_law 1058 = .ok (.ireturn, 1) := by decide +kernel
theorem dL_law_1059 : decode cL_law 1059 = .ok (.aload_n 1, 1) := by decide +kernel
theorem dL_law_1060 : decode cL_law 1060 = .ok (.aload_n 0, 1) := by decide +kernel
theorem dL_law_1061 : decode cL_law 1061 = .ok (.iload 4, 2) := by decide +kernel
theorem dL_law_1063 : decode cL_law 1063 = .ok (.iconst 1, 1) := by decide +kernel
theorem dL_law_1064 : decode cL_law 1064 = .ok (.iadd, 1) := by decide +kernel
theorem dL_law_1065 : decode cL_law 1065 = .ok (.iaload, 1) := by decide +kernel
theorem dL_law_1066 : decode cL_law 1066 = .ok (.invokevirtual 135, 3) := by decide +kernel
theorem dL_law_1069 : decode cL_law 1069 = .ok (.aload_n 2, 1) := by decide +kernel
theorem dL_law_1070 : decode cL_law 1070 = .ok (.aload_n 0, 1) := by decide +kernel
theorem dL_law_1071 : decode cL_law 1071 = .ok (.iload 4, 2) := by decide +kernel
theorem dL_law_1073 : decode cL_law 1073 = .ok (.iconst 1, 1) := by decide +kernel
theorem dL_law_1074 : decode cL_law 1074 = .ok (.iadd, 1) := by decide +kernel
theorem dL_law_1075 : decode cL_law 1075 = .ok (.iaload, 1) := by decide +kernel
theorem dL_law_1076 : decode cL_law 1076 = .ok (.invokevirtual 138, 3) := by decide +kernel
theorem dL_law_1079 : decode cL_law 1079 = .ok (.if_icmp .eq 545, 3) := by decide +kernel
theorem dL_law_1082 : decode cL_law 1082 = .ok (.iconst 0, 1) := by decide +kernel
theorem dL_law_1083 : decode cL_law 1083 = .ok (.ireturn, 1) := by decide +kernel
theorem dL_law_1084 : decode cL_law 1084 = .ok (.aload_n 1, 1) := by decide +kernel
theorem dL_law_1085 : decode cL_law 1085 = .ok (.aload_n 0, 1) := by decide +kernel
theorem dL_law_1086 : decode cL_law 1086 = .ok (.iload 4, 2) := by decide +kernel
theorem dL_law_1088 : decode cL_law 1088 = .ok (.iconst 1, 1) := by decide +kernel
theorem dL_law_1089 : decode cL_law 1089 = .ok (.iadd, 1) := by decide +kernel
theorem dL_law_1090 : decode cL_law 1090 = .ok (.iaload, 1) := by decide +kernel
theorem dL_law_1091 : decode cL_law 1091 = .ok (.invokevirtual 139, 3) := by decide +kernel
theorem dL_law_1094 : decode cL_law 1094 = .ok (.aload_n 2, 1) := by decide +kernel
theorem dL_law_1095 : decode cL_law 1095 = .ok (.aload_n 0, 1) := by decide +kernel
theorem dL_law_1096 : decode cL_law 1096 = .ok (.iload 4, 2) := by decide +kernel
theorem dL_law_1098 : decode cL_law 1098 = .ok (.iconst 1, 1) := by decide +kernel
theorem dL_law_1099 : decode cL_law 1099 = .ok (.iadd, 1) := by decide +kernel
theorem dL_law_1100 : decode cL_law 1100 = .ok (.iaload, 1) := by decide +kernel
theorem dL_law_1101 : decode cL_law 1101 = .ok (.invokevirtual 142, 3) := by decide +kernel
theorem dL_law_1104 : decode cL_law 1104 = .ok (.if_icmp .eq 520, 3) := by decide +kernel
theorem dL_law_1107 : decode cL_law 1107 = .ok (.iconst 0, 1) := by decide +kernel
theorem dL_law_1108 : decode cL_law 1108 = .ok (.ireturn, 1) := by decide +kernel
theorem dL_law_1109 : decode cL_law 1109 = .ok (.aload_n 1, 1) := by decide +kernel
theorem dL_law_1110 : decode cL_law 1110 = .ok (.aload_n 0, 1) := by decide +kernel
theorem dL_law_1111 : decode cL_law 1111 = .ok (.iload 4, 2) := by decide +kernel
theorem dL_law_1113 : decode cL_law 1113 = .ok (.iconst 1, 1) := by decide +kernel
theorem dL_law_1114 : decode cL_law 1114 = .ok (.iadd, 1) := by decide +kernel
theorem dL_law_1115 : decode cL_law 1115 = .ok (.iaload, 1) := by decide +kernel
theorem dL_law_1116 : decode cL_law 1116 = .ok (.invokevirtual 143, 3) := by decide +kernel
theorem dL_law_1119 : decode cL_law 1119 = .ok (.aload_n 2, 1) := by decide +kernel
theorem dL_law_1120 : decode cL_law 1120 = .ok (.aload_n 0, 1) := by decide +kernel
theorem dL_law_1121 : decode cL_law 1121 = .ok (.iload 4, 2) := by decide +kernel
theorem dL_law_1123 : decode cL_law 1123 = .ok (.iconst 1, 1) := by decide +kernel
theorem dL_law_1124 : decode cL_law 1124 = .ok (.iadd, 1) := by decide +kernel
theorem dL_law_1125 : decode cL_law 1125 = .ok (.iaload, 1) := by decide +kernel
theorem dL_law_1126 : decode cL_law 1126 = .ok (.invokevirtual 146, 3) := by decide +kernel
theorem dL_law_1129 : decode cL_law 1129 = .ok (.if_icmp .eq 495, 3) := by decide +kernel
theorem dL_law_1132 : decode cL_law 1132 = .ok (.iconst 0, 1) := by decide +kernel
theorem dL_law_1133 : decode cL_law 1133 = .ok (.ireturn, 1) := by decide +kernel
theorem dL_law_1134 : decode cL_law 1134 = .ok (.aload_n 1, 1) := by decide +kernel
theorem dL_law_1135 : decode cL_law 1135 = .ok (.aload_n 0, 1) := by decide +kernel
theorem dL_law_1136 : decode cL_law 1136 = .ok (.iload 4, 2) := by decide +kernel
theorem dL_law_1138 : decode cL_law 1138 = .ok (.iconst 1, 1) := by decide +kernel
theorem dL_law_1139 : decode cL_law 1139 = .ok (.iadd, 1) := by decide +kernel
theorem dL_law_1140 : decode cL_law 1140 = .ok (.iaload, 1) := by decide +kernel
theorem dL_law_1141 : decode cL_law 1141 = .ok (.aload_n 0, 1) := by decide +kernel
theorem dL_law_1142 : decode cL_law 1142 = .ok (.iload 4, 2) := by decide +kernel
theorem dL_law_1144 : decode cL_law 1144 = .ok (.iconst 2, 1) := by decide +kernel
theorem dL_law_1145 : decode cL_law 1145 = .ok (.iadd, 1) := by decide +kernel
theorem dL_law_1146 : decode cL_law 1146 = .ok (.iaload, 1) := by decide +kernel
theorem dL_law_1147 : decode cL_law 1147 = .ok (.aload_n 0, 1) := by decide +kernel
theorem dL_law_1148 : decode cL_law 1148 = .ok (.iload 4, 2) := by decide +kernel
theorem dL_law_1150 : decode cL_law 1150 = .ok (.iconst 3, 1) := by decide +kernel
theorem dL_law_1151 : decode cL_law 1151 = .ok (.iadd, 1) := by decide +kernel
theorem dL_law_1152 : decode cL_law 1152 = .ok (.iaload, 1) := by decide +kernel
theorem dL_law_1153 : decode cL_law 1153 = .ok (.invokevirtual 147, 3) := by decide +kernel
theorem dL_law_1156 : decode cL_law 1156 = .ok (.aload_n 2, 1) := by decide +kernel
theorem dL_law_1157 : decode cL_law 1157 = .ok (.aload_n 0, 1) := by decide +kernel
theorem dL_law_1158 : decode cL_law 1158 = .ok (.iload 4, 2) := by decide +kernel
theorem dL_law_1160 : decode cL_law 1160 = .ok (.iconst 1, 1) := by decide +kernel
theorem dL_law_1161 : decode cL_law 1161 = .ok (.iadd, 1) := by decide +kernel
theorem dL_law_1162 : decode cL_law 1162 = .ok (.iaload, 1) := by decide +kernel
theorem dL_law_1163 : decode cL_law 1163 = .ok (.aload_n 0, 1) := by decide +kernel
theorem dL_law_1164 : decode cL_law 1164 = .ok (.iload 4, 2) := by decide +kernel
theorem dL_law_1166 : decode cL_law 1166 = .ok (.iconst 2, 1) := by decide +kernel
theorem dL_law_1167 : decode cL_law 1167 = .ok (.iadd, 1) := by decide +kernel
theorem dL_law_1168 : decode cL_law 1168 = .ok (.iaload, 1) := by decide +kernel
theorem dL_law_1169 : decode cL_law 1169 = .ok (.aload_n 0, 1) := by decide +kernel
theorem dL_law_1170 : decode cL_law 1170 = .ok (.iload 4, 2) := by decide +kernel
theorem dL_law_1172 : decode cL_law 1172 = .ok (.iconst 3, 1) := by decide +kernel
theorem dL_law_1173 : decode cL_law 1173 = .ok (.iadd, 1) := by decide +kernel
theorem dL_law_1174 : decode cL_law 1174 = .ok (.iaload, 1) := by decide +kernel
theorem dL_law_1175 : decode cL_law 1175 = .ok (.invokevirtual 150, 3) := by decide +kernel
theorem dL_law_1178 : decode cL_law 1178 = .ok (.if_icmp .eq 446, 3) := by decide +kernel
theorem dL_law_1181 : decode cL_law 1181 = .ok (.iconst 0, 1) := by decide +kernel
theorem dL_law_1182 : decode cL_law 1182 = .ok (.ireturn, 1) := by decide +kernel
theorem dL_law_1183 : decode cL_law 1183 = .ok (.aload_n 1, 1) := by decide +kernel
theorem dL_law_1184 : decode cL_law 1184 = .ok (.invokevirtual 151, 3) := by decide +kernel
theorem dL_law_1187 : decode cL_law 1187 = .ok (.aload_n 2, 1) := by decide +kernel
theorem dL_law_1188 : decode cL_law 1188 = .ok (.invokevirtual 154, 3) := by decide +kernel
theorem dL_law_1191 : decode cL_law 1191 = .ok (.if_icmp .eq 433, 3) := by decide +kernel
theorem dL_law_1194 : decode cL_law 1194 = .ok (.iconst 0, 1) := by decide +kernel
theorem dL_law_1195 : decode cL_law 1195 = .ok (.ireturn, 1) := by decide +kernel
theorem dL_law_1196 : decode cL_law 1196 = .ok (.aload_n 1, 1) := by decide +kernel
theorem dL_law_1197 : decode cL_law 1197 = .ok (.aload_n 0, 1) := by decide +kernel
theorem dL_law_1198 : decode cL_law 1198 = .ok (.iload 4, 2) := by decide +kernel
theorem dL_law_1200 : decode cL_law 1200 = .ok (.iconst 1, 1) := by decide +kernel
theorem dL_law_1201 : decode cL_law 1201 = .ok (.iadd, 1) := by decide +kernel
theorem dL_law_1202 : decode cL_law 1202 = .ok (.iaload, 1) := by decide +kernel
theorem dL_law_1203 : decode cL_law 1203 = .ok (.invokevirtual 155, 3) := by decide +kernel
theorem dL_law_1206 : decode cL_law 1206 = .ok (.aload_n 2, 1) := by decide +kernel
theorem dL_law_1207 : decode cL_law 1207 = .ok (.aload_n 0, 1) := by decide +kernel
theorem dL_law_1208 : decode cL_law 1208 = .ok (.iload 4, 2) := by decide +kernel
theorem dL_law_1210 : decode cL_law 1210 = .ok (.iconst 1, 1) := by decide +kernel
theorem dL_law_1211 : decode cL_law 1211 = .ok (.iadd, 1) := by decide +kernel
theorem dL_law_1212 : decode cL_law 1212 = .ok (.iaload, 1) := by decide +kernel
theorem dL_law_1213 : decode cL_law 1213 = .ok (.invokevirtual 158, 3) := by decide +kernel
theorem dL_law_1216 : decode cL_law 1216 = .ok (.if_icmp .eq 408, 3) := by decide +kernel
theorem dL_law_1219 : decode cL_law 1219 = .ok (.iconst 0, 1) := by decide +kernel
theorem dL_law_1220 : decode cL_law 1220 = .ok (.ireturn, 1) := by decide +kernel
theorem dL_law_1221 : decode cL_law 1221 = .ok (.aload_n 1, 1) := by decide +kernel
theorem dL_law_1222 : decode cL_law 1222 = .ok (.aload_n 0, 1) := by decide +kernel
theorem dL_law_1223 : decode cL_law 1223 = .ok (.iload 4, 2) := by decide +kernel
theorem dL_law_1225 : decode cL_law 1225 = .ok (.iconst 1, 1) := by decide +kernel
theorem dL_law_1226 : decode cL_law 1226 = .ok (.iadd, 1) := by decide +kernel
theorem dL_law_1227 : decode cL_law 1227 = .ok (.iaload, 1) := by decide +kernel
theorem dL_law_1228 : decode cL_law 1228 = .ok (.aload_n 0, 1) := by decide +kernel
theorem dL_law_1229 : decode cL_law 1229 = .ok (.iload 4, 2) := by decide +kernel
theorem dL_law_1231 : decode cL_law 1231 = .ok (.iconst 2, 1) := by decide +kernel
theorem dL_law_1232 : decode cL_law 1232 = .ok (.iadd, 1) := by decide +kernel
theorem dL_law_1233 : decode cL_law 1233 = .ok (.iaload, 1) := by decide +kernel
theorem dL_law_1234 : decode cL_law 1234 = .ok (.invokevirtual 159, 3) := by decide +kernel
theorem dL_law_1237 : decode cL_law 1237 = .ok (.aload_n 2, 1) := by decide +kernel
theorem dL_law_1238 : decode cL_law 1238 = .ok (.aload_n 0, 1) := by decide +kernel
theorem dL_law_1239 : decode cL_law 1239 = .ok (.iload 4, 2) := by decide +kernel
theorem dL_law_1241 : decode cL_law 1241 = .ok (.iconst 1, 1) := by decide +kernel
theorem dL_law_1242 : decode cL_law 1242 = .ok (.iadd, 1) := by decide +kernel
theorem dL_law_1243 : decode cL_law 1243 = .ok (.iaload, 1) := by decide +kernel
theorem dL_law_1244 : decode cL_law 1244 = .ok (.aload_n 0, 1) := by decide +kernel
theorem dL_law_1245 : decode cL_law 1245 = .ok (.iload 4, 2) := by decide +kernel
theorem dL_law_1247 : decode cL_law 1247 = .ok (.iconst 2, 1) := by decide +kernel
theorem dL_law_1248 : decode cL_law 1248 = .ok (.iadd, 1) := by decide +kernel
theorem dL_law_1249 : decode cL_law 1249 = .ok (.iaload, 1) := by decide +kernel
theorem dL_law_1250 : decode cL_law 1250 = .ok (.invokevirtual 162, 3) := by decide +kernel
theorem dL_law_1253 : decode cL_law 1253 = .ok (.if_icmp .eq 371, 3) := by decide +kernel
theorem dL_law_1256 : decode cL_law 1256 = .ok (.iconst 0, 1) := by decide +kernel
theorem dL_law_1257 : decode cL_law 1257 = .ok (.ireturn, 1) := by decide +kernel
theorem dL_law_1258 : decode cL_law 1258 = .ok (.aload_n 1, 1) := by decide +kernel
theorem dL_law_1259 : decode cL_law 1259 = .ok (.aload_n 0, 1) := by decide +kernel
theorem dL_law_1260 : decode cL_law 1260 = .ok (.iload 4, 2) := by decide +kernel
theorem dL_law_1262 : decode cL_law 1262 = .ok (.iconst 1, 1) := by decide +kernel
theorem dL_law_1263 : decode cL_law 1263 = .ok (.iadd, 1) := by decide +kernel
theorem dL_law_1264 : decode cL_law 1264 = .ok (.iaload, 1) := by decide +kernel
theorem dL_law_1265 : decode cL_law 1265 = .ok (.invokevirtual 163, 3) := by decide +kernel
theorem dL_law_1268 : decode cL_law 1268 = .ok (.aload_n 2, 1) := by decide +kernel
theorem dL_law_1269 : decode cL_law 1269 = .ok (.aload_n 0, 1) := by decide +kernel
theorem dL_law_1270 : decode cL_law 1270 = .ok (.iload 4, 2) := by decide +kernel
theorem dL_law_1272 : decode cL_law 1272 = .ok (.iconst 1, 1) := by decide +kernel
theorem dL_law_1273 : decode cL_law 1273 = .ok (.iadd, 1) := by decide +kernel
theorem dL_law_1274 : decode cL_law 1274 = .ok (.iaload, 1) := by decide +kernel
theorem dL_law_1275 : decode cL_law 1275 = .ok (.invokevirtual 166, 3) := by decide +kernel
theorem dL_law_1278 : decode cL_law 1278 = .ok (.if_icmp .eq 346, 3) := by decide +kernel
theorem dL_law_1281 : decode cL_law 1281 = .ok (.iconst 0, 1) := by decide +kernel
theorem dL_law_1282 : decode cL_law 1282 = .ok (.ireturn, 1) := by decide +kernel
theorem dL_law_1283 : decode cL_law 1283 = .ok (.aload_n 1, 1) := by decide +kernel
theorem dL_law_1284 : decode cL_law 1284 = .ok (.aload_n 0, 1) := by decide +kernel
theorem dL_law_1285 : decode cL_law 1285 = .ok (.iload 4, 2) := by decide +kernel
theorem dL_law_1287 : decode cL_law 1287 = .ok (.iconst 1, 1) := by decide +kernel
theorem dL_law_1288 : decode cL_law 1288 = .ok (.iadd, 1) := by decide +kernel
theorem dL_law_1289 : decode cL_law 1289 = .ok (.iaload, 1) := by decide +kernel
theorem dL_law_1290 : decode cL_law 1290 = .ok (.invokevirtual 167, 3) := by decide +kernel
theorem dL_law_1293 : decode cL_law 1293 = .ok (.aload_n 2, 1) := by decide +kernel
theorem dL_law_1294 : decode cL_law 1294 = .ok (.aload_n 0, 1) := by decide +kernel
theorem dL_law_1295 : decode cL_law 1295 = .ok (.iload 4, 2) := by decide +kernel
theorem dL_law_1297 : decode cL_law 1297 = .ok (.iconst 1, 1) := by decide +kernel
theorem dL_law_1298 : decode cL_law 1298 = .ok (.iadd, 1) := by decide +kernel
theorem dL_law_1299 : decode cL_law 1299 = .ok (.iaload, 1) := by decide +kernel
theorem dL_law_1300 : decode cL_law 1300 = .ok (.invokevirtual 170, 3) := by decide +kernel
theorem dL_law_1303 : decode cL_law 1303 = .ok (.if_icmp .eq 321, 3) := by decide +kernel
theorem dL_law_1306 : decode cL_law 1306 = .ok (.iconst 0, 1) := by decide +kernel
theorem dL_law_1307 : decode cL_law 1307 = .ok (.ireturn, 1) := by decide +kernel
theorem dL_law_1308 : decode cL_law 1308 = .ok (.aload_n 1, 1) := by decide +kernel
theorem dL_law_1309 : decode cL_law 1309 = .ok (.aload_n 0, 1) := by decide +kernel
theorem dL_law_1310 : decode cL_law 1310 = .ok (.iload 4, 2) := by decide +kernel
theorem dL_law_1312 : decode cL_law 1312 = .ok (.iconst 1, 1) := by decide +kernel
theorem dL_law_1313 : decode cL_law 1313 = .ok (.iadd, 1) := by decide +kernel
theorem dL_law_1314 : decode cL_law 1314 = .ok (.iaload, 1) := by decide +kernel
theorem dL_law_1315 : decode cL_law 1315 = .ok (.aload_n 0, 1) := by decide +kernel
theorem dL_law_1316 : decode cL_law 1316 = .ok (.iload 4, 2) := by decide +kernel
theorem dL_law_1318 : decode cL_law 1318 = .ok (.iconst 2, 1) := by decide +kernel
theorem dL_law_1319 : decode cL_law 1319 = .ok (.iadd, 1) := by decide +kernel
theorem dL_law_1320 : decode cL_law 1320 = .ok (.iaload, 1) := by decide +kernel
theorem dL_law_1321 : decode cL_law 1321 = .ok (.invokevirtual 171, 3) := by decide +kernel
theorem dL_law_1324 : decode cL_law 1324 = .ok (.aload_n 2, 1) := by decide +kernel
theorem dL_law_1325 : decode cL_law 1325 = .ok (.aload_n 0, 1) := by decide +kernel
theorem dL_law_1326 : decode cL_law 1326 = .ok (.iload 4, 2) := by decide +kernel
theorem dL_law_1328 : decode cL_law 1328 = .ok (.iconst 1, 1) := by decide +kernel
theorem dL_law_1329 : decode cL_law 1329 = .ok (.iadd, 1) := by decide +kernel
theorem dL_law_1330 : decode cL_law 1330 = .ok (.iaload, 1) := by decide +kernel
theorem dL_law_1331 : decode cL_law 1331 = .ok (.aload_n 0, 1) := by decide +kernel
theorem dL_law_1332 : decode cL_law 1332 = .ok (.iload 4, 2) := by decide +kernel
theorem dL_law_1334 : decode cL_law 1334 = .ok (.iconst 2, 1) := by decide +kernel
theorem dL_law_1335 : decode cL_law 1335 = .ok (.iadd, 1) := by decide +kernel
theorem dL_law_1336 : decode cL_law 1336 = .ok (.iaload, 1) := by decide +kernel
theorem dL_law_1337 : decode cL_law 1337 = .ok (.invokevirtual 174, 3) := by decide +kernel
theorem dL_law_1340 : decode cL_law 1340 = .ok (.if_icmp .eq 284, 3) := by decide +kernel
theorem dL_law_1343 : decode cL_law 1343 = .ok (.iconst 0, 1) := by decide +kernel
theorem dL_law_1344 : decode cL_law 1344 = .ok (.ireturn, 1) := by decide +kernel
theorem dL_law_1345 : decode cL_law 1345 = .ok (.aload_n 1, 1) := by decide +kernel
theorem dL_law_1346 : decode cL_law 1346 = .ok (.aload_n 0, 1) := by decide +kernel
theorem dL_law_1347 : decode cL_law 1347 = .ok (.iload 4, 2) := by decide +kernel
theorem dL_law_1349 : decode cL_law 1349 = .ok (.iconst 1, 1) := by decide +kernel
theorem dL_law_1350 : decode cL_law 1350 = .ok (.iadd, 1) := by decide +kernel
theorem dL_law_1351 : decode cL_law 1351 = .ok (.iaload, 1) := by decide +kernel
theorem dL_law_1352 : decode cL_law 1352 = .ok (.aload_n 0, 1) := by decide +kernel
theorem dL_law_1353 : decode cL_law 1353 = .ok (.iload 4, 2) := by decide +kernel
theorem dL_law_1355 : decode cL_law 1355 = .ok (.iconst 2, 1) := by decide +kernel
theorem dL_law_1356 : decode cL_law 1356 = .ok (.iadd, 1) := by decide +kernel
theorem dL_law_1357 : decode cL_law 1357 = .ok (.iaload, 1) := by decide +kernel
theorem dL_law_1358 : decode cL_law 1358 = .ok (.invokevirtual 175, 3) := by decide +kernel
theorem dL_law_1361 : decode cL_law 1361 = .ok (.aload_n 2, 1) := by decide +kernel
theorem dL_law_1362 : decode cL_law 1362 = .ok (.aload_n 0, 1) := by decide +kernel
theorem dL_law_1363 : decode cL_law 1363 = .ok (.iload 4, 2) := by decide +kernel
theorem dL_law_1365 : decode cL_law 1365 = .ok (.iconst 1, 1) := by decide +kernel
theorem dL_law_1366 : decode cL_law 1366 = .ok (.iadd, 1) := by decide +kernel
theorem dL_law_1367 : decode cL_law 1367 = .ok (.iaload, 1) := by decide +kernel
theorem dL_law_1368 : decode cL_law 1368 = .ok (.aload_n 0, 1) := by decide +kernel
theorem dL_law_1369 : decode cL_law 1369 = .ok (.iload 4, 2) := by decide +kernel
theorem dL_law_1371 : decode cL_law 1371 = .ok (.iconst 2, 1) := by decide +kernel
theorem dL_law_1372 : decode cL_law 1372 = .ok (.iadd, 1) := by decide +kernel
theorem dL_law_1373 : decode cL_law 1373 = .ok (.iaload, 1) := by decide +kernel
theorem dL_law_1374 : decode cL_law 1374 = .ok (.invokevirtual 178, 3) := by decide +kernel
theorem dL_law_1377 : decode cL_law 1377 = .ok (.if_icmp .eq 247, 3) := by decide +kernel
theorem dL_law_1380 : decode cL_law 1380 = .ok (.iconst 0, 1) := by decide +kernel
theorem dL_law_1381 : decode cL_law 1381 = .ok (.ireturn, 1) := by decide +kernel
theorem dL_law_1382 : decode cL_law 1382 = .ok (.aload_n 1, 1) := by decide +kernel
theorem dL_law_1383 : decode cL_law 1383 = .ok (.aload_n 0, 1) := by decide +kernel
theorem dL_law_1384 : decode cL_law 1384 = .ok (.iload 4, 2) := by decide +kernel
theorem dL_law_1386 : decode cL_law 1386 = .ok (.iconst 1, 1) := by decide +kernel
theorem dL_law_1387 : decode cL_law 1387 = .ok (.iadd, 1) := by decide +kernel
theorem dL_law_1388 : decode cL_law 1388 = .ok (.iaload, 1) := by decide +kernel
theorem dL_law_1389 : decode cL_law 1389 = .ok (.invokevirtual 179, 3) := by decide +kernel
theorem dL_law_1392 : decode cL_law 1392 = .ok (.aload_n 2, 1) := by decide +kernel
theorem dL_law_1393 : decode cL_law 1393 = .ok (.aload_n 0, 1) := by decide +kernel
theorem dL_law_1394 : decode cL_law 1394 = .ok (.iload 4, 2) := by decide +kernel
theorem dL_law_1396 : decode cL_law 1396 = .ok (.iconst 1, 1) := by decide +kernel
theorem dL_law_1397 : decode cL_law 1397 = .ok (.iadd, 1) := by decide +kernel
theorem dL_law_1398 : decode cL_law 1398 = .ok (.iaload, 1) := by decide +kernel
theorem dL_law_1399 : decode cL_law 1399 = .ok (.invokevirtual 182, 3) := by decide +kernel
theorem dL_law_1402 : decode cL_law 1402 = .ok (.if_icmp .eq 222, 3) := by decide +kernel
theorem dL_law_1405 : decode cL_law 1405 = .ok (.iconst 0, 1) := by decide +kernel
theorem dL_law_1406 : decode cL_law 1406 = .ok (.ireturn, 1) := by decide +kernel
theorem dL_law_1407 : decode cL_law 1407 = .ok (.aload_n 1, 1) := by decide +kernel
theorem dL_law_1408 : decode cL_law 1408 = .ok (.aload_n 0, 1) := by decide +kernel
theorem dL_law_1409 : decode cL_law 1409 = .ok (.iload 4, 2) := by decide +kernel
theorem dL_law_1411 : decode cL_law 1411 = .ok (.iconst 1, 1) := by decide +kernel
theorem dL_law_1412 : decode cL_law 1412 = .ok (.iadd, 1) := by decide +kernel
theorem dL_law_1413 : decode cL_law 1413 = .ok (.iaload, 1) := by decide +kernel
theorem dL_law_1414 : decode cL_law 1414 = .ok (.aload_n 0, 1) := by decide +kernel
theorem dL_law_1415 : decode cL_law 1415 = .ok (.iload 4, 2) := by decide +kernel
theorem dL_law_1417 : decode cL_law 1417 = .ok (.iconst 2, 1) := by decide +kernel
theorem dL_law_1418 : decode cL_law 1418 = .ok (.iadd, 1) := by decide +kernel
theorem dL_law_1419 : decode cL_law 1419 = .ok (.iaload, 1) := by decide +kernel
theorem dL_law_1420 : decode cL_law 1420 = .ok (.invokevirtual 183, 3) := by decide +kernel
theorem dL_law_1423 : decode cL_law 1423 = .ok (.aload_n 2, 1) := by decide +kernel
theorem dL_law_1424 : decode cL_law 1424 = .ok (.aload_n 0, 1) := by decide +kernel
theorem dL_law_1425 : decode cL_law 1425 = .ok (.iload 4, 2) := by decide +kernel
theorem dL_law_1427 : decode cL_law 1427 = .ok (.iconst 1, 1) := by decide +kernel
theorem dL_law_1428 : decode cL_law 1428 = .ok (.iadd, 1) := by decide +kernel
theorem dL_law_1429 : decode cL_law 1429 = .ok (.iaload, 1) := by decide +kernel
theorem dL_law_1430 : decode cL_law 1430 = .ok (.aload_n 0, 1) := by decide +kernel
theorem dL_law_1431 : decode cL_law 1431 = .ok (.iload 4, 2) := by decide +kernel
theorem dL_law_1433 : decode cL_law 1433 = .ok (.iconst 2, 1) := by decide +kernel
theorem dL_law_1434 : decode cL_law 1434 = .ok (.iadd, 1) := by decide +kernel
theorem dL_law_1435 : decode cL_law 1435 = .ok (.iaload, 1) := by decide +kernel
theorem dL_law_1436 : decode cL_law 1436 = .ok (.invokevirtual 186, 3) := by decide +kernel
theorem dL_law_1439 : decode cL_law 1439 = .ok (.if_icmp .eq 185, 3) := by decide +kernel
theorem dL_law_1442 : decode cL_law 1442 = .ok (.iconst 0, 1) := by decide +kernel
theorem dL_law_1443 : decode cL_law 1443 = .ok (.ireturn, 1) := by decide +kernel
theorem dL_law_1444 : decode cL_law 1444 = .ok (.aload_n 1, 1) := by decide +kernel
theorem dL_law_1445 : decode cL_law 1445 = .ok (.invokevirtual 187, 3) := by decide +kernel
theorem dL_law_1448 : decode cL_law 1448 = .ok (.aload_n 2, 1) := by decide +kernel
theorem dL_law_1449 : decode cL_law 1449 = .ok (.invokevirtual 190, 3) := by decide +kernel
theorem dL_law_1452 : decode cL_law 1452 = .ok (.if_icmp .eq 172, 3) := by decide +kernel
theorem dL_law_1455 : decode cL_law 1455 = .ok (.iconst 0, 1) := by decide +kernel
theorem dL_law_1456 : decode cL_law 1456 = .ok (.ireturn, 1) := by decide +kernel
theorem dL_law_1457 : decode cL_law 1457 = .ok (.aload_n 1, 1) := by decide +kernel
theorem dL_law_1458 : decode cL_law 1458 = .ok (.aload_n 0, 1) := by decide +kernel
theorem dL_law_1459 : decode cL_law 1459 = .ok (.iload 4, 2) := by decide +kernel
theorem dL_law_1461 : decode cL_law 1461 = .ok (.iconst 1, 1) := by decide +kernel
theorem dL_law_1462 : decode cL_law 1462 = .ok (.iadd, 1) := by decide +kernel
theorem dL_law_1463 : decode cL_law 1463 = .ok (.iaload, 1) := by decide +kernel
theorem dL_law_1464 : decode cL_law 1464 = .ok (.aload_n 0, 1) := by decide +kernel
theorem dL_law_1465 : decode cL_law 1465 = .ok (.iload 4, 2) := by decide +kernel
theorem dL_law_1467 : decode cL_law 1467 = .ok (.iconst 2, 1) := by decide +kernel
theorem dL_law_1468 : decode cL_law 1468 = .ok (.iadd, 1) := by decide +kernel
theorem dL_law_1469 : decode cL_law 1469 = .ok (.iaload, 1) := by decide +kernel
theorem dL_law_1470 : decode cL_law 1470 = .ok (.invokevirtual 191, 3) := by decide +kernel
theorem dL_law_1473 : decode cL_law 1473 = .ok (.aload_n 2, 1) := by decide +kernel
theorem dL_law_1474 : decode cL_law 1474 = .ok (.aload_n 0, 1) := by decide +kernel
theorem dL_law_1475 : decode cL_law 1475 = .ok (.iload 4, 2) := by decide +kernel
theorem dL_law_1477 : decode cL_law 1477 = .ok (.iconst 1, 1) := by decide +kernel
theorem dL_law_1478 : decode cL_law 1478 = .ok (.iadd, 1) := by decide +kernel
theorem dL_law_1479 : decode cL_law 1479 = .ok (.iaload, 1) := by decide +kernel
theorem dL_law_1480 : decode cL_law 1480 = .ok (.aload_n 0, 1) := by decide +kernel
theorem dL_law_1481 : decode cL_law 1481 = .ok (.iload 4, 2) := by decide +kernel
theorem dL_law_1483 : decode cL_law 1483 = .ok (.iconst 2, 1) := by decide +kernel
theorem dL_law_1484 : decode cL_law 1484 = .ok (.iadd, 1) := by decide +kernel
theorem dL_law_1485 : decode cL_law 1485 = .ok (.iaload, 1) := by decide +kernel
theorem dL_law_1486 : decode cL_law 1486 = .ok (.invokevirtual 194, 3) := by decide +kernel
theorem dL_law_1489 : decode cL_law 1489 = .ok (.if_icmp .eq 135, 3) := by decide +kernel
theorem dL_law_1492 : decode cL_law 1492 = .ok (.iconst 0, 1) := by decide +kernel
theorem dL_law_1493 : decode cL_law 1493 = .ok (.ireturn, 1) := by decide +kernel
theorem dL_law_1494 : decode cL_law 1494 = .ok (.aload_n 1, 1) := by decide +kernel
theorem dL_law_1495 : decode cL_law 1495 = .ok (.aload_n 0, 1) := by decide +kernel
theorem dL_law_1496 : decode cL_law 1496 = .ok (.iload 4, 2) := by decide +kernel
theorem dL_law_1498 : decode cL_law 1498 = .ok (.iconst 1, 1) := by decide +kernel
theorem dL_law_1499 : decode cL_law 1499 = .ok (.iadd, 1) := by decide +kernel
theorem dL_law_1500 : decode cL_law 1500 = .ok (.iaload, 1) := by decide +kernel
theorem dL_law_1501 : decode cL_law 1501 = .ok (.invokevirtual 195, 3) := by decide +kernel
theorem dL_law_1504 : decode cL_law 1504 = .ok (.aload_n 2, 1) := by decide +kernel
theorem dL_law_1505 : decode cL_law 1505 = .ok (.aload_n 0, 1) := by decide +kernel
theorem dL_law_1506 : decode cL_law 1506 = .ok (.iload 4, 2) := by decide +kernel
theorem dL_law_1508 : decode cL_law 1508 = .ok (.iconst 1, 1) := by decide +kernel
theorem dL_law_1509 : decode cL_law 1509 = .ok (.iadd, 1) := by decide +kernel
theorem dL_law_1510 : decode cL_law 1510 = .ok (.iaload, 1) := by decide +kernel
theorem dL_law_1511 : decode cL_law 1511 = .ok (.invokevirtual 198, 3) := by decide +kernel
theorem dL_law_1514 : decode cL_law 1514 = .ok (.if_icmp .eq 110, 3) := by decide +kernel
theorem dL_law_1517 : decode cL_law 1517 = .ok (.iconst 0, 1) := by decide +kernel
theorem dL_law_1518 : decode cL_law 1518 = .ok (.ireturn, 1) := by decide +kernel
theorem dL_law_1519 : decode cL_law 1519 = .ok (.aload_n 1, 1) := by decide +kernel
theorem dL_law_1520 : decode cL_law 1520 = .ok (.aload_n 0, 1) := by decide +kernel
theorem dL_law_1521 : decode cL_law 1521 = .ok (.iload 4, 2) := by decide +kernel
theorem dL_law_1523 : decode cL_law 1523 = .ok (.iconst 1, 1) := by decide +kernel
theorem dL_law_1524 : decode cL_law 1524 = .ok (.iadd, 1) := by decide +kernel
theorem dL_law_1525 : decode cL_law 1525 = .ok (.iaload, 1) := by decide +kernel
theorem dL_law_1526 : decode cL_law 1526 = .ok (.invokevirtual 199, 3) := by decide +kernel
theorem dL_law_1529 : decode cL_law 1529 = .ok (.aload_n 2, 1) := by decide +kernel
theorem dL_law_1530 : decode cL_law 1530 = .ok (.aload_n 0, 1) := by decide +kernel
theorem dL_law_1531 : decode cL_law 1531 = .ok (.iload 4, 2) := by decide +kernel
theorem dL_law_1533 : decode cL_law 1533 = .ok (.iconst 1, 1) := by decide +kernel
theorem dL_law_1534 : decode cL_law 1534 = .ok (.iadd, 1) := by decide +kernel
theorem dL_law_1535 : decode cL_law 1535 = .ok (.iaload, 1) := by decide +kernel
theorem dL_law_1536 : decode cL_law 1536 = .ok (.invokevirtual 202, 3) := by decide +kernel
theorem dL_law_1539 : decode cL_law 1539 = .ok (.if_icmp .eq 85, 3) := by decide +kernel
theorem dL_law_1542 : decode cL_law 1542 = .ok (.iconst 0, 1) := by decide +kernel
theorem dL_law_1543 : decode cL_law 1543 = .ok (.ireturn, 1) := by decide +kernel
theorem dL_law_1544 : decode cL_law 1544 = .ok (.aload_n 1, 1) := by decide +kernel
theorem dL_law_1545 : decode cL_law 1545 = .ok (.aload_n 0, 1) := by decide +kernel
theorem dL_law_1546 : decode cL_law 1546 = .ok (.iload 4, 2) := by decide +kernel
theorem dL_law_1548 : decode cL_law 1548 = .ok (.iconst 1, 1) := by decide +kernel
theorem dL_law_1549 : decode cL_law 1549 = .ok (.iadd, 1) := by decide +kernel
theorem dL_law_1550 : decode cL_law 1550 = .ok (.iaload, 1) := by decide +kernel
theorem dL_law_1551 : decode cL_law 1551 = .ok (.invokevirtual 203, 3) := by decide +kernel
theorem dL_law_1554 : decode cL_law 1554 = .ok (.aload_n 2, 1) := by decide +kernel
theorem dL_law_1555 : decode cL_law 1555 = .ok (.aload_n 0, 1) := by decide +kernel
theorem dL_law_1556 : decode cL_law 1556 = .ok (.iload 4, 2) := by decide +kernel
theorem dL_law_1558 : decode cL_law 1558 = .ok (.iconst 1, 1) := by decide +kernel
theorem dL_law_1559 : decode cL_law 1559 = .ok (.iadd, 1) := by decide +kernel
theorem dL_law_1560 : decode cL_law 1560 = .ok (.iaload, 1) := by decide +kernel
theorem dL_law_1561 : decode cL_law 1561 = .ok (.invokevirtual 206, 3) := by decide +kernel
theorem dL_law_1564 : decode cL_law 1564 = .ok (.if_icmp .eq 60, 3) := by decide +kernel
theorem dL_law_1567 : decode cL_law 1567 = .ok (.iconst 0, 1) := by decide +kernel
theorem dL_law_1568 : decode cL_law 1568 = .ok (.ireturn, 1) := by decide +kernel
theorem dL_law_1569 : decode cL_law 1569 = .ok (.aload_n 1, 1) := by decide +kernel
theorem dL_law_1570 : decode cL_law 1570 = .ok (.aload_n 0, 1) := by decide +kernel
theorem dL_law_1571 : decode cL_law 1571 = .ok (.iload 4, 2) := by decide +kernel
theorem dL_law_1573 : decode cL_law 1573 = .ok (.iconst 1, 1) := by decide +kernel
theorem dL_law_1574 : decode cL_law 1574 = .ok (.iadd, 1) := by decide +kernel
theorem dL_law_1575 : decode cL_law 1575 = .ok (.iaload, 1) := by decide +kernel
theorem dL_law_1576 : decode cL_law 1576 = .ok (.aload_n 3, 1) := by decide +kernel
theorem dL_law_1577 : decode cL_law 1577 = .ok (.invokestatic 207, 3) := by decide +kernel
theorem dL_law_1580 : decode cL_law 1580 = .ok (.istore 5, 2) := by decide +kernel
theorem dL_law_1582 : decode cL_law 1582 = .ok (.aload_n 2, 1) := by decide +kernel
theorem dL_law_1583 : decode cL_law 1583 = .ok (.aload_n 0, 1) := by decide +kernel
theorem dL_law_1584 : decode cL_law 1584 = .ok (.iload 4, 2) := by decide +kernel
theorem dL_law_1586 : decode cL_law 1586 = .ok (.iconst 1, 1) := by decide +kernel
theorem dL_law_1587 : decode cL_law 1587 = .ok (.iadd, 1) := by decide +kernel
theorem dL_law_1588 : decode cL_law 1588 = .ok (.iaload, 1) := by decide +kernel
theorem dL_law_1589 : decode cL_law 1589 = .ok (.invokevirtual 210, 3) := by decide +kernel
theorem dL_law_1592 : decode cL_law 1592 = .ok (.lstore 6, 2) := by decide +kernel
theorem dL_law_1594 : decode cL_law 1594 = .ok (.aload_n 2, 1) := by decide +kernel
theorem dL_law_1595 : decode cL_law 1595 = .ok (.invokevirtual 59, 3) := by decide +kernel
theorem dL_law_1598 : decode cL_law 1598 = .ok (.iload 5, 2) := by decide +kernel
theorem dL_law_1600 : decode cL_law 1600 = .ok (.if_icmp .eq 5, 3) := by decide +kernel
theorem dL_law_1603 : decode cL_law 1603 = .ok (.iconst 0, 1) := by decide +kernel
theorem dL_law_1604 : decode cL_law 1604 = .ok (.ireturn, 1) := by decide +kernel
theorem dL_law_1605 : decode cL_law 1605 = .ok (.iload 5, 2) := by decide +kernel
theorem dL_law_1607 : decode cL_law 1607 = .ok (.ifCond .ne 14, 3) := by decide +kernel
theorem dL_law_1610 : decode cL_law 1610 = .ok (.aload_n 3, 1) := by decide +kernel
theorem dL_law_1611 : decode cL_law 1611 = .ok (.iconst 0, 1) := by decide +kernel
theorem dL_law_1612 : decode cL_law 1612 = .ok (.laload, 1) := by decide +kernel
theorem dL_law_1613 : decode cL_law 1613 = .ok (.lload 6, 2) := by decide +kernel
theorem dL_law_1615 : decode cL_law 1615 = .ok (.lcmp, 1) := by decide +kernel
theorem dL_law_1616 : decode cL_law 1616 = .ok (.ifCond .eq 5, 3) := by decide +kernel
theorem dL_law_1619 : decode cL_law 1619 = .ok (.iconst 0, 1) := by decide +kernel
theorem dL_law_1620 : decode cL_law 1620 = .ok (.ireturn, 1) := by decide +kernel
theorem dL_law_1621 : decode cL_law 1621 = .ok (.goto 3, 3) := by decide +kernel
theorem dL_law_1624 : decode cL_law 1624 = .ok (.iinc 4 5, 3) := by decide +kernel
theorem dL_law_1627 : decode cL_law 1627 = .ok (.goto (-1604), 3) := by decide +kernel
theorem dL_law_1630 : decode cL_law 1630 = .ok (.iconst 1, 1) := by decide +kernel
theorem dL_law_1631 : decode cL_law 1631 = .ok (.ireturn, 1) := by decide +kernel
