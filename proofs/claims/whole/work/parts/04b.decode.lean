theorem dX11_act_16 : decode cX11_act 16 = .ok (.iconst 2, 1) := by decide +kernel
theorem dX11_act_17 : decode cX11_act 17 = .ok (.iadd, 1) := by decide +kernel
theorem dX11_act_18 : decode cX11_act 18 = .ok (.invokevirtual 108, 3) := by decide +kernel
theorem dX11_act_21 : decode cX11_act 21 = .ok (.istore_n 3, 1) := by decide +kernel
theorem dX11_act_22 : decode cX11_act 22 = .ok (.aload_n 0, 1) := by decide +kernel
theorem dX11_act_23 : decode cX11_act 23 = .ok (.getfield 10, 3) := by decide +kernel
theorem dX11_act_26 : decode cX11_act 26 = .ok (.iload_n 1, 1) := by decide +kernel
theorem dX11_act_27 : decode cX11_act 27 = .ok (.invokevirtual 261, 3) := by decide +kernel
theorem dX11_act_30 : decode cX11_act 30 = .ok (.lookupswitch 64 #[(103, 34), (109, 54), (116, 44)], 34) := by decide +kernel
theorem dX11_act_64 : decode cX11_act 64 = .ok (.aload_n 0, 1) := by decide +kernel
theorem dX11_act_65 : decode cX11_act 65 = .ok (.getfield 77, 3) := by decide +kernel
theorem dX11_act_68 : decode cX11_act 68 = .ok (.iload_n 2, 1) := by decide +kernel
theorem dX11_act_69 : decode cX11_act 69 = .ok (.iload_n 3, 1) := by decide +kernel
theorem dX11_act_70 : decode cX11_act 70 = .ok (.invokevirtual 220, 3) := by decide +kernel
theorem dX11_act_73 : decode cX11_act 73 = .ok (.ireturn, 1) := by decide +kernel
theorem dX11_act_74 : decode cX11_act 74 = .ok (.aload_n 0, 1) := by decide +kernel
theorem dX11_act_75 : decode cX11_act 75 = .ok (.getfield 77, 3) := by decide +kernel
theorem dX11_act_78 : decode cX11_act 78 = .ok (.iload_n 2, 1) := by decide +kernel
theorem dX11_act_79 : decode cX11_act 79 = .ok (.iload_n 3, 1) := by decide +kernel
theorem dX11_act_80 : decode cX11_act 80 = .ok (.invokevirtual 226, 3) := by decide +kernel
theorem dX11_act_83 : decode cX11_act 83 = .ok (.ireturn, 1) := by decide +kernel
theorem dX11_act_84 : decode cX11_act 84 = .ok (.aload_n 0, 1) := by decide +kernel
theorem dX11_act_85 : decode cX11_act 85 = .ok (.getfield 77, 3) := by decide +kernel
theorem dX11_act_88 : decode cX11_act 88 = .ok (.iload_n 2, 1) := by decide +kernel
theorem dX11_act_89 : decode cX11_act 89 = .ok (.iload_n 3, 1) := by decide +kernel
theorem dX11_act_90 : decode cX11_act 90 = .ok (.invokevirtual 229, 3) := by decide +kernel
theorem dX11_act_93 : decode cX11_act 93 = .ok (.ireturn, 1) := by decide +kernel
theorem dX11_act_94 : decode cX11_act 94 = .ok (.aload_n 0, 1) := by decide +kernel
theorem dX11_act_95 : decode cX11_act 95 = .ok (.getfield 77, 3) := by decide +kernel
theorem dX11_act_98 : decode cX11_act 98 = .ok (.iload_n 2, 1) := by decide +kernel
theorem dX11_act_99 : decode cX11_act 99 = .ok (.aload_n 0, 1) := by decide +kernel
theorem dX11_act_100 : decode cX11_act 100 = .ok (.getfield 73, 3) := by decide +kernel
theorem dX11_act_103 : decode cX11_act 103 = .ok (.invokevirtual 235, 3) := by decide +kernel
theorem dX11_act_106 : decode cX11_act 106 = .ok (.invokevirtual 238, 3) := by decide +kernel
theorem dX11_act_109 : decode cX11_act 109 = .ok (.ireturn, 1) := by decide +kernel
theorem dX11_undo_0 : decode cX11_undo 0 = .ok (.aload_n 0, 1) := by decide +kernel
theorem dX11_undo_1 : decode cX11_undo 1 = .ok (.getfield 45, 3) := by decide +kernel
theorem dX11_undo_4 : decode cX11_undo 4 = .ok (.aload_n 0, 1) := by decide +kernel
theorem dX11_undo_5 : decode cX11_undo 5 = .ok (.getfield 77, 3) := by decide +kernel
theorem dX11_undo_8 : decode cX11_undo 8 = .ok (.invokevirtual 264, 3) := by decide +kernel
theorem dX11_undo_11 : decode cX11_undo 11 = .ok (.ifCond .eq 13, 3) := by decide +kernel
theorem dX11_undo_14 : decode cX11_undo 14 = .ok (.aload_n 0, 1) := by decide +kernel
theorem dX11_undo_15 : decode cX11_undo 15 = .ok (.getfield 45, 3) := by decide +kernel
theorem dX11_undo_18 : decode cX11_undo 18 = .ok (.invokevirtual 268, 3) := by decide +kernel
theorem dX11_undo_21 : decode cX11_undo 21 = .ok (.goto 4, 3) := by decide +kernel
theorem dX11_undo_24 : decode cX11_undo 24 = .ok (.iconst (-1), 1) := by decide +kernel
theorem dX11_undo_25 : decode cX11_undo 25 = .ok (.ireturn, 1) := by decide +kernel
theorem dX11_later_0 : decode cX11_later 0 = .ok (.aload_n 0, 1) := by decide +kernel
theorem dX11_later_1 : decode cX11_later 1 = .ok (.getfield 73, 3) := by decide +kernel
theorem dX11_later_4 : decode cX11_later 4 = .ok (.iload_n 1, 1) := by decide +kernel
theorem dX11_later_5 : decode cX11_later 5 = .ok (.invokevirtual 184, 3) := by decide +kernel
theorem dX11_later_8 : decode cX11_later 8 = .ok (.ifCond .eq 22, 3) := by decide +kernel
theorem dX11_later_11 : decode cX11_later 11 = .ok (.iload_n 2, 1) := by decide +kernel
theorem dX11_later_12 : decode cX11_later 12 = .ok (.iconst 0, 1) := by decide +kernel
theorem dX11_later_13 : decode cX11_later 13 = .ok (.iconst 3, 1) := by decide +kernel
theorem dX11_later_14 : decode cX11_later 14 = .ok (.invokestatic 164, 3) := by decide +kernel
theorem dX11_later_17 : decode cX11_later 17 = .ok (.ifCond .eq 13, 3) := by decide +kernel
theorem dX11_later_20 : decode cX11_later 20 = .ok (.iload_n 3, 1) := by decide +kernel
theorem dX11_later_21 : decode cX11_later 21 = .ok (.iconst 0, 1) := by decide +kernel
theorem dX11_later_22 : decode cX11_later 22 = .ok (.bipush 99, 2) := by decide +kernel
theorem dX11_later_24 : decode cX11_later 24 = .ok (.invokestatic 164, 3) := by decide +kernel
theorem dX11_later_27 : decode cX11_later 27 = .ok (.ifCond .ne 5, 3) := by decide +kernel
theorem dX11_later_30 : decode cX11_later 30 = .ok (.iconst (-1), 1) := by decide +kernel
theorem dX11_later_31 : decode cX11_later 31 = .ok (.ireturn, 1) := by decide +kernel
theorem dX11_later_32 : decode cX11_later 32 = .ok (.aload_n 0, 1) := by decide +kernel
theorem dX11_later_33 : decode cX11_later 33 = .ok (.getfield 81, 3) := by decide +kernel
theorem dX11_later_36 : decode cX11_later 36 = .ok (.aload_n 0, 1) := by decide +kernel
theorem dX11_later_37 : decode cX11_later 37 = .ok (.getfield 77, 3) := by decide +kernel
theorem dX11_later_40 : decode cX11_later 40 = .ok (.invokevirtual 216, 3) := by decide +kernel
theorem dX11_later_43 : decode cX11_later 43 = .ok (.aload_n 0, 1) := by decide +kernel
theorem dX11_later_44 : decode cX11_later 44 = .ok (.getfield 81, 3) := by decide +kernel
theorem dX11_later_47 : decode cX11_later 47 = .ok (.iload_n 1, 1) := by decide +kernel
theorem dX11_later_48 : decode cX11_later 48 = .ok (.iload_n 3, 1) := by decide +kernel
theorem dX11_later_49 : decode cX11_later 49 = .ok (.aload_n 0, 1) := by decide +kernel
theorem dX11_later_50 : decode cX11_later 50 = .ok (.getfield 73, 3) := by decide +kernel
theorem dX11_later_53 : decode cX11_later 53 = .ok (.invokevirtual 235, 3) := by decide +kernel
theorem dX11_later_56 : decode cX11_later 56 = .ok (.invokevirtual 269, 3) := by decide +kernel
theorem dX11_later_59 : decode cX11_later 59 = .ok (.aload_n 0, 1) := by decide +kernel
theorem dX11_later_60 : decode cX11_later 60 = .ok (.iload_n 1, 1) := by decide +kernel
theorem dX11_later_61 : decode cX11_later 61 = .ok (.invokevirtual 273, 3) := by decide +kernel
theorem dX11_later_64 : decode cX11_later 64 = .ok (.aload_n 0, 1) := by decide +kernel
theorem dX11_later_65 : decode cX11_later 65 = .ok (.getfield 69, 3) := by decide +kernel
theorem dX11_later_68 : decode cX11_later 68 = .ok (.aload_n 0, 1) := by decide +kernel
theorem dX11_later_69 : decode cX11_later 69 = .ok (.getfield 81, 3) := by decide +kernel
theorem dX11_later_72 : decode cX11_later 72 = .ok (.iload_n 1, 1) := by decide +kernel
theorem dX11_later_73 : decode cX11_later 73 = .ok (.invokevirtual 193, 3) := by decide +kernel
theorem dX11_later_76 : decode cX11_later 76 = .ok (.i2l, 1) := by decide +kernel
theorem dX11_later_77 : decode cX11_later 77 = .ok (.invokevirtual 248, 3) := by decide +kernel
theorem dX11_later_80 : decode cX11_later 80 = .ok (.aload_n 0, 1) := by decide +kernel
theorem dX11_later_81 : decode cX11_later 81 = .ok (.getfield 81, 3) := by decide +kernel
theorem dX11_later_84 : decode cX11_later 84 = .ok (.iload_n 1, 1) := by decide +kernel
theorem dX11_later_85 : decode cX11_later 85 = .ok (.iload_n 2, 1) := by decide +kernel
theorem dX11_later_86 : decode cX11_later 86 = .ok (.invokevirtual 196, 3) := by decide +kernel
theorem dX11_later_89 : decode cX11_later 89 = .ok (.ireturn, 1) := by decide +kernel
theorem dX11_tellHumours_0 : decode cX11_tellHumours 0 = .ok (.aload_n 0, 1) := by decide +kernel
theorem dX11_tellHumours_1 : decode cX11_tellHumours 1 = .ok (.getfield 69, 3) := by decide +kernel
theorem dX11_tellHumours_4 : decode cX11_tellHumours 4 = .ok (.invokevirtual 242, 3) := by decide +kernel
theorem dX11_tellHumours_7 : decode cX11_tellHumours 7 = .ok (.iconst 0, 1) := by decide +kernel
theorem dX11_tellHumours_8 : decode cX11_tellHumours 8 = .ok (.istore_n 2, 1) := by decide +kernel
theorem dX11_tellHumours_9 : decode cX11_tellHumours 9 = .ok (.iload_n 2, 1) := by decide +kernel
theorem dX11_tellHumours_10 : decode cX11_tellHumours 10 = .ok (.iconst 4, 1) := by decide +kernel
theorem dX11_tellHumours_11 : decode cX11_tellHumours 11 = .ok (.if_icmp .ge 26, 3) := by decide +kernel
theorem dX11_tellHumours_14 : decode cX11_tellHumours 14 = .ok (.aload_n 0, 1) := by decide +kernel
theorem dX11_tellHumours_15 : decode cX11_tellHumours 15 = .ok (.getfield 69, 3) := by decide +kernel
theorem dX11_tellHumours_18 : decode cX11_tellHumours 18 = .ok (.aload_n 0, 1) := by decide +kernel
theorem dX11_tellHumours_19 : decode cX11_tellHumours 19 = .ok (.getfield 81, 3) := by decide +kernel
theorem dX11_tellHumours_22 : decode cX11_tellHumours 22 = .ok (.iload_n 1, 1) := by decide +kernel
theorem dX11_tellHumours_23 : decode cX11_tellHumours 23 = .ok (.iload_n 2, 1) := by decide +kernel
theorem dX11_tellHumours_24 : decode cX11_tellHumours 24 = .ok (.invokevirtual 196, 3) := by decide +kernel
theorem dX11_tellHumours_27 : decode cX11_tellHumours 27 = .ok (.i2l, 1) := by decide +kernel
theorem dX11_tellHumours_28 : decode cX11_tellHumours 28 = .ok (.invokevirtual 248, 3) := by decide +kernel
theorem dX11_tellHumours_31 : decode cX11_tellHumours 31 = .ok (.iinc 2 1, 3) := by decide +kernel
theorem dX11_tellHumours_34 : decode cX11_tellHumours 34 = .ok (.goto (-25), 3) := by decide +kernel
theorem dX11_tellHumours_37 : decode cX11_tellHumours 37 = .ok (.return_, 1) := by decide +kernel
theorem dX11_settles_0 : decode cX11_settles 0 = .ok (.aload_n 0, 1) := by decide +kernel
theorem dX11_settles_1 : decode cX11_settles 1 = .ok (.getfield 73, 3) := by decide +kernel
theorem dX11_settles_4 : decode cX11_settles 4 = .ok (.iload_n 1, 1) := by decide +kernel
theorem dX11_settles_5 : decode cX11_settles 5 = .ok (.invokevirtual 184, 3) := by decide +kernel
theorem dX11_settles_8 : decode cX11_settles 8 = .ok (.ifCond .ne 5, 3) := by decide +kernel
theorem dX11_settles_11 : decode cX11_settles 11 = .ok (.iconst (-1), 1) := by decide +kernel
theorem dX11_settles_12 : decode cX11_settles 12 = .ok (.ireturn, 1) := by decide +kernel
theorem dX11_settles_13 : decode cX11_settles 13 = .ok (.aload_n 0, 1) := by decide +kernel
theorem dX11_settles_14 : decode cX11_settles 14 = .ok (.getfield 81, 3) := by decide +kernel
theorem dX11_settles_17 : decode cX11_settles 17 = .ok (.aload_n 0, 1) := by decide +kernel
theorem dX11_settles_18 : decode cX11_settles 18 = .ok (.getfield 77, 3) := by decide +kernel
theorem dX11_settles_21 : decode cX11_settles 21 = .ok (.invokevirtual 216, 3) := by decide +kernel
theorem dX11_settles_24 : decode cX11_settles 24 = .ok (.iconst 0, 1) := by decide +kernel
theorem dX11_settles_25 : decode cX11_settles 25 = .ok (.istore_n 2, 1) := by decide +kernel
theorem dX11_settles_26 : decode cX11_settles 26 = .ok (.iload_n 2, 1) := by decide +kernel
theorem dX11_settles_27 : decode cX11_settles 27 = .ok (.bipush 99, 2) := by decide +kernel
theorem dX11_settles_29 : decode cX11_settles 29 = .ok (.if_icmp .gt 53, 3) := by decide +kernel
theorem dX11_settles_32 : decode cX11_settles 32 = .ok (.aload_n 0, 1) := by decide +kernel
theorem dX11_settles_33 : decode cX11_settles 33 = .ok (.getfield 81, 3) := by decide +kernel
theorem dX11_settles_36 : decode cX11_settles 36 = .ok (.iload_n 1, 1) := by decide +kernel
theorem dX11_settles_37 : decode cX11_settles 37 = .ok (.invokevirtual 276, 3) := by decide +kernel
theorem dX11_settles_40 : decode cX11_settles 40 = .ok (.istore_n 3, 1) := by decide +kernel
theorem dX11_settles_41 : decode cX11_settles 41 = .ok (.aload_n 0, 1) := by decide +kernel
theorem dX11_settles_42 : decode cX11_settles 42 = .ok (.getfield 81, 3) := by decide +kernel
theorem dX11_settles_45 : decode cX11_settles 45 = .ok (.iload_n 1, 1) := by decide +kernel
theorem dX11_settles_46 : decode cX11_settles 46 = .ok (.iconst 1, 1) := by decide +kernel
theorem dX11_settles_47 : decode cX11_settles 47 = .ok (.aload_n 0, 1) := by decide +kernel
theorem dX11_settles_48 : decode cX11_settles 48 = .ok (.getfield 73, 3) := by decide +kernel
theorem dX11_settles_51 : decode cX11_settles 51 = .ok (.invokevirtual 235, 3) := by decide +kernel
theorem dX11_settles_54 : decode cX11_settles 54 = .ok (.invokevirtual 269, 3) := by decide +kernel
theorem dX11_settles_57 : decode cX11_settles 57 = .ok (.aload_n 0, 1) := by decide +kernel
theorem dX11_settles_58 : decode cX11_settles 58 = .ok (.getfield 81, 3) := by decide +kernel
theorem dX11_settles_61 : decode cX11_settles 61 = .ok (.iload_n 1, 1) := by decide +kernel
theorem dX11_settles_62 : decode cX11_settles 62 = .ok (.invokevirtual 276, 3) := by decide +kernel
theorem dX11_settles_65 : decode cX11_settles 65 = .ok (.iload_n 3, 1) := by decide +kernel
theorem dX11_settles_66 : decode cX11_settles 66 = .ok (.if_icmp .ne 10, 3) := by decide +kernel
theorem dX11_settles_69 : decode cX11_settles 69 = .ok (.aload_n 0, 1) := by decide +kernel
theorem dX11_settles_70 : decode cX11_settles 70 = .ok (.iload_n 1, 1) := by decide +kernel
theorem dX11_settles_71 : decode cX11_settles 71 = .ok (.invokevirtual 273, 3) := by decide +kernel
theorem dX11_settles_74 : decode cX11_settles 74 = .ok (.iload_n 2, 1) := by decide +kernel
theorem dX11_settles_75 : decode cX11_settles 75 = .ok (.ireturn, 1) := by decide +kernel
theorem dX11_settles_76 : decode cX11_settles 76 = .ok (.iinc 2 1, 3) := by decide +kernel
theorem dX11_settles_79 : decode cX11_settles 79 = .ok (.goto (-53), 3) := by decide +kernel
theorem dX11_settles_82 : decode cX11_settles 82 = .ok (.bipush (-2), 2) := by decide +kernel
theorem dX11_settles_84 : decode cX11_settles 84 = .ok (.ireturn, 1) := by decide +kernel
theorem dX11_when_0 : decode cX11_when 0 = .ok (.aload_n 0, 1) := by decide +kernel
theorem dX11_when_1 : decode cX11_when 1 = .ok (.getfield 73, 3) := by decide +kernel
theorem dX11_when_4 : decode cX11_when 4 = .ok (.iload_n 1, 1) := by decide +kernel
theorem dX11_when_5 : decode cX11_when 5 = .ok (.invokevirtual 184, 3) := by decide +kernel
theorem dX11_when_8 : decode cX11_when 8 = .ok (.ifCond .eq 14, 3) := by decide +kernel
theorem dX11_when_11 : decode cX11_when 11 = .ok (.aload_n 0, 1) := by decide +kernel
theorem dX11_when_12 : decode cX11_when 12 = .ok (.getfield 73, 3) := by decide +kernel
theorem dX11_when_15 : decode cX11_when 15 = .ok (.iload_n 2, 1) := by decide +kernel
theorem dX11_when_16 : decode cX11_when 16 = .ok (.invokevirtual 279, 3) := by decide +kernel
theorem dX11_when_19 : decode cX11_when 19 = .ok (.ifCond .ne 5, 3) := by decide +kernel
theorem dX11_when_22 : decode cX11_when 22 = .ok (.iconst (-1), 1) := by decide +kernel
theorem dX11_when_23 : decode cX11_when 23 = .ok (.ireturn, 1) := by decide +kernel
theorem dX11_when_24 : decode cX11_when 24 = .ok (.aload_n 0, 1) := by decide +kernel
theorem dX11_when_25 : decode cX11_when 25 = .ok (.getfield 81, 3) := by decide +kernel
theorem dX11_when_28 : decode cX11_when 28 = .ok (.aload_n 0, 1) := by decide +kernel
theorem dX11_when_29 : decode cX11_when 29 = .ok (.getfield 77, 3) := by decide +kernel
theorem dX11_when_32 : decode cX11_when 32 = .ok (.invokevirtual 216, 3) := by decide +kernel
theorem dX11_when_35 : decode cX11_when 35 = .ok (.iconst 0, 1) := by decide +kernel
theorem dX11_when_36 : decode cX11_when 36 = .ok (.istore_n 3, 1) := by decide +kernel
theorem dX11_when_37 : decode cX11_when 37 = .ok (.iload_n 3, 1) := by decide +kernel
theorem dX11_when_38 : decode cX11_when 38 = .ok (.bipush 99, 2) := by decide +kernel
theorem dX11_when_40 : decode cX11_when 40 = .ok (.if_icmp .gt 66, 3) := by decide +kernel
theorem dX11_when_43 : decode cX11_when 43 = .ok (.aload_n 0, 1) := by decide +kernel
theorem dX11_when_44 : decode cX11_when 44 = .ok (.getfield 81, 3) := by decide +kernel
theorem dX11_when_47 : decode cX11_when 47 = .ok (.iload_n 1, 1) := by decide +kernel
theorem dX11_when_48 : decode cX11_when 48 = .ok (.invokevirtual 193, 3) := by decide +kernel
theorem dX11_when_51 : decode cX11_when 51 = .ok (.istore 4, 2) := by decide +kernel
theorem dX11_when_53 : decode cX11_when 53 = .ok (.iload_n 2, 1) := by decide +kernel
theorem dX11_when_54 : decode cX11_when 54 = .ok (.iload 4, 2) := by decide +kernel
theorem dX11_when_56 : decode cX11_when 56 = .ok (.invokestatic 282, 3) := by decide +kernel
theorem dX11_when_59 : decode cX11_when 59 = .ok (.ifCond .eq 25, 3) := by decide +kernel
theorem dX11_when_62 : decode cX11_when 62 = .ok (.aload_n 0, 1) := by decide +kernel
theorem dX11_when_63 : decode cX11_when 63 = .ok (.getfield 69, 3) := by decide +kernel
theorem dX11_when_66 : decode cX11_when 66 = .ok (.invokevirtual 242, 3) := by decide +kernel
theorem dX11_when_69 : decode cX11_when 69 = .ok (.aload_n 0, 1) := by decide +kernel
theorem dX11_when_70 : decode cX11_when 70 = .ok (.getfield 69, 3) := by decide +kernel
theorem dX11_when_73 : decode cX11_when 73 = .ok (.iload 4, 2) := by decide +kernel
theorem dX11_when_75 : decode cX11_when 75 = .ok (.invokestatic 285, 3) := by decide +kernel
theorem dX11_when_78 : decode cX11_when 78 = .ok (.i2l, 1) := by decide +kernel
theorem dX11_when_79 : decode cX11_when 79 = .ok (.invokevirtual 248, 3) := by decide +kernel
theorem dX11_when_82 : decode cX11_when 82 = .ok (.iload_n 3, 1) := by decide +kernel
theorem dX11_when_83 : decode cX11_when 83 = .ok (.ireturn, 1) := by decide +kernel
theorem dX11_when_84 : decode cX11_when 84 = .ok (.aload_n 0, 1) := by decide +kernel
theorem dX11_when_85 : decode cX11_when 85 = .ok (.getfield 81, 3) := by decide +kernel
theorem dX11_when_88 : decode cX11_when 88 = .ok (.iload_n 1, 1) := by decide +kernel
theorem dX11_when_89 : decode cX11_when 89 = .ok (.iconst 1, 1) := by decide +kernel
theorem dX11_when_90 : decode cX11_when 90 = .ok (.aload_n 0, 1) := by decide +kernel
theorem dX11_when_91 : decode cX11_when 91 = .ok (.getfield 73, 3) := by decide +kernel
theorem dX11_when_94 : decode cX11_when 94 = .ok (.invokevirtual 235, 3) := by decide +kernel
theorem dX11_when_97 : decode cX11_when 97 = .ok (.invokevirtual 269, 3) := by decide +kernel
theorem dX11_when_100 : decode cX11_when 100 = .ok (.iinc 3 1, 3) := by decide +kernel
theorem dX11_when_103 : decode cX11_when 103 = .ok (.goto (-66), 3) := by decide +kernel
theorem dX11_when_106 : decode cX11_when 106 = .ok (.bipush (-2), 2) := by decide +kernel
theorem dX11_when_108 : decode cX11_when 108 = .ok (.ireturn, 1) := by decide +kernel
theorem dX11_lacks_0 : decode cX11_lacks 0 = .ok (.aload_n 0, 1) := by decide +kernel
theorem dX11_lacks_1 : decode cX11_lacks 1 = .ok (.getfield 73, 3) := by decide +kernel
theorem dX11_lacks_4 : decode cX11_lacks 4 = .ok (.iload_n 1, 1) := by decide +kernel
theorem dX11_lacks_5 : decode cX11_lacks 5 = .ok (.invokevirtual 184, 3) := by decide +kernel
theorem dX11_lacks_8 : decode cX11_lacks 8 = .ok (.ifCond .eq 14, 3) := by decide +kernel
theorem dX11_lacks_11 : decode cX11_lacks 11 = .ok (.aload_n 0, 1) := by decide +kernel
theorem dX11_lacks_12 : decode cX11_lacks 12 = .ok (.getfield 73, 3) := by decide +kernel
theorem dX11_lacks_15 : decode cX11_lacks 15 = .ok (.iload_n 2, 1) := by decide +kernel
theorem dX11_lacks_16 : decode cX11_lacks 16 = .ok (.invokevirtual 279, 3) := by decide +kernel
theorem dX11_lacks_19 : decode cX11_lacks 19 = .ok (.ifCond .ne 5, 3) := by decide +kernel
theorem dX11_lacks_22 : decode cX11_lacks 22 = .ok (.iconst (-1), 1) := by decide +kernel
theorem dX11_lacks_23 : decode cX11_lacks 23 = .ok (.ireturn, 1) := by decide +kernel
theorem dX11_lacks_24 : decode cX11_lacks 24 = .ok (.iconst 0, 1) := by decide +kernel
theorem dX11_lacks_25 : decode cX11_lacks 25 = .ok (.istore_n 3, 1) := by decide +kernel
theorem dX11_lacks_26 : decode cX11_lacks 26 = .ok (.iconst 0, 1) := by decide +kernel
theorem dX11_lacks_27 : decode cX11_lacks 27 = .ok (.istore 4, 2) := by decide +kernel
theorem dX11_lacks_29 : decode cX11_lacks 29 = .ok (.iconst 0, 1) := by decide +kernel
theorem dX11_lacks_30 : decode cX11_lacks 30 = .ok (.istore 5, 2) := by decide +kernel
theorem dX11_lacks_32 : decode cX11_lacks 32 = .ok (.iload 5, 2) := by decide +kernel
theorem dX11_lacks_34 : decode cX11_lacks 34 = .ok (.aload_n 0, 1) := by decide +kernel
theorem dX11_lacks_35 : decode cX11_lacks 35 = .ok (.getfield 73, 3) := by decide +kernel
theorem dX11_lacks_38 : decode cX11_lacks 38 = .ok (.iload_n 2, 1) := by decide +kernel
theorem dX11_lacks_39 : decode cX11_lacks 39 = .ok (.invokevirtual 290, 3) := by decide +kernel
theorem dX11_lacks_42 : decode cX11_lacks 42 = .ok (.if_icmp .ge 62, 3) := by decide +kernel
theorem dX11_lacks_45 : decode cX11_lacks 45 = .ok (.aload_n 0, 1) := by decide +kernel
theorem dX11_lacks_46 : decode cX11_lacks 46 = .ok (.getfield 73, 3) := by decide +kernel
theorem dX11_lacks_49 : decode cX11_lacks 49 = .ok (.iload_n 2, 1) := by decide +kernel
theorem dX11_lacks_50 : decode cX11_lacks 50 = .ok (.iload 5, 2) := by decide +kernel
theorem dX11_lacks_52 : decode cX11_lacks 52 = .ok (.aload_n 0, 1) := by decide +kernel
theorem dX11_lacks_53 : decode cX11_lacks 53 = .ok (.getfield 77, 3) := by decide +kernel
theorem dX11_lacks_56 : decode cX11_lacks 56 = .ok (.iload_n 1, 1) := by decide +kernel
theorem dX11_lacks_57 : decode cX11_lacks 57 = .ok (.aload_n 0, 1) := by decide +kernel
theorem dX11_lacks_58 : decode cX11_lacks 58 = .ok (.getfield 73, 3) := by decide +kernel
theorem dX11_lacks_61 : decode cX11_lacks 61 = .ok (.iload_n 2, 1) := by decide +kernel
theorem dX11_lacks_62 : decode cX11_lacks 62 = .ok (.iload 5, 2) := by decide +kernel
theorem dX11_lacks_64 : decode cX11_lacks 64 = .ok (.invokevirtual 293, 3) := by decide +kernel
theorem dX11_lacks_67 : decode cX11_lacks 67 = .ok (.invokevirtual 196, 3) := by decide +kernel
theorem dX11_lacks_70 : decode cX11_lacks 70 = .ok (.invokevirtual 296, 3) := by decide +kernel
theorem dX11_lacks_73 : decode cX11_lacks 73 = .ok (.istore 6, 2) := by decide +kernel
theorem dX11_lacks_75 : decode cX11_lacks 75 = .ok (.iload_n 3, 1) := by decide +kernel
theorem dX11_lacks_76 : decode cX11_lacks 76 = .ok (.iload 6, 2) := by decide +kernel
theorem dX11_lacks_78 : decode cX11_lacks 78 = .ok (.ifCond .le 10, 3) := by decide +kernel
theorem dX11_lacks_81 : decode cX11_lacks 81 = .ok (.iconst 1, 1) := by decide +kernel
theorem dX11_lacks_82 : decode cX11_lacks 82 = .ok (.iload 5, 2) := by decide +kernel
theorem dX11_lacks_84 : decode cX11_lacks 84 = .ok (.ishl, 1) := by decide +kernel
theorem dX11_lacks_85 : decode cX11_lacks 85 = .ok (.goto 4, 3) := by decide +kernel
theorem dX11_lacks_88 : decode cX11_lacks 88 = .ok (.iconst 0, 1) := by decide +kernel
theorem dX11_lacks_89 : decode cX11_lacks 89 = .ok (.ior, 1) := by decide +kernel
theorem dX11_lacks_90 : decode cX11_lacks 90 = .ok (.istore_n 3, 1) := by decide +kernel
theorem dX11_lacks_91 : decode cX11_lacks 91 = .ok (.iload 4, 2) := by decide +kernel
theorem dX11_lacks_93 : decode cX11_lacks 93 = .ok (.iload 6, 2) := by decide +kernel
theorem dX11_lacks_95 : decode cX11_lacks 95 = .ok (.iadd, 1) := by decide +kernel
theorem dX11_lacks_96 : decode cX11_lacks 96 = .ok (.istore 4, 2) := by decide +kernel
theorem dX11_lacks_98 : decode cX11_lacks 98 = .ok (.iinc 5 1, 3) := by decide +kernel
theorem dX11_lacks_101 : decode cX11_lacks 101 = .ok (.goto (-69), 3) := by decide +kernel
theorem dX11_lacks_104 : decode cX11_lacks 104 = .ok (.aload_n 0, 1) := by decide +kernel
theorem dX11_lacks_105 : decode cX11_lacks 105 = .ok (.getfield 69, 3) := by decide +kernel
theorem dX11_lacks_108 : decode cX11_lacks 108 = .ok (.invokevirtual 242, 3) := by decide +kernel
theorem dX11_lacks_111 : decode cX11_lacks 111 = .ok (.aload_n 0, 1) := by decide +kernel
theorem dX11_lacks_112 : decode cX11_lacks 112 = .ok (.getfield 69, 3) := by decide +kernel
theorem dX11_lacks_115 : decode cX11_lacks 115 = .ok (.iload 4, 2) := by decide +kernel
theorem dX11_lacks_117 : decode cX11_lacks 117 = .ok (.i2l, 1) := by decide +kernel
theorem dX11_lacks_118 : decode cX11_lacks 118 = .ok (.invokevirtual 248, 3) := by decide +kernel
theorem dX11_lacks_121 : decode cX11_lacks 121 = .ok (.iload_n 3, 1) := by decide +kernel
theorem dX11_lacks_122 : decode cX11_lacks 122 = .ok (.ireturn, 1) := by decide +kernel
theorem dX11_richest_0 : decode cX11_richest 0 = .ok (.bipush (-2), 2) := by decide +kernel
theorem dX11_richest_2 : decode cX11_richest 2 = .ok (.istore_n 1, 1) := by decide +kernel
theorem dX11_richest_3 : decode cX11_richest 3 = .ok (.iconst (-1), 1) := by decide +kernel
theorem dX11_richest_4 : decode cX11_richest 4 = .ok (.istore_n 2, 1) := by decide +kernel
theorem dX11_richest_5 : decode cX11_richest 5 = .ok (.aload_n 0, 1) := by decide +kernel
theorem dX11_richest_6 : decode cX11_richest 6 = .ok (.getfield 73, 3) := by decide +kernel
theorem dX11_richest_9 : decode cX11_richest 9 = .ok (.invokevirtual 299, 3) := by decide +kernel
theorem dX11_richest_12 : decode cX11_richest 12 = .ok (.istore_n 3, 1) := by decide +kernel
theorem dX11_richest_13 : decode cX11_richest 13 = .ok (.iconst 0, 1) := by decide +kernel
theorem dX11_richest_14 : decode cX11_richest 14 = .ok (.istore 4, 2) := by decide +kernel
theorem dX11_richest_16 : decode cX11_richest 16 = .ok (.iload 4, 2) := by decide +kernel
theorem dX11_richest_18 : decode cX11_richest 18 = .ok (.aload_n 0, 1) := by decide +kernel
theorem dX11_richest_19 : decode cX11_richest 19 = .ok (.getfield 73, 3) := by decide +kernel
theorem dX11_richest_22 : decode cX11_richest 22 = .ok (.invokevirtual 126, 3) := by decide +kernel
theorem dX11_richest_25 : decode cX11_richest 25 = .ok (.if_icmp .ge 45, 3) := by decide +kernel
theorem dX11_richest_28 : decode cX11_richest 28 = .ok (.aload_n 0, 1) := by decide +kernel
theorem dX11_richest_29 : decode cX11_richest 29 = .ok (.getfield 77, 3) := by decide +kernel
theorem dX11_richest_32 : decode cX11_richest 32 = .ok (.iload 4, 2) := by decide +kernel
theorem dX11_richest_34 : decode cX11_richest 34 = .ok (.invokevirtual 193, 3) := by decide +kernel
theorem dX11_richest_37 : decode cX11_richest 37 = .ok (.istore 5, 2) := by decide +kernel
theorem dX11_richest_39 : decode cX11_richest 39 = .ok (.iload_n 3, 1) := by decide +kernel
theorem dX11_richest_40 : decode cX11_richest 40 = .ok (.iload 5, 2) := by decide +kernel
theorem dX11_richest_42 : decode cX11_richest 42 = .ok (.iconst (-1), 1) := by decide +kernel
theorem dX11_richest_43 : decode cX11_richest 43 = .ok (.ixor, 1) := by decide +kernel
theorem dX11_richest_44 : decode cX11_richest 44 = .ok (.iand, 1) := by decide +kernel
theorem dX11_richest_45 : decode cX11_richest 45 = .ok (.istore_n 3, 1) := by decide +kernel
theorem dX11_richest_46 : decode cX11_richest 46 = .ok (.iload 5, 2) := by decide +kernel
theorem dX11_richest_48 : decode cX11_richest 48 = .ok (.invokestatic 285, 3) := by decide +kernel
theorem dX11_richest_51 : decode cX11_richest 51 = .ok (.iload_n 2, 1) := by decide +kernel
theorem dX11_richest_52 : decode cX11_richest 52 = .ok (.if_icmp .le 12, 3) := by decide +kernel
theorem dX11_richest_55 : decode cX11_richest 55 = .ok (.iload 5, 2) := by decide +kernel
theorem dX11_richest_57 : decode cX11_richest 57 = .ok (.invokestatic 285, 3) := by decide +kernel
theorem dX11_richest_60 : decode cX11_richest 60 = .ok (.istore_n 2, 1) := by decide +kernel
theorem dX11_richest_61 : decode cX11_richest 61 = .ok (.iload 4, 2) := by decide +kernel
theorem dX11_richest_63 : decode cX11_richest 63 = .ok (.istore_n 1, 1) := by decide +kernel
theorem dX11_richest_64 : decode cX11_richest 64 = .ok (.iinc 4 1, 3) := by decide +kernel
theorem dX11_richest_67 : decode cX11_richest 67 = .ok (.goto (-51), 3) := by decide +kernel
theorem dX11_richest_70 : decode cX11_richest 70 = .ok (.iload_n 1, 1) := by decide +kernel
theorem dX11_richest_71 : decode cX11_richest 71 = .ok (.ifCond .lt 35, 3) := by decide +kernel
theorem dX11_richest_74 : decode cX11_richest 74 = .ok (.aload_n 0, 1) := by decide +kernel
theorem dX11_richest_75 : decode cX11_richest 75 = .ok (.getfield 69, 3) := by decide +kernel
theorem dX11_richest_78 : decode cX11_richest 78 = .ok (.invokevirtual 242, 3) := by decide +kernel
theorem dX11_richest_81 : decode cX11_richest 81 = .ok (.aload_n 0, 1) := by decide +kernel
theorem dX11_richest_82 : decode cX11_richest 82 = .ok (.getfield 69, 3) := by decide +kernel
theorem dX11_richest_85 : decode cX11_richest 85 = .ok (.aload_n 0, 1) := by decide +kernel
theorem dX11_richest_86 : decode cX11_richest 86 = .ok (.getfield 77, 3) := by decide +kernel
theorem dX11_richest_89 : decode cX11_richest 89 = .ok (.iload_n 1, 1) := by decide +kernel
theorem dX11_richest_90 : decode cX11_richest 90 = .ok (.invokevirtual 193, 3) := by decide +kernel
theorem dX11_richest_93 : decode cX11_richest 93 = .ok (.i2l, 1) := by decide +kernel
theorem dX11_richest_94 : decode cX11_richest 94 = .ok (.invokevirtual 248, 3) := by decide +kernel
theorem dX11_richest_97 : decode cX11_richest 97 = .ok (.aload_n 0, 1) := by decide +kernel
theorem dX11_richest_98 : decode cX11_richest 98 = .ok (.getfield 69, 3) := by decide +kernel
theorem dX11_richest_101 : decode cX11_richest 101 = .ok (.iload_n 3, 1) := by decide +kernel
theorem dX11_richest_102 : decode cX11_richest 102 = .ok (.i2l, 1) := by decide +kernel
theorem dX11_richest_103 : decode cX11_richest 103 = .ok (.invokevirtual 248, 3) := by decide +kernel
theorem dX11_richest_106 : decode cX11_richest 106 = .ok (.iload_n 1, 1) := by decide +kernel
theorem dX11_richest_107 : decode cX11_richest 107 = .ok (.ireturn, 1) := by decide +kernel
theorem dX11_apart_0 : decode cX11_apart 0 = .ok (.aload_n 0, 1) := by decide +kernel
theorem dX11_apart_1 : decode cX11_apart 1 = .ok (.getfield 73, 3) := by decide +kernel
theorem dX11_apart_4 : decode cX11_apart 4 = .ok (.iload_n 1, 1) := by decide +kernel
theorem dX11_apart_5 : decode cX11_apart 5 = .ok (.invokevirtual 184, 3) := by decide +kernel
theorem dX11_apart_8 : decode cX11_apart 8 = .ok (.ifCond .eq 29, 3) := by decide +kernel
theorem dX11_apart_11 : decode cX11_apart 11 = .ok (.aload_n 0, 1) := by decide +kernel
theorem dX11_apart_12 : decode cX11_apart 12 = .ok (.getfield 73, 3) := by decide +kernel
theorem dX11_apart_15 : decode cX11_apart 15 = .ok (.iload_n 2, 1) := by decide +kernel
theorem dX11_apart_16 : decode cX11_apart 16 = .ok (.invokevirtual 184, 3) := by decide +kernel
theorem dX11_apart_19 : decode cX11_apart 19 = .ok (.ifCond .eq 18, 3) := by decide +kernel
theorem dX11_apart_22 : decode cX11_apart 22 = .ok (.iload_n 1, 1) := by decide +kernel
theorem dX11_apart_23 : decode cX11_apart 23 = .ok (.iload_n 2, 1) := by decide +kernel
theorem dX11_apart_24 : decode cX11_apart 24 = .ok (.if_icmp .eq 13, 3) := by decide +kernel
theorem dX11_apart_27 : decode cX11_apart 27 = .ok (.iload_n 3, 1) := by decide +kernel
theorem dX11_apart_28 : decode cX11_apart 28 = .ok (.iconst 0, 1) := by decide +kernel
theorem dX11_apart_29 : decode cX11_apart 29 = .ok (.bipush 99, 2) := by decide +kernel
theorem dX11_apart_31 : decode cX11_apart 31 = .ok (.invokestatic 164, 3) := by decide +kernel
theorem dX11_apart_34 : decode cX11_apart 34 = .ok (.ifCond .ne 5, 3) := by decide +kernel
theorem dX11_apart_37 : decode cX11_apart 37 = .ok (.iconst (-1), 1) := by decide +kernel
theorem dX11_apart_38 : decode cX11_apart 38 = .ok (.ireturn, 1) := by decide +kernel
theorem dX11_apart_39 : decode cX11_apart 39 = .ok (.aload_n 0, 1) := by decide +kernel
theorem dX11_apart_40 : decode cX11_apart 40 = .ok (.getfield 81, 3) := by decide +kernel
theorem dX11_apart_43 : decode cX11_apart 43 = .ok (.aload_n 0, 1) := by decide +kernel
theorem dX11_apart_44 : decode cX11_apart 44 = .ok (.getfield 77, 3) := by decide +kernel
theorem dX11_apart_47 : decode cX11_apart 47 = .ok (.invokevirtual 216, 3) := by decide +kernel
theorem dX11_apart_50 : decode cX11_apart 50 = .ok (.aload_n 0, 1) := by decide +kernel
theorem dX11_apart_51 : decode cX11_apart 51 = .ok (.getfield 81, 3) := by decide +kernel
theorem dX11_apart_54 : decode cX11_apart 54 = .ok (.iload_n 3, 1) := by decide +kernel
theorem dX11_apart_55 : decode cX11_apart 55 = .ok (.aload_n 0, 1) := by decide +kernel
theorem dX11_apart_56 : decode cX11_apart 56 = .ok (.getfield 73, 3) := by decide +kernel
theorem dX11_apart_59 : decode cX11_apart 59 = .ok (.invokevirtual 235, 3) := by decide +kernel
theorem dX11_apart_62 : decode cX11_apart 62 = .ok (.invokevirtual 302, 3) := by decide +kernel
theorem dX11_apart_65 : decode cX11_apart 65 = .ok (.iconst 0, 1) := by decide +kernel
theorem dX11_apart_66 : decode cX11_apart 66 = .ok (.istore 4, 2) := by decide +kernel
theorem dX11_apart_68 : decode cX11_apart 68 = .ok (.aload_n 0, 1) := by decide +kernel
theorem dX11_apart_69 : decode cX11_apart 69 = .ok (.getfield 69, 3) := by decide +kernel
theorem dX11_apart_72 : decode cX11_apart 72 = .ok (.invokevirtual 242, 3) := by decide +kernel
theorem dX11_apart_75 : decode cX11_apart 75 = .ok (.iconst 0, 1) := by decide +kernel
theorem dX11_apart_76 : decode cX11_apart 76 = .ok (.istore 5, 2) := by decide +kernel
theorem dX11_apart_78 : decode cX11_apart 78 = .ok (.iload 5, 2) := by decide +kernel
theorem dX11_apart_80 : decode cX11_apart 80 = .ok (.iconst 4, 1) := by decide +kernel
theorem dX11_apart_81 : decode cX11_apart 81 = .ok (.if_icmp .ge 52, 3) := by decide +kernel
theorem dX11_apart_84 : decode cX11_apart 84 = .ok (.aload_n 0, 1) := by decide +kernel
theorem dX11_apart_85 : decode cX11_apart 85 = .ok (.getfield 81, 3) := by decide +kernel
theorem dX11_apart_88 : decode cX11_apart 88 = .ok (.iload_n 1, 1) := by decide +kernel
theorem dX11_apart_89 : decode cX11_apart 89 = .ok (.iload 5, 2) := by decide +kernel
theorem dX11_apart_91 : decode cX11_apart 91 = .ok (.invokevirtual 196, 3) := by decide +kernel
theorem dX11_apart_94 : decode cX11_apart 94 = .ok (.aload_n 0, 1) := by decide +kernel
theorem dX11_apart_95 : decode cX11_apart 95 = .ok (.getfield 81, 3) := by decide +kernel
theorem dX11_apart_98 : decode cX11_apart 98 = .ok (.iload_n 2, 1) := by decide +kernel
theorem dX11_apart_99 : decode cX11_apart 99 = .ok (.iload 5, 2) := by decide +kernel
theorem dX11_apart_101 : decode cX11_apart 101 = .ok (.invokevirtual 196, 3) := by decide +kernel
theorem dX11_apart_104 : decode cX11_apart 104 = .ok (.isub, 1) := by decide +kernel
theorem dX11_apart_105 : decode cX11_apart 105 = .ok (.istore 6, 2) := by decide +kernel
theorem dX11_apart_107 : decode cX11_apart 107 = .ok (.aload_n 0, 1) := by decide +kernel
theorem dX11_apart_108 : decode cX11_apart 108 = .ok (.getfield 69, 3) := by decide +kernel
theorem dX11_apart_111 : decode cX11_apart 111 = .ok (.iload 6, 2) := by decide +kernel
theorem dX11_apart_113 : decode cX11_apart 113 = .ok (.i2l, 1) := by decide +kernel
theorem dX11_apart_114 : decode cX11_apart 114 = .ok (.invokevirtual 248, 3) := by decide +kernel
theorem dX11_apart_117 : decode cX11_apart 117 = .ok (.iload 4, 2) := by decide +kernel
theorem dX11_apart_119 : decode cX11_apart 119 = .ok (.iload 6, 2) := by decide +kernel
theorem dX11_apart_121 : decode cX11_apart 121 = .ok (.invokestatic 306, 3) := by decide +kernel
theorem dX11_apart_124 : decode cX11_apart 124 = .ok (.iadd, 1) := by decide +kernel
theorem dX11_apart_125 : decode cX11_apart 125 = .ok (.istore 4, 2) := by decide +kernel
theorem dX11_apart_127 : decode cX11_apart 127 = .ok (.iinc 5 1, 3) := by decide +kernel
theorem dX11_apart_130 : decode cX11_apart 130 = .ok (.goto (-52), 3) := by decide +kernel
theorem dX11_apart_133 : decode cX11_apart 133 = .ok (.iload 4, 2) := by decide +kernel
theorem dX11_apart_135 : decode cX11_apart 135 = .ok (.ireturn, 1) := by decide +kernel
theorem dX11_fewest_0 : decode cX11_fewest 0 = .ok (.aload_n 0, 1) := by decide +kernel
theorem dX11_fewest_1 : decode cX11_fewest 1 = .ok (.getfield 73, 3) := by decide +kernel
theorem dX11_fewest_4 : decode cX11_fewest 4 = .ok (.iload_n 1, 1) := by decide +kernel
theorem dX11_fewest_5 : decode cX11_fewest 5 = .ok (.invokevirtual 184, 3) := by decide +kernel
theorem dX11_fewest_8 : decode cX11_fewest 8 = .ok (.ifCond .eq 24, 3) := by decide +kernel
theorem dX11_fewest_11 : decode cX11_fewest 11 = .ok (.aload_n 0, 1) := by decide +kernel
theorem dX11_fewest_12 : decode cX11_fewest 12 = .ok (.getfield 73, 3) := by decide +kernel
theorem dX11_fewest_15 : decode cX11_fewest 15 = .ok (.iload_n 2, 1) := by decide +kernel
theorem dX11_fewest_16 : decode cX11_fewest 16 = .ok (.invokevirtual 279, 3) := by decide +kernel
theorem dX11_fewest_19 : decode cX11_fewest 19 = .ok (.ifCond .eq 13, 3) := by decide +kernel
theorem dX11_fewest_22 : decode cX11_fewest 22 = .ok (.iload_n 3, 1) := by decide +kernel
theorem dX11_fewest_23 : decode cX11_fewest 23 = .ok (.iconst 0, 1) := by decide +kernel
theorem dX11_fewest_24 : decode cX11_fewest 24 = .ok (.bipush 20, 2) := by decide +kernel
theorem dX11_fewest_26 : decode cX11_fewest 26 = .ok (.invokestatic 164, 3) := by decide +kernel
theorem dX11_fewest_29 : decode cX11_fewest 29 = .ok (.ifCond .ne 5, 3) := by decide +kernel
theorem dX11_fewest_32 : decode cX11_fewest 32 = .ok (.iconst (-1), 1) := by decide +kernel
theorem dX11_fewest_33 : decode cX11_fewest 33 = .ok (.ireturn, 1) := by decide +kernel
theorem dX11_fewest_34 : decode cX11_fewest 34 = .ok (.aload_n 0, 1) := by decide +kernel
theorem dX11_fewest_35 : decode cX11_fewest 35 = .ok (.getfield 65, 3) := by decide +kernel
theorem dX11_fewest_38 : decode cX11_fewest 38 = .ok (.iload_n 1, 1) := by decide +kernel
theorem dX11_fewest_39 : decode cX11_fewest 39 = .ok (.iload_n 2, 1) := by decide +kernel
theorem dX11_fewest_40 : decode cX11_fewest 40 = .ok (.iload_n 3, 1) := by decide +kernel
theorem dX11_fewest_41 : decode cX11_fewest 41 = .ok (.invokevirtual 311, 3) := by decide +kernel
theorem dX11_fewest_44 : decode cX11_fewest 44 = .ok (.ireturn, 1) := by decide +kernel
theorem dX11_serves_0 : decode cX11_serves 0 = .ok (.aload_n 0, 1) := by decide +kernel
theorem dX11_serves_1 : decode cX11_serves 1 = .ok (.getfield 73, 3) := by decide +kernel
theorem dX11_serves_4 : decode cX11_serves 4 = .ok (.iload_n 1, 1) := by decide +kernel
theorem dX11_serves_5 : decode cX11_serves 5 = .ok (.invokevirtual 184, 3) := by decide +kernel
theorem dX11_serves_8 : decode cX11_serves 8 = .ok (.ifCond .eq 13, 3) := by decide +kernel
theorem dX11_serves_11 : decode cX11_serves 11 = .ok (.iload_n 2, 1) := by decide +kernel
theorem dX11_serves_12 : decode cX11_serves 12 = .ok (.iconst 0, 1) := by decide +kernel
theorem dX11_serves_13 : decode cX11_serves 13 = .ok (.bipush 60, 2) := by decide +kernel
theorem dX11_serves_15 : decode cX11_serves 15 = .ok (.invokestatic 164, 3) := by decide +kernel
theorem dX11_serves_18 : decode cX11_serves 18 = .ok (.ifCond .ne 5, 3) := by decide +kernel
theorem dX11_serves_21 : decode cX11_serves 21 = .ok (.iconst (-1), 1) := by decide +kernel
theorem dX11_serves_22 : decode cX11_serves 22 = .ok (.ireturn, 1) := by decide +kernel
theorem dX11_serves_23 : decode cX11_serves 23 = .ok (.aload_n 0, 1) := by decide +kernel
theorem dX11_serves_24 : decode cX11_serves 24 = .ok (.getfield 65, 3) := by decide +kernel
theorem dX11_serves_27 : decode cX11_serves 27 = .ok (.iload_n 1, 1) := by decide +kernel
theorem dX11_serves_28 : decode cX11_serves 28 = .ok (.iload_n 2, 1) := by decide +kernel
theorem dX11_serves_29 : decode cX11_serves 29 = .ok (.invokevirtual 314, 3) := by decide +kernel
theorem dX11_serves_32 : decode cX11_serves 32 = .ok (.ireturn, 1) := by decide +kernel
theorem dX11_burdens_0 : decode cX11_burdens 0 = .ok (.aload_n 0, 1) := by decide +kernel
theorem dX11_burdens_1 : decode cX11_burdens 1 = .ok (.getfield 73, 3) := by decide +kernel
theorem dX11_burdens_4 : decode cX11_burdens 4 = .ok (.iload_n 1, 1) := by decide +kernel
theorem dX11_burdens_5 : decode cX11_burdens 5 = .ok (.invokevirtual 184, 3) := by decide +kernel
theorem dX11_burdens_8 : decode cX11_burdens 8 = .ok (.ifCond .eq 13, 3) := by decide +kernel
theorem dX11_burdens_11 : decode cX11_burdens 11 = .ok (.iload_n 2, 1) := by decide +kernel
theorem dX11_burdens_12 : decode cX11_burdens 12 = .ok (.iconst 0, 1) := by decide +kernel
theorem dX11_burdens_13 : decode cX11_burdens 13 = .ok (.bipush 60, 2) := by decide +kernel
theorem dX11_burdens_15 : decode cX11_burdens 15 = .ok (.invokestatic 164, 3) := by decide +kernel
theorem dX11_burdens_18 : decode cX11_burdens 18 = .ok (.ifCond .ne 5, 3) := by decide +kernel
theorem dX11_burdens_21 : decode cX11_burdens 21 = .ok (.iconst (-1), 1) := by decide +kernel
theorem dX11_burdens_22 : decode cX11_burdens 22 = .ok (.ireturn, 1) := by decide +kernel
theorem dX11_burdens_23 : decode cX11_burdens 23 = .ok (.aload_n 0, 1) := by decide +kernel
theorem dX11_burdens_24 : decode cX11_burdens 24 = .ok (.getfield 65, 3) := by decide +kernel
theorem dX11_burdens_27 : decode cX11_burdens 27 = .ok (.iload_n 1, 1) := by decide +kernel
theorem dX11_burdens_28 : decode cX11_burdens 28 = .ok (.iload_n 2, 1) := by decide +kernel
theorem dX11_burdens_29 : decode cX11_burdens 29 = .ok (.invokevirtual 317, 3) := by decide +kernel
theorem dX11_burdens_32 : decode cX11_burdens 32 = .ok (.ireturn, 1) := by decide +kernel
theorem dX11_quarrels_0 : decode cX11_quarrels 0 = .ok (.iload_n 1, 1) := by decide +kernel
theorem dX11_quarrels_1 : decode cX11_quarrels 1 = .ok (.iconst 0, 1) := by decide +kernel
theorem dX11_quarrels_2 : decode cX11_quarrels 2 = .ok (.bipush 9, 2) := by decide +kernel
theorem dX11_quarrels_4 : decode cX11_quarrels 4 = .ok (.invokestatic 164, 3) := by decide +kernel
theorem dX11_quarrels_7 : decode cX11_quarrels 7 = .ok (.ifCond .ne 5, 3) := by decide +kernel
theorem dX11_quarrels_10 : decode cX11_quarrels 10 = .ok (.iconst (-1), 1) := by decide +kernel
theorem dX11_quarrels_11 : decode cX11_quarrels 11 = .ok (.ireturn, 1) := by decide +kernel
theorem dX11_quarrels_12 : decode cX11_quarrels 12 = .ok (.iconst 0, 1) := by decide +kernel
theorem dX11_quarrels_13 : decode cX11_quarrels 13 = .ok (.istore_n 2, 1) := by decide +kernel
theorem dX11_quarrels_14 : decode cX11_quarrels 14 = .ok (.aload_n 0, 1) := by decide +kernel
theorem dX11_quarrels_15 : decode cX11_quarrels 15 = .ok (.getfield 69, 3) := by decide +kernel
theorem dX11_quarrels_18 : decode cX11_quarrels 18 = .ok (.invokevirtual 242, 3) := by decide +kernel
theorem dX11_quarrels_21 : decode cX11_quarrels 21 = .ok (.iconst 0, 1) := by decide +kernel
theorem dX11_quarrels_22 : decode cX11_quarrels 22 = .ok (.istore_n 3, 1) := by decide +kernel
theorem dX11_quarrels_23 : decode cX11_quarrels 23 = .ok (.iload_n 3, 1) := by decide +kernel
theorem dX11_quarrels_24 : decode cX11_quarrels 24 = .ok (.aload_n 0, 1) := by decide +kernel
theorem dX11_quarrels_25 : decode cX11_quarrels 25 = .ok (.getfield 73, 3) := by decide +kernel
theorem dX11_quarrels_28 : decode cX11_quarrels 28 = .ok (.invokevirtual 98, 3) := by decide +kernel
theorem dX11_quarrels_31 : decode cX11_quarrels 31 = .ok (.if_icmp .ge 57, 3) := by decide +kernel
theorem dX11_quarrels_34 : decode cX11_quarrels 34 = .ok (.iload_n 3, 1) := by decide +kernel
theorem dX11_quarrels_35 : decode cX11_quarrels 35 = .ok (.iconst 1, 1) := by decide +kernel
theorem dX11_quarrels_36 : decode cX11_quarrels 36 = .ok (.iadd, 1) := by decide +kernel
theorem dX11_quarrels_37 : decode cX11_quarrels 37 = .ok (.istore 4, 2) := by decide +kernel
theorem dX11_quarrels_39 : decode cX11_quarrels 39 = .ok (.iload 4, 2) := by decide +kernel
theorem dX11_quarrels_41 : decode cX11_quarrels 41 = .ok (.aload_n 0, 1) := by decide +kernel
theorem dX11_quarrels_42 : decode cX11_quarrels 42 = .ok (.getfield 73, 3) := by decide +kernel
theorem dX11_quarrels_45 : decode cX11_quarrels 45 = .ok (.invokevirtual 98, 3) := by decide +kernel
theorem dX11_quarrels_48 : decode cX11_quarrels 48 = .ok (.if_icmp .ge 34, 3) := by decide +kernel
theorem dX11_quarrels_51 : decode cX11_quarrels 51 = .ok (.aload_n 0, 1) := by decide +kernel
theorem dX11_quarrels_52 : decode cX11_quarrels 52 = .ok (.getfield 73, 3) := by decide +kernel
theorem dX11_quarrels_55 : decode cX11_quarrels 55 = .ok (.iload_n 3, 1) := by decide +kernel
theorem dX11_quarrels_56 : decode cX11_quarrels 56 = .ok (.iload 4, 2) := by decide +kernel
theorem dX11_quarrels_58 : decode cX11_quarrels 58 = .ok (.iload_n 1, 1) := by decide +kernel
theorem dX11_quarrels_59 : decode cX11_quarrels 59 = .ok (.invokevirtual 320, 3) := by decide +kernel
theorem dX11_quarrels_62 : decode cX11_quarrels 62 = .ok (.ifCond .eq 14, 3) := by decide +kernel
theorem dX11_quarrels_65 : decode cX11_quarrels 65 = .ok (.aload_n 0, 1) := by decide +kernel
theorem dX11_quarrels_66 : decode cX11_quarrels 66 = .ok (.iload_n 2, 1) := by decide +kernel
theorem dX11_quarrels_67 : decode cX11_quarrels 67 = .ok (.iload_n 3, 1) := by decide +kernel
theorem dX11_quarrels_68 : decode cX11_quarrels 68 = .ok (.iload 4, 2) := by decide +kernel
theorem dX11_quarrels_70 : decode cX11_quarrels 70 = .ok (.invokevirtual 323, 3) := by decide +kernel
theorem dX11_quarrels_73 : decode cX11_quarrels 73 = .ok (.iinc 2 1, 3) := by decide +kernel
theorem dX11_quarrels_76 : decode cX11_quarrels 76 = .ok (.iinc 4 1, 3) := by decide +kernel
theorem dX11_quarrels_79 : decode cX11_quarrels 79 = .ok (.goto (-40), 3) := by decide +kernel
theorem dX11_quarrels_82 : decode cX11_quarrels 82 = .ok (.iinc 3 1, 3) := by decide +kernel
theorem dX11_quarrels_85 : decode cX11_quarrels 85 = .ok (.goto (-62), 3) := by decide +kernel
theorem dX11_quarrels_88 : decode cX11_quarrels 88 = .ok (.iload_n 2, 1) := by decide +kernel
theorem dX11_quarrels_89 : decode cX11_quarrels 89 = .ok (.ireturn, 1) := by decide +kernel
theorem dX11_tellFirstPair_0 : decode cX11_tellFirstPair 0 = .ok (.iload_n 1, 1) := by decide +kernel
theorem dX11_tellFirstPair_1 : decode cX11_tellFirstPair 1 = .ok (.ifCond .ne 21, 3) := by decide +kernel
theorem dX11_tellFirstPair_4 : decode cX11_tellFirstPair 4 = .ok (.aload_n 0, 1) := by decide +kernel
theorem dX11_tellFirstPair_5 : decode cX11_tellFirstPair 5 = .ok (.getfield 69, 3) := by decide +kernel
theorem dX11_tellFirstPair_8 : decode cX11_tellFirstPair 8 = .ok (.iload_n 2, 1) := by decide +kernel
theorem dX11_tellFirstPair_9 : decode cX11_tellFirstPair 9 = .ok (.i2l, 1) := by decide +kernel
theorem dX11_tellFirstPair_10 : decode cX11_tellFirstPair 10 = .ok (.invokevirtual 248, 3) := by decide +kernel
theorem dX11_tellFirstPair_13 : decode cX11_tellFirstPair 13 = .ok (.aload_n 0, 1) := by decide +kernel
theorem dX11_tellFirstPair_14 : decode cX11_tellFirstPair 14 = .ok (.getfield 69, 3) := by decide +kernel
theorem dX11_tellFirstPair_17 : decode cX11_tellFirstPair 17 = .ok (.iload_n 3, 1) := by decide +kernel
theorem dX11_tellFirstPair_18 : decode cX11_tellFirstPair 18 = .ok (.i2l, 1) := by decide +kernel
theorem dX11_tellFirstPair_19 : decode cX11_tellFirstPair 19 = .ok (.invokevirtual 248, 3) := by decide +kernel
theorem dX11_tellFirstPair_22 : decode cX11_tellFirstPair 22 = .ok (.return_, 1) := by decide +kernel
theorem dX11_peace_0 : decode cX11_peace 0 = .ok (.iload_n 1, 1) := by decide +kernel
theorem dX11_peace_1 : decode cX11_peace 1 = .ok (.iconst 0, 1) := by decide +kernel
theorem dX11_peace_2 : decode cX11_peace 2 = .ok (.bipush 9, 2) := by decide +kernel
theorem dX11_peace_4 : decode cX11_peace 4 = .ok (.invokestatic 164, 3) := by decide +kernel
theorem dX11_peace_7 : decode cX11_peace 7 = .ok (.ifCond .ne 5, 3) := by decide +kernel
theorem dX11_peace_10 : decode cX11_peace 10 = .ok (.iconst (-1), 1) := by decide +kernel
theorem dX11_peace_11 : decode cX11_peace 11 = .ok (.ireturn, 1) := by decide +kernel
theorem dX11_peace_12 : decode cX11_peace 12 = .ok (.iconst 0, 1) := by decide +kernel
theorem dX11_peace_13 : decode cX11_peace 13 = .ok (.istore_n 2, 1) := by decide +kernel
theorem dX11_peace_14 : decode cX11_peace 14 = .ok (.iconst 1, 1) := by decide +kernel
theorem dX11_peace_15 : decode cX11_peace 15 = .ok (.istore_n 3, 1) := by decide +kernel
theorem dX11_peace_16 : decode cX11_peace 16 = .ok (.iload_n 3, 1) := by decide +kernel
theorem dX11_peace_17 : decode cX11_peace 17 = .ok (.iconst 1, 1) := by decide +kernel
theorem dX11_peace_18 : decode cX11_peace 18 = .ok (.aload_n 0, 1) := by decide +kernel
theorem dX11_peace_19 : decode cX11_peace 19 = .ok (.getfield 73, 3) := by decide +kernel
theorem dX11_peace_22 : decode cX11_peace 22 = .ok (.invokevirtual 98, 3) := by decide +kernel
theorem dX11_peace_25 : decode cX11_peace 25 = .ok (.ishl, 1) := by decide +kernel
theorem dX11_peace_26 : decode cX11_peace 26 = .ok (.if_icmp .ge 34, 3) := by decide +kernel
theorem dX11_peace_29 : decode cX11_peace 29 = .ok (.iload_n 3, 1) := by decide +kernel
theorem dX11_peace_30 : decode cX11_peace 30 = .ok (.invokestatic 285, 3) := by decide +kernel
theorem dX11_peace_33 : decode cX11_peace 33 = .ok (.iload_n 2, 1) := by decide +kernel
theorem dX11_peace_34 : decode cX11_peace 34 = .ok (.invokestatic 285, 3) := by decide +kernel
theorem dX11_peace_37 : decode cX11_peace 37 = .ok (.if_icmp .le 17, 3) := by decide +kernel
theorem dX11_peace_40 : decode cX11_peace 40 = .ok (.aload_n 0, 1) := by decide +kernel
theorem dX11_peace_41 : decode cX11_peace 41 = .ok (.getfield 73, 3) := by decide +kernel
theorem dX11_peace_44 : decode cX11_peace 44 = .ok (.iload_n 3, 1) := by decide +kernel
theorem dX11_peace_45 : decode cX11_peace 45 = .ok (.iload_n 1, 1) := by decide +kernel
theorem dX11_peace_46 : decode cX11_peace 46 = .ok (.invokevirtual 326, 3) := by decide +kernel
theorem dX11_peace_49 : decode cX11_peace 49 = .ok (.ifCond .eq 5, 3) := by decide +kernel
theorem dX11_peace_52 : decode cX11_peace 52 = .ok (.iload_n 3, 1) := by decide +kernel
theorem dX11_peace_53 : decode cX11_peace 53 = .ok (.istore_n 2, 1) := by decide +kernel
theorem dX11_peace_54 : decode cX11_peace 54 = .ok (.iinc 3 1, 3) := by decide +kernel
theorem dX11_peace_57 : decode cX11_peace 57 = .ok (.goto (-41), 3) := by decide +kernel
theorem dX11_peace_60 : decode cX11_peace 60 = .ok (.aload_n 0, 1) := by decide +kernel
theorem dX11_peace_61 : decode cX11_peace 61 = .ok (.getfield 69, 3) := by decide +kernel
theorem dX11_peace_64 : decode cX11_peace 64 = .ok (.invokevirtual 242, 3) := by decide +kernel
theorem dX11_peace_67 : decode cX11_peace 67 = .ok (.aload_n 0, 1) := by decide +kernel
theorem dX11_peace_68 : decode cX11_peace 68 = .ok (.getfield 69, 3) := by decide +kernel
theorem dX11_peace_71 : decode cX11_peace 71 = .ok (.iload_n 2, 1) := by decide +kernel
theorem dX11_peace_72 : decode cX11_peace 72 = .ok (.i2l, 1) := by decide +kernel
theorem dX11_peace_73 : decode cX11_peace 73 = .ok (.invokevirtual 248, 3) := by decide +kernel
theorem dX11_peace_76 : decode cX11_peace 76 = .ok (.iload_n 2, 1) := by decide +kernel
theorem dX11_peace_77 : decode cX11_peace 77 = .ok (.invokestatic 285, 3) := by decide +kernel
theorem dX11_peace_80 : decode cX11_peace 80 = .ok (.ireturn, 1) := by decide +kernel
theorem dX11_pulls_0 : decode cX11_pulls 0 = .ok (.iload_n 1, 1) := by decide +kernel
theorem dX11_pulls_1 : decode cX11_pulls 1 = .ok (.ifCond .lt 16, 3) := by decide +kernel
theorem dX11_pulls_4 : decode cX11_pulls 4 = .ok (.iload_n 1, 1) := by decide +kernel
theorem dX11_pulls_5 : decode cX11_pulls 5 = .ok (.iconst 1, 1) := by decide +kernel
theorem dX11_pulls_6 : decode cX11_pulls 6 = .ok (.aload_n 0, 1) := by decide +kernel
theorem dX11_pulls_7 : decode cX11_pulls 7 = .ok (.getfield 73, 3) := by decide +kernel
theorem dX11_pulls_10 : decode cX11_pulls 10 = .ok (.invokevirtual 98, 3) := by decide +kernel
theorem dX11_pulls_13 : decode cX11_pulls 13 = .ok (.ishl, 1) := by decide +kernel
theorem dX11_pulls_14 : decode cX11_pulls 14 = .ok (.if_icmp .lt 5, 3) := by decide +kernel
theorem dX11_pulls_17 : decode cX11_pulls 17 = .ok (.iconst (-1), 1) := by decide +kernel
theorem dX11_pulls_18 : decode cX11_pulls 18 = .ok (.ireturn, 1) := by decide +kernel
theorem dX11_pulls_19 : decode cX11_pulls 19 = .ok (.iconst 0, 1) := by decide +kernel
theorem dX11_pulls_20 : decode cX11_pulls 20 = .ok (.istore_n 2, 1) := by decide +kernel
theorem dX11_pulls_21 : decode cX11_pulls 21 = .ok (.aload_n 0, 1) := by decide +kernel
theorem dX11_pulls_22 : decode cX11_pulls 22 = .ok (.getfield 69, 3) := by decide +kernel
theorem dX11_pulls_25 : decode cX11_pulls 25 = .ok (.invokevirtual 242, 3) := by decide +kernel
theorem dX11_pulls_28 : decode cX11_pulls 28 = .ok (.iconst 0, 1) := by decide +kernel
theorem dX11_pulls_29 : decode cX11_pulls 29 = .ok (.istore_n 3, 1) := by decide +kernel
theorem dX11_pulls_30 : decode cX11_pulls 30 = .ok (.iload_n 3, 1) := by decide +kernel
theorem dX11_pulls_31 : decode cX11_pulls 31 = .ok (.iconst 4, 1) := by decide +kernel
theorem dX11_pulls_32 : decode cX11_pulls 32 = .ok (.if_icmp .ge 45, 3) := by decide +kernel
theorem dX11_pulls_35 : decode cX11_pulls 35 = .ok (.aload_n 0, 1) := by decide +kernel
theorem dX11_pulls_36 : decode cX11_pulls 36 = .ok (.getfield 73, 3) := by decide +kernel
theorem dX11_pulls_39 : decode cX11_pulls 39 = .ok (.iload_n 1, 1) := by decide +kernel
theorem dX11_pulls_40 : decode cX11_pulls 40 = .ok (.iload_n 3, 1) := by decide +kernel
theorem dX11_pulls_41 : decode cX11_pulls 41 = .ok (.invokevirtual 329, 3) := by decide +kernel
theorem dX11_pulls_44 : decode cX11_pulls 44 = .ok (.istore 4, 2) := by decide +kernel
theorem dX11_pulls_46 : decode cX11_pulls 46 = .ok (.aload_n 0, 1) := by decide +kernel
theorem dX11_pulls_47 : decode cX11_pulls 47 = .ok (.getfield 69, 3) := by decide +kernel
theorem dX11_pulls_50 : decode cX11_pulls 50 = .ok (.iload 4, 2) := by decide +kernel
theorem dX11_pulls_52 : decode cX11_pulls 52 = .ok (.i2l, 1) := by decide +kernel
theorem dX11_pulls_53 : decode cX11_pulls 53 = .ok (.invokevirtual 248, 3) := by decide +kernel
theorem dX11_pulls_56 : decode cX11_pulls 56 = .ok (.iload_n 2, 1) := by decide +kernel
theorem dX11_pulls_57 : decode cX11_pulls 57 = .ok (.iload 4, 2) := by decide +kernel
theorem dX11_pulls_59 : decode cX11_pulls 59 = .ok (.ifCond .lt 9, 3) := by decide +kernel
theorem dX11_pulls_62 : decode cX11_pulls 62 = .ok (.iconst 1, 1) := by decide +kernel
theorem dX11_pulls_63 : decode cX11_pulls 63 = .ok (.iload_n 3, 1) := by decide +kernel
theorem dX11_pulls_64 : decode cX11_pulls 64 = .ok (.ishl, 1) := by decide +kernel
theorem dX11_pulls_65 : decode cX11_pulls 65 = .ok (.goto 4, 3) := by decide +kernel
theorem dX11_pulls_68 : decode cX11_pulls 68 = .ok (.iconst 0, 1) := by decide +kernel
theorem dX11_pulls_69 : decode cX11_pulls 69 = .ok (.ior, 1) := by decide +kernel
theorem dX11_pulls_70 : decode cX11_pulls 70 = .ok (.istore_n 2, 1) := by decide +kernel
theorem dX11_pulls_71 : decode cX11_pulls 71 = .ok (.iinc 3 1, 3) := by decide +kernel
theorem dX11_pulls_74 : decode cX11_pulls 74 = .ok (.goto (-44), 3) := by decide +kernel
theorem dX11_pulls_77 : decode cX11_pulls 77 = .ok (.iload_n 2, 1) := by decide +kernel
theorem dX11_pulls_78 : decode cX11_pulls 78 = .ok (.ireturn, 1) := by decide +kernel
theorem dX11_seen_0 : decode cX11_seen 0 = .ok (.iload_n 1, 1) := by decide +kernel
theorem dX11_seen_1 : decode cX11_seen 1 = .ok (.iconst 0, 1) := by decide +kernel
theorem dX11_seen_2 : decode cX11_seen 2 = .ok (.bipush 30, 2) := by decide +kernel
theorem dX11_seen_4 : decode cX11_seen 4 = .ok (.invokestatic 164, 3) := by decide +kernel
theorem dX11_seen_7 : decode cX11_seen 7 = .ok (.ifCond .eq 22, 3) := by decide +kernel
theorem dX11_seen_10 : decode cX11_seen 10 = .ok (.iload_n 2, 1) := by decide +kernel
theorem dX11_seen_11 : decode cX11_seen 11 = .ok (.iconst 0, 1) := by decide +kernel
theorem dX11_seen_12 : decode cX11_seen 12 = .ok (.iconst 3, 1) := by decide +kernel
theorem dX11_seen_13 : decode cX11_seen 13 = .ok (.invokestatic 164, 3) := by decide +kernel
theorem dX11_seen_16 : decode cX11_seen 16 = .ok (.ifCond .eq 13, 3) := by decide +kernel
theorem dX11_seen_19 : decode cX11_seen 19 = .ok (.iload_n 3, 1) := by decide +kernel
theorem dX11_seen_20 : decode cX11_seen 20 = .ok (.iconst 0, 1) := by decide +kernel
theorem dX11_seen_21 : decode cX11_seen 21 = .ok (.bipush 9, 2) := by decide +kernel
theorem dX11_seen_23 : decode cX11_seen 23 = .ok (.invokestatic 164, 3) := by decide +kernel
theorem dX11_seen_26 : decode cX11_seen 26 = .ok (.ifCond .ne 5, 3) := by decide +kernel
theorem dX11_seen_29 : decode cX11_seen 29 = .ok (.iconst (-1), 1) := by decide +kernel
theorem dX11_seen_30 : decode cX11_seen 30 = .ok (.ireturn, 1) := by decide +kernel
theorem dX11_seen_31 : decode cX11_seen 31 = .ok (.aload_n 0, 1) := by decide +kernel
theorem dX11_seen_32 : decode cX11_seen 32 = .ok (.getfield 65, 3) := by decide +kernel
theorem dX11_seen_35 : decode cX11_seen 35 = .ok (.iload_n 1, 1) := by decide +kernel
theorem dX11_seen_36 : decode cX11_seen 36 = .ok (.iload_n 2, 1) := by decide +kernel
theorem dX11_seen_37 : decode cX11_seen 37 = .ok (.iload_n 3, 1) := by decide +kernel
theorem dX11_seen_38 : decode cX11_seen 38 = .ok (.invokevirtual 332, 3) := by decide +kernel
theorem dX11_seen_41 : decode cX11_seen 41 = .ok (.ifCond .eq 13, 3) := by decide +kernel
theorem dX11_seen_44 : decode cX11_seen 44 = .ok (.aload_n 0, 1) := by decide +kernel
theorem dX11_seen_45 : decode cX11_seen 45 = .ok (.getfield 65, 3) := by decide +kernel
theorem dX11_seen_48 : decode cX11_seen 48 = .ok (.invokevirtual 335, 3) := by decide +kernel
theorem dX11_seen_51 : decode cX11_seen 51 = .ok (.goto 4, 3) := by decide +kernel
theorem dX11_seen_54 : decode cX11_seen 54 = .ok (.iconst (-1), 1) := by decide +kernel
theorem dX11_seen_55 : decode cX11_seen 55 = .ok (.ireturn, 1) := by decide +kernel
theorem dX11_forget_0 : decode cX11_forget 0 = .ok (.aload_n 0, 1) := by decide +kernel
theorem dX11_forget_1 : decode cX11_forget 1 = .ok (.getfield 65, 3) := by decide +kernel
theorem dX11_forget_4 : decode cX11_forget 4 = .ok (.invokevirtual 338, 3) := by decide +kernel
theorem dX11_forget_7 : decode cX11_forget 7 = .ok (.ireturn, 1) := by decide +kernel
theorem dX11_fits_0 : decode cX11_fits 0 = .ok (.aload_n 0, 1) := by decide +kernel
theorem dX11_fits_1 : decode cX11_fits 1 = .ok (.getfield 73, 3) := by decide +kernel
theorem dX11_fits_4 : decode cX11_fits 4 = .ok (.iload_n 1, 1) := by decide +kernel
theorem dX11_fits_5 : decode cX11_fits 5 = .ok (.invokevirtual 184, 3) := by decide +kernel
theorem dX11_fits_8 : decode cX11_fits 8 = .ok (.ifCond .ne 5, 3) := by decide +kernel
theorem dX11_fits_11 : decode cX11_fits 11 = .ok (.iconst (-1), 1) := by decide +kernel
theorem dX11_fits_12 : decode cX11_fits 12 = .ok (.ireturn, 1) := by decide +kernel
theorem dX11_fits_13 : decode cX11_fits 13 = .ok (.aload_n 0, 1) := by decide +kernel
theorem dX11_fits_14 : decode cX11_fits 14 = .ok (.getfield 65, 3) := by decide +kernel
theorem dX11_fits_17 : decode cX11_fits 17 = .ok (.iload_n 1, 1) := by decide +kernel
theorem dX11_fits_18 : decode cX11_fits 18 = .ok (.invokevirtual 341, 3) := by decide +kernel
theorem dX11_fits_21 : decode cX11_fits 21 = .ok (.istore_n 2, 1) := by decide +kernel
theorem dX11_fits_22 : decode cX11_fits 22 = .ok (.aload_n 0, 1) := by decide +kernel
theorem dX11_fits_23 : decode cX11_fits 23 = .ok (.getfield 69, 3) := by decide +kernel
theorem dX11_fits_26 : decode cX11_fits 26 = .ok (.invokevirtual 242, 3) := by decide +kernel
theorem dX11_fits_29 : decode cX11_fits 29 = .ok (.aload_n 0, 1) := by decide +kernel
theorem dX11_fits_30 : decode cX11_fits 30 = .ok (.getfield 69, 3) := by decide +kernel
theorem dX11_fits_33 : decode cX11_fits 33 = .ok (.iload_n 2, 1) := by decide +kernel
theorem dX11_fits_34 : decode cX11_fits 34 = .ok (.invokestatic 285, 3) := by decide +kernel
theorem dX11_fits_37 : decode cX11_fits 37 = .ok (.i2l, 1) := by decide +kernel
theorem dX11_fits_38 : decode cX11_fits 38 = .ok (.invokevirtual 248, 3) := by decide +kernel
theorem dX11_fits_41 : decode cX11_fits 41 = .ok (.aload_n 0, 1) := by decide +kernel
theorem dX11_fits_42 : decode cX11_fits 42 = .ok (.getfield 69, 3) := by decide +kernel
theorem dX11_fits_45 : decode cX11_fits 45 = .ok (.aload_n 0, 1) := by decide +kernel
theorem dX11_fits_46 : decode cX11_fits 46 = .ok (.getfield 65, 3) := by decide +kernel
theorem dX11_fits_49 : decode cX11_fits 49 = .ok (.iload_n 1, 1) := by decide +kernel
theorem dX11_fits_50 : decode cX11_fits 50 = .ok (.invokevirtual 344, 3) := by decide +kernel
theorem dX11_fits_53 : decode cX11_fits 53 = .ok (.ifCond .eq 7, 3) := by decide +kernel
theorem dX11_fits_56 : decode cX11_fits 56 = .ok (.lconst 1, 1) := by decide +kernel
theorem dX11_fits_57 : decode cX11_fits 57 = .ok (.goto 4, 3) := by decide +kernel
theorem dX11_fits_60 : decode cX11_fits 60 = .ok (.lconst 0, 1) := by decide +kernel
theorem dX11_fits_61 : decode cX11_fits 61 = .ok (.invokevirtual 248, 3) := by decide +kernel
theorem dX11_fits_64 : decode cX11_fits 64 = .ok (.iload_n 2, 1) := by decide +kernel
theorem dX11_fits_65 : decode cX11_fits 65 = .ok (.ireturn, 1) := by decide +kernel
theorem dX11_looks_0 : decode cX11_looks 0 = .ok (.aload_n 0, 1) := by decide +kernel
theorem dX11_looks_1 : decode cX11_looks 1 = .ok (.getfield 73, 3) := by decide +kernel
theorem dX11_looks_4 : decode cX11_looks 4 = .ok (.iload_n 1, 1) := by decide +kernel
theorem dX11_looks_5 : decode cX11_looks 5 = .ok (.invokevirtual 184, 3) := by decide +kernel
theorem dX11_looks_8 : decode cX11_looks 8 = .ok (.ifCond .eq 13, 3) := by decide +kernel
theorem dX11_looks_11 : decode cX11_looks 11 = .ok (.iload_n 2, 1) := by decide +kernel
theorem dX11_looks_12 : decode cX11_looks 12 = .ok (.iconst 0, 1) := by decide +kernel
theorem dX11_looks_13 : decode cX11_looks 13 = .ok (.bipush 30, 2) := by decide +kernel
theorem dX11_looks_15 : decode cX11_looks 15 = .ok (.invokestatic 164, 3) := by decide +kernel
theorem dX11_looks_18 : decode cX11_looks 18 = .ok (.ifCond .ne 5, 3) := by decide +kernel
theorem dX11_looks_21 : decode cX11_looks 21 = .ok (.iconst (-1), 1) := by decide +kernel
theorem dX11_looks_22 : decode cX11_looks 22 = .ok (.ireturn, 1) := by decide +kernel
theorem dX11_looks_23 : decode cX11_looks 23 = .ok (.aload_n 0, 1) := by decide +kernel
theorem dX11_looks_24 : decode cX11_looks 24 = .ok (.getfield 65, 3) := by decide +kernel
theorem dX11_looks_27 : decode cX11_looks 27 = .ok (.iload_n 1, 1) := by decide +kernel
theorem dX11_looks_28 : decode cX11_looks 28 = .ok (.invokevirtual 341, 3) := by decide +kernel
theorem dX11_looks_31 : decode cX11_looks 31 = .ok (.istore_n 3, 1) := by decide +kernel
theorem dX11_looks_32 : decode cX11_looks 32 = .ok (.iload_n 3, 1) := by decide +kernel
theorem dX11_looks_33 : decode cX11_looks 33 = .ok (.ifCond .ne 8, 3) := by decide +kernel
theorem dX11_looks_36 : decode cX11_looks 36 = .ok (.bipush (-2), 2) := by decide +kernel
theorem dX11_looks_38 : decode cX11_looks 38 = .ok (.goto 13, 3) := by decide +kernel
theorem dX11_looks_41 : decode cX11_looks 41 = .ok (.aload_n 0, 1) := by decide +kernel
theorem dX11_looks_42 : decode cX11_looks 42 = .ok (.getfield 65, 3) := by decide +kernel
theorem dX11_looks_45 : decode cX11_looks 45 = .ok (.iload_n 1, 1) := by decide +kernel
theorem dX11_looks_46 : decode cX11_looks 46 = .ok (.iload_n 2, 1) := by decide +kernel
theorem dX11_looks_47 : decode cX11_looks 47 = .ok (.iload_n 3, 1) := by decide +kernel
theorem dX11_looks_48 : decode cX11_looks 48 = .ok (.invokevirtual 347, 3) := by decide +kernel
theorem dX11_looks_51 : decode cX11_looks 51 = .ok (.ireturn, 1) := by decide +kernel
theorem dX11_covers_0 : decode cX11_covers 0 = .ok (.iload_n 1, 1) := by decide +kernel
theorem dX11_covers_1 : decode cX11_covers 1 = .ok (.iconst 0, 1) := by decide +kernel
theorem dX11_covers_2 : decode cX11_covers 2 = .ok (.bipush 20, 2) := by decide +kernel
theorem dX11_covers_4 : decode cX11_covers 4 = .ok (.invokestatic 164, 3) := by decide +kernel
theorem dX11_covers_7 : decode cX11_covers 7 = .ok (.ifCond .eq 14, 3) := by decide +kernel
theorem dX11_covers_10 : decode cX11_covers 10 = .ok (.aload_n 0, 1) := by decide +kernel
theorem dX11_covers_11 : decode cX11_covers 11 = .ok (.getfield 65, 3) := by decide +kernel
theorem dX11_covers_14 : decode cX11_covers 14 = .ok (.iload_n 1, 1) := by decide +kernel
theorem dX11_covers_15 : decode cX11_covers 15 = .ok (.invokevirtual 350, 3) := by decide +kernel
theorem dX11_covers_18 : decode cX11_covers 18 = .ok (.goto 4, 3) := by decide +kernel
theorem dX11_covers_21 : decode cX11_covers 21 = .ok (.iconst (-1), 1) := by decide +kernel
theorem dX11_covers_22 : decode cX11_covers 22 = .ok (.ireturn, 1) := by decide +kernel
theorem dX11_shares_0 : decode cX11_shares 0 = .ok (.iload_n 1, 1) := by decide +kernel
theorem dX11_shares_1 : decode cX11_shares 1 = .ok (.iconst 0, 1) := by decide +kernel
theorem dX11_shares_2 : decode cX11_shares 2 = .ok (.bipush 20, 2) := by decide +kernel
theorem dX11_shares_4 : decode cX11_shares 4 = .ok (.invokestatic 164, 3) := by decide +kernel
theorem dX11_shares_7 : decode cX11_shares 7 = .ok (.ifCond .ne 5, 3) := by decide +kernel
theorem dX11_shares_10 : decode cX11_shares 10 = .ok (.iconst (-1), 1) := by decide +kernel
theorem dX11_shares_11 : decode cX11_shares 11 = .ok (.ireturn, 1) := by decide +kernel
theorem dX11_shares_12 : decode cX11_shares 12 = .ok (.aload_n 0, 1) := by decide +kernel
theorem dX11_shares_13 : decode cX11_shares 13 = .ok (.getfield 65, 3) := by decide +kernel
theorem dX11_shares_16 : decode cX11_shares 16 = .ok (.iload_n 1, 1) := by decide +kernel
theorem dX11_shares_17 : decode cX11_shares 17 = .ok (.invokevirtual 353, 3) := by decide +kernel
theorem dX11_shares_20 : decode cX11_shares 20 = .ok (.aload_n 0, 1) := by decide +kernel
theorem dX11_shares_21 : decode cX11_shares 21 = .ok (.getfield 65, 3) := by decide +kernel
theorem dX11_shares_24 : decode cX11_shares 24 = .ok (.invokevirtual 356, 3) := by decide +kernel
theorem dX11_shares_27 : decode cX11_shares 27 = .ok (.iadd, 1) := by decide +kernel
theorem dX11_shares_28 : decode cX11_shares 28 = .ok (.ireturn, 1) := by decide +kernel
theorem dX11_counter_0 : decode cX11_counter 0 = .ok (.iload_n 1, 1) := by decide +kernel
theorem dX11_counter_1 : decode cX11_counter 1 = .ok (.iconst 0, 1) := by decide +kernel
theorem dX11_counter_2 : decode cX11_counter 2 = .ok (.bipush 99, 2) := by decide +kernel
theorem dX11_counter_4 : decode cX11_counter 4 = .ok (.invokestatic 164, 3) := by decide +kernel
theorem dX11_counter_7 : decode cX11_counter 7 = .ok (.ifCond .eq 13, 3) := by decide +kernel
theorem dX11_counter_10 : decode cX11_counter 10 = .ok (.iload_n 2, 1) := by decide +kernel
theorem dX11_counter_11 : decode cX11_counter 11 = .ok (.iconst 0, 1) := by decide +kernel
theorem dX11_counter_12 : decode cX11_counter 12 = .ok (.bipush 99, 2) := by decide +kernel
theorem dX11_counter_14 : decode cX11_counter 14 = .ok (.invokestatic 164, 3) := by decide +kernel
theorem dX11_counter_17 : decode cX11_counter 17 = .ok (.ifCond .ne 5, 3) := by decide +kernel
theorem dX11_counter_20 : decode cX11_counter 20 = .ok (.iconst (-1), 1) := by decide +kernel
theorem dX11_counter_21 : decode cX11_counter 21 = .ok (.ireturn, 1) := by decide +kernel
theorem dX11_counter_22 : decode cX11_counter 22 = .ok (.iload_n 1, 1) := by decide +kernel
theorem dX11_counter_23 : decode cX11_counter 23 = .ok (.ifCond .eq 7, 3) := by decide +kernel
theorem dX11_counter_26 : decode cX11_counter 26 = .ok (.iload_n 2, 1) := by decide +kernel
theorem dX11_counter_27 : decode cX11_counter 27 = .ok (.ifCond .ne 6, 3) := by decide +kernel
theorem dX11_counter_30 : decode cX11_counter 30 = .ok (.bipush (-2), 2) := by decide +kernel
theorem dX11_counter_32 : decode cX11_counter 32 = .ok (.ireturn, 1) := by decide +kernel
theorem dX11_counter_33 : decode cX11_counter 33 = .ok (.iload_n 1, 1) := by decide +kernel
theorem dX11_counter_34 : decode cX11_counter 34 = .ok (.iload_n 2, 1) := by decide +kernel
theorem dX11_counter_35 : decode cX11_counter 35 = .ok (.invokestatic 359, 3) := by decide +kernel
theorem dX11_counter_38 : decode cX11_counter 38 = .ok (.istore_n 3, 1) := by decide +kernel
theorem dX11_counter_39 : decode cX11_counter 39 = .ok (.iload_n 1, 1) := by decide +kernel
theorem dX11_counter_40 : decode cX11_counter 40 = .ok (.iload_n 2, 1) := by decide +kernel
theorem dX11_counter_41 : decode cX11_counter 41 = .ok (.invokestatic 362, 3) := by decide +kernel
theorem dX11_counter_44 : decode cX11_counter 44 = .ok (.istore 4, 2) := by decide +kernel
theorem dX11_counter_46 : decode cX11_counter 46 = .ok (.aload_n 0, 1) := by decide +kernel
theorem dX11_counter_47 : decode cX11_counter 47 = .ok (.getfield 69, 3) := by decide +kernel
theorem dX11_counter_50 : decode cX11_counter 50 = .ok (.invokevirtual 242, 3) := by decide +kernel
theorem dX11_counter_53 : decode cX11_counter 53 = .ok (.iconst 1, 1) := by decide +kernel
theorem dX11_counter_54 : decode cX11_counter 54 = .ok (.istore 5, 2) := by decide +kernel
theorem dX11_counter_56 : decode cX11_counter 56 = .ok (.iload 5, 2) := by decide +kernel
theorem dX11_counter_58 : decode cX11_counter 58 = .ok (.iload 4, 2) := by decide +kernel
theorem dX11_counter_60 : decode cX11_counter 60 = .ok (.imul, 1) := by decide +kernel
theorem dX11_counter_61 : decode cX11_counter 61 = .ok (.iload_n 3, 1) := by decide +kernel
theorem dX11_counter_62 : decode cX11_counter 62 = .ok (.if_icmp .gt 36, 3) := by decide +kernel
theorem dX11_counter_65 : decode cX11_counter 65 = .ok (.iload_n 3, 1) := by decide +kernel
theorem dX11_counter_66 : decode cX11_counter 66 = .ok (.iload 5, 2) := by decide +kernel
theorem dX11_counter_68 : decode cX11_counter 68 = .ok (.iload 4, 2) := by decide +kernel
theorem dX11_counter_70 : decode cX11_counter 70 = .ok (.imul, 1) := by decide +kernel
theorem dX11_counter_71 : decode cX11_counter 71 = .ok (.isub, 1) := by decide +kernel
theorem dX11_counter_72 : decode cX11_counter 72 = .ok (.iload 4, 2) := by decide +kernel
theorem dX11_counter_74 : decode cX11_counter 74 = .ok (.invokestatic 365, 3) := by decide +kernel
theorem dX11_counter_77 : decode cX11_counter 77 = .ok (.ifCond .ne 15, 3) := by decide +kernel
theorem dX11_counter_80 : decode cX11_counter 80 = .ok (.aload_n 0, 1) := by decide +kernel
theorem dX11_counter_81 : decode cX11_counter 81 = .ok (.getfield 69, 3) := by decide +kernel
theorem dX11_counter_84 : decode cX11_counter 84 = .ok (.iload 5, 2) := by decide +kernel
theorem dX11_counter_86 : decode cX11_counter 86 = .ok (.i2l, 1) := by decide +kernel
theorem dX11_counter_87 : decode cX11_counter 87 = .ok (.invokevirtual 248, 3) := by decide +kernel
theorem dX11_counter_90 : decode cX11_counter 90 = .ok (.iconst 1, 1) := by decide +kernel
theorem dX11_counter_91 : decode cX11_counter 91 = .ok (.ireturn, 1) := by decide +kernel
theorem dX11_counter_92 : decode cX11_counter 92 = .ok (.iinc 5 1, 3) := by decide +kernel
theorem dX11_counter_95 : decode cX11_counter 95 = .ok (.goto (-39), 3) := by decide +kernel
theorem dX11_counter_98 : decode cX11_counter 98 = .ok (.iconst 0, 1) := by decide +kernel
theorem dX11_counter_99 : decode cX11_counter 99 = .ok (.ireturn, 1) := by decide +kernel
theorem dX11_winsAt_0 : decode cX11_winsAt 0 = .ok (.iload_n 0, 1) := by decide +kernel
theorem dX11_winsAt_1 : decode cX11_winsAt 1 = .ok (.iload_n 1, 1) := by decide +kernel
theorem dX11_winsAt_2 : decode cX11_winsAt 2 = .ok (.invokestatic 359, 3) := by decide +kernel
theorem dX11_winsAt_5 : decode cX11_winsAt 5 = .ok (.istore_n 2, 1) := by decide +kernel
theorem dX11_winsAt_6 : decode cX11_winsAt 6 = .ok (.iload_n 0, 1) := by decide +kernel
theorem dX11_winsAt_7 : decode cX11_winsAt 7 = .ok (.iload_n 1, 1) := by decide +kernel
theorem dX11_winsAt_8 : decode cX11_winsAt 8 = .ok (.invokestatic 362, 3) := by decide +kernel
theorem dX11_winsAt_11 : decode cX11_winsAt 11 = .ok (.istore_n 3, 1) := by decide +kernel
theorem dX11_winsAt_12 : decode cX11_winsAt 12 = .ok (.iconst 1, 1) := by decide +kernel
theorem dX11_winsAt_13 : decode cX11_winsAt 13 = .ok (.istore 4, 2) := by decide +kernel
theorem dX11_winsAt_15 : decode cX11_winsAt 15 = .ok (.iconst 0, 1) := by decide +kernel
theorem dX11_winsAt_16 : decode cX11_winsAt 16 = .ok (.istore 5, 2) := by decide +kernel
theorem dX11_winsAt_18 : decode cX11_winsAt 18 = .ok (.iload 5, 2) := by decide +kernel
theorem dX11_winsAt_20 : decode cX11_winsAt 20 = .ok (.sipush 1000, 3) := by decide +kernel
theorem dX11_winsAt_23 : decode cX11_winsAt 23 = .ok (.if_icmp .ge 42, 3) := by decide +kernel
theorem dX11_winsAt_26 : decode cX11_winsAt 26 = .ok (.iload_n 3, 1) := by decide +kernel
theorem dX11_winsAt_27 : decode cX11_winsAt 27 = .ok (.ifCond .le 38, 3) := by decide +kernel
theorem dX11_winsAt_30 : decode cX11_winsAt 30 = .ok (.iload_n 2, 1) := by decide +kernel
theorem dX11_winsAt_31 : decode cX11_winsAt 31 = .ok (.iconst 2, 1) := by decide +kernel
theorem dX11_winsAt_32 : decode cX11_winsAt 32 = .ok (.iload_n 3, 1) := by decide +kernel
theorem dX11_winsAt_33 : decode cX11_winsAt 33 = .ok (.imul, 1) := by decide +kernel
theorem dX11_winsAt_34 : decode cX11_winsAt 34 = .ok (.if_icmp .ge 31, 3) := by decide +kernel
theorem dX11_winsAt_37 : decode cX11_winsAt 37 = .ok (.iload_n 2, 1) := by decide +kernel
theorem dX11_winsAt_38 : decode cX11_winsAt 38 = .ok (.iload_n 3, 1) := by decide +kernel
theorem dX11_winsAt_39 : decode cX11_winsAt 39 = .ok (.isub, 1) := by decide +kernel
theorem dX11_winsAt_40 : decode cX11_winsAt 40 = .ok (.istore 6, 2) := by decide +kernel
theorem dX11_winsAt_42 : decode cX11_winsAt 42 = .ok (.iload_n 3, 1) := by decide +kernel
theorem dX11_winsAt_43 : decode cX11_winsAt 43 = .ok (.istore_n 2, 1) := by decide +kernel
theorem dX11_winsAt_44 : decode cX11_winsAt 44 = .ok (.iload 6, 2) := by decide +kernel
theorem dX11_winsAt_46 : decode cX11_winsAt 46 = .ok (.istore_n 3, 1) := by decide +kernel
theorem dX11_winsAt_47 : decode cX11_winsAt 47 = .ok (.iload 4, 2) := by decide +kernel
theorem dX11_winsAt_49 : decode cX11_winsAt 49 = .ok (.ifCond .ne 7, 3) := by decide +kernel
theorem dX11_winsAt_52 : decode cX11_winsAt 52 = .ok (.iconst 1, 1) := by decide +kernel
theorem dX11_winsAt_53 : decode cX11_winsAt 53 = .ok (.goto 4, 3) := by decide +kernel
theorem dX11_winsAt_56 : decode cX11_winsAt 56 = .ok (.iconst 0, 1) := by decide +kernel
theorem dX11_winsAt_57 : decode cX11_winsAt 57 = .ok (.istore 4, 2) := by decide +kernel
theorem dX11_winsAt_59 : decode cX11_winsAt 59 = .ok (.iinc 5 1, 3) := by decide +kernel
theorem dX11_winsAt_62 : decode cX11_winsAt 62 = .ok (.goto (-44), 3) := by decide +kernel
theorem dX11_winsAt_65 : decode cX11_winsAt 65 = .ok (.iload_n 3, 1) := by decide +kernel
theorem dX11_winsAt_66 : decode cX11_winsAt 66 = .ok (.ifCond .le 8, 3) := by decide +kernel
theorem dX11_winsAt_69 : decode cX11_winsAt 69 = .ok (.iload 4, 2) := by decide +kernel
theorem dX11_winsAt_71 : decode cX11_winsAt 71 = .ok (.goto 13, 3) := by decide +kernel
theorem dX11_winsAt_74 : decode cX11_winsAt 74 = .ok (.iload 4, 2) := by decide +kernel
theorem dX11_winsAt_76 : decode cX11_winsAt 76 = .ok (.ifCond .ne 7, 3) := by decide +kernel
theorem dX11_winsAt_79 : decode cX11_winsAt 79 = .ok (.iconst 1, 1) := by decide +kernel
theorem dX11_winsAt_80 : decode cX11_winsAt 80 = .ok (.goto 4, 3) := by decide +kernel
theorem dX11_winsAt_83 : decode cX11_winsAt 83 = .ok (.iconst 0, 1) := by decide +kernel
theorem dX11_winsAt_84 : decode cX11_winsAt 84 = .ok (.ireturn, 1) := by decide +kernel
theorem dX11_right_0 : decode cX11_right 0 = .ok (.iload_n 1, 1) := by decide +kernel
theorem dX11_right_1 : decode cX11_right 1 = .ok (.iconst 1, 1) := by decide +kernel
theorem dX11_right_2 : decode cX11_right 2 = .ok (.bipush 8, 2) := by decide +kernel
theorem dX11_right_4 : decode cX11_right 4 = .ok (.invokestatic 164, 3) := by decide +kernel
theorem dX11_right_7 : decode cX11_right 7 = .ok (.ifCond .eq 13, 3) := by decide +kernel
theorem dX11_right_10 : decode cX11_right 10 = .ok (.iload_n 2, 1) := by decide +kernel
theorem dX11_right_11 : decode cX11_right 11 = .ok (.iconst 0, 1) := by decide +kernel
theorem dX11_right_12 : decode cX11_right 12 = .ok (.bipush 8, 2) := by decide +kernel
theorem dX11_right_14 : decode cX11_right 14 = .ok (.invokestatic 164, 3) := by decide +kernel
theorem dX11_right_17 : decode cX11_right 17 = .ok (.ifCond .ne 5, 3) := by decide +kernel
theorem dX11_right_20 : decode cX11_right 20 = .ok (.iconst (-1), 1) := by decide +kernel
theorem dX11_right_21 : decode cX11_right 21 = .ok (.ireturn, 1) := by decide +kernel
theorem dX11_right_22 : decode cX11_right 22 = .ok (.iload_n 2, 1) := by decide +kernel
theorem dX11_right_23 : decode cX11_right 23 = .ok (.iload_n 1, 1) := by decide +kernel
theorem dX11_right_24 : decode cX11_right 24 = .ok (.if_icmp .le 11, 3) := by decide +kernel
theorem dX11_right_27 : decode cX11_right 27 = .ok (.aload_n 0, 1) := by decide +kernel
theorem dX11_right_28 : decode cX11_right 28 = .ok (.lconst 0, 1) := by decide +kernel
theorem dX11_right_29 : decode cX11_right 29 = .ok (.lconst 1, 1) := by decide +kernel
theorem dX11_right_30 : decode cX11_right 30 = .ok (.invokevirtual 368, 3) := by decide +kernel
theorem dX11_right_33 : decode cX11_right 33 = .ok (.iconst 0, 1) := by decide +kernel
theorem dX11_right_34 : decode cX11_right 34 = .ok (.ireturn, 1) := by decide +kernel
theorem dX11_right_35 : decode cX11_right 35 = .ok (.lconst 1, 1) := by decide +kernel
theorem dX11_right_36 : decode cX11_right 36 = .ok (.lstore_n 3, 1) := by decide +kernel
theorem dX11_right_37 : decode cX11_right 37 = .ok (.lconst 1, 1) := by decide +kernel
theorem dX11_right_38 : decode cX11_right 38 = .ok (.lstore 5, 2) := by decide +kernel
theorem dX11_right_40 : decode cX11_right 40 = .ok (.iconst 1, 1) := by decide +kernel
theorem dX11_right_41 : decode cX11_right 41 = .ok (.istore 7, 2) := by decide +kernel
theorem dX11_right_43 : decode cX11_right 43 = .ok (.iload 7, 2) := by decide +kernel
theorem dX11_right_45 : decode cX11_right 45 = .ok (.iload_n 1, 1) := by decide +kernel
theorem dX11_right_46 : decode cX11_right 46 = .ok (.if_icmp .gt 17, 3) := by decide +kernel
theorem dX11_right_49 : decode cX11_right 49 = .ok (.lload 5, 2) := by decide +kernel
theorem dX11_right_51 : decode cX11_right 51 = .ok (.iload 7, 2) := by decide +kernel
theorem dX11_right_53 : decode cX11_right 53 = .ok (.i2l, 1) := by decide +kernel
theorem dX11_right_54 : decode cX11_right 54 = .ok (.lmul, 1) := by decide +kernel
theorem dX11_right_55 : decode cX11_right 55 = .ok (.lstore 5, 2) := by decide +kernel
theorem dX11_right_57 : decode cX11_right 57 = .ok (.iinc 7 1, 3) := by decide +kernel
theorem dX11_right_60 : decode cX11_right 60 = .ok (.goto (-17), 3) := by decide +kernel
theorem dX11_right_63 : decode cX11_right 63 = .ok (.iconst 1, 1) := by decide +kernel
theorem dX11_right_64 : decode cX11_right 64 = .ok (.istore 7, 2) := by decide +kernel
theorem dX11_right_66 : decode cX11_right 66 = .ok (.iload 7, 2) := by decide +kernel
theorem dX11_right_68 : decode cX11_right 68 = .ok (.iload_n 2, 1) := by decide +kernel
theorem dX11_right_69 : decode cX11_right 69 = .ok (.if_icmp .gt 23, 3) := by decide +kernel
theorem dX11_right_72 : decode cX11_right 72 = .ok (.lload_n 3, 1) := by decide +kernel
theorem dX11_right_73 : decode cX11_right 73 = .ok (.iload_n 1, 1) := by decide +kernel
theorem dX11_right_74 : decode cX11_right 74 = .ok (.iload_n 2, 1) := by decide +kernel
theorem dX11_right_75 : decode cX11_right 75 = .ok (.isub, 1) := by decide +kernel
theorem dX11_right_76 : decode cX11_right 76 = .ok (.iload 7, 2) := by decide +kernel
theorem dX11_right_78 : decode cX11_right 78 = .ok (.iadd, 1) := by decide +kernel
theorem dX11_right_79 : decode cX11_right 79 = .ok (.i2l, 1) := by decide +kernel
theorem dX11_right_80 : decode cX11_right 80 = .ok (.lmul, 1) := by decide +kernel
theorem dX11_right_81 : decode cX11_right 81 = .ok (.iload 7, 2) := by decide +kernel
theorem dX11_right_83 : decode cX11_right 83 = .ok (.i2l, 1) := by decide +kernel
theorem dX11_right_84 : decode cX11_right 84 = .ok (.ldiv, 1) := by decide +kernel
theorem dX11_right_85 : decode cX11_right 85 = .ok (.lstore_n 3, 1) := by decide +kernel
theorem dX11_right_86 : decode cX11_right 86 = .ok (.iinc 7 1, 3) := by decide +kernel
theorem dX11_right_89 : decode cX11_right 89 = .ok (.goto (-23), 3) := by decide +kernel
theorem dX11_right_92 : decode cX11_right 92 = .ok (.aload_n 0, 1) := by decide +kernel
theorem dX11_right_93 : decode cX11_right 93 = .ok (.lload_n 3, 1) := by decide +kernel
theorem dX11_right_94 : decode cX11_right 94 = .ok (.iload_n 1, 1) := by decide +kernel
theorem dX11_right_95 : decode cX11_right 95 = .ok (.iload_n 2, 1) := by decide +kernel
theorem dX11_right_96 : decode cX11_right 96 = .ok (.isub, 1) := by decide +kernel
theorem dX11_right_97 : decode cX11_right 97 = .ok (.invokestatic 372, 3) := by decide +kernel
theorem dX11_right_100 : decode cX11_right 100 = .ok (.lmul, 1) := by decide +kernel
theorem dX11_right_101 : decode cX11_right 101 = .ok (.lload 5, 2) := by decide +kernel
theorem dX11_right_103 : decode cX11_right 103 = .ok (.invokevirtual 368, 3) := by decide +kernel
theorem dX11_right_106 : decode cX11_right 106 = .ok (.iconst 0, 1) := by decide +kernel
theorem dX11_right_107 : decode cX11_right 107 = .ok (.ireturn, 1) := by decide +kernel
theorem dX11_allAstray_0 : decode cX11_allAstray 0 = .ok (.lconst 1, 1) := by decide +kernel
theorem dX11_allAstray_1 : decode cX11_allAstray 1 = .ok (.lstore_n 1, 1) := by decide +kernel
theorem dX11_allAstray_2 : decode cX11_allAstray 2 = .ok (.iconst 1, 1) := by decide +kernel
theorem dX11_allAstray_3 : decode cX11_allAstray 3 = .ok (.istore_n 3, 1) := by decide +kernel
theorem dX11_allAstray_4 : decode cX11_allAstray 4 = .ok (.iload_n 3, 1) := by decide +kernel
theorem dX11_allAstray_5 : decode cX11_allAstray 5 = .ok (.iload_n 0, 1) := by decide +kernel
theorem dX11_allAstray_6 : decode cX11_allAstray 6 = .ok (.if_icmp .gt 27, 3) := by decide +kernel
theorem dX11_allAstray_9 : decode cX11_allAstray 9 = .ok (.lload_n 1, 1) := by decide +kernel
theorem dX11_allAstray_10 : decode cX11_allAstray 10 = .ok (.iload_n 3, 1) := by decide +kernel
theorem dX11_allAstray_11 : decode cX11_allAstray 11 = .ok (.i2l, 1) := by decide +kernel
theorem dX11_allAstray_12 : decode cX11_allAstray 12 = .ok (.lmul, 1) := by decide +kernel
theorem dX11_allAstray_13 : decode cX11_allAstray 13 = .ok (.iload_n 3, 1) := by decide +kernel
theorem dX11_allAstray_14 : decode cX11_allAstray 14 = .ok (.iconst 2, 1) := by decide +kernel
theorem dX11_allAstray_15 : decode cX11_allAstray 15 = .ok (.irem, 1) := by decide +kernel
theorem dX11_allAstray_16 : decode cX11_allAstray 16 = .ok (.ifCond .ne 7, 3) := by decide +kernel
theorem dX11_allAstray_19 : decode cX11_allAstray 19 = .ok (.iconst 1, 1) := by decide +kernel
theorem dX11_allAstray_20 : decode cX11_allAstray 20 = .ok (.goto 4, 3) := by decide +kernel
theorem dX11_allAstray_23 : decode cX11_allAstray 23 = .ok (.iconst (-1), 1) := by decide +kernel
theorem dX11_allAstray_24 : decode cX11_allAstray 24 = .ok (.i2l, 1) := by decide +kernel
theorem dX11_allAstray_25 : decode cX11_allAstray 25 = .ok (.ladd, 1) := by decide +kernel
theorem dX11_allAstray_26 : decode cX11_allAstray 26 = .ok (.lstore_n 1, 1) := by decide +kernel
theorem dX11_allAstray_27 : decode cX11_allAstray 27 = .ok (.iinc 3 1, 3) := by decide +kernel
theorem dX11_allAstray_30 : decode cX11_allAstray 30 = .ok (.goto (-26), 3) := by decide +kernel
theorem dX11_allAstray_33 : decode cX11_allAstray 33 = .ok (.lload_n 1, 1) := by decide +kernel
theorem dX11_allAstray_34 : decode cX11_allAstray 34 = .ok (.lreturn, 1) := by decide +kernel
theorem dX11_same_0 : decode cX11_same 0 = .ok (.iload_n 1, 1) := by decide +kernel
theorem dX11_same_1 : decode cX11_same 1 = .ok (.iconst 1, 1) := by decide +kernel
theorem dX11_same_2 : decode cX11_same 2 = .ok (.iconst 4, 1) := by decide +kernel
theorem dX11_same_3 : decode cX11_same 3 = .ok (.invokestatic 164, 3) := by decide +kernel
theorem dX11_same_6 : decode cX11_same 6 = .ok (.ifCond .ne 5, 3) := by decide +kernel
theorem dX11_same_9 : decode cX11_same 9 = .ok (.iconst (-1), 1) := by decide +kernel
theorem dX11_same_10 : decode cX11_same 10 = .ok (.ireturn, 1) := by decide +kernel
theorem dX11_same_11 : decode cX11_same 11 = .ok (.aload_n 0, 1) := by decide +kernel
theorem dX11_same_12 : decode cX11_same 12 = .ok (.getfield 77, 3) := by decide +kernel
theorem dX11_same_15 : decode cX11_same 15 = .ok (.invokevirtual 213, 3) := by decide +kernel
theorem dX11_same_18 : decode cX11_same 18 = .ok (.istore_n 2, 1) := by decide +kernel
theorem dX11_same_19 : decode cX11_same 19 = .ok (.iload_n 2, 1) := by decide +kernel
theorem dX11_same_20 : decode cX11_same 20 = .ok (.iload_n 1, 1) := by decide +kernel
theorem dX11_same_21 : decode cX11_same 21 = .ok (.if_icmp .ge 6, 3) := by decide +kernel
theorem dX11_same_24 : decode cX11_same 24 = .ok (.bipush (-2), 2) := by decide +kernel
theorem dX11_same_26 : decode cX11_same 26 = .ok (.ireturn, 1) := by decide +kernel
theorem dX11_same_27 : decode cX11_same 27 = .ok (.lconst 0, 1) := by decide +kernel
theorem dX11_same_28 : decode cX11_same 28 = .ok (.lstore_n 3, 1) := by decide +kernel
theorem dX11_same_29 : decode cX11_same 29 = .ok (.iconst 0, 1) := by decide +kernel
theorem dX11_same_30 : decode cX11_same 30 = .ok (.istore 5, 2) := by decide +kernel
theorem dX11_same_32 : decode cX11_same 32 = .ok (.iload 5, 2) := by decide +kernel
theorem dX11_same_34 : decode cX11_same 34 = .ok (.aload_n 0, 1) := by decide +kernel
theorem dX11_same_35 : decode cX11_same 35 = .ok (.getfield 73, 3) := by decide +kernel
theorem dX11_same_38 : decode cX11_same 38 = .ok (.invokevirtual 98, 3) := by decide +kernel
theorem dX11_same_41 : decode cX11_same 41 = .ok (.if_icmp .ge 25, 3) := by decide +kernel
theorem dX11_same_44 : decode cX11_same 44 = .ok (.lload_n 3, 1) := by decide +kernel
theorem dX11_same_45 : decode cX11_same 45 = .ok (.aload_n 0, 1) := by decide +kernel
theorem dX11_same_46 : decode cX11_same 46 = .ok (.getfield 77, 3) := by decide +kernel
theorem dX11_same_49 : decode cX11_same 49 = .ok (.iload 5, 2) := by decide +kernel
theorem dX11_same_51 : decode cX11_same 51 = .ok (.invokevirtual 174, 3) := by decide +kernel
theorem dX11_same_54 : decode cX11_same 54 = .ok (.iload_n 1, 1) := by decide +kernel
theorem dX11_same_55 : decode cX11_same 55 = .ok (.invokestatic 376, 3) := by decide +kernel
theorem dX11_same_58 : decode cX11_same 58 = .ok (.ladd, 1) := by decide +kernel
theorem dX11_same_59 : decode cX11_same 59 = .ok (.lstore_n 3, 1) := by decide +kernel
theorem dX11_same_60 : decode cX11_same 60 = .ok (.iinc 5 1, 3) := by decide +kernel
theorem dX11_same_63 : decode cX11_same 63 = .ok (.goto (-31), 3) := by decide +kernel
theorem dX11_same_66 : decode cX11_same 66 = .ok (.aload_n 0, 1) := by decide +kernel
theorem dX11_same_67 : decode cX11_same 67 = .ok (.lload_n 3, 1) := by decide +kernel
theorem dX11_same_68 : decode cX11_same 68 = .ok (.iload_n 2, 1) := by decide +kernel
theorem dX11_same_69 : decode cX11_same 69 = .ok (.iload_n 1, 1) := by decide +kernel
theorem dX11_same_70 : decode cX11_same 70 = .ok (.invokestatic 376, 3) := by decide +kernel
theorem dX11_same_73 : decode cX11_same 73 = .ok (.invokevirtual 368, 3) := by decide +kernel
theorem dX11_same_76 : decode cX11_same 76 = .ok (.iconst 0, 1) := by decide +kernel
theorem dX11_same_77 : decode cX11_same 77 = .ok (.ireturn, 1) := by decide +kernel
theorem dX11_drawings_0 : decode cX11_drawings 0 = .ok (.lconst 1, 1) := by decide +kernel
theorem dX11_drawings_1 : decode cX11_drawings 1 = .ok (.lstore_n 2, 1) := by decide +kernel
theorem dX11_drawings_2 : decode cX11_drawings 2 = .ok (.iconst 0, 1) := by decide +kernel
theorem dX11_drawings_3 : decode cX11_drawings 3 = .ok (.istore 4, 2) := by decide +kernel
theorem dX11_drawings_5 : decode cX11_drawings 5 = .ok (.iload 4, 2) := by decide +kernel
theorem dX11_drawings_7 : decode cX11_drawings 7 = .ok (.iload_n 1, 1) := by decide +kernel
theorem dX11_drawings_8 : decode cX11_drawings 8 = .ok (.if_icmp .ge 21, 3) := by decide +kernel
theorem dX11_drawings_11 : decode cX11_drawings 11 = .ok (.lload_n 2, 1) := by decide +kernel
theorem dX11_drawings_12 : decode cX11_drawings 12 = .ok (.iconst 0, 1) := by decide +kernel
theorem dX11_drawings_13 : decode cX11_drawings 13 = .ok (.iload_n 0, 1) := by decide +kernel
theorem dX11_drawings_14 : decode cX11_drawings 14 = .ok (.iload 4, 2) := by decide +kernel
theorem dX11_drawings_16 : decode cX11_drawings 16 = .ok (.isub, 1) := by decide +kernel
theorem dX11_drawings_17 : decode cX11_drawings 17 = .ok (.invokestatic 359, 3) := by decide +kernel
theorem dX11_drawings_20 : decode cX11_drawings 20 = .ok (.i2l, 1) := by decide +kernel
theorem dX11_drawings_21 : decode cX11_drawings 21 = .ok (.lmul, 1) := by decide +kernel
theorem dX11_drawings_22 : decode cX11_drawings 22 = .ok (.lstore_n 2, 1) := by decide +kernel
theorem dX11_drawings_23 : decode cX11_drawings 23 = .ok (.iinc 4 1, 3) := by decide +kernel
theorem dX11_drawings_26 : decode cX11_drawings 26 = .ok (.goto (-21), 3) := by decide +kernel
theorem dX11_drawings_29 : decode cX11_drawings 29 = .ok (.lload_n 2, 1) := by decide +kernel
theorem dX11_drawings_30 : decode cX11_drawings 30 = .ok (.lreturn, 1) := by decide +kernel
theorem dX11_tellFraction_0 : decode cX11_tellFraction 0 = .ok (.lload_n 3, 1) := by decide +kernel
theorem dX11_tellFraction_1 : decode cX11_tellFraction 1 = .ok (.lstore 5, 2) := by decide +kernel
theorem dX11_tellFraction_3 : decode cX11_tellFraction 3 = .ok (.lload_n 1, 1) := by decide +kernel
theorem dX11_tellFraction_4 : decode cX11_tellFraction 4 = .ok (.lstore 7, 2) := by decide +kernel
theorem dX11_tellFraction_6 : decode cX11_tellFraction 6 = .ok (.iconst 0, 1) := by decide +kernel
theorem dX11_tellFraction_7 : decode cX11_tellFraction 7 = .ok (.istore 9, 2) := by decide +kernel
theorem dX11_tellFraction_9 : decode cX11_tellFraction 9 = .ok (.iload 9, 2) := by decide +kernel
theorem dX11_tellFraction_11 : decode cX11_tellFraction 11 = .ok (.sipush 1000, 3) := by decide +kernel
theorem dX11_tellFraction_14 : decode cX11_tellFraction 14 = .ok (.if_icmp .ge 31, 3) := by decide +kernel
theorem dX11_tellFraction_17 : decode cX11_tellFraction 17 = .ok (.lload 7, 2) := by decide +kernel
theorem dX11_tellFraction_19 : decode cX11_tellFraction 19 = .ok (.lconst 0, 1) := by decide +kernel
theorem dX11_tellFraction_20 : decode cX11_tellFraction 20 = .ok (.lcmp, 1) := by decide +kernel
theorem dX11_tellFraction_21 : decode cX11_tellFraction 21 = .ok (.ifCond .le 24, 3) := by decide +kernel
theorem dX11_tellFraction_24 : decode cX11_tellFraction 24 = .ok (.lload 5, 2) := by decide +kernel
theorem dX11_tellFraction_26 : decode cX11_tellFraction 26 = .ok (.lload 7, 2) := by decide +kernel
theorem dX11_tellFraction_28 : decode cX11_tellFraction 28 = .ok (.lrem, 1) := by decide +kernel
theorem dX11_tellFraction_29 : decode cX11_tellFraction 29 = .ok (.lstore 10, 2) := by decide +kernel
theorem dX11_tellFraction_31 : decode cX11_tellFraction 31 = .ok (.lload 7, 2) := by decide +kernel
theorem dX11_tellFraction_33 : decode cX11_tellFraction 33 = .ok (.lstore 5, 2) := by decide +kernel
theorem dX11_tellFraction_35 : decode cX11_tellFraction 35 = .ok (.lload 10, 2) := by decide +kernel
theorem dX11_tellFraction_37 : decode cX11_tellFraction 37 = .ok (.lstore 7, 2) := by decide +kernel
theorem dX11_tellFraction_39 : decode cX11_tellFraction 39 = .ok (.iinc 9 1, 3) := by decide +kernel
theorem dX11_tellFraction_42 : decode cX11_tellFraction 42 = .ok (.goto (-33), 3) := by decide +kernel
theorem dX11_tellFraction_45 : decode cX11_tellFraction 45 = .ok (.aload_n 0, 1) := by decide +kernel
theorem dX11_tellFraction_46 : decode cX11_tellFraction 46 = .ok (.getfield 69, 3) := by decide +kernel
theorem dX11_tellFraction_49 : decode cX11_tellFraction 49 = .ok (.invokevirtual 242, 3) := by decide +kernel
theorem dX11_tellFraction_52 : decode cX11_tellFraction 52 = .ok (.aload_n 0, 1) := by decide +kernel
theorem dX11_tellFraction_53 : decode cX11_tellFraction 53 = .ok (.getfield 69, 3) := by decide +kernel
theorem dX11_tellFraction_56 : decode cX11_tellFraction 56 = .ok (.lload 5, 2) := by decide +kernel
theorem dX11_tellFraction_58 : decode cX11_tellFraction 58 = .ok (.lconst 0, 1) := by decide +kernel
theorem dX11_tellFraction_59 : decode cX11_tellFraction 59 = .ok (.lcmp, 1) := by decide +kernel
theorem dX11_tellFraction_60 : decode cX11_tellFraction 60 = .ok (.ifCond .le 10, 3) := by decide +kernel
theorem dX11_tellFraction_63 : decode cX11_tellFraction 63 = .ok (.lload_n 1, 1) := by decide +kernel
theorem dX11_tellFraction_64 : decode cX11_tellFraction 64 = .ok (.lload 5, 2) := by decide +kernel
theorem dX11_tellFraction_66 : decode cX11_tellFraction 66 = .ok (.ldiv, 1) := by decide +kernel
theorem dX11_tellFraction_67 : decode cX11_tellFraction 67 = .ok (.goto 4, 3) := by decide +kernel
theorem dX11_tellFraction_70 : decode cX11_tellFraction 70 = .ok (.lload_n 1, 1) := by decide +kernel
theorem dX11_tellFraction_71 : decode cX11_tellFraction 71 = .ok (.invokevirtual 248, 3) := by decide +kernel
theorem dX11_tellFraction_74 : decode cX11_tellFraction 74 = .ok (.aload_n 0, 1) := by decide +kernel
theorem dX11_tellFraction_75 : decode cX11_tellFraction 75 = .ok (.getfield 69, 3) := by decide +kernel
theorem dX11_tellFraction_78 : decode cX11_tellFraction 78 = .ok (.lload 5, 2) := by decide +kernel
theorem dX11_tellFraction_80 : decode cX11_tellFraction 80 = .ok (.lconst 0, 1) := by decide +kernel
theorem dX11_tellFraction_81 : decode cX11_tellFraction 81 = .ok (.lcmp, 1) := by decide +kernel
theorem dX11_tellFraction_82 : decode cX11_tellFraction 82 = .ok (.ifCond .le 10, 3) := by decide +kernel
theorem dX11_tellFraction_85 : decode cX11_tellFraction 85 = .ok (.lload_n 3, 1) := by decide +kernel
theorem dX11_tellFraction_86 : decode cX11_tellFraction 86 = .ok (.lload 5, 2) := by decide +kernel
theorem dX11_tellFraction_88 : decode cX11_tellFraction 88 = .ok (.ldiv, 1) := by decide +kernel
theorem dX11_tellFraction_89 : decode cX11_tellFraction 89 = .ok (.goto 4, 3) := by decide +kernel
theorem dX11_tellFraction_92 : decode cX11_tellFraction 92 = .ok (.lload_n 3, 1) := by decide +kernel
theorem dX11_tellFraction_93 : decode cX11_tellFraction 93 = .ok (.invokevirtual 248, 3) := by decide +kernel
theorem dX11_tellFraction_96 : decode cX11_tellFraction 96 = .ok (.return_, 1) := by decide +kernel
theorem dX11_rests_0 : decode cX11_rests 0 = .ok (.iload_n 1, 1) := by decide +kernel
theorem dX11_rests_1 : decode cX11_rests 1 = .ok (.iconst 0, 1) := by decide +kernel
theorem dX11_rests_2 : decode cX11_rests 2 = .ok (.bipush 20, 2) := by decide +kernel
theorem dX11_rests_4 : decode cX11_rests 4 = .ok (.invokestatic 164, 3) := by decide +kernel
theorem dX11_rests_7 : decode cX11_rests 7 = .ok (.ifCond .eq 12, 3) := by decide +kernel
theorem dX11_rests_10 : decode cX11_rests 10 = .ok (.iload_n 2, 1) := by decide +kernel
theorem dX11_rests_11 : decode cX11_rests 11 = .ok (.iconst 0, 1) := by decide +kernel
theorem dX11_rests_12 : decode cX11_rests 12 = .ok (.iconst 5, 1) := by decide +kernel
theorem dX11_rests_13 : decode cX11_rests 13 = .ok (.invokestatic 164, 3) := by decide +kernel
theorem dX11_rests_16 : decode cX11_rests 16 = .ok (.ifCond .ne 5, 3) := by decide +kernel
theorem dX11_rests_19 : decode cX11_rests 19 = .ok (.iconst (-1), 1) := by decide +kernel
theorem dX11_rests_20 : decode cX11_rests 20 = .ok (.ireturn, 1) := by decide +kernel
theorem dX11_rests_21 : decode cX11_rests 21 = .ok (.iconst 0, 1) := by decide +kernel
theorem dX11_rests_22 : decode cX11_rests 22 = .ok (.istore_n 3, 1) := by decide +kernel
theorem dX11_rests_23 : decode cX11_rests 23 = .ok (.aload_n 0, 1) := by decide +kernel
theorem dX11_rests_24 : decode cX11_rests 24 = .ok (.getfield 69, 3) := by decide +kernel
theorem dX11_rests_27 : decode cX11_rests 27 = .ok (.invokevirtual 242, 3) := by decide +kernel
theorem dX11_rests_30 : decode cX11_rests 30 = .ok (.iconst 0, 1) := by decide +kernel
theorem dX11_rests_31 : decode cX11_rests 31 = .ok (.istore 4, 2) := by decide +kernel
theorem dX11_rests_33 : decode cX11_rests 33 = .ok (.iload 4, 2) := by decide +kernel
theorem dX11_rests_35 : decode cX11_rests 35 = .ok (.bipush 9, 2) := by decide +kernel
theorem dX11_rests_37 : decode cX11_rests 37 = .ok (.if_icmp .gt 59, 3) := by decide +kernel
theorem dX11_rests_40 : decode cX11_rests 40 = .ok (.iconst 0, 1) := by decide +kernel
theorem dX11_rests_41 : decode cX11_rests 41 = .ok (.istore 5, 2) := by decide +kernel
theorem dX11_rests_43 : decode cX11_rests 43 = .ok (.iload 5, 2) := by decide +kernel
theorem dX11_rests_45 : decode cX11_rests 45 = .ok (.bipush 9, 2) := by decide +kernel
theorem dX11_rests_47 : decode cX11_rests 47 = .ok (.if_icmp .gt 43, 3) := by decide +kernel
theorem dX11_rests_50 : decode cX11_rests 50 = .ok (.iload 4, 2) := by decide +kernel
theorem dX11_rests_52 : decode cX11_rests 52 = .ok (.iload 5, 2) := by decide +kernel
theorem dX11_rests_54 : decode cX11_rests 54 = .ok (.invokestatic 380, 3) := by decide +kernel
theorem dX11_rests_57 : decode cX11_rests 57 = .ok (.ifCond .eq 27, 3) := by decide +kernel
theorem dX11_rests_60 : decode cX11_rests 60 = .ok (.iload 4, 2) := by decide +kernel
theorem dX11_rests_62 : decode cX11_rests 62 = .ok (.iload 5, 2) := by decide +kernel
theorem dX11_rests_64 : decode cX11_rests 64 = .ok (.iload_n 1, 1) := by decide +kernel
theorem dX11_rests_65 : decode cX11_rests 65 = .ok (.iload_n 2, 1) := by decide +kernel
theorem dX11_rests_66 : decode cX11_rests 66 = .ok (.invokestatic 383, 3) := by decide +kernel
theorem dX11_rests_69 : decode cX11_rests 69 = .ok (.ifCond .eq 15, 3) := by decide +kernel
theorem dX11_rests_72 : decode cX11_rests 72 = .ok (.aload_n 0, 1) := by decide +kernel
theorem dX11_rests_73 : decode cX11_rests 73 = .ok (.iload_n 3, 1) := by decide +kernel
theorem dX11_rests_74 : decode cX11_rests 74 = .ok (.iload 4, 2) := by decide +kernel
theorem dX11_rests_76 : decode cX11_rests 76 = .ok (.iload 5, 2) := by decide +kernel
theorem dX11_rests_78 : decode cX11_rests 78 = .ok (.invokevirtual 323, 3) := by decide +kernel
theorem dX11_rests_81 : decode cX11_rests 81 = .ok (.iinc 3 1, 3) := by decide +kernel
theorem dX11_rests_84 : decode cX11_rests 84 = .ok (.iinc 5 1, 3) := by decide +kernel
theorem dX11_rests_87 : decode cX11_rests 87 = .ok (.goto (-44), 3) := by decide +kernel
theorem dX11_rests_90 : decode cX11_rests 90 = .ok (.iinc 4 1, 3) := by decide +kernel
theorem dX11_rests_93 : decode cX11_rests 93 = .ok (.goto (-60), 3) := by decide +kernel
theorem dX11_rests_96 : decode cX11_rests 96 = .ok (.iload_n 3, 1) := by decide +kernel
theorem dX11_rests_97 : decode cX11_rests 97 = .ok (.ireturn, 1) := by decide +kernel
theorem dX11_clerkStays_0 : decode cX11_clerkStays 0 = .ok (.iload_n 1, 1) := by decide +kernel
theorem dX11_clerkStays_1 : decode cX11_clerkStays 1 = .ok (.ifCond .eq 8, 3) := by decide +kernel
theorem dX11_clerkStays_4 : decode cX11_clerkStays 4 = .ok (.iload_n 0, 1) := by decide +kernel
theorem dX11_clerkStays_5 : decode cX11_clerkStays 5 = .ok (.iload_n 1, 1) := by decide +kernel
theorem dX11_clerkStays_6 : decode cX11_clerkStays 6 = .ok (.if_icmp .ne 7, 3) := by decide +kernel
theorem dX11_clerkStays_9 : decode cX11_clerkStays 9 = .ok (.iconst 1, 1) := by decide +kernel
theorem dX11_clerkStays_10 : decode cX11_clerkStays 10 = .ok (.goto 4, 3) := by decide +kernel
theorem dX11_clerkStays_13 : decode cX11_clerkStays 13 = .ok (.iconst 0, 1) := by decide +kernel
theorem dX11_clerkStays_14 : decode cX11_clerkStays 14 = .ok (.ireturn, 1) := by decide +kernel
theorem dX11_manStays_0 : decode cX11_manStays 0 = .ok (.iload_n 1, 1) := by decide +kernel
theorem dX11_manStays_1 : decode cX11_manStays 1 = .ok (.iload_n 0, 1) := by decide +kernel
theorem dX11_manStays_2 : decode cX11_manStays 2 = .ok (.if_icmp .lt 7, 3) := by decide +kernel
theorem dX11_manStays_5 : decode cX11_manStays 5 = .ok (.iload_n 2, 1) := by decide +kernel
theorem dX11_manStays_6 : decode cX11_manStays 6 = .ok (.goto 4, 3) := by decide +kernel
theorem dX11_manStays_9 : decode cX11_manStays 9 = .ok (.iconst 0, 1) := by decide +kernel
theorem dX11_manStays_10 : decode cX11_manStays 10 = .ok (.iload_n 3, 1) := by decide +kernel
theorem dX11_manStays_11 : decode cX11_manStays 11 = .ok (.iload_n 1, 1) := by decide +kernel
theorem dX11_manStays_12 : decode cX11_manStays 12 = .ok (.imul, 1) := by decide +kernel
theorem dX11_manStays_13 : decode cX11_manStays 13 = .ok (.isub, 1) := by decide +kernel
theorem dX11_manStays_14 : decode cX11_manStays 14 = .ok (.istore 4, 2) := by decide +kernel
theorem dX11_manStays_16 : decode cX11_manStays 16 = .ok (.iconst 0, 1) := by decide +kernel
theorem dX11_manStays_17 : decode cX11_manStays 17 = .ok (.istore 5, 2) := by decide +kernel
theorem dX11_manStays_19 : decode cX11_manStays 19 = .ok (.iload 5, 2) := by decide +kernel
theorem dX11_manStays_21 : decode cX11_manStays 21 = .ok (.bipush 9, 2) := by decide +kernel
theorem dX11_manStays_23 : decode cX11_manStays 23 = .ok (.if_icmp .gt 32, 3) := by decide +kernel
theorem dX11_manStays_26 : decode cX11_manStays 26 = .ok (.iload 5, 2) := by decide +kernel
theorem dX11_manStays_28 : decode cX11_manStays 28 = .ok (.iload_n 0, 1) := by decide +kernel
theorem dX11_manStays_29 : decode cX11_manStays 29 = .ok (.if_icmp .lt 7, 3) := by decide +kernel
theorem dX11_manStays_32 : decode cX11_manStays 32 = .ok (.iload_n 2, 1) := by decide +kernel
theorem dX11_manStays_33 : decode cX11_manStays 33 = .ok (.goto 4, 3) := by decide +kernel
theorem dX11_manStays_36 : decode cX11_manStays 36 = .ok (.iconst 0, 1) := by decide +kernel
theorem dX11_manStays_37 : decode cX11_manStays 37 = .ok (.iload_n 3, 1) := by decide +kernel
theorem dX11_manStays_38 : decode cX11_manStays 38 = .ok (.iload 5, 2) := by decide +kernel
theorem dX11_manStays_40 : decode cX11_manStays 40 = .ok (.imul, 1) := by decide +kernel
theorem dX11_manStays_41 : decode cX11_manStays 41 = .ok (.isub, 1) := by decide +kernel
theorem dX11_manStays_42 : decode cX11_manStays 42 = .ok (.iload 4, 2) := by decide +kernel
theorem dX11_manStays_44 : decode cX11_manStays 44 = .ok (.if_icmp .le 5, 3) := by decide +kernel
theorem dX11_manStays_47 : decode cX11_manStays 47 = .ok (.iconst 0, 1) := by decide +kernel
theorem dX11_manStays_48 : decode cX11_manStays 48 = .ok (.ireturn, 1) := by decide +kernel
theorem dX11_manStays_49 : decode cX11_manStays 49 = .ok (.iinc 5 1, 3) := by decide +kernel
theorem dX11_manStays_52 : decode cX11_manStays 52 = .ok (.goto (-33), 3) := by decide +kernel
theorem dX11_manStays_55 : decode cX11_manStays 55 = .ok (.iconst 1, 1) := by decide +kernel
theorem dX11_manStays_56 : decode cX11_manStays 56 = .ok (.ireturn, 1) := by decide +kernel
theorem dX11_law_0 : decode cX11_law 0 = .ok (.aload_n 0, 1) := by decide +kernel
theorem dX11_law_1 : decode cX11_law 1 = .ok (.getfield 73, 3) := by decide +kernel
theorem dX11_law_4 : decode cX11_law 4 = .ok (.invokevirtual 148, 3) := by decide +kernel
theorem dX11_law_7 : decode cX11_law 7 = .ok (.aload_n 0, 1) := by decide +kernel
theorem dX11_law_8 : decode cX11_law 8 = .ok (.getfield 10, 3) := by decide +kernel
theorem dX11_law_11 : decode cX11_law 11 = .ok (.invokevirtual 152, 3) := by decide +kernel
theorem dX11_law_14 : decode cX11_law 14 = .ok (.istore_n 1, 1) := by decide +kernel
theorem dX11_law_15 : decode cX11_law 15 = .ok (.aload_n 0, 1) := by decide +kernel
theorem dX11_law_16 : decode cX11_law 16 = .ok (.getfield 10, 3) := by decide +kernel
theorem dX11_law_19 : decode cX11_law 19 = .ok (.iconst 0, 1) := by decide +kernel
theorem dX11_law_20 : decode cX11_law 20 = .ok (.invokevirtual 92, 3) := by decide +kernel
theorem dX11_law_23 : decode cX11_law 23 = .ok (.pop, 1) := by decide +kernel
theorem dX11_law_24 : decode cX11_law 24 = .ok (.iload_n 1, 1) := by decide +kernel
theorem dX11_law_25 : decode cX11_law 25 = .ok (.iconst (-1), 1) := by decide +kernel
theorem dX11_law_26 : decode cX11_law 26 = .ok (.if_icmp .eq 9, 3) := by decide +kernel
theorem dX11_law_29 : decode cX11_law 29 = .ok (.sipush (-10000), 3) := by decide +kernel
theorem dX11_law_32 : decode cX11_law 32 = .ok (.iload_n 1, 1) := by decide +kernel
theorem dX11_law_33 : decode cX11_law 33 = .ok (.isub, 1) := by decide +kernel
theorem dX11_law_34 : decode cX11_law 34 = .ok (.ireturn, 1) := by decide +kernel
theorem dX11_law_35 : decode cX11_law 35 = .ok (.aload_n 0, 1) := by decide +kernel
theorem dX11_law_36 : decode cX11_law 36 = .ok (.aload_n 0, 1) := by decide +kernel
theorem dX11_law_37 : decode cX11_law 37 = .ok (.getfield 73, 3) := by decide +kernel
theorem dX11_law_40 : decode cX11_law 40 = .ok (.invokevirtual 148, 3) := by decide +kernel
theorem dX11_law_43 : decode cX11_law 43 = .ok (.invokevirtual 387, 3) := by decide +kernel
theorem dX11_law_46 : decode cX11_law 46 = .ok (.istore_n 2, 1) := by decide +kernel
theorem dX11_law_47 : decode cX11_law 47 = .ok (.aload_n 0, 1) := by decide +kernel
theorem dX11_law_48 : decode cX11_law 48 = .ok (.aload_n 0, 1) := by decide +kernel
theorem dX11_law_49 : decode cX11_law 49 = .ok (.getfield 73, 3) := by decide +kernel
theorem dX11_law_52 : decode cX11_law 52 = .ok (.invokevirtual 235, 3) := by decide +kernel
theorem dX11_law_55 : decode cX11_law 55 = .ok (.invokevirtual 387, 3) := by decide +kernel
theorem dX11_law_58 : decode cX11_law 58 = .ok (.istore_n 3, 1) := by decide +kernel
theorem dX11_law_59 : decode cX11_law 59 = .ok (.aload_n 0, 1) := by decide +kernel
theorem dX11_law_60 : decode cX11_law 60 = .ok (.getfield 69, 3) := by decide +kernel
theorem dX11_law_63 : decode cX11_law 63 = .ok (.invokevirtual 242, 3) := by decide +kernel
theorem dX11_law_66 : decode cX11_law 66 = .ok (.aload_n 0, 1) := by decide +kernel
theorem dX11_law_67 : decode cX11_law 67 = .ok (.getfield 69, 3) := by decide +kernel
theorem dX11_law_70 : decode cX11_law 70 = .ok (.iload_n 2, 1) := by decide +kernel
theorem dX11_law_71 : decode cX11_law 71 = .ok (.i2l, 1) := by decide +kernel
theorem dX11_law_72 : decode cX11_law 72 = .ok (.invokevirtual 248, 3) := by decide +kernel
theorem dX11_law_75 : decode cX11_law 75 = .ok (.aload_n 0, 1) := by decide +kernel
theorem dX11_law_76 : decode cX11_law 76 = .ok (.getfield 69, 3) := by decide +kernel
theorem dX11_law_79 : decode cX11_law 79 = .ok (.iload_n 3, 1) := by decide +kernel
theorem dX11_law_80 : decode cX11_law 80 = .ok (.i2l, 1) := by decide +kernel
theorem dX11_law_81 : decode cX11_law 81 = .ok (.invokevirtual 248, 3) := by decide +kernel
theorem dX11_law_84 : decode cX11_law 84 = .ok (.iload_n 2, 1) := by decide +kernel
theorem dX11_law_85 : decode cX11_law 85 = .ok (.iload_n 3, 1) := by decide +kernel
theorem dX11_law_86 : decode cX11_law 86 = .ok (.isub, 1) := by decide +kernel
theorem dX11_law_87 : decode cX11_law 87 = .ok (.ireturn, 1) := by decide +kernel
theorem dX11_wantsHadBy_0 : decode cX11_wantsHadBy 0 = .ok (.aload_n 0, 1) := by decide +kernel
theorem dX11_wantsHadBy_1 : decode cX11_wantsHadBy 1 = .ok (.getfield 81, 3) := by decide +kernel
theorem dX11_wantsHadBy_4 : decode cX11_wantsHadBy 4 = .ok (.aload_n 0, 1) := by decide +kernel
theorem dX11_wantsHadBy_5 : decode cX11_wantsHadBy 5 = .ok (.getfield 77, 3) := by decide +kernel
theorem dX11_wantsHadBy_8 : decode cX11_wantsHadBy 8 = .ok (.invokevirtual 216, 3) := by decide +kernel
theorem dX11_wantsHadBy_11 : decode cX11_wantsHadBy 11 = .ok (.aload_n 0, 1) := by decide +kernel
theorem dX11_wantsHadBy_12 : decode cX11_wantsHadBy 12 = .ok (.getfield 81, 3) := by decide +kernel
theorem dX11_wantsHadBy_15 : decode cX11_wantsHadBy 15 = .ok (.bipush 10, 2) := by decide +kernel
theorem dX11_wantsHadBy_17 : decode cX11_wantsHadBy 17 = .ok (.aload_n 1, 1) := by decide +kernel
theorem dX11_wantsHadBy_18 : decode cX11_wantsHadBy 18 = .ok (.invokevirtual 302, 3) := by decide +kernel
theorem dX11_wantsHadBy_21 : decode cX11_wantsHadBy 21 = .ok (.aload_n 0, 1) := by decide +kernel
theorem dX11_wantsHadBy_22 : decode cX11_wantsHadBy 22 = .ok (.getfield 81, 3) := by decide +kernel
theorem dX11_wantsHadBy_25 : decode cX11_wantsHadBy 25 = .ok (.invokevirtual 251, 3) := by decide +kernel
theorem dX11_wantsHadBy_28 : decode cX11_wantsHadBy 28 = .ok (.ireturn, 1) := by decide +kernel
theorem dX11_years_0 : decode cX11_years 0 = .ok (.iload_n 2, 1) := by decide +kernel
theorem dX11_years_1 : decode cX11_years 1 = .ok (.iconst 1, 1) := by decide +kernel
theorem dX11_years_2 : decode cX11_years 2 = .ok (.bipush 60, 2) := by decide +kernel
theorem dX11_years_4 : decode cX11_years 4 = .ok (.invokestatic 164, 3) := by decide +kernel
theorem dX11_years_7 : decode cX11_years 7 = .ok (.ifCond .ne 5, 3) := by decide +kernel
theorem dX11_years_10 : decode cX11_years 10 = .ok (.iconst (-1), 1) := by decide +kernel
theorem dX11_years_11 : decode cX11_years 11 = .ok (.ireturn, 1) := by decide +kernel
theorem dX11_years_12 : decode cX11_years 12 = .ok (.aload_n 0, 1) := by decide +kernel
theorem dX11_years_13 : decode cX11_years 13 = .ok (.getfield 81, 3) := by decide +kernel
theorem dX11_years_16 : decode cX11_years 16 = .ok (.aload_n 0, 1) := by decide +kernel
theorem dX11_years_17 : decode cX11_years 17 = .ok (.getfield 77, 3) := by decide +kernel
theorem dX11_years_20 : decode cX11_years 20 = .ok (.invokevirtual 216, 3) := by decide +kernel
theorem dX11_years_23 : decode cX11_years 23 = .ok (.iload_n 1, 1) := by decide +kernel
theorem dX11_years_24 : decode cX11_years 24 = .ok (.istore_n 3, 1) := by decide +kernel
theorem dX11_years_25 : decode cX11_years 25 = .ok (.iconst 0, 1) := by decide +kernel
theorem dX11_years_26 : decode cX11_years 26 = .ok (.istore 4, 2) := by decide +kernel
theorem dX11_years_28 : decode cX11_years 28 = .ok (.iload 4, 2) := by decide +kernel
theorem dX11_years_30 : decode cX11_years 30 = .ok (.iload_n 2, 1) := by decide +kernel
theorem dX11_years_31 : decode cX11_years 31 = .ok (.if_icmp .ge 106, 3) := by decide +kernel
theorem dX11_years_34 : decode cX11_years 34 = .ok (.iload_n 3, 1) := by decide +kernel
theorem dX11_years_35 : decode cX11_years 35 = .ok (.invokestatic 391, 3) := by decide +kernel
theorem dX11_years_38 : decode cX11_years 38 = .ok (.istore_n 3, 1) := by decide +kernel
theorem dX11_years_39 : decode cX11_years 39 = .ok (.iload_n 3, 1) := by decide +kernel
theorem dX11_years_40 : decode cX11_years 40 = .ok (.iconst 4, 1) := by decide +kernel
theorem dX11_years_41 : decode cX11_years 41 = .ok (.invokestatic 394, 3) := by decide +kernel
theorem dX11_years_44 : decode cX11_years 44 = .ok (.istore 5, 2) := by decide +kernel
theorem dX11_years_46 : decode cX11_years 46 = .ok (.iload 5, 2) := by decide +kernel
theorem dX11_years_48 : decode cX11_years 48 = .ok (.iconst 2, 1) := by decide +kernel
theorem dX11_years_49 : decode cX11_years 49 = .ok (.if_icmp .ge 21, 3) := by decide +kernel
theorem dX11_years_52 : decode cX11_years 52 = .ok (.aload_n 0, 1) := by decide +kernel
theorem dX11_years_53 : decode cX11_years 53 = .ok (.getfield 81, 3) := by decide +kernel
theorem dX11_years_56 : decode cX11_years 56 = .ok (.iconst 1, 1) := by decide +kernel
theorem dX11_years_57 : decode cX11_years 57 = .ok (.aload_n 0, 1) := by decide +kernel
theorem dX11_years_58 : decode cX11_years 58 = .ok (.getfield 73, 3) := by decide +kernel
theorem dX11_years_61 : decode cX11_years 61 = .ok (.invokevirtual 235, 3) := by decide +kernel
theorem dX11_years_64 : decode cX11_years 64 = .ok (.invokevirtual 302, 3) := by decide +kernel
theorem dX11_years_67 : decode cX11_years 67 = .ok (.goto 64, 3) := by decide +kernel
theorem dX11_years_70 : decode cX11_years 70 = .ok (.aload_n 0, 1) := by decide +kernel
theorem dX11_years_71 : decode cX11_years 71 = .ok (.getfield 73, 3) := by decide +kernel
theorem dX11_years_74 : decode cX11_years 74 = .ok (.invokevirtual 126, 3) := by decide +kernel
theorem dX11_years_77 : decode cX11_years 77 = .ok (.ifCond .le 54, 3) := by decide +kernel
theorem dX11_years_80 : decode cX11_years 80 = .ok (.aload_n 0, 1) := by decide +kernel
theorem dX11_years_81 : decode cX11_years 81 = .ok (.getfield 73, 3) := by decide +kernel
theorem dX11_years_84 : decode cX11_years 84 = .ok (.invokevirtual 98, 3) := by decide +kernel
theorem dX11_years_87 : decode cX11_years 87 = .ok (.ifCond .le 44, 3) := by decide +kernel
theorem dX11_years_90 : decode cX11_years 90 = .ok (.iload_n 3, 1) := by decide +kernel
theorem dX11_years_91 : decode cX11_years 91 = .ok (.invokestatic 391, 3) := by decide +kernel
theorem dX11_years_94 : decode cX11_years 94 = .ok (.istore 6, 2) := by decide +kernel
theorem dX11_years_96 : decode cX11_years 96 = .ok (.iload 6, 2) := by decide +kernel
theorem dX11_years_98 : decode cX11_years 98 = .ok (.invokestatic 391, 3) := by decide +kernel
theorem dX11_years_101 : decode cX11_years 101 = .ok (.istore_n 3, 1) := by decide +kernel
theorem dX11_years_102 : decode cX11_years 102 = .ok (.aload_n 0, 1) := by decide +kernel
theorem dX11_years_103 : decode cX11_years 103 = .ok (.iload 5, 2) := by decide +kernel
theorem dX11_years_105 : decode cX11_years 105 = .ok (.iload 6, 2) := by decide +kernel
theorem dX11_years_107 : decode cX11_years 107 = .ok (.aload_n 0, 1) := by decide +kernel
theorem dX11_years_108 : decode cX11_years 108 = .ok (.getfield 73, 3) := by decide +kernel
theorem dX11_years_111 : decode cX11_years 111 = .ok (.invokevirtual 126, 3) := by decide +kernel
theorem dX11_years_114 : decode cX11_years 114 = .ok (.invokestatic 394, 3) := by decide +kernel
theorem dX11_years_117 : decode cX11_years 117 = .ok (.iload_n 3, 1) := by decide +kernel
theorem dX11_years_118 : decode cX11_years 118 = .ok (.aload_n 0, 1) := by decide +kernel
theorem dX11_years_119 : decode cX11_years 119 = .ok (.getfield 73, 3) := by decide +kernel
theorem dX11_years_122 : decode cX11_years 122 = .ok (.invokevirtual 98, 3) := by decide +kernel
theorem dX11_years_125 : decode cX11_years 125 = .ok (.invokestatic 394, 3) := by decide +kernel
theorem dX11_years_128 : decode cX11_years 128 = .ok (.invokevirtual 397, 3) := by decide +kernel
theorem dX11_years_131 : decode cX11_years 131 = .ok (.iinc 4 1, 3) := by decide +kernel
theorem dX11_years_134 : decode cX11_years 134 = .ok (.goto (-106), 3) := by decide +kernel
theorem dX11_years_137 : decode cX11_years 137 = .ok (.aload_n 0, 1) := by decide +kernel
theorem dX11_years_138 : decode cX11_years 138 = .ok (.getfield 69, 3) := by decide +kernel
theorem dX11_years_141 : decode cX11_years 141 = .ok (.invokevirtual 242, 3) := by decide +kernel
theorem dX11_years_144 : decode cX11_years 144 = .ok (.aload_n 0, 1) := by decide +kernel
theorem dX11_years_145 : decode cX11_years 145 = .ok (.getfield 69, 3) := by decide +kernel
theorem dX11_years_148 : decode cX11_years 148 = .ok (.aload_n 0, 1) := by decide +kernel
theorem dX11_years_149 : decode cX11_years 149 = .ok (.getfield 81, 3) := by decide +kernel
theorem dX11_years_152 : decode cX11_years 152 = .ok (.invokevirtual 245, 3) := by decide +kernel
theorem dX11_years_155 : decode cX11_years 155 = .ok (.i2l, 1) := by decide +kernel
theorem dX11_years_156 : decode cX11_years 156 = .ok (.invokevirtual 248, 3) := by decide +kernel
theorem dX11_years_159 : decode cX11_years 159 = .ok (.aload_n 0, 1) := by decide +kernel
theorem dX11_years_160 : decode cX11_years 160 = .ok (.getfield 69, 3) := by decide +kernel
theorem dX11_years_163 : decode cX11_years 163 = .ok (.aload_n 0, 1) := by decide +kernel
theorem dX11_years_164 : decode cX11_years 164 = .ok (.getfield 81, 3) := by decide +kernel
theorem dX11_years_167 : decode cX11_years 167 = .ok (.invokevirtual 400, 3) := by decide +kernel
theorem dX11_years_170 : decode cX11_years 170 = .ok (.i2l, 1) := by decide +kernel
theorem dX11_years_171 : decode cX11_years 171 = .ok (.invokevirtual 248, 3) := by decide +kernel
theorem dX11_years_174 : decode cX11_years 174 = .ok (.aload_n 0, 1) := by decide +kernel
theorem dX11_years_175 : decode cX11_years 175 = .ok (.getfield 81, 3) := by decide +kernel
theorem dX11_years_178 : decode cX11_years 178 = .ok (.invokevirtual 251, 3) := by decide +kernel
theorem dX11_years_181 : decode cX11_years 181 = .ok (.ireturn, 1) := by decide +kernel
theorem dX11_drawnAct_0 : decode cX11_drawnAct 0 = .ok (.iload_n 1, 1) := by decide +kernel
theorem dX11_drawnAct_1 : decode cX11_drawnAct 1 = .ok (.iconst 2, 1) := by decide +kernel
theorem dX11_drawnAct_2 : decode cX11_drawnAct 2 = .ok (.if_icmp .ne 16, 3) := by decide +kernel
theorem dX11_drawnAct_5 : decode cX11_drawnAct 5 = .ok (.aload_n 0, 1) := by decide +kernel
theorem dX11_drawnAct_6 : decode cX11_drawnAct 6 = .ok (.getfield 81, 3) := by decide +kernel
theorem dX11_drawnAct_9 : decode cX11_drawnAct 9 = .ok (.iload_n 2, 1) := by decide +kernel
theorem dX11_drawnAct_10 : decode cX11_drawnAct 10 = .ok (.iload_n 3, 1) := by decide +kernel
theorem dX11_drawnAct_11 : decode cX11_drawnAct 11 = .ok (.invokevirtual 220, 3) := by decide +kernel
theorem dX11_drawnAct_14 : decode cX11_drawnAct 14 = .ok (.pop, 1) := by decide +kernel
theorem dX11_drawnAct_15 : decode cX11_drawnAct 15 = .ok (.goto 13, 3) := by decide +kernel
theorem dX11_drawnAct_18 : decode cX11_drawnAct 18 = .ok (.aload_n 0, 1) := by decide +kernel
theorem dX11_drawnAct_19 : decode cX11_drawnAct 19 = .ok (.getfield 81, 3) := by decide +kernel
theorem dX11_drawnAct_22 : decode cX11_drawnAct 22 = .ok (.iload_n 2, 1) := by decide +kernel
theorem dX11_drawnAct_23 : decode cX11_drawnAct 23 = .ok (.iload_n 3, 1) := by decide +kernel
theorem dX11_drawnAct_24 : decode cX11_drawnAct 24 = .ok (.invokevirtual 226, 3) := by decide +kernel
theorem dX11_drawnAct_27 : decode cX11_drawnAct 27 = .ok (.pop, 1) := by decide +kernel
theorem dX11_drawnAct_28 : decode cX11_drawnAct 28 = .ok (.return_, 1) := by decide +kernel
theorem dX11_drawn_0 : decode cX11_drawn 0 = .ok (.iload_n 0, 1) := by decide +kernel
theorem dX11_drawn_1 : decode cX11_drawn 1 = .ok (.ldc_w 403, 3) := by decide +kernel
theorem dX11_drawn_4 : decode cX11_drawn 4 = .ok (.imul, 1) := by decide +kernel
theorem dX11_drawn_5 : decode cX11_drawn 5 = .ok (.sipush 12345, 3) := by decide +kernel
theorem dX11_drawn_8 : decode cX11_drawn 8 = .ok (.iadd, 1) := by decide +kernel
theorem dX11_drawn_9 : decode cX11_drawn 9 = .ok (.ireturn, 1) := by decide +kernel
theorem dX11_lot_0 : decode cX11_lot 0 = .ok (.iload_n 1, 1) := by decide +kernel
theorem dX11_lot_1 : decode cX11_lot 1 = .ok (.ifCond .le 12, 3) := by decide +kernel
theorem dX11_lot_4 : decode cX11_lot 4 = .ok (.iload_n 0, 1) := by decide +kernel
theorem dX11_lot_5 : decode cX11_lot 5 = .ok (.bipush 16, 2) := by decide +kernel
theorem dX11_lot_7 : decode cX11_lot 7 = .ok (.iushr, 1) := by decide +kernel
theorem dX11_lot_8 : decode cX11_lot 8 = .ok (.iload_n 1, 1) := by decide +kernel
theorem dX11_lot_9 : decode cX11_lot 9 = .ok (.irem, 1) := by decide +kernel
theorem dX11_lot_10 : decode cX11_lot 10 = .ok (.goto 4, 3) := by decide +kernel
theorem dX11_lot_13 : decode cX11_lot 13 = .ok (.iconst 0, 1) := by decide +kernel
theorem dX11_lot_14 : decode cX11_lot 14 = .ok (.ireturn, 1) := by decide +kernel
theorem dX11_keep_0 : decode cX11_keep 0 = .ok (.aload_n 0, 1) := by decide +kernel
theorem dX11_keep_1 : decode cX11_keep 1 = .ok (.getfield 45, 3) := by decide +kernel
theorem dX11_keep_4 : decode cX11_keep 4 = .ok (.iload_n 1, 1) := by decide +kernel
theorem dX11_keep_5 : decode cX11_keep 5 = .ok (.aload_n 0, 1) := by decide +kernel
theorem dX11_keep_6 : decode cX11_keep 6 = .ok (.getfield 77, 3) := by decide +kernel
theorem dX11_keep_9 : decode cX11_keep 9 = .ok (.invokevirtual 404, 3) := by decide +kernel
theorem dX11_keep_12 : decode cX11_keep 12 = .ok (.ireturn, 1) := by decide +kernel
theorem dX11_again_0 : decode cX11_again 0 = .ok (.aload_n 0, 1) := by decide +kernel
theorem dX11_again_1 : decode cX11_again 1 = .ok (.getfield 45, 3) := by decide +kernel
theorem dX11_again_4 : decode cX11_again 4 = .ok (.iload_n 1, 1) := by decide +kernel
theorem dX11_again_5 : decode cX11_again 5 = .ok (.aload_n 0, 1) := by decide +kernel
theorem dX11_again_6 : decode cX11_again 6 = .ok (.getfield 77, 3) := by decide +kernel
theorem dX11_again_9 : decode cX11_again 9 = .ok (.invokevirtual 408, 3) := by decide +kernel
theorem dX11_again_12 : decode cX11_again 12 = .ok (.ireturn, 1) := by decide +kernel
theorem dX11_count_0 : decode cX11_count 0 = .ok (.iload_n 1, 1) := by decide +kernel
theorem dX11_count_1 : decode cX11_count 1 = .ok (.tableswitch 171 0 12 #[67, 75, 83, 91, 99, 107, 115, 123, 131, 139, 147, 155, 163], 67) := by decide +kernel
theorem dX11_count_68 : decode cX11_count 68 = .ok (.aload_n 0, 1) := by decide +kernel
theorem dX11_count_69 : decode cX11_count 69 = .ok (.getfield 73, 3) := by decide +kernel
theorem dX11_count_72 : decode cX11_count 72 = .ok (.invokevirtual 98, 3) := by decide +kernel
theorem dX11_count_75 : decode cX11_count 75 = .ok (.ireturn, 1) := by decide +kernel
theorem dX11_count_76 : decode cX11_count 76 = .ok (.aload_n 0, 1) := by decide +kernel
theorem dX11_count_77 : decode cX11_count 77 = .ok (.getfield 73, 3) := by decide +kernel
theorem dX11_count_80 : decode cX11_count 80 = .ok (.invokevirtual 126, 3) := by decide +kernel
theorem dX11_count_83 : decode cX11_count 83 = .ok (.ireturn, 1) := by decide +kernel
theorem dX11_count_84 : decode cX11_count 84 = .ok (.aload_n 0, 1) := by decide +kernel
theorem dX11_count_85 : decode cX11_count 85 = .ok (.getfield 73, 3) := by decide +kernel
theorem dX11_count_88 : decode cX11_count 88 = .ok (.invokevirtual 139, 3) := by decide +kernel
theorem dX11_count_91 : decode cX11_count 91 = .ok (.ireturn, 1) := by decide +kernel
theorem dX11_count_92 : decode cX11_count 92 = .ok (.aload_n 0, 1) := by decide +kernel
theorem dX11_count_93 : decode cX11_count 93 = .ok (.getfield 77, 3) := by decide +kernel
theorem dX11_count_96 : decode cX11_count 96 = .ok (.invokevirtual 411, 3) := by decide +kernel
theorem dX11_count_99 : decode cX11_count 99 = .ok (.ireturn, 1) := by decide +kernel
theorem dX11_count_100 : decode cX11_count 100 = .ok (.aload_n 0, 1) := by decide +kernel
theorem dX11_count_101 : decode cX11_count 101 = .ok (.getfield 77, 3) := by decide +kernel
theorem dX11_count_104 : decode cX11_count 104 = .ok (.invokevirtual 414, 3) := by decide +kernel
theorem dX11_count_107 : decode cX11_count 107 = .ok (.ireturn, 1) := by decide +kernel
theorem dX11_count_108 : decode cX11_count 108 = .ok (.aload_n 0, 1) := by decide +kernel
theorem dX11_count_109 : decode cX11_count 109 = .ok (.getfield 77, 3) := by decide +kernel
theorem dX11_count_112 : decode cX11_count 112 = .ok (.invokevirtual 213, 3) := by decide +kernel
theorem dX11_count_115 : decode cX11_count 115 = .ok (.ireturn, 1) := by decide +kernel
theorem dX11_count_116 : decode cX11_count 116 = .ok (.aload_n 0, 1) := by decide +kernel
theorem dX11_count_117 : decode cX11_count 117 = .ok (.getfield 77, 3) := by decide +kernel
theorem dX11_count_120 : decode cX11_count 120 = .ok (.invokevirtual 400, 3) := by decide +kernel
theorem dX11_count_123 : decode cX11_count 123 = .ok (.ireturn, 1) := by decide +kernel
theorem dX11_count_124 : decode cX11_count 124 = .ok (.aload_n 0, 1) := by decide +kernel
theorem dX11_count_125 : decode cX11_count 125 = .ok (.getfield 77, 3) := by decide +kernel
theorem dX11_count_128 : decode cX11_count 128 = .ok (.invokevirtual 251, 3) := by decide +kernel
theorem dX11_count_131 : decode cX11_count 131 = .ok (.ireturn, 1) := by decide +kernel
theorem dX11_count_132 : decode cX11_count 132 = .ok (.aload_n 0, 1) := by decide +kernel
theorem dX11_count_133 : decode cX11_count 133 = .ok (.getfield 77, 3) := by decide +kernel
theorem dX11_count_136 : decode cX11_count 136 = .ok (.invokevirtual 245, 3) := by decide +kernel
theorem dX11_count_139 : decode cX11_count 139 = .ok (.ireturn, 1) := by decide +kernel
theorem dX11_count_140 : decode cX11_count 140 = .ok (.aload_n 0, 1) := by decide +kernel
theorem dX11_count_141 : decode cX11_count 141 = .ok (.getfield 65, 3) := by decide +kernel
theorem dX11_count_144 : decode cX11_count 144 = .ok (.invokevirtual 335, 3) := by decide +kernel
theorem dX11_count_147 : decode cX11_count 147 = .ok (.ireturn, 1) := by decide +kernel
theorem dX11_count_148 : decode cX11_count 148 = .ok (.aload_n 0, 1) := by decide +kernel
theorem dX11_count_149 : decode cX11_count 149 = .ok (.getfield 45, 3) := by decide +kernel
theorem dX11_count_152 : decode cX11_count 152 = .ok (.invokevirtual 268, 3) := by decide +kernel
theorem dX11_count_155 : decode cX11_count 155 = .ok (.ireturn, 1) := by decide +kernel
theorem dX11_count_156 : decode cX11_count 156 = .ok (.aload_n 0, 1) := by decide +kernel
theorem dX11_count_157 : decode cX11_count 157 = .ok (.getfield 69, 3) := by decide +kernel
theorem dX11_count_160 : decode cX11_count 160 = .ok (.invokevirtual 417, 3) := by decide +kernel
theorem dX11_count_163 : decode cX11_count 163 = .ok (.ireturn, 1) := by decide +kernel
theorem dX11_count_164 : decode cX11_count 164 = .ok (.aload_n 0, 1) := by decide +kernel
theorem dX11_count_165 : decode cX11_count 165 = .ok (.getfield 10, 3) := by decide +kernel
theorem dX11_count_168 : decode cX11_count 168 = .ok (.invokevirtual 88, 3) := by decide +kernel
theorem dX11_count_171 : decode cX11_count 171 = .ok (.ireturn, 1) := by decide +kernel
theorem dX11_count_172 : decode cX11_count 172 = .ok (.iconst (-1), 1) := by decide +kernel
theorem dX11_count_173 : decode cX11_count 173 = .ok (.ireturn, 1) := by decide +kernel
theorem dX11_row_0 : decode cX11_row 0 = .ok (.iload_n 1, 1) := by decide +kernel
theorem dX11_row_1 : decode cX11_row 1 = .ok (.iconst 0, 1) := by decide +kernel
theorem dX11_row_2 : decode cX11_row 2 = .ok (.aload_n 0, 1) := by decide +kernel
theorem dX11_row_3 : decode cX11_row 3 = .ok (.getfield 69, 3) := by decide +kernel
theorem dX11_row_6 : decode cX11_row 6 = .ok (.invokevirtual 417, 3) := by decide +kernel
theorem dX11_row_9 : decode cX11_row 9 = .ok (.iconst 1, 1) := by decide +kernel
theorem dX11_row_10 : decode cX11_row 10 = .ok (.isub, 1) := by decide +kernel
theorem dX11_row_11 : decode cX11_row 11 = .ok (.invokestatic 164, 3) := by decide +kernel
theorem dX11_row_14 : decode cX11_row 14 = .ok (.ifCond .ne 11, 3) := by decide +kernel
theorem dX11_row_17 : decode cX11_row 17 = .ok (.new 168, 3) := by decide +kernel
theorem dX11_row_20 : decode cX11_row 20 = .ok (.dup, 1) := by decide +kernel
theorem dX11_row_21 : decode cX11_row 21 = .ok (.invokespecial 170, 3) := by decide +kernel
theorem dX11_row_24 : decode cX11_row 24 = .ok (.athrow, 1) := by decide +kernel
theorem dX11_row_25 : decode cX11_row 25 = .ok (.aload_n 0, 1) := by decide +kernel
theorem dX11_row_26 : decode cX11_row 26 = .ok (.getfield 69, 3) := by decide +kernel
theorem dX11_row_29 : decode cX11_row 29 = .ok (.iload_n 1, 1) := by decide +kernel
theorem dX11_row_30 : decode cX11_row 30 = .ok (.invokevirtual 418, 3) := by decide +kernel
theorem dX11_row_33 : decode cX11_row 33 = .ok (.lreturn, 1) := by decide +kernel
theorem dX11_within_0 : decode cX11_within 0 = .ok (.iload_n 0, 1) := by decide +kernel
theorem dX11_within_1 : decode cX11_within 1 = .ok (.iload_n 1, 1) := by decide +kernel
theorem dX11_within_2 : decode cX11_within 2 = .ok (.if_icmp .lt 12, 3) := by decide +kernel
theorem dX11_within_5 : decode cX11_within 5 = .ok (.iload_n 0, 1) := by decide +kernel
theorem dX11_within_6 : decode cX11_within 6 = .ok (.iload_n 2, 1) := by decide +kernel
theorem dX11_within_7 : decode cX11_within 7 = .ok (.if_icmp .gt 7, 3) := by decide +kernel
theorem dX11_within_10 : decode cX11_within 10 = .ok (.iconst 1, 1) := by decide +kernel
theorem dX11_within_11 : decode cX11_within 11 = .ok (.goto 4, 3) := by decide +kernel
theorem dX11_within_14 : decode cX11_within 14 = .ok (.iconst 0, 1) := by decide +kernel
theorem dX11_within_15 : decode cX11_within 15 = .ok (.ireturn, 1) := by decide +kernel
theorem dX11_clamp_0 : decode cX11_clamp 0 = .ok (.iload_n 0, 1) := by decide +kernel
theorem dX11_clamp_1 : decode cX11_clamp 1 = .ok (.iload_n 1, 1) := by decide +kernel
theorem dX11_clamp_2 : decode cX11_clamp 2 = .ok (.if_icmp .ge 5, 3) := by decide +kernel
theorem dX11_clamp_5 : decode cX11_clamp 5 = .ok (.iload_n 1, 1) := by decide +kernel
theorem dX11_clamp_6 : decode cX11_clamp 6 = .ok (.ireturn, 1) := by decide +kernel
theorem dX11_clamp_7 : decode cX11_clamp 7 = .ok (.iload_n 0, 1) := by decide +kernel
theorem dX11_clamp_8 : decode cX11_clamp 8 = .ok (.iload_n 2, 1) := by decide +kernel
theorem dX11_clamp_9 : decode cX11_clamp 9 = .ok (.if_icmp .le 7, 3) := by decide +kernel
theorem dX11_clamp_12 : decode cX11_clamp 12 = .ok (.iload_n 2, 1) := by decide +kernel
theorem dX11_clamp_13 : decode cX11_clamp 13 = .ok (.goto 4, 3) := by decide +kernel
theorem dX11_clamp_16 : decode cX11_clamp 16 = .ok (.iload_n 0, 1) := by decide +kernel
theorem dX11_clamp_17 : decode cX11_clamp 17 = .ok (.ireturn, 1) := by decide +kernel
theorem dX11_isDigit_0 : decode cX11_isDigit 0 = .ok (.iload_n 0, 1) := by decide +kernel
theorem dX11_isDigit_1 : decode cX11_isDigit 1 = .ok (.bipush 48, 2) := by decide +kernel
theorem dX11_isDigit_3 : decode cX11_isDigit 3 = .ok (.bipush 57, 2) := by decide +kernel
theorem dX11_isDigit_5 : decode cX11_isDigit 5 = .ok (.invokestatic 164, 3) := by decide +kernel
theorem dX11_isDigit_8 : decode cX11_isDigit 8 = .ok (.ireturn, 1) := by decide +kernel
theorem dX11_isIn_0 : decode cX11_isIn 0 = .ok (.iload_n 1, 1) := by decide +kernel
theorem dX11_isIn_1 : decode cX11_isIn 1 = .ok (.iload_n 0, 1) := by decide +kernel
theorem dX11_isIn_2 : decode cX11_isIn 2 = .ok (.ishr, 1) := by decide +kernel
theorem dX11_isIn_3 : decode cX11_isIn 3 = .ok (.iconst 1, 1) := by decide +kernel
theorem dX11_isIn_4 : decode cX11_isIn 4 = .ok (.iand, 1) := by decide +kernel
theorem dX11_isIn_5 : decode cX11_isIn 5 = .ok (.iconst 1, 1) := by decide +kernel
theorem dX11_isIn_6 : decode cX11_isIn 6 = .ok (.if_icmp .ne 7, 3) := by decide +kernel
theorem dX11_isIn_9 : decode cX11_isIn 9 = .ok (.iconst 1, 1) := by decide +kernel
theorem dX11_isIn_10 : decode cX11_isIn 10 = .ok (.goto 4, 3) := by decide +kernel
theorem dX11_isIn_13 : decode cX11_isIn 13 = .ok (.iconst 0, 1) := by decide +kernel
theorem dX11_isIn_14 : decode cX11_isIn 14 = .ok (.ireturn, 1) := by decide +kernel
theorem dX12_init_0 : decode cX12_init 0 = .ok (.aload_n 0, 1) := by decide +kernel
theorem dX12_init_1 : decode cX12_init 1 = .ok (.invokespecial 3, 3) := by decide +kernel
theorem dX12_init_4 : decode cX12_init 4 = .ok (.aload_n 0, 1) := by decide +kernel
theorem dX12_init_5 : decode cX12_init 5 = .ok (.bipush 88, 2) := by decide +kernel
theorem dX12_init_7 : decode cX12_init 7 = .ok (.newarray .int, 2) := by decide +kernel
theorem dX12_init_9 : decode cX12_init 9 = .ok (.putfield 9, 3) := by decide +kernel
theorem dX12_init_12 : decode cX12_init 12 = .ok (.aload_n 0, 1) := by decide +kernel
theorem dX12_init_13 : decode cX12_init 13 = .ok (.bipush 8, 2) := by decide +kernel
theorem dX12_init_15 : decode cX12_init 15 = .ok (.newarray .int, 2) := by decide +kernel
theorem dX12_init_17 : decode cX12_init 17 = .ok (.putfield 13, 3) := by decide +kernel
theorem dX12_init_20 : decode cX12_init 20 = .ok (.aload_n 0, 1) := by decide +kernel
theorem dX12_init_21 : decode cX12_init 21 = .ok (.bipush 32, 2) := by decide +kernel
theorem dX12_init_23 : decode cX12_init 23 = .ok (.newarray .int, 2) := by decide +kernel
theorem dX12_init_25 : decode cX12_init 25 = .ok (.putfield 16, 3) := by decide +kernel
theorem dX12_init_28 : decode cX12_init 28 = .ok (.aload_n 0, 1) := by decide +kernel
theorem dX12_init_29 : decode cX12_init 29 = .ok (.bipush 6, 2) := by decide +kernel
theorem dX12_init_31 : decode cX12_init 31 = .ok (.newarray .int, 2) := by decide +kernel
theorem dX12_init_33 : decode cX12_init 33 = .ok (.putfield 19, 3) := by decide +kernel
theorem dX12_init_36 : decode cX12_init 36 = .ok (.aload_n 0, 1) := by decide +kernel
theorem dX12_init_37 : decode cX12_init 37 = .ok (.bipush 6, 2) := by decide +kernel
theorem dX12_init_39 : decode cX12_init 39 = .ok (.newarray .int, 2) := by decide +kernel
theorem dX12_init_41 : decode cX12_init 41 = .ok (.putfield 22, 3) := by decide +kernel
theorem dX12_init_44 : decode cX12_init 44 = .ok (.aload_n 0, 1) := by decide +kernel
theorem dX12_init_45 : decode cX12_init 45 = .ok (.bipush 54, 2) := by decide +kernel
theorem dX12_init_47 : decode cX12_init 47 = .ok (.newarray .int, 2) := by decide +kernel
theorem dX12_init_49 : decode cX12_init 49 = .ok (.putfield 25, 3) := by decide +kernel
theorem dX12_init_52 : decode cX12_init 52 = .ok (.aload_n 0, 1) := by decide +kernel
theorem dX12_init_53 : decode cX12_init 53 = .ok (.bipush 80, 2) := by decide +kernel
theorem dX12_init_55 : decode cX12_init 55 = .ok (.newarray .byte, 2) := by decide +kernel
theorem dX12_init_57 : decode cX12_init 57 = .ok (.putfield 28, 3) := by decide +kernel
theorem dX12_init_60 : decode cX12_init 60 = .ok (.aload_n 0, 1) := by decide +kernel
theorem dX12_init_61 : decode cX12_init 61 = .ok (.bipush 16, 2) := by decide +kernel
theorem dX12_init_63 : decode cX12_init 63 = .ok (.newarray .long, 2) := by decide +kernel
theorem dX12_init_65 : decode cX12_init 65 = .ok (.putfield 32, 3) := by decide +kernel
theorem dX12_init_68 : decode cX12_init 68 = .ok (.aload_n 0, 1) := by decide +kernel
theorem dX12_init_69 : decode cX12_init 69 = .ok (.bipush 64, 2) := by decide +kernel
theorem dX12_init_71 : decode cX12_init 71 = .ok (.newarray .int, 2) := by decide +kernel
theorem dX12_init_73 : decode cX12_init 73 = .ok (.putfield 36, 3) := by decide +kernel
theorem dX12_init_76 : decode cX12_init 76 = .ok (.aload_n 0, 1) := by decide +kernel
theorem dX12_init_77 : decode cX12_init 77 = .ok (.bipush 6, 2) := by decide +kernel
theorem dX12_init_79 : decode cX12_init 79 = .ok (.newarray .int, 2) := by decide +kernel
theorem dX12_init_81 : decode cX12_init 81 = .ok (.putfield 39, 3) := by decide +kernel
theorem dX12_init_84 : decode cX12_init 84 = .ok (.aload_n 0, 1) := by decide +kernel
theorem dX12_init_85 : decode cX12_init 85 = .ok (.bipush 40, 2) := by decide +kernel
theorem dX12_init_87 : decode cX12_init 87 = .ok (.newarray .byte, 2) := by decide +kernel
theorem dX12_init_89 : decode cX12_init 89 = .ok (.putfield 42, 3) := by decide +kernel
theorem dX12_init_92 : decode cX12_init 92 = .ok (.aload_n 0, 1) := by decide +kernel
theorem dX12_init_93 : decode cX12_init 93 = .ok (.bipush 40, 2) := by decide +kernel
theorem dX12_init_95 : decode cX12_init 95 = .ok (.newarray .byte, 2) := by decide +kernel
theorem dX12_init_97 : decode cX12_init 97 = .ok (.putfield 45, 3) := by decide +kernel
theorem dX12_init_100 : decode cX12_init 100 = .ok (.aload_n 0, 1) := by decide +kernel
theorem dX12_init_101 : decode cX12_init 101 = .ok (.bipush 7, 2) := by decide +kernel
theorem dX12_init_103 : decode cX12_init 103 = .ok (.newarray .int, 2) := by decide +kernel
theorem dX12_init_105 : decode cX12_init 105 = .ok (.putfield 48, 3) := by decide +kernel
theorem dX12_init_108 : decode cX12_init 108 = .ok (.aload_n 0, 1) := by decide +kernel
theorem dX12_init_109 : decode cX12_init 109 = .ok (.sipush 1056, 3) := by decide +kernel
theorem dX12_init_112 : decode cX12_init 112 = .ok (.newarray .int, 2) := by decide +kernel
theorem dX12_init_114 : decode cX12_init 114 = .ok (.putfield 51, 3) := by decide +kernel
theorem dX12_init_117 : decode cX12_init 117 = .ok (.aload_n 0, 1) := by decide +kernel
theorem dX12_init_118 : decode cX12_init 118 = .ok (.bipush 88, 2) := by decide +kernel
theorem dX12_init_120 : decode cX12_init 120 = .ok (.newarray .int, 2) := by decide +kernel
theorem dX12_init_122 : decode cX12_init 122 = .ok (.putfield 54, 3) := by decide +kernel
theorem dX12_init_125 : decode cX12_init 125 = .ok (.aload_n 0, 1) := by decide +kernel
theorem dX12_init_126 : decode cX12_init 126 = .ok (.bipush 88, 2) := by decide +kernel
theorem dX12_init_128 : decode cX12_init 128 = .ok (.newarray .int, 2) := by decide +kernel
theorem dX12_init_130 : decode cX12_init 130 = .ok (.putfield 57, 3) := by decide +kernel
theorem dX12_init_133 : decode cX12_init 133 = .ok (.aload_n 0, 1) := by decide +kernel
theorem dX12_init_134 : decode cX12_init 134 = .ok (.iconst 4, 1) := by decide +kernel
theorem dX12_init_135 : decode cX12_init 135 = .ok (.newarray .int, 2) := by decide +kernel
theorem dX12_init_137 : decode cX12_init 137 = .ok (.putfield 60, 3) := by decide +kernel
theorem dX12_init_140 : decode cX12_init 140 = .ok (.aload_n 0, 1) := by decide +kernel
theorem dX12_init_141 : decode cX12_init 141 = .ok (.sipush 240, 3) := by decide +kernel
theorem dX12_init_144 : decode cX12_init 144 = .ok (.newarray .int, 2) := by decide +kernel
theorem dX12_init_146 : decode cX12_init 146 = .ok (.putfield 63, 3) := by decide +kernel
theorem dX12_init_149 : decode cX12_init 149 = .ok (.aload_n 0, 1) := by decide +kernel
theorem dX12_init_150 : decode cX12_init 150 = .ok (.iconst 4, 1) := by decide +kernel
theorem dX12_init_151 : decode cX12_init 151 = .ok (.newarray .int, 2) := by decide +kernel
theorem dX12_init_153 : decode cX12_init 153 = .ok (.putfield 66, 3) := by decide +kernel
theorem dX12_init_156 : decode cX12_init 156 = .ok (.aload_n 0, 1) := by decide +kernel
theorem dX12_init_157 : decode cX12_init 157 = .ok (.bipush 12, 2) := by decide +kernel
theorem dX12_init_159 : decode cX12_init 159 = .ok (.newarray .int, 2) := by decide +kernel
theorem dX12_init_161 : decode cX12_init 161 = .ok (.putfield 69, 3) := by decide +kernel
theorem dX12_init_164 : decode cX12_init 164 = .ok (.aload_n 0, 1) := by decide +kernel
theorem dX12_init_165 : decode cX12_init 165 = .ok (.bipush 12, 2) := by decide +kernel
theorem dX12_init_167 : decode cX12_init 167 = .ok (.newarray .int, 2) := by decide +kernel
theorem dX12_init_169 : decode cX12_init 169 = .ok (.putfield 72, 3) := by decide +kernel
theorem dX12_init_172 : decode cX12_init 172 = .ok (.aload_n 0, 1) := by decide +kernel
theorem dX12_init_173 : decode cX12_init 173 = .ok (.bipush 12, 2) := by decide +kernel
theorem dX12_init_175 : decode cX12_init 175 = .ok (.newarray .int, 2) := by decide +kernel
theorem dX12_init_177 : decode cX12_init 177 = .ok (.putfield 75, 3) := by decide +kernel
theorem dX12_init_180 : decode cX12_init 180 = .ok (.aload_n 0, 1) := by decide +kernel
theorem dX12_init_181 : decode cX12_init 181 = .ok (.bipush 32, 2) := by decide +kernel
theorem dX12_init_183 : decode cX12_init 183 = .ok (.newarray .int, 2) := by decide +kernel
theorem dX12_init_185 : decode cX12_init 185 = .ok (.putfield 78, 3) := by decide +kernel
theorem dX12_init_188 : decode cX12_init 188 = .ok (.aload_n 0, 1) := by decide +kernel
theorem dX12_init_189 : decode cX12_init 189 = .ok (.bipush 10, 2) := by decide +kernel
theorem dX12_init_191 : decode cX12_init 191 = .ok (.newarray .int, 2) := by decide +kernel
theorem dX12_init_193 : decode cX12_init 193 = .ok (.putfield 81, 3) := by decide +kernel
theorem dX12_init_196 : decode cX12_init 196 = .ok (.aload_n 0, 1) := by decide +kernel
theorem dX12_init_197 : decode cX12_init 197 = .ok (.bipush 54, 2) := by decide +kernel
theorem dX12_init_199 : decode cX12_init 199 = .ok (.newarray .int, 2) := by decide +kernel
theorem dX12_init_201 : decode cX12_init 201 = .ok (.putfield 84, 3) := by decide +kernel
theorem dX12_init_204 : decode cX12_init 204 = .ok (.aload_n 0, 1) := by decide +kernel
theorem dX12_init_205 : decode cX12_init 205 = .ok (.bipush 6, 2) := by decide +kernel
theorem dX12_init_207 : decode cX12_init 207 = .ok (.newarray .int, 2) := by decide +kernel
theorem dX12_init_209 : decode cX12_init 209 = .ok (.putfield 87, 3) := by decide +kernel
theorem dX12_init_212 : decode cX12_init 212 = .ok (.aload_n 0, 1) := by decide +kernel
theorem dX12_init_213 : decode cX12_init 213 = .ok (.bipush 6, 2) := by decide +kernel
theorem dX12_init_215 : decode cX12_init 215 = .ok (.newarray .int, 2) := by decide +kernel
theorem dX12_init_217 : decode cX12_init 217 = .ok (.putfield 90, 3) := by decide +kernel
theorem dX12_init_220 : decode cX12_init 220 = .ok (.aload_n 0, 1) := by decide +kernel
theorem dX12_init_221 : decode cX12_init 221 = .ok (.bipush 8, 2) := by decide +kernel
theorem dX12_init_223 : decode cX12_init 223 = .ok (.newarray .int, 2) := by decide +kernel
theorem dX12_init_225 : decode cX12_init 225 = .ok (.putfield 93, 3) := by decide +kernel
theorem dX12_init_228 : decode cX12_init 228 = .ok (.aload_n 0, 1) := by decide +kernel
theorem dX12_init_229 : decode cX12_init 229 = .ok (.sipush 10000, 3) := by decide +kernel
theorem dX12_init_232 : decode cX12_init 232 = .ok (.newarray .int, 2) := by decide +kernel
theorem dX12_init_234 : decode cX12_init 234 = .ok (.putfield 96, 3) := by decide +kernel
theorem dX12_init_237 : decode cX12_init 237 = .ok (.aload_n 0, 1) := by decide +kernel
theorem dX12_init_238 : decode cX12_init 238 = .ok (.sipush 176, 3) := by decide +kernel
theorem dX12_init_241 : decode cX12_init 241 = .ok (.newarray .int, 2) := by decide +kernel
theorem dX12_init_243 : decode cX12_init 243 = .ok (.putfield 99, 3) := by decide +kernel
theorem dX12_init_246 : decode cX12_init 246 = .ok (.aload_n 0, 1) := by decide +kernel
theorem dX12_init_247 : decode cX12_init 247 = .ok (.iconst 2, 1) := by decide +kernel
theorem dX12_init_248 : decode cX12_init 248 = .ok (.newarray .boolean, 2) := by decide +kernel
theorem dX12_init_250 : decode cX12_init 250 = .ok (.putfield 102, 3) := by decide +kernel
theorem dX12_init_253 : decode cX12_init 253 = .ok (.aload_n 0, 1) := by decide +kernel
theorem dX12_init_254 : decode cX12_init 254 = .ok (.iconst 2, 1) := by decide +kernel
theorem dX12_init_255 : decode cX12_init 255 = .ok (.newarray .int, 2) := by decide +kernel
theorem dX12_init_257 : decode cX12_init 257 = .ok (.putfield 106, 3) := by decide +kernel
theorem dX12_init_260 : decode cX12_init 260 = .ok (.return_, 1) := by decide +kernel
theorem dX12_thrown_0 : decode cX12_thrown 0 = .ok (.aload_n 0, 1) := by decide +kernel
theorem dX12_thrown_1 : decode cX12_thrown 1 = .ok (.getfield 109, 3) := by decide +kernel
theorem dX12_thrown_4 : decode cX12_thrown 4 = .ok (.ireturn, 1) := by decide +kernel
theorem dX12_in_0 : decode cX12_in 0 = .ok (.iload_n 0, 1) := by decide +kernel
theorem dX12_in_1 : decode cX12_in 1 = .ok (.iload_n 1, 1) := by decide +kernel
theorem dX12_in_2 : decode cX12_in 2 = .ok (.if_icmp .lt 12, 3) := by decide +kernel
theorem dX12_in_5 : decode cX12_in 5 = .ok (.iload_n 0, 1) := by decide +kernel
theorem dX12_in_6 : decode cX12_in 6 = .ok (.iload_n 2, 1) := by decide +kernel
theorem dX12_in_7 : decode cX12_in 7 = .ok (.if_icmp .gt 7, 3) := by decide +kernel
theorem dX12_in_10 : decode cX12_in 10 = .ok (.iconst 1, 1) := by decide +kernel
theorem dX12_in_11 : decode cX12_in 11 = .ok (.goto 4, 3) := by decide +kernel
theorem dX12_in_14 : decode cX12_in 14 = .ok (.iconst 0, 1) := by decide +kernel
theorem dX12_in_15 : decode cX12_in 15 = .ok (.ireturn, 1) := by decide +kernel
theorem dX12_has_0 : decode cX12_has 0 = .ok (.iload_n 0, 1) := by decide +kernel
theorem dX12_has_1 : decode cX12_has 1 = .ok (.iload_n 1, 1) := by decide +kernel
theorem dX12_has_2 : decode cX12_has 2 = .ok (.ishr, 1) := by decide +kernel
theorem dX12_has_3 : decode cX12_has 3 = .ok (.iconst 1, 1) := by decide +kernel
theorem dX12_has_4 : decode cX12_has 4 = .ok (.iand, 1) := by decide +kernel
theorem dX12_has_5 : decode cX12_has 5 = .ok (.iconst 1, 1) := by decide +kernel
theorem dX12_has_6 : decode cX12_has 6 = .ok (.if_icmp .ne 7, 3) := by decide +kernel
theorem dX12_has_9 : decode cX12_has 9 = .ok (.iconst 1, 1) := by decide +kernel
theorem dX12_has_10 : decode cX12_has 10 = .ok (.goto 4, 3) := by decide +kernel
theorem dX12_has_13 : decode cX12_has 13 = .ok (.iconst 0, 1) := by decide +kernel
theorem dX12_has_14 : decode cX12_has 14 = .ok (.ireturn, 1) := by decide +kernel
theorem dX12_lost_0 : decode cX12_lost 0 = .ok (.aload_n 0, 1) := by decide +kernel
theorem dX12_lost_1 : decode cX12_lost 1 = .ok (.iconst 1, 1) := by decide +kernel
theorem dX12_lost_2 : decode cX12_lost 2 = .ok (.putfield 109, 3) := by decide +kernel
theorem dX12_lost_5 : decode cX12_lost 5 = .ok (.iconst 0, 1) := by decide +kernel
theorem dX12_lost_6 : decode cX12_lost 6 = .ok (.ireturn, 1) := by decide +kernel
theorem dX12_tell_0 : decode cX12_tell 0 = .ok (.aload_n 0, 1) := by decide +kernel
theorem dX12_tell_1 : decode cX12_tell 1 = .ok (.getfield 32, 3) := by decide +kernel
theorem dX12_tell_4 : decode cX12_tell 4 = .ok (.aload_n 0, 1) := by decide +kernel
theorem dX12_tell_5 : decode cX12_tell 5 = .ok (.getfield 113, 3) := by decide +kernel
theorem dX12_tell_8 : decode cX12_tell 8 = .ok (.lload_n 1, 1) := by decide +kernel
theorem dX12_tell_9 : decode cX12_tell 9 = .ok (.lastore, 1) := by decide +kernel
theorem dX12_tell_10 : decode cX12_tell 10 = .ok (.aload_n 0, 1) := by decide +kernel
theorem dX12_tell_11 : decode cX12_tell 11 = .ok (.dup, 1) := by decide +kernel
theorem dX12_tell_12 : decode cX12_tell 12 = .ok (.getfield 113, 3) := by decide +kernel
theorem dX12_tell_15 : decode cX12_tell 15 = .ok (.iconst 1, 1) := by decide +kernel
theorem dX12_tell_16 : decode cX12_tell 16 = .ok (.iadd, 1) := by decide +kernel
theorem dX12_tell_17 : decode cX12_tell 17 = .ok (.putfield 113, 3) := by decide +kernel
theorem dX12_tell_20 : decode cX12_tell 20 = .ok (.return_, 1) := by decide +kernel
theorem dX12_isGround_0 : decode cX12_isGround 0 = .ok (.iload_n 1, 1) := by decide +kernel
theorem dX12_isGround_1 : decode cX12_isGround 1 = .ok (.iconst 0, 1) := by decide +kernel
theorem dX12_isGround_2 : decode cX12_isGround 2 = .ok (.aload_n 0, 1) := by decide +kernel
theorem dX12_isGround_3 : decode cX12_isGround 3 = .ok (.getfield 116, 3) := by decide +kernel
theorem dX12_isGround_6 : decode cX12_isGround 6 = .ok (.iconst 1, 1) := by decide +kernel
theorem dX12_isGround_7 : decode cX12_isGround 7 = .ok (.isub, 1) := by decide +kernel
theorem dX12_isGround_8 : decode cX12_isGround 8 = .ok (.invokestatic 119, 3) := by decide +kernel
theorem dX12_isGround_11 : decode cX12_isGround 11 = .ok (.ireturn, 1) := by decide +kernel
theorem dX12_isMan_0 : decode cX12_isMan 0 = .ok (.iload_n 1, 1) := by decide +kernel
theorem dX12_isMan_1 : decode cX12_isMan 1 = .ok (.iconst 0, 1) := by decide +kernel
theorem dX12_isMan_2 : decode cX12_isMan 2 = .ok (.aload_n 0, 1) := by decide +kernel
theorem dX12_isMan_3 : decode cX12_isMan 3 = .ok (.getfield 123, 3) := by decide +kernel
theorem dX12_isMan_6 : decode cX12_isMan 6 = .ok (.iconst 1, 1) := by decide +kernel
theorem dX12_isMan_7 : decode cX12_isMan 7 = .ok (.isub, 1) := by decide +kernel
theorem dX12_isMan_8 : decode cX12_isMan 8 = .ok (.invokestatic 119, 3) := by decide +kernel
theorem dX12_isMan_11 : decode cX12_isMan 11 = .ok (.ireturn, 1) := by decide +kernel
theorem dX12_isWant_0 : decode cX12_isWant 0 = .ok (.iload_n 1, 1) := by decide +kernel
theorem dX12_isWant_1 : decode cX12_isWant 1 = .ok (.iconst 0, 1) := by decide +kernel
theorem dX12_isWant_2 : decode cX12_isWant 2 = .ok (.aload_n 0, 1) := by decide +kernel
theorem dX12_isWant_3 : decode cX12_isWant 3 = .ok (.getfield 126, 3) := by decide +kernel
theorem dX12_isWant_6 : decode cX12_isWant 6 = .ok (.iconst 1, 1) := by decide +kernel
theorem dX12_isWant_7 : decode cX12_isWant 7 = .ok (.isub, 1) := by decide +kernel
theorem dX12_isWant_8 : decode cX12_isWant 8 = .ok (.invokestatic 119, 3) := by decide +kernel
theorem dX12_isWant_11 : decode cX12_isWant 11 = .ok (.ireturn, 1) := by decide +kernel
theorem dX12_all_0 : decode cX12_all 0 = .ok (.iconst 1, 1) := by decide +kernel
theorem dX12_all_1 : decode cX12_all 1 = .ok (.aload_n 0, 1) := by decide +kernel
theorem dX12_all_2 : decode cX12_all 2 = .ok (.getfield 116, 3) := by decide +kernel
theorem dX12_all_5 : decode cX12_all 5 = .ok (.ishl, 1) := by decide +kernel
theorem dX12_all_6 : decode cX12_all 6 = .ok (.iconst 1, 1) := by decide +kernel
theorem dX12_all_7 : decode cX12_all 7 = .ok (.isub, 1) := by decide +kernel
theorem dX12_all_8 : decode cX12_all 8 = .ok (.ireturn, 1) := by decide +kernel
theorem dX12_sign_0 : decode cX12_sign 0 = .ok (.aload_n 0, 1) := by decide +kernel
theorem dX12_sign_1 : decode cX12_sign 1 = .ok (.iconst 0, 1) := by decide +kernel
theorem dX12_sign_2 : decode cX12_sign 2 = .ok (.putfield 109, 3) := by decide +kernel
theorem dX12_sign_5 : decode cX12_sign 5 = .ok (.aload_n 0, 1) := by decide +kernel
theorem dX12_sign_6 : decode cX12_sign 6 = .ok (.getfield 129, 3) := by decide +kernel
theorem dX12_sign_9 : decode cX12_sign 9 = .ok (.iconst 4, 1) := by decide +kernel
theorem dX12_sign_10 : decode cX12_sign 10 = .ok (.iadd, 1) := by decide +kernel
theorem dX12_sign_11 : decode cX12_sign 11 = .ok (.bipush 80, 2) := by decide +kernel
theorem dX12_sign_13 : decode cX12_sign 13 = .ok (.if_icmp .le 5, 3) := by decide +kernel
theorem dX12_sign_16 : decode cX12_sign 16 = .ok (.iconst (-1), 1) := by decide +kernel
theorem dX12_sign_17 : decode cX12_sign 17 = .ok (.ireturn, 1) := by decide +kernel
theorem dX12_sign_18 : decode cX12_sign 18 = .ok (.iconst 3, 1) := by decide +kernel
theorem dX12_sign_19 : decode cX12_sign 19 = .ok (.istore_n 2, 1) := by decide +kernel
theorem dX12_sign_20 : decode cX12_sign 20 = .ok (.iload_n 2, 1) := by decide +kernel
theorem dX12_sign_21 : decode cX12_sign 21 = .ok (.ifCond .lt 32, 3) := by decide +kernel
theorem dX12_sign_24 : decode cX12_sign 24 = .ok (.aload_n 0, 1) := by decide +kernel
theorem dX12_sign_25 : decode cX12_sign 25 = .ok (.getfield 28, 3) := by decide +kernel
theorem dX12_sign_28 : decode cX12_sign 28 = .ok (.aload_n 0, 1) := by decide +kernel
theorem dX12_sign_29 : decode cX12_sign 29 = .ok (.dup, 1) := by decide +kernel
theorem dX12_sign_30 : decode cX12_sign 30 = .ok (.getfield 129, 3) := by decide +kernel
theorem dX12_sign_33 : decode cX12_sign 33 = .ok (.dup_x1, 1) := by decide +kernel
theorem dX12_sign_34 : decode cX12_sign 34 = .ok (.iconst 1, 1) := by decide +kernel
theorem dX12_sign_35 : decode cX12_sign 35 = .ok (.iadd, 1) := by decide +kernel
theorem dX12_sign_36 : decode cX12_sign 36 = .ok (.putfield 129, 3) := by decide +kernel
theorem dX12_sign_39 : decode cX12_sign 39 = .ok (.iload_n 1, 1) := by decide +kernel
theorem dX12_sign_40 : decode cX12_sign 40 = .ok (.bipush 8, 2) := by decide +kernel
theorem dX12_sign_42 : decode cX12_sign 42 = .ok (.iload_n 2, 1) := by decide +kernel
theorem dX12_sign_43 : decode cX12_sign 43 = .ok (.imul, 1) := by decide +kernel
theorem dX12_sign_44 : decode cX12_sign 44 = .ok (.ishr, 1) := by decide +kernel
theorem dX12_sign_45 : decode cX12_sign 45 = .ok (.i2b, 1) := by decide +kernel
theorem dX12_sign_46 : decode cX12_sign 46 = .ok (.bastore, 1) := by decide +kernel
theorem dX12_sign_47 : decode cX12_sign 47 = .ok (.iinc 2 (-1), 3) := by decide +kernel
theorem dX12_sign_50 : decode cX12_sign 50 = .ok (.goto (-30), 3) := by decide +kernel
theorem dX12_sign_53 : decode cX12_sign 53 = .ok (.aload_n 0, 1) := by decide +kernel
theorem dX12_sign_54 : decode cX12_sign 54 = .ok (.getfield 129, 3) := by decide +kernel
theorem dX12_sign_57 : decode cX12_sign 57 = .ok (.ireturn, 1) := by decide +kernel
theorem dX12_end_0 : decode cX12_end 0 = .ok (.aload_n 0, 1) := by decide +kernel
theorem dX12_end_1 : decode cX12_end 1 = .ok (.iconst 0, 1) := by decide +kernel
theorem dX12_end_2 : decode cX12_end 2 = .ok (.putfield 109, 3) := by decide +kernel
theorem dX12_end_5 : decode cX12_end 5 = .ok (.iload_n 1, 1) := by decide +kernel
theorem dX12_end_6 : decode cX12_end 6 = .ok (.iconst 0, 1) := by decide +kernel
theorem dX12_end_7 : decode cX12_end 7 = .ok (.aload_n 0, 1) := by decide +kernel
theorem dX12_end_8 : decode cX12_end 8 = .ok (.getfield 129, 3) := by decide +kernel
theorem dX12_end_11 : decode cX12_end 11 = .ok (.invokestatic 119, 3) := by decide +kernel
theorem dX12_end_14 : decode cX12_end 14 = .ok (.ifCond .ne 5, 3) := by decide +kernel
theorem dX12_end_17 : decode cX12_end 17 = .ok (.iconst 0, 1) := by decide +kernel
theorem dX12_end_18 : decode cX12_end 18 = .ok (.ireturn, 1) := by decide +kernel
theorem dX12_end_19 : decode cX12_end 19 = .ok (.aload_n 0, 1) := by decide +kernel
theorem dX12_end_20 : decode cX12_end 20 = .ok (.iload_n 1, 1) := by decide +kernel
theorem dX12_end_21 : decode cX12_end 21 = .ok (.putfield 129, 3) := by decide +kernel
theorem dX12_end_24 : decode cX12_end 24 = .ok (.iconst 1, 1) := by decide +kernel
theorem dX12_end_25 : decode cX12_end 25 = .ok (.ireturn, 1) := by decide +kernel
theorem dX12_begin_0 : decode cX12_begin 0 = .ok (.aload_n 0, 1) := by decide +kernel
theorem dX12_begin_1 : decode cX12_begin 1 = .ok (.aload_n 1, 1) := by decide +kernel
theorem dX12_begin_2 : decode cX12_begin 2 = .ok (.putfield 132, 3) := by decide +kernel
theorem dX12_begin_5 : decode cX12_begin 5 = .ok (.aload_n 0, 1) := by decide +kernel
theorem dX12_begin_6 : decode cX12_begin 6 = .ok (.iload_n 2, 1) := by decide +kernel
theorem dX12_begin_7 : decode cX12_begin 7 = .ok (.putfield 135, 3) := by decide +kernel
theorem dX12_begin_10 : decode cX12_begin 10 = .ok (.aload_n 0, 1) := by decide +kernel
theorem dX12_begin_11 : decode cX12_begin 11 = .ok (.iload_n 3, 1) := by decide +kernel
theorem dX12_begin_12 : decode cX12_begin 12 = .ok (.putfield 138, 3) := by decide +kernel
theorem dX12_begin_15 : decode cX12_begin 15 = .ok (.aload_n 0, 1) := by decide +kernel
theorem dX12_begin_16 : decode cX12_begin 16 = .ok (.iconst 0, 1) := by decide +kernel
theorem dX12_begin_17 : decode cX12_begin 17 = .ok (.putfield 141, 3) := by decide +kernel
theorem dX12_begin_20 : decode cX12_begin 20 = .ok (.aload_n 0, 1) := by decide +kernel
theorem dX12_begin_21 : decode cX12_begin 21 = .ok (.iconst (-1), 1) := by decide +kernel
theorem dX12_begin_22 : decode cX12_begin 22 = .ok (.putfield 144, 3) := by decide +kernel
theorem dX12_begin_25 : decode cX12_begin 25 = .ok (.return_, 1) := by decide +kernel
theorem dX12_beginText_0 : decode cX12_beginText 0 = .ok (.aload_n 0, 1) := by decide +kernel
theorem dX12_beginText_1 : decode cX12_beginText 1 = .ok (.aload_n 0, 1) := by decide +kernel
theorem dX12_beginText_2 : decode cX12_beginText 2 = .ok (.getfield 28, 3) := by decide +kernel
theorem dX12_beginText_5 : decode cX12_beginText 5 = .ok (.aload_n 0, 1) := by decide +kernel
theorem dX12_beginText_6 : decode cX12_beginText 6 = .ok (.getfield 129, 3) := by decide +kernel
theorem dX12_beginText_9 : decode cX12_beginText 9 = .ok (.iload_n 1, 1) := by decide +kernel
theorem dX12_beginText_10 : decode cX12_beginText 10 = .ok (.invokevirtual 147, 3) := by decide +kernel
theorem dX12_beginText_13 : decode cX12_beginText 13 = .ok (.aload_n 0, 1) := by decide +kernel
theorem dX12_beginText_14 : decode cX12_beginText 14 = .ok (.iconst 0, 1) := by decide +kernel
theorem dX12_beginText_15 : decode cX12_beginText 15 = .ok (.putfield 129, 3) := by decide +kernel
theorem dX12_beginText_18 : decode cX12_beginText 18 = .ok (.return_, 1) := by decide +kernel
theorem dX12_here_0 : decode cX12_here 0 = .ok (.aload_n 0, 1) := by decide +kernel
theorem dX12_here_1 : decode cX12_here 1 = .ok (.getfield 141, 3) := by decide +kernel
theorem dX12_here_4 : decode cX12_here 4 = .ok (.aload_n 0, 1) := by decide +kernel
theorem dX12_here_5 : decode cX12_here 5 = .ok (.getfield 135, 3) := by decide +kernel
theorem dX12_here_8 : decode cX12_here 8 = .ok (.if_icmp .ge 30, 3) := by decide +kernel
theorem dX12_here_11 : decode cX12_here 11 = .ok (.aload_n 0, 1) := by decide +kernel
theorem dX12_here_12 : decode cX12_here 12 = .ok (.getfield 141, 3) := by decide +kernel
theorem dX12_here_15 : decode cX12_here 15 = .ok (.aload_n 0, 1) := by decide +kernel
theorem dX12_here_16 : decode cX12_here 16 = .ok (.getfield 138, 3) := by decide +kernel
theorem dX12_here_19 : decode cX12_here 19 = .ok (.if_icmp .ge 19, 3) := by decide +kernel
theorem dX12_here_22 : decode cX12_here 22 = .ok (.aload_n 0, 1) := by decide +kernel
theorem dX12_here_23 : decode cX12_here 23 = .ok (.getfield 132, 3) := by decide +kernel
theorem dX12_here_26 : decode cX12_here 26 = .ok (.aload_n 0, 1) := by decide +kernel
theorem dX12_here_27 : decode cX12_here 27 = .ok (.getfield 141, 3) := by decide +kernel
theorem dX12_here_30 : decode cX12_here 30 = .ok (.baload, 1) := by decide +kernel
theorem dX12_here_31 : decode cX12_here 31 = .ok (.sipush 255, 3) := by decide +kernel
theorem dX12_here_34 : decode cX12_here 34 = .ok (.iand, 1) := by decide +kernel
theorem dX12_here_35 : decode cX12_here 35 = .ok (.goto 4, 3) := by decide +kernel
theorem dX12_here_38 : decode cX12_here 38 = .ok (.iconst (-1), 1) := by decide +kernel
theorem dX12_here_39 : decode cX12_here 39 = .ok (.ireturn, 1) := by decide +kernel
theorem dX12_fine_0 : decode cX12_fine 0 = .ok (.aload_n 0, 1) := by decide +kernel
theorem dX12_fine_1 : decode cX12_fine 1 = .ok (.getfield 144, 3) := by decide +kernel
theorem dX12_fine_4 : decode cX12_fine 4 = .ok (.iconst (-1), 1) := by decide +kernel
theorem dX12_fine_5 : decode cX12_fine 5 = .ok (.if_icmp .ne 7, 3) := by decide +kernel
theorem dX12_fine_8 : decode cX12_fine 8 = .ok (.iconst 1, 1) := by decide +kernel
theorem dX12_fine_9 : decode cX12_fine 9 = .ok (.goto 4, 3) := by decide +kernel
theorem dX12_fine_12 : decode cX12_fine 12 = .ok (.iconst 0, 1) := by decide +kernel
theorem dX12_fine_13 : decode cX12_fine 13 = .ok (.ireturn, 1) := by decide +kernel
theorem dX12_fault_0 : decode cX12_fault 0 = .ok (.aload_n 0, 1) := by decide +kernel
theorem dX12_fault_1 : decode cX12_fault 1 = .ok (.invokevirtual 151, 3) := by decide +kernel
theorem dX12_fault_4 : decode cX12_fault 4 = .ok (.ifCond .eq 8, 3) := by decide +kernel
theorem dX12_fault_7 : decode cX12_fault 7 = .ok (.aload_n 0, 1) := by decide +kernel
theorem dX12_fault_8 : decode cX12_fault 8 = .ok (.iload_n 1, 1) := by decide +kernel
theorem dX12_fault_9 : decode cX12_fault 9 = .ok (.putfield 144, 3) := by decide +kernel
theorem dX12_fault_12 : decode cX12_fault 12 = .ok (.return_, 1) := by decide +kernel
theorem dX12_passes_0 : decode cX12_passes 0 = .ok (.aload_n 0, 1) := by decide +kernel
theorem dX12_passes_1 : decode cX12_passes 1 = .ok (.invokevirtual 151, 3) := by decide +kernel
theorem dX12_passes_4 : decode cX12_passes 4 = .ok (.ifCond .eq 11, 3) := by decide +kernel
theorem dX12_passes_7 : decode cX12_passes 7 = .ok (.aload_n 0, 1) := by decide +kernel
theorem dX12_passes_8 : decode cX12_passes 8 = .ok (.invokevirtual 155, 3) := by decide +kernel
theorem dX12_passes_11 : decode cX12_passes 11 = .ok (.iload_n 1, 1) := by decide +kernel
theorem dX12_passes_12 : decode cX12_passes 12 = .ok (.if_icmp .eq 5, 3) := by decide +kernel
theorem dX12_passes_15 : decode cX12_passes 15 = .ok (.iconst 0, 1) := by decide +kernel
theorem dX12_passes_16 : decode cX12_passes 16 = .ok (.ireturn, 1) := by decide +kernel
theorem dX12_passes_17 : decode cX12_passes 17 = .ok (.aload_n 0, 1) := by decide +kernel
theorem dX12_passes_18 : decode cX12_passes 18 = .ok (.dup, 1) := by decide +kernel
theorem dX12_passes_19 : decode cX12_passes 19 = .ok (.getfield 141, 3) := by decide +kernel
theorem dX12_passes_22 : decode cX12_passes 22 = .ok (.iconst 1, 1) := by decide +kernel
theorem dX12_passes_23 : decode cX12_passes 23 = .ok (.iadd, 1) := by decide +kernel
theorem dX12_passes_24 : decode cX12_passes 24 = .ok (.putfield 141, 3) := by decide +kernel
theorem dX12_passes_27 : decode cX12_passes 27 = .ok (.iconst 1, 1) := by decide +kernel
theorem dX12_passes_28 : decode cX12_passes 28 = .ok (.ireturn, 1) := by decide +kernel
theorem dX12_need_0 : decode cX12_need 0 = .ok (.aload_n 0, 1) := by decide +kernel
theorem dX12_need_1 : decode cX12_need 1 = .ok (.iload_n 1, 1) := by decide +kernel
theorem dX12_need_2 : decode cX12_need 2 = .ok (.invokevirtual 159, 3) := by decide +kernel
theorem dX12_need_5 : decode cX12_need 5 = .ok (.ifCond .ne 11, 3) := by decide +kernel
theorem dX12_need_8 : decode cX12_need 8 = .ok (.aload_n 0, 1) := by decide +kernel
theorem dX12_need_9 : decode cX12_need 9 = .ok (.aload_n 0, 1) := by decide +kernel
theorem dX12_need_10 : decode cX12_need 10 = .ok (.getfield 141, 3) := by decide +kernel
theorem dX12_need_13 : decode cX12_need 13 = .ok (.invokevirtual 163, 3) := by decide +kernel
theorem dX12_need_16 : decode cX12_need 16 = .ok (.return_, 1) := by decide +kernel
theorem dX12_oneOf_0 : decode cX12_oneOf 0 = .ok (.aload_n 0, 1) := by decide +kernel
theorem dX12_oneOf_1 : decode cX12_oneOf 1 = .ok (.invokevirtual 151, 3) := by decide +kernel
theorem dX12_oneOf_4 : decode cX12_oneOf 4 = .ok (.ifCond .ne 5, 3) := by decide +kernel
theorem dX12_oneOf_7 : decode cX12_oneOf 7 = .ok (.iconst 0, 1) := by decide +kernel
theorem dX12_oneOf_8 : decode cX12_oneOf 8 = .ok (.ireturn, 1) := by decide +kernel
theorem dX12_oneOf_9 : decode cX12_oneOf 9 = .ok (.aload_n 0, 1) := by decide +kernel
theorem dX12_oneOf_10 : decode cX12_oneOf 10 = .ok (.invokevirtual 155, 3) := by decide +kernel
theorem dX12_oneOf_13 : decode cX12_oneOf 13 = .ok (.iload_n 1, 1) := by decide +kernel
theorem dX12_oneOf_14 : decode cX12_oneOf 14 = .ok (.iload_n 1, 1) := by decide +kernel
theorem dX12_oneOf_15 : decode cX12_oneOf 15 = .ok (.iload_n 2, 1) := by decide +kernel
theorem dX12_oneOf_16 : decode cX12_oneOf 16 = .ok (.iadd, 1) := by decide +kernel
theorem dX12_oneOf_17 : decode cX12_oneOf 17 = .ok (.iconst 1, 1) := by decide +kernel
theorem dX12_oneOf_18 : decode cX12_oneOf 18 = .ok (.isub, 1) := by decide +kernel
theorem dX12_oneOf_19 : decode cX12_oneOf 19 = .ok (.invokestatic 119, 3) := by decide +kernel
theorem dX12_oneOf_22 : decode cX12_oneOf 22 = .ok (.ifCond .ne 13, 3) := by decide +kernel
theorem dX12_oneOf_25 : decode cX12_oneOf 25 = .ok (.aload_n 0, 1) := by decide +kernel
theorem dX12_oneOf_26 : decode cX12_oneOf 26 = .ok (.aload_n 0, 1) := by decide +kernel
theorem dX12_oneOf_27 : decode cX12_oneOf 27 = .ok (.getfield 141, 3) := by decide +kernel
theorem dX12_oneOf_30 : decode cX12_oneOf 30 = .ok (.invokevirtual 163, 3) := by decide +kernel
theorem dX12_oneOf_33 : decode cX12_oneOf 33 = .ok (.iconst 0, 1) := by decide +kernel
theorem dX12_oneOf_34 : decode cX12_oneOf 34 = .ok (.ireturn, 1) := by decide +kernel
theorem dX12_oneOf_35 : decode cX12_oneOf 35 = .ok (.aload_n 0, 1) := by decide +kernel
theorem dX12_oneOf_36 : decode cX12_oneOf 36 = .ok (.dup, 1) := by decide +kernel
theorem dX12_oneOf_37 : decode cX12_oneOf 37 = .ok (.getfield 141, 3) := by decide +kernel
theorem dX12_oneOf_40 : decode cX12_oneOf 40 = .ok (.iconst 1, 1) := by decide +kernel
theorem dX12_oneOf_41 : decode cX12_oneOf 41 = .ok (.iadd, 1) := by decide +kernel
theorem dX12_oneOf_42 : decode cX12_oneOf 42 = .ok (.putfield 141, 3) := by decide +kernel
theorem dX12_oneOf_45 : decode cX12_oneOf 45 = .ok (.aload_n 0, 1) := by decide +kernel
theorem dX12_oneOf_46 : decode cX12_oneOf 46 = .ok (.getfield 132, 3) := by decide +kernel
theorem dX12_oneOf_49 : decode cX12_oneOf 49 = .ok (.aload_n 0, 1) := by decide +kernel
theorem dX12_oneOf_50 : decode cX12_oneOf 50 = .ok (.getfield 141, 3) := by decide +kernel
theorem dX12_oneOf_53 : decode cX12_oneOf 53 = .ok (.iconst 1, 1) := by decide +kernel
theorem dX12_oneOf_54 : decode cX12_oneOf 54 = .ok (.isub, 1) := by decide +kernel
theorem dX12_oneOf_55 : decode cX12_oneOf 55 = .ok (.baload, 1) := by decide +kernel
theorem dX12_oneOf_56 : decode cX12_oneOf 56 = .ok (.iload_n 1, 1) := by decide +kernel
theorem dX12_oneOf_57 : decode cX12_oneOf 57 = .ok (.isub, 1) := by decide +kernel
theorem dX12_oneOf_58 : decode cX12_oneOf 58 = .ok (.ireturn, 1) := by decide +kernel
theorem dX12_number_0 : decode cX12_number 0 = .ok (.aload_n 0, 1) := by decide +kernel
theorem dX12_number_1 : decode cX12_number 1 = .ok (.bipush 48, 2) := by decide +kernel
theorem dX12_number_3 : decode cX12_number 3 = .ok (.bipush 10, 2) := by decide +kernel
theorem dX12_number_5 : decode cX12_number 5 = .ok (.invokevirtual 167, 3) := by decide +kernel
theorem dX12_number_8 : decode cX12_number 8 = .ok (.istore_n 2, 1) := by decide +kernel
theorem dX12_number_9 : decode cX12_number 9 = .ok (.iconst 1, 1) := by decide +kernel
theorem dX12_number_10 : decode cX12_number 10 = .ok (.istore_n 3, 1) := by decide +kernel
theorem dX12_number_11 : decode cX12_number 11 = .ok (.iload_n 3, 1) := by decide +kernel
theorem dX12_number_12 : decode cX12_number 12 = .ok (.iload_n 1, 1) := by decide +kernel
theorem dX12_number_13 : decode cX12_number 13 = .ok (.if_icmp .ge 44, 3) := by decide +kernel
theorem dX12_number_16 : decode cX12_number 16 = .ok (.aload_n 0, 1) := by decide +kernel
theorem dX12_number_17 : decode cX12_number 17 = .ok (.invokevirtual 151, 3) := by decide +kernel
theorem dX12_number_20 : decode cX12_number 20 = .ok (.ifCond .eq 37, 3) := by decide +kernel
theorem dX12_number_23 : decode cX12_number 23 = .ok (.aload_n 0, 1) := by decide +kernel
theorem dX12_number_24 : decode cX12_number 24 = .ok (.invokevirtual 155, 3) := by decide +kernel
theorem dX12_number_27 : decode cX12_number 27 = .ok (.bipush 48, 2) := by decide +kernel
theorem dX12_number_29 : decode cX12_number 29 = .ok (.bipush 57, 2) := by decide +kernel
theorem dX12_number_31 : decode cX12_number 31 = .ok (.invokestatic 119, 3) := by decide +kernel
theorem dX12_number_34 : decode cX12_number 34 = .ok (.ifCond .eq 23, 3) := by decide +kernel
theorem dX12_number_37 : decode cX12_number 37 = .ok (.bipush 10, 2) := by decide +kernel
theorem dX12_number_39 : decode cX12_number 39 = .ok (.iload_n 2, 1) := by decide +kernel
theorem dX12_number_40 : decode cX12_number 40 = .ok (.imul, 1) := by decide +kernel
theorem dX12_number_41 : decode cX12_number 41 = .ok (.aload_n 0, 1) := by decide +kernel
theorem dX12_number_42 : decode cX12_number 42 = .ok (.bipush 48, 2) := by decide +kernel
theorem dX12_number_44 : decode cX12_number 44 = .ok (.bipush 10, 2) := by decide +kernel
theorem dX12_number_46 : decode cX12_number 46 = .ok (.invokevirtual 167, 3) := by decide +kernel
theorem dX12_number_49 : decode cX12_number 49 = .ok (.iadd, 1) := by decide +kernel
theorem dX12_number_50 : decode cX12_number 50 = .ok (.istore_n 2, 1) := by decide +kernel
theorem dX12_number_51 : decode cX12_number 51 = .ok (.iinc 3 1, 3) := by decide +kernel
theorem dX12_number_54 : decode cX12_number 54 = .ok (.goto (-43), 3) := by decide +kernel
theorem dX12_number_57 : decode cX12_number 57 = .ok (.iload_n 2, 1) := by decide +kernel
theorem dX12_number_58 : decode cX12_number 58 = .ok (.ireturn, 1) := by decide +kernel
theorem dX12_wasRight_0 : decode cX12_wasRight 0 = .ok (.aload_n 0, 1) := by decide +kernel
theorem dX12_wasRight_1 : decode cX12_wasRight 1 = .ok (.getfield 141, 3) := by decide +kernel
theorem dX12_wasRight_4 : decode cX12_wasRight 4 = .ok (.aload_n 0, 1) := by decide +kernel
theorem dX12_wasRight_5 : decode cX12_wasRight 5 = .ok (.getfield 135, 3) := by decide +kernel
theorem dX12_wasRight_8 : decode cX12_wasRight 8 = .ok (.if_icmp .ge 11, 3) := by decide +kernel
theorem dX12_wasRight_11 : decode cX12_wasRight 11 = .ok (.aload_n 0, 1) := by decide +kernel
theorem dX12_wasRight_12 : decode cX12_wasRight 12 = .ok (.aload_n 0, 1) := by decide +kernel
theorem dX12_wasRight_13 : decode cX12_wasRight 13 = .ok (.getfield 141, 3) := by decide +kernel
theorem dX12_wasRight_16 : decode cX12_wasRight 16 = .ok (.invokevirtual 163, 3) := by decide +kernel
theorem dX12_wasRight_19 : decode cX12_wasRight 19 = .ok (.aload_n 0, 1) := by decide +kernel
theorem dX12_wasRight_20 : decode cX12_wasRight 20 = .ok (.invokevirtual 151, 3) := by decide +kernel
theorem dX12_wasRight_23 : decode cX12_wasRight 23 = .ok (.ireturn, 1) := by decide +kernel
theorem dX12_told_0 : decode cX12_told 0 = .ok (.aload_n 0, 1) := by decide +kernel
theorem dX12_told_1 : decode cX12_told 1 = .ok (.iconst 0, 1) := by decide +kernel
theorem dX12_told_2 : decode cX12_told 2 = .ok (.putfield 171, 3) := by decide +kernel
theorem dX12_told_5 : decode cX12_told 5 = .ok (.aload_n 0, 1) := by decide +kernel
theorem dX12_told_6 : decode cX12_told 6 = .ok (.dup, 1) := by decide +kernel
theorem dX12_told_7 : decode cX12_told 7 = .ok (.getfield 174, 3) := by decide +kernel
theorem dX12_told_10 : decode cX12_told 10 = .ok (.iconst 1, 1) := by decide +kernel
theorem dX12_told_11 : decode cX12_told 11 = .ok (.iadd, 1) := by decide +kernel
theorem dX12_told_12 : decode cX12_told 12 = .ok (.putfield 174, 3) := by decide +kernel
theorem dX12_told_15 : decode cX12_told 15 = .ok (.return_, 1) := by decide +kernel
theorem dX12_readGround_0 : decode cX12_readGround 0 = .ok (.aload_n 0, 1) := by decide +kernel
theorem dX12_readGround_1 : decode cX12_readGround 1 = .ok (.getfield 36, 3) := by decide +kernel
theorem dX12_readGround_4 : decode cX12_readGround 4 = .ok (.iload_n 1, 1) := by decide +kernel
theorem dX12_readGround_5 : decode cX12_readGround 5 = .ok (.aload_n 0, 1) := by decide +kernel
theorem dX12_readGround_6 : decode cX12_readGround 6 = .ok (.bipush 49, 2) := by decide +kernel
theorem dX12_readGround_8 : decode cX12_readGround 8 = .ok (.bipush 9, 2) := by decide +kernel
theorem dX12_readGround_10 : decode cX12_readGround 10 = .ok (.invokevirtual 167, 3) := by decide +kernel
theorem dX12_readGround_13 : decode cX12_readGround 13 = .ok (.iconst 1, 1) := by decide +kernel
theorem dX12_readGround_14 : decode cX12_readGround 14 = .ok (.iadd, 1) := by decide +kernel
theorem dX12_readGround_15 : decode cX12_readGround 15 = .ok (.iastore, 1) := by decide +kernel
theorem dX12_readGround_16 : decode cX12_readGround 16 = .ok (.aload_n 0, 1) := by decide +kernel
theorem dX12_readGround_17 : decode cX12_readGround 17 = .ok (.getfield 36, 3) := by decide +kernel
theorem dX12_readGround_20 : decode cX12_readGround 20 = .ok (.iload_n 1, 1) := by decide +kernel
theorem dX12_readGround_21 : decode cX12_readGround 21 = .ok (.iconst 1, 1) := by decide +kernel
theorem dX12_readGround_22 : decode cX12_readGround 22 = .ok (.iadd, 1) := by decide +kernel
theorem dX12_readGround_23 : decode cX12_readGround 23 = .ok (.aload_n 0, 1) := by decide +kernel
theorem dX12_readGround_24 : decode cX12_readGround 24 = .ok (.bipush 48, 2) := by decide +kernel
theorem dX12_readGround_26 : decode cX12_readGround 26 = .ok (.bipush 10, 2) := by decide +kernel
theorem dX12_readGround_28 : decode cX12_readGround 28 = .ok (.invokevirtual 167, 3) := by decide +kernel
theorem dX12_readGround_31 : decode cX12_readGround 31 = .ok (.iastore, 1) := by decide +kernel
theorem dX12_readGround_32 : decode cX12_readGround 32 = .ok (.iconst 0, 1) := by decide +kernel
theorem dX12_readGround_33 : decode cX12_readGround 33 = .ok (.istore_n 2, 1) := by decide +kernel
theorem dX12_readGround_34 : decode cX12_readGround 34 = .ok (.iload_n 2, 1) := by decide +kernel
theorem dX12_readGround_35 : decode cX12_readGround 35 = .ok (.iconst 4, 1) := by decide +kernel
theorem dX12_readGround_36 : decode cX12_readGround 36 = .ok (.if_icmp .ge 40, 3) := by decide +kernel
theorem dX12_readGround_39 : decode cX12_readGround 39 = .ok (.aload_n 0, 1) := by decide +kernel
theorem dX12_readGround_40 : decode cX12_readGround 40 = .ok (.getfield 36, 3) := by decide +kernel
theorem dX12_readGround_43 : decode cX12_readGround 43 = .ok (.iload_n 1, 1) := by decide +kernel
theorem dX12_readGround_44 : decode cX12_readGround 44 = .ok (.iconst 2, 1) := by decide +kernel
theorem dX12_readGround_45 : decode cX12_readGround 45 = .ok (.iadd, 1) := by decide +kernel
theorem dX12_readGround_46 : decode cX12_readGround 46 = .ok (.iload_n 2, 1) := by decide +kernel
theorem dX12_readGround_47 : decode cX12_readGround 47 = .ok (.iadd, 1) := by decide +kernel
theorem dX12_readGround_48 : decode cX12_readGround 48 = .ok (.aload_n 0, 1) := by decide +kernel
theorem dX12_readGround_49 : decode cX12_readGround 49 = .ok (.bipush 45, 2) := by decide +kernel
theorem dX12_readGround_51 : decode cX12_readGround 51 = .ok (.invokevirtual 159, 3) := by decide +kernel
theorem dX12_readGround_54 : decode cX12_readGround 54 = .ok (.ifCond .eq 7, 3) := by decide +kernel
theorem dX12_readGround_57 : decode cX12_readGround 57 = .ok (.iconst (-1), 1) := by decide +kernel
theorem dX12_readGround_58 : decode cX12_readGround 58 = .ok (.goto 11, 3) := by decide +kernel
theorem dX12_readGround_61 : decode cX12_readGround 61 = .ok (.aload_n 0, 1) := by decide +kernel
theorem dX12_readGround_62 : decode cX12_readGround 62 = .ok (.bipush 48, 2) := by decide +kernel
theorem dX12_readGround_64 : decode cX12_readGround 64 = .ok (.bipush 10, 2) := by decide +kernel
theorem dX12_readGround_66 : decode cX12_readGround 66 = .ok (.invokevirtual 167, 3) := by decide +kernel
theorem dX12_readGround_69 : decode cX12_readGround 69 = .ok (.iastore, 1) := by decide +kernel
theorem dX12_readGround_70 : decode cX12_readGround 70 = .ok (.iinc 2 1, 3) := by decide +kernel
theorem dX12_readGround_73 : decode cX12_readGround 73 = .ok (.goto (-39), 3) := by decide +kernel
theorem dX12_readGround_76 : decode cX12_readGround 76 = .ok (.return_, 1) := by decide +kernel
theorem dX12_grounds_0 : decode cX12_grounds 0 = .ok (.aload_n 0, 1) := by decide +kernel
theorem dX12_grounds_1 : decode cX12_grounds 1 = .ok (.iconst 0, 1) := by decide +kernel
theorem dX12_grounds_2 : decode cX12_grounds 2 = .ok (.putfield 109, 3) := by decide +kernel
theorem dX12_grounds_5 : decode cX12_grounds 5 = .ok (.aload_n 0, 1) := by decide +kernel
theorem dX12_grounds_6 : decode cX12_grounds 6 = .ok (.bipush 55, 2) := by decide +kernel
theorem dX12_grounds_8 : decode cX12_grounds 8 = .ok (.invokevirtual 177, 3) := by decide +kernel
theorem dX12_grounds_11 : decode cX12_grounds 11 = .ok (.aload_n 0, 1) := by decide +kernel
theorem dX12_grounds_12 : decode cX12_grounds 12 = .ok (.getfield 135, 3) := by decide +kernel
theorem dX12_grounds_15 : decode cX12_grounds 15 = .ok (.ifCond .ne 5, 3) := by decide +kernel
theorem dX12_grounds_18 : decode cX12_grounds 18 = .ok (.iconst 0, 1) := by decide +kernel
theorem dX12_grounds_19 : decode cX12_grounds 19 = .ok (.ireturn, 1) := by decide +kernel
theorem dX12_grounds_20 : decode cX12_grounds 20 = .ok (.iconst 0, 1) := by decide +kernel
theorem dX12_grounds_21 : decode cX12_grounds 21 = .ok (.istore_n 1, 1) := by decide +kernel
theorem dX12_grounds_22 : decode cX12_grounds 22 = .ok (.iconst 1, 1) := by decide +kernel
theorem dX12_grounds_23 : decode cX12_grounds 23 = .ok (.istore_n 2, 1) := by decide +kernel
theorem dX12_grounds_24 : decode cX12_grounds 24 = .ok (.iload_n 2, 1) := by decide +kernel
theorem dX12_grounds_25 : decode cX12_grounds 25 = .ok (.ifCond .eq 53, 3) := by decide +kernel
theorem dX12_grounds_28 : decode cX12_grounds 28 = .ok (.aload_n 0, 1) := by decide +kernel
theorem dX12_grounds_29 : decode cX12_grounds 29 = .ok (.invokevirtual 151, 3) := by decide +kernel
theorem dX12_grounds_32 : decode cX12_grounds 32 = .ok (.ifCond .eq 46, 3) := by decide +kernel
theorem dX12_grounds_35 : decode cX12_grounds 35 = .ok (.aload_n 0, 1) := by decide +kernel
theorem dX12_grounds_36 : decode cX12_grounds 36 = .ok (.getfield 116, 3) := by decide +kernel
theorem dX12_grounds_39 : decode cX12_grounds 39 = .ok (.iload_n 1, 1) := by decide +kernel
theorem dX12_grounds_40 : decode cX12_grounds 40 = .ok (.iadd, 1) := by decide +kernel
theorem dX12_grounds_41 : decode cX12_grounds 41 = .ok (.bipush 8, 2) := by decide +kernel
theorem dX12_grounds_43 : decode cX12_grounds 43 = .ok (.if_icmp .ne 14, 3) := by decide +kernel
theorem dX12_grounds_46 : decode cX12_grounds 46 = .ok (.aload_n 0, 1) := by decide +kernel
theorem dX12_grounds_47 : decode cX12_grounds 47 = .ok (.aload_n 0, 1) := by decide +kernel
theorem dX12_grounds_48 : decode cX12_grounds 48 = .ok (.getfield 141, 3) := by decide +kernel
theorem dX12_grounds_51 : decode cX12_grounds 51 = .ok (.invokevirtual 163, 3) := by decide +kernel
theorem dX12_grounds_54 : decode cX12_grounds 54 = .ok (.goto 11, 3) := by decide +kernel
theorem dX12_grounds_57 : decode cX12_grounds 57 = .ok (.aload_n 0, 1) := by decide +kernel
theorem dX12_grounds_58 : decode cX12_grounds 58 = .ok (.bipush 6, 2) := by decide +kernel
theorem dX12_grounds_60 : decode cX12_grounds 60 = .ok (.iload_n 1, 1) := by decide +kernel
theorem dX12_grounds_61 : decode cX12_grounds 61 = .ok (.imul, 1) := by decide +kernel
theorem dX12_grounds_62 : decode cX12_grounds 62 = .ok (.invokevirtual 180, 3) := by decide +kernel
theorem dX12_grounds_65 : decode cX12_grounds 65 = .ok (.iinc 1 1, 3) := by decide +kernel
theorem dX12_grounds_68 : decode cX12_grounds 68 = .ok (.aload_n 0, 1) := by decide +kernel
theorem dX12_grounds_69 : decode cX12_grounds 69 = .ok (.bipush 59, 2) := by decide +kernel
theorem dX12_grounds_71 : decode cX12_grounds 71 = .ok (.invokevirtual 159, 3) := by decide +kernel
theorem dX12_grounds_74 : decode cX12_grounds 74 = .ok (.istore_n 2, 1) := by decide +kernel
theorem dX12_grounds_75 : decode cX12_grounds 75 = .ok (.goto (-51), 3) := by decide +kernel
theorem dX12_grounds_78 : decode cX12_grounds 78 = .ok (.aload_n 0, 1) := by decide +kernel
theorem dX12_grounds_79 : decode cX12_grounds 79 = .ok (.invokevirtual 183, 3) := by decide +kernel
theorem dX12_grounds_82 : decode cX12_grounds 82 = .ok (.ifCond .ne 10, 3) := by decide +kernel
theorem dX12_grounds_85 : decode cX12_grounds 85 = .ok (.iconst (-1), 1) := by decide +kernel
theorem dX12_grounds_86 : decode cX12_grounds 86 = .ok (.aload_n 0, 1) := by decide +kernel
theorem dX12_grounds_87 : decode cX12_grounds 87 = .ok (.getfield 144, 3) := by decide +kernel
theorem dX12_grounds_90 : decode cX12_grounds 90 = .ok (.isub, 1) := by decide +kernel
theorem dX12_grounds_91 : decode cX12_grounds 91 = .ok (.ireturn, 1) := by decide +kernel
theorem dX12_grounds_92 : decode cX12_grounds 92 = .ok (.iconst 0, 1) := by decide +kernel
theorem dX12_grounds_93 : decode cX12_grounds 93 = .ok (.istore_n 3, 1) := by decide +kernel
theorem dX12_grounds_94 : decode cX12_grounds 94 = .ok (.iload_n 3, 1) := by decide +kernel
theorem dX12_grounds_95 : decode cX12_grounds 95 = .ok (.iload_n 1, 1) := by decide +kernel
theorem dX12_grounds_96 : decode cX12_grounds 96 = .ok (.if_icmp .ge 100, 3) := by decide +kernel
theorem dX12_grounds_99 : decode cX12_grounds 99 = .ok (.aload_n 0, 1) := by decide +kernel
theorem dX12_grounds_100 : decode cX12_grounds 100 = .ok (.getfield 13, 3) := by decide +kernel
theorem dX12_grounds_103 : decode cX12_grounds 103 = .ok (.aload_n 0, 1) := by decide +kernel
theorem dX12_grounds_104 : decode cX12_grounds 104 = .ok (.getfield 116, 3) := by decide +kernel
theorem dX12_grounds_107 : decode cX12_grounds 107 = .ok (.aload_n 0, 1) := by decide +kernel
theorem dX12_grounds_108 : decode cX12_grounds 108 = .ok (.getfield 36, 3) := by decide +kernel
theorem dX12_grounds_111 : decode cX12_grounds 111 = .ok (.bipush 6, 2) := by decide +kernel
theorem dX12_grounds_113 : decode cX12_grounds 113 = .ok (.iload_n 3, 1) := by decide +kernel
theorem dX12_grounds_114 : decode cX12_grounds 114 = .ok (.imul, 1) := by decide +kernel
theorem dX12_grounds_115 : decode cX12_grounds 115 = .ok (.iaload, 1) := by decide +kernel
theorem dX12_grounds_116 : decode cX12_grounds 116 = .ok (.iastore, 1) := by decide +kernel
theorem dX12_grounds_117 : decode cX12_grounds 117 = .ok (.aload_n 0, 1) := by decide +kernel
theorem dX12_grounds_118 : decode cX12_grounds 118 = .ok (.getfield 9, 3) := by decide +kernel
theorem dX12_grounds_121 : decode cX12_grounds 121 = .ok (.aload_n 0, 1) := by decide +kernel
theorem dX12_grounds_122 : decode cX12_grounds 122 = .ok (.getfield 116, 3) := by decide +kernel
theorem dX12_grounds_125 : decode cX12_grounds 125 = .ok (.aload_n 0, 1) := by decide +kernel
theorem dX12_grounds_126 : decode cX12_grounds 126 = .ok (.getfield 36, 3) := by decide +kernel
theorem dX12_grounds_129 : decode cX12_grounds 129 = .ok (.bipush 6, 2) := by decide +kernel
theorem dX12_grounds_131 : decode cX12_grounds 131 = .ok (.iload_n 3, 1) := by decide +kernel
theorem dX12_grounds_132 : decode cX12_grounds 132 = .ok (.imul, 1) := by decide +kernel
theorem dX12_grounds_133 : decode cX12_grounds 133 = .ok (.iconst 1, 1) := by decide +kernel
theorem dX12_grounds_134 : decode cX12_grounds 134 = .ok (.iadd, 1) := by decide +kernel
theorem dX12_grounds_135 : decode cX12_grounds 135 = .ok (.iaload, 1) := by decide +kernel
theorem dX12_grounds_136 : decode cX12_grounds 136 = .ok (.iastore, 1) := by decide +kernel
theorem dX12_grounds_137 : decode cX12_grounds 137 = .ok (.iconst 0, 1) := by decide +kernel
theorem dX12_grounds_138 : decode cX12_grounds 138 = .ok (.istore 4, 2) := by decide +kernel
theorem dX12_grounds_140 : decode cX12_grounds 140 = .ok (.iload 4, 2) := by decide +kernel
theorem dX12_grounds_142 : decode cX12_grounds 142 = .ok (.iconst 4, 1) := by decide +kernel
theorem dX12_grounds_143 : decode cX12_grounds 143 = .ok (.if_icmp .ge 37, 3) := by decide +kernel
theorem dX12_grounds_146 : decode cX12_grounds 146 = .ok (.aload_n 0, 1) := by decide +kernel
theorem dX12_grounds_147 : decode cX12_grounds 147 = .ok (.getfield 16, 3) := by decide +kernel
theorem dX12_grounds_150 : decode cX12_grounds 150 = .ok (.iconst 4, 1) := by decide +kernel
theorem dX12_grounds_151 : decode cX12_grounds 151 = .ok (.aload_n 0, 1) := by decide +kernel
theorem dX12_grounds_152 : decode cX12_grounds 152 = .ok (.getfield 116, 3) := by decide +kernel
theorem dX12_grounds_155 : decode cX12_grounds 155 = .ok (.imul, 1) := by decide +kernel
theorem dX12_grounds_156 : decode cX12_grounds 156 = .ok (.iload 4, 2) := by decide +kernel
theorem dX12_grounds_158 : decode cX12_grounds 158 = .ok (.iadd, 1) := by decide +kernel
theorem dX12_grounds_159 : decode cX12_grounds 159 = .ok (.aload_n 0, 1) := by decide +kernel
theorem dX12_grounds_160 : decode cX12_grounds 160 = .ok (.getfield 36, 3) := by decide +kernel
theorem dX12_grounds_163 : decode cX12_grounds 163 = .ok (.bipush 6, 2) := by decide +kernel
theorem dX12_grounds_165 : decode cX12_grounds 165 = .ok (.iload_n 3, 1) := by decide +kernel
theorem dX12_grounds_166 : decode cX12_grounds 166 = .ok (.imul, 1) := by decide +kernel
theorem dX12_grounds_167 : decode cX12_grounds 167 = .ok (.iconst 2, 1) := by decide +kernel
theorem dX12_grounds_168 : decode cX12_grounds 168 = .ok (.iadd, 1) := by decide +kernel
theorem dX12_grounds_169 : decode cX12_grounds 169 = .ok (.iload 4, 2) := by decide +kernel
theorem dX12_grounds_171 : decode cX12_grounds 171 = .ok (.iadd, 1) := by decide +kernel
theorem dX12_grounds_172 : decode cX12_grounds 172 = .ok (.iaload, 1) := by decide +kernel
theorem dX12_grounds_173 : decode cX12_grounds 173 = .ok (.iastore, 1) := by decide +kernel
theorem dX12_grounds_174 : decode cX12_grounds 174 = .ok (.iinc 4 1, 3) := by decide +kernel
theorem dX12_grounds_177 : decode cX12_grounds 177 = .ok (.goto (-37), 3) := by decide +kernel
theorem dX12_grounds_180 : decode cX12_grounds 180 = .ok (.aload_n 0, 1) := by decide +kernel
theorem dX12_grounds_181 : decode cX12_grounds 181 = .ok (.dup, 1) := by decide +kernel
theorem dX12_grounds_182 : decode cX12_grounds 182 = .ok (.getfield 116, 3) := by decide +kernel
theorem dX12_grounds_185 : decode cX12_grounds 185 = .ok (.iconst 1, 1) := by decide +kernel
theorem dX12_grounds_186 : decode cX12_grounds 186 = .ok (.iadd, 1) := by decide +kernel
theorem dX12_grounds_187 : decode cX12_grounds 187 = .ok (.putfield 116, 3) := by decide +kernel
theorem dX12_grounds_190 : decode cX12_grounds 190 = .ok (.iinc 3 1, 3) := by decide +kernel
theorem dX12_grounds_193 : decode cX12_grounds 193 = .ok (.goto (-99), 3) := by decide +kernel
theorem dX12_grounds_196 : decode cX12_grounds 196 = .ok (.aload_n 0, 1) := by decide +kernel
theorem dX12_grounds_197 : decode cX12_grounds 197 = .ok (.invokevirtual 186, 3) := by decide +kernel
theorem dX12_grounds_200 : decode cX12_grounds 200 = .ok (.iload_n 1, 1) := by decide +kernel
theorem dX12_grounds_201 : decode cX12_grounds 201 = .ok (.ireturn, 1) := by decide +kernel
theorem dX12_readMan_0 : decode cX12_readMan 0 = .ok (.aload_n 0, 1) := by decide +kernel
theorem dX12_readMan_1 : decode cX12_readMan 1 = .ok (.getfield 36, 3) := by decide +kernel
theorem dX12_readMan_4 : decode cX12_readMan 4 = .ok (.iload_n 1, 1) := by decide +kernel
theorem dX12_readMan_5 : decode cX12_readMan 5 = .ok (.aload_n 0, 1) := by decide +kernel
theorem dX12_readMan_6 : decode cX12_readMan 6 = .ok (.bipush 49, 2) := by decide +kernel
theorem dX12_readMan_8 : decode cX12_readMan 8 = .ok (.bipush 9, 2) := by decide +kernel
theorem dX12_readMan_10 : decode cX12_readMan 10 = .ok (.invokevirtual 167, 3) := by decide +kernel
theorem dX12_readMan_13 : decode cX12_readMan 13 = .ok (.iconst 1, 1) := by decide +kernel
theorem dX12_readMan_14 : decode cX12_readMan 14 = .ok (.iadd, 1) := by decide +kernel
theorem dX12_readMan_15 : decode cX12_readMan 15 = .ok (.iastore, 1) := by decide +kernel
theorem dX12_readMan_16 : decode cX12_readMan 16 = .ok (.iconst 0, 1) := by decide +kernel
theorem dX12_readMan_17 : decode cX12_readMan 17 = .ok (.istore_n 2, 1) := by decide +kernel
theorem dX12_readMan_18 : decode cX12_readMan 18 = .ok (.iload_n 2, 1) := by decide +kernel
theorem dX12_readMan_19 : decode cX12_readMan 19 = .ok (.iconst 4, 1) := by decide +kernel
theorem dX12_readMan_20 : decode cX12_readMan 20 = .ok (.if_icmp .ge 27, 3) := by decide +kernel
theorem dX12_readMan_23 : decode cX12_readMan 23 = .ok (.aload_n 0, 1) := by decide +kernel
theorem dX12_readMan_24 : decode cX12_readMan 24 = .ok (.getfield 36, 3) := by decide +kernel
theorem dX12_readMan_27 : decode cX12_readMan 27 = .ok (.iload_n 1, 1) := by decide +kernel
theorem dX12_readMan_28 : decode cX12_readMan 28 = .ok (.iconst 1, 1) := by decide +kernel
theorem dX12_readMan_29 : decode cX12_readMan 29 = .ok (.iadd, 1) := by decide +kernel
theorem dX12_readMan_30 : decode cX12_readMan 30 = .ok (.iload_n 2, 1) := by decide +kernel
theorem dX12_readMan_31 : decode cX12_readMan 31 = .ok (.iadd, 1) := by decide +kernel
theorem dX12_readMan_32 : decode cX12_readMan 32 = .ok (.aload_n 0, 1) := by decide +kernel
theorem dX12_readMan_33 : decode cX12_readMan 33 = .ok (.bipush 48, 2) := by decide +kernel
theorem dX12_readMan_35 : decode cX12_readMan 35 = .ok (.bipush 10, 2) := by decide +kernel
theorem dX12_readMan_37 : decode cX12_readMan 37 = .ok (.invokevirtual 167, 3) := by decide +kernel
theorem dX12_readMan_40 : decode cX12_readMan 40 = .ok (.iastore, 1) := by decide +kernel
theorem dX12_readMan_41 : decode cX12_readMan 41 = .ok (.iinc 2 1, 3) := by decide +kernel
theorem dX12_readMan_44 : decode cX12_readMan 44 = .ok (.goto (-26), 3) := by decide +kernel
theorem dX12_readMan_47 : decode cX12_readMan 47 = .ok (.return_, 1) := by decide +kernel
theorem dX12_people_0 : decode cX12_people 0 = .ok (.aload_n 0, 1) := by decide +kernel
theorem dX12_people_1 : decode cX12_people 1 = .ok (.iconst 0, 1) := by decide +kernel
theorem dX12_people_2 : decode cX12_people 2 = .ok (.putfield 109, 3) := by decide +kernel
theorem dX12_people_5 : decode cX12_people 5 = .ok (.aload_n 0, 1) := by decide +kernel
theorem dX12_people_6 : decode cX12_people 6 = .ok (.bipush 35, 2) := by decide +kernel
theorem dX12_people_8 : decode cX12_people 8 = .ok (.invokevirtual 177, 3) := by decide +kernel
theorem dX12_people_11 : decode cX12_people 11 = .ok (.aload_n 0, 1) := by decide +kernel
theorem dX12_people_12 : decode cX12_people 12 = .ok (.getfield 135, 3) := by decide +kernel
theorem dX12_people_15 : decode cX12_people 15 = .ok (.ifCond .ne 5, 3) := by decide +kernel
theorem dX12_people_18 : decode cX12_people 18 = .ok (.iconst 0, 1) := by decide +kernel
theorem dX12_people_19 : decode cX12_people 19 = .ok (.ireturn, 1) := by decide +kernel
theorem dX12_people_20 : decode cX12_people 20 = .ok (.iconst 0, 1) := by decide +kernel
theorem dX12_people_21 : decode cX12_people 21 = .ok (.istore_n 1, 1) := by decide +kernel
theorem dX12_people_22 : decode cX12_people 22 = .ok (.iconst 1, 1) := by decide +kernel
theorem dX12_people_23 : decode cX12_people 23 = .ok (.istore_n 2, 1) := by decide +kernel
theorem dX12_people_24 : decode cX12_people 24 = .ok (.iload_n 2, 1) := by decide +kernel
theorem dX12_people_25 : decode cX12_people 25 = .ok (.ifCond .eq 52, 3) := by decide +kernel
theorem dX12_people_28 : decode cX12_people 28 = .ok (.aload_n 0, 1) := by decide +kernel
theorem dX12_people_29 : decode cX12_people 29 = .ok (.invokevirtual 151, 3) := by decide +kernel
theorem dX12_people_32 : decode cX12_people 32 = .ok (.ifCond .eq 45, 3) := by decide +kernel
theorem dX12_people_35 : decode cX12_people 35 = .ok (.aload_n 0, 1) := by decide +kernel
theorem dX12_people_36 : decode cX12_people 36 = .ok (.getfield 123, 3) := by decide +kernel
theorem dX12_people_39 : decode cX12_people 39 = .ok (.iload_n 1, 1) := by decide +kernel
theorem dX12_people_40 : decode cX12_people 40 = .ok (.iadd, 1) := by decide +kernel
theorem dX12_people_41 : decode cX12_people 41 = .ok (.bipush 6, 2) := by decide +kernel
theorem dX12_people_43 : decode cX12_people 43 = .ok (.if_icmp .ne 14, 3) := by decide +kernel
theorem dX12_people_46 : decode cX12_people 46 = .ok (.aload_n 0, 1) := by decide +kernel
theorem dX12_people_47 : decode cX12_people 47 = .ok (.aload_n 0, 1) := by decide +kernel
theorem dX12_people_48 : decode cX12_people 48 = .ok (.getfield 141, 3) := by decide +kernel
theorem dX12_people_51 : decode cX12_people 51 = .ok (.invokevirtual 163, 3) := by decide +kernel
theorem dX12_people_54 : decode cX12_people 54 = .ok (.goto 10, 3) := by decide +kernel
theorem dX12_people_57 : decode cX12_people 57 = .ok (.aload_n 0, 1) := by decide +kernel
theorem dX12_people_58 : decode cX12_people 58 = .ok (.iconst 5, 1) := by decide +kernel
theorem dX12_people_59 : decode cX12_people 59 = .ok (.iload_n 1, 1) := by decide +kernel
theorem dX12_people_60 : decode cX12_people 60 = .ok (.imul, 1) := by decide +kernel
theorem dX12_people_61 : decode cX12_people 61 = .ok (.invokevirtual 189, 3) := by decide +kernel
theorem dX12_people_64 : decode cX12_people 64 = .ok (.iinc 1 1, 3) := by decide +kernel
theorem dX12_people_67 : decode cX12_people 67 = .ok (.aload_n 0, 1) := by decide +kernel
theorem dX12_people_68 : decode cX12_people 68 = .ok (.bipush 59, 2) := by decide +kernel
theorem dX12_people_70 : decode cX12_people 70 = .ok (.invokevirtual 159, 3) := by decide +kernel
theorem dX12_people_73 : decode cX12_people 73 = .ok (.istore_n 2, 1) := by decide +kernel
theorem dX12_people_74 : decode cX12_people 74 = .ok (.goto (-50), 3) := by decide +kernel
theorem dX12_people_77 : decode cX12_people 77 = .ok (.aload_n 0, 1) := by decide +kernel
theorem dX12_people_78 : decode cX12_people 78 = .ok (.invokevirtual 183, 3) := by decide +kernel
theorem dX12_people_81 : decode cX12_people 81 = .ok (.ifCond .ne 10, 3) := by decide +kernel
theorem dX12_people_84 : decode cX12_people 84 = .ok (.iconst (-1), 1) := by decide +kernel
theorem dX12_people_85 : decode cX12_people 85 = .ok (.aload_n 0, 1) := by decide +kernel
theorem dX12_people_86 : decode cX12_people 86 = .ok (.getfield 144, 3) := by decide +kernel
theorem dX12_people_89 : decode cX12_people 89 = .ok (.isub, 1) := by decide +kernel
theorem dX12_people_90 : decode cX12_people 90 = .ok (.ireturn, 1) := by decide +kernel
theorem dX12_people_91 : decode cX12_people 91 = .ok (.iconst 0, 1) := by decide +kernel
theorem dX12_people_92 : decode cX12_people 92 = .ok (.istore_n 3, 1) := by decide +kernel
theorem dX12_people_93 : decode cX12_people 93 = .ok (.iload_n 3, 1) := by decide +kernel
theorem dX12_people_94 : decode cX12_people 94 = .ok (.iload_n 1, 1) := by decide +kernel
theorem dX12_people_95 : decode cX12_people 95 = .ok (.if_icmp .ge 129, 3) := by decide +kernel
theorem dX12_people_98 : decode cX12_people 98 = .ok (.aload_n 0, 1) := by decide +kernel
theorem dX12_people_99 : decode cX12_people 99 = .ok (.getfield 19, 3) := by decide +kernel
theorem dX12_people_102 : decode cX12_people 102 = .ok (.aload_n 0, 1) := by decide +kernel
theorem dX12_people_103 : decode cX12_people 103 = .ok (.getfield 123, 3) := by decide +kernel
theorem dX12_people_106 : decode cX12_people 106 = .ok (.aload_n 0, 1) := by decide +kernel
theorem dX12_people_107 : decode cX12_people 107 = .ok (.getfield 36, 3) := by decide +kernel
theorem dX12_people_110 : decode cX12_people 110 = .ok (.iconst 5, 1) := by decide +kernel
theorem dX12_people_111 : decode cX12_people 111 = .ok (.iload_n 3, 1) := by decide +kernel
theorem dX12_people_112 : decode cX12_people 112 = .ok (.imul, 1) := by decide +kernel
theorem dX12_people_113 : decode cX12_people 113 = .ok (.iaload, 1) := by decide +kernel
theorem dX12_people_114 : decode cX12_people 114 = .ok (.iastore, 1) := by decide +kernel
theorem dX12_people_115 : decode cX12_people 115 = .ok (.iconst 0, 1) := by decide +kernel
theorem dX12_people_116 : decode cX12_people 116 = .ok (.istore 4, 2) := by decide +kernel
theorem dX12_people_118 : decode cX12_people 118 = .ok (.iload 4, 2) := by decide +kernel
theorem dX12_people_120 : decode cX12_people 120 = .ok (.iconst 4, 1) := by decide +kernel
theorem dX12_people_121 : decode cX12_people 121 = .ok (.if_icmp .ge 39, 3) := by decide +kernel
theorem dX12_people_124 : decode cX12_people 124 = .ok (.aload_n 0, 1) := by decide +kernel
theorem dX12_people_125 : decode cX12_people 125 = .ok (.getfield 9, 3) := by decide +kernel
theorem dX12_people_128 : decode cX12_people 128 = .ok (.bipush 8, 2) := by decide +kernel
theorem dX12_people_130 : decode cX12_people 130 = .ok (.iconst 4, 1) := by decide +kernel
theorem dX12_people_131 : decode cX12_people 131 = .ok (.aload_n 0, 1) := by decide +kernel
theorem dX12_people_132 : decode cX12_people 132 = .ok (.getfield 123, 3) := by decide +kernel
theorem dX12_people_135 : decode cX12_people 135 = .ok (.imul, 1) := by decide +kernel
theorem dX12_people_136 : decode cX12_people 136 = .ok (.iadd, 1) := by decide +kernel
theorem dX12_people_137 : decode cX12_people 137 = .ok (.iload 4, 2) := by decide +kernel
theorem dX12_people_139 : decode cX12_people 139 = .ok (.iadd, 1) := by decide +kernel
theorem dX12_people_140 : decode cX12_people 140 = .ok (.aload_n 0, 1) := by decide +kernel
theorem dX12_people_141 : decode cX12_people 141 = .ok (.getfield 36, 3) := by decide +kernel
theorem dX12_people_144 : decode cX12_people 144 = .ok (.iconst 5, 1) := by decide +kernel
theorem dX12_people_145 : decode cX12_people 145 = .ok (.iload_n 3, 1) := by decide +kernel
theorem dX12_people_146 : decode cX12_people 146 = .ok (.imul, 1) := by decide +kernel
theorem dX12_people_147 : decode cX12_people 147 = .ok (.iconst 1, 1) := by decide +kernel
theorem dX12_people_148 : decode cX12_people 148 = .ok (.iadd, 1) := by decide +kernel
theorem dX12_people_149 : decode cX12_people 149 = .ok (.iload 4, 2) := by decide +kernel
theorem dX12_people_151 : decode cX12_people 151 = .ok (.iadd, 1) := by decide +kernel
theorem dX12_people_152 : decode cX12_people 152 = .ok (.iaload, 1) := by decide +kernel
theorem dX12_people_153 : decode cX12_people 153 = .ok (.iastore, 1) := by decide +kernel
theorem dX12_people_154 : decode cX12_people 154 = .ok (.iinc 4 1, 3) := by decide +kernel
theorem dX12_people_157 : decode cX12_people 157 = .ok (.goto (-39), 3) := by decide +kernel
theorem dX12_people_160 : decode cX12_people 160 = .ok (.aload_n 0, 1) := by decide +kernel
theorem dX12_people_161 : decode cX12_people 161 = .ok (.getfield 9, 3) := by decide +kernel
theorem dX12_people_164 : decode cX12_people 164 = .ok (.bipush 32, 2) := by decide +kernel
theorem dX12_people_166 : decode cX12_people 166 = .ok (.aload_n 0, 1) := by decide +kernel
theorem dX12_people_167 : decode cX12_people 167 = .ok (.getfield 123, 3) := by decide +kernel
theorem dX12_people_170 : decode cX12_people 170 = .ok (.iadd, 1) := by decide +kernel
theorem dX12_people_171 : decode cX12_people 171 = .ok (.iconst 0, 1) := by decide +kernel
theorem dX12_people_172 : decode cX12_people 172 = .ok (.iastore, 1) := by decide +kernel
theorem dX12_people_173 : decode cX12_people 173 = .ok (.iconst 0, 1) := by decide +kernel
theorem dX12_people_174 : decode cX12_people 174 = .ok (.istore 4, 2) := by decide +kernel
theorem dX12_people_176 : decode cX12_people 176 = .ok (.iload 4, 2) := by decide +kernel
theorem dX12_people_178 : decode cX12_people 178 = .ok (.bipush 8, 2) := by decide +kernel
theorem dX12_people_180 : decode cX12_people 180 = .ok (.if_icmp .ge 28, 3) := by decide +kernel
theorem dX12_people_183 : decode cX12_people 183 = .ok (.aload_n 0, 1) := by decide +kernel
theorem dX12_people_184 : decode cX12_people 184 = .ok (.getfield 9, 3) := by decide +kernel
theorem dX12_people_187 : decode cX12_people 187 = .ok (.bipush 38, 2) := by decide +kernel
theorem dX12_people_189 : decode cX12_people 189 = .ok (.bipush 8, 2) := by decide +kernel
theorem dX12_people_191 : decode cX12_people 191 = .ok (.aload_n 0, 1) := by decide +kernel
theorem dX12_people_192 : decode cX12_people 192 = .ok (.getfield 123, 3) := by decide +kernel
theorem dX12_people_195 : decode cX12_people 195 = .ok (.imul, 1) := by decide +kernel
theorem dX12_people_196 : decode cX12_people 196 = .ok (.iadd, 1) := by decide +kernel
theorem dX12_people_197 : decode cX12_people 197 = .ok (.iload 4, 2) := by decide +kernel
theorem dX12_people_199 : decode cX12_people 199 = .ok (.iadd, 1) := by decide +kernel
theorem dX12_people_200 : decode cX12_people 200 = .ok (.iconst 0, 1) := by decide +kernel
theorem dX12_people_201 : decode cX12_people 201 = .ok (.iastore, 1) := by decide +kernel
theorem dX12_people_202 : decode cX12_people 202 = .ok (.iinc 4 1, 3) := by decide +kernel
theorem dX12_people_205 : decode cX12_people 205 = .ok (.goto (-29), 3) := by decide +kernel
theorem dX12_people_208 : decode cX12_people 208 = .ok (.aload_n 0, 1) := by decide +kernel
theorem dX12_people_209 : decode cX12_people 209 = .ok (.dup, 1) := by decide +kernel
theorem dX12_people_210 : decode cX12_people 210 = .ok (.getfield 123, 3) := by decide +kernel
theorem dX12_people_213 : decode cX12_people 213 = .ok (.iconst 1, 1) := by decide +kernel
theorem dX12_people_214 : decode cX12_people 214 = .ok (.iadd, 1) := by decide +kernel
theorem dX12_people_215 : decode cX12_people 215 = .ok (.putfield 123, 3) := by decide +kernel
theorem dX12_people_218 : decode cX12_people 218 = .ok (.iinc 3 1, 3) := by decide +kernel
theorem dX12_people_221 : decode cX12_people 221 = .ok (.goto (-128), 3) := by decide +kernel
theorem dX12_people_224 : decode cX12_people 224 = .ok (.aload_n 0, 1) := by decide +kernel
theorem dX12_people_225 : decode cX12_people 225 = .ok (.invokevirtual 186, 3) := by decide +kernel
theorem dX12_people_228 : decode cX12_people 228 = .ok (.iload_n 1, 1) := by decide +kernel
theorem dX12_people_229 : decode cX12_people 229 = .ok (.ireturn, 1) := by decide +kernel
theorem dX12_isHumour_0 : decode cX12_isHumour 0 = .ok (.iload_n 0, 1) := by decide +kernel
theorem dX12_isHumour_1 : decode cX12_isHumour 1 = .ok (.bipush 97, 2) := by decide +kernel
theorem dX12_isHumour_3 : decode cX12_isHumour 3 = .ok (.bipush 100, 2) := by decide +kernel
theorem dX12_isHumour_5 : decode cX12_isHumour 5 = .ok (.invokestatic 119, 3) := by decide +kernel
theorem dX12_isHumour_8 : decode cX12_isHumour 8 = .ok (.ireturn, 1) := by decide +kernel
theorem dX12_readWant_0 : decode cX12_readWant 0 = .ok (.iconst 0, 1) := by decide +kernel
theorem dX12_readWant_1 : decode cX12_readWant 1 = .ok (.istore_n 2, 1) := by decide +kernel
theorem dX12_readWant_2 : decode cX12_readWant 2 = .ok (.aload_n 0, 1) := by decide +kernel
theorem dX12_readWant_3 : decode cX12_readWant 3 = .ok (.invokevirtual 151, 3) := by decide +kernel
theorem dX12_readWant_6 : decode cX12_readWant 6 = .ok (.ifCond .eq 145, 3) := by decide +kernel
theorem dX12_readWant_9 : decode cX12_readWant 9 = .ok (.iload_n 2, 1) := by decide +kernel
theorem dX12_readWant_10 : decode cX12_readWant 10 = .ok (.ifCond .eq 13, 3) := by decide +kernel
theorem dX12_readWant_13 : decode cX12_readWant 13 = .ok (.aload_n 0, 1) := by decide +kernel
theorem dX12_readWant_14 : decode cX12_readWant 14 = .ok (.invokevirtual 155, 3) := by decide +kernel
theorem dX12_readWant_17 : decode cX12_readWant 17 = .ok (.invokestatic 192, 3) := by decide +kernel
theorem dX12_readWant_20 : decode cX12_readWant 20 = .ok (.ifCond .eq 131, 3) := by decide +kernel
theorem dX12_readWant_23 : decode cX12_readWant 23 = .ok (.iload_n 2, 1) := by decide +kernel
theorem dX12_readWant_24 : decode cX12_readWant 24 = .ok (.iconst 3, 1) := by decide +kernel
theorem dX12_readWant_25 : decode cX12_readWant 25 = .ok (.if_icmp .ne 14, 3) := by decide +kernel
theorem dX12_readWant_28 : decode cX12_readWant 28 = .ok (.aload_n 0, 1) := by decide +kernel
theorem dX12_readWant_29 : decode cX12_readWant 29 = .ok (.aload_n 0, 1) := by decide +kernel
theorem dX12_readWant_30 : decode cX12_readWant 30 = .ok (.getfield 141, 3) := by decide +kernel
theorem dX12_readWant_33 : decode cX12_readWant 33 = .ok (.invokevirtual 163, 3) := by decide +kernel
theorem dX12_readWant_36 : decode cX12_readWant 36 = .ok (.goto 109, 3) := by decide +kernel
theorem dX12_readWant_39 : decode cX12_readWant 39 = .ok (.aload_n 0, 1) := by decide +kernel
theorem dX12_readWant_40 : decode cX12_readWant 40 = .ok (.getfield 36, 3) := by decide +kernel
theorem dX12_readWant_43 : decode cX12_readWant 43 = .ok (.iload_n 1, 1) := by decide +kernel
theorem dX12_readWant_44 : decode cX12_readWant 44 = .ok (.iconst 3, 1) := by decide +kernel
theorem dX12_readWant_45 : decode cX12_readWant 45 = .ok (.iload_n 2, 1) := by decide +kernel
theorem dX12_readWant_46 : decode cX12_readWant 46 = .ok (.imul, 1) := by decide +kernel
theorem dX12_readWant_47 : decode cX12_readWant 47 = .ok (.iadd, 1) := by decide +kernel
theorem dX12_readWant_48 : decode cX12_readWant 48 = .ok (.aload_n 0, 1) := by decide +kernel
theorem dX12_readWant_49 : decode cX12_readWant 49 = .ok (.bipush 97, 2) := by decide +kernel
theorem dX12_readWant_51 : decode cX12_readWant 51 = .ok (.iconst 4, 1) := by decide +kernel
theorem dX12_readWant_52 : decode cX12_readWant 52 = .ok (.invokevirtual 167, 3) := by decide +kernel
theorem dX12_readWant_55 : decode cX12_readWant 55 = .ok (.iastore, 1) := by decide +kernel
theorem dX12_readWant_56 : decode cX12_readWant 56 = .ok (.aload_n 0, 1) := by decide +kernel
theorem dX12_readWant_57 : decode cX12_readWant 57 = .ok (.getfield 36, 3) := by decide +kernel
theorem dX12_readWant_60 : decode cX12_readWant 60 = .ok (.iload_n 1, 1) := by decide +kernel
theorem dX12_readWant_61 : decode cX12_readWant 61 = .ok (.iconst 3, 1) := by decide +kernel
theorem dX12_readWant_62 : decode cX12_readWant 62 = .ok (.iload_n 2, 1) := by decide +kernel
theorem dX12_readWant_63 : decode cX12_readWant 63 = .ok (.imul, 1) := by decide +kernel
theorem dX12_readWant_64 : decode cX12_readWant 64 = .ok (.iadd, 1) := by decide +kernel
theorem dX12_readWant_65 : decode cX12_readWant 65 = .ok (.iconst 1, 1) := by decide +kernel
theorem dX12_readWant_66 : decode cX12_readWant 66 = .ok (.iadd, 1) := by decide +kernel
theorem dX12_readWant_67 : decode cX12_readWant 67 = .ok (.aload_n 0, 1) := by decide +kernel
theorem dX12_readWant_68 : decode cX12_readWant 68 = .ok (.invokevirtual 155, 3) := by decide +kernel
theorem dX12_readWant_71 : decode cX12_readWant 71 = .ok (.bipush 62, 2) := by decide +kernel
theorem dX12_readWant_73 : decode cX12_readWant 73 = .ok (.if_icmp .ne 7, 3) := by decide +kernel
theorem dX12_readWant_76 : decode cX12_readWant 76 = .ok (.iconst 1, 1) := by decide +kernel
theorem dX12_readWant_77 : decode cX12_readWant 77 = .ok (.goto 4, 3) := by decide +kernel
theorem dX12_readWant_80 : decode cX12_readWant 80 = .ok (.iconst 0, 1) := by decide +kernel
theorem dX12_readWant_81 : decode cX12_readWant 81 = .ok (.iastore, 1) := by decide +kernel
theorem dX12_readWant_82 : decode cX12_readWant 82 = .ok (.aload_n 0, 1) := by decide +kernel
theorem dX12_readWant_83 : decode cX12_readWant 83 = .ok (.invokevirtual 151, 3) := by decide +kernel
theorem dX12_readWant_86 : decode cX12_readWant 86 = .ok (.ifCond .eq 29, 3) := by decide +kernel
theorem dX12_readWant_89 : decode cX12_readWant 89 = .ok (.aload_n 0, 1) := by decide +kernel
theorem dX12_readWant_90 : decode cX12_readWant 90 = .ok (.invokevirtual 155, 3) := by decide +kernel
theorem dX12_readWant_93 : decode cX12_readWant 93 = .ok (.bipush 62, 2) := by decide +kernel
theorem dX12_readWant_95 : decode cX12_readWant 95 = .ok (.if_icmp .eq 20, 3) := by decide +kernel
theorem dX12_readWant_98 : decode cX12_readWant 98 = .ok (.aload_n 0, 1) := by decide +kernel
theorem dX12_readWant_99 : decode cX12_readWant 99 = .ok (.invokevirtual 155, 3) := by decide +kernel
theorem dX12_readWant_102 : decode cX12_readWant 102 = .ok (.bipush 60, 2) := by decide +kernel
theorem dX12_readWant_104 : decode cX12_readWant 104 = .ok (.if_icmp .eq 11, 3) := by decide +kernel
theorem dX12_readWant_107 : decode cX12_readWant 107 = .ok (.aload_n 0, 1) := by decide +kernel
theorem dX12_readWant_108 : decode cX12_readWant 108 = .ok (.aload_n 0, 1) := by decide +kernel
theorem dX12_readWant_109 : decode cX12_readWant 109 = .ok (.getfield 141, 3) := by decide +kernel
theorem dX12_readWant_112 : decode cX12_readWant 112 = .ok (.invokevirtual 163, 3) := by decide +kernel
theorem dX12_readWant_115 : decode cX12_readWant 115 = .ok (.aload_n 0, 1) := by decide +kernel
theorem dX12_readWant_116 : decode cX12_readWant 116 = .ok (.dup, 1) := by decide +kernel
theorem dX12_readWant_117 : decode cX12_readWant 117 = .ok (.getfield 141, 3) := by decide +kernel
theorem dX12_readWant_120 : decode cX12_readWant 120 = .ok (.iconst 1, 1) := by decide +kernel
theorem dX12_readWant_121 : decode cX12_readWant 121 = .ok (.iadd, 1) := by decide +kernel
theorem dX12_readWant_122 : decode cX12_readWant 122 = .ok (.putfield 141, 3) := by decide +kernel
theorem dX12_readWant_125 : decode cX12_readWant 125 = .ok (.aload_n 0, 1) := by decide +kernel
theorem dX12_readWant_126 : decode cX12_readWant 126 = .ok (.getfield 36, 3) := by decide +kernel
theorem dX12_readWant_129 : decode cX12_readWant 129 = .ok (.iload_n 1, 1) := by decide +kernel
theorem dX12_readWant_130 : decode cX12_readWant 130 = .ok (.iconst 3, 1) := by decide +kernel
theorem dX12_readWant_131 : decode cX12_readWant 131 = .ok (.iload_n 2, 1) := by decide +kernel
theorem dX12_readWant_132 : decode cX12_readWant 132 = .ok (.imul, 1) := by decide +kernel
theorem dX12_readWant_133 : decode cX12_readWant 133 = .ok (.iadd, 1) := by decide +kernel
theorem dX12_readWant_134 : decode cX12_readWant 134 = .ok (.iconst 2, 1) := by decide +kernel
theorem dX12_readWant_135 : decode cX12_readWant 135 = .ok (.iadd, 1) := by decide +kernel
theorem dX12_readWant_136 : decode cX12_readWant 136 = .ok (.aload_n 0, 1) := by decide +kernel
theorem dX12_readWant_137 : decode cX12_readWant 137 = .ok (.bipush 48, 2) := by decide +kernel
theorem dX12_readWant_139 : decode cX12_readWant 139 = .ok (.bipush 10, 2) := by decide +kernel
theorem dX12_readWant_141 : decode cX12_readWant 141 = .ok (.invokevirtual 167, 3) := by decide +kernel
theorem dX12_readWant_144 : decode cX12_readWant 144 = .ok (.iastore, 1) := by decide +kernel
theorem dX12_readWant_145 : decode cX12_readWant 145 = .ok (.iinc 2 1, 3) := by decide +kernel
theorem dX12_readWant_148 : decode cX12_readWant 148 = .ok (.goto (-146), 3) := by decide +kernel
theorem dX12_readWant_151 : decode cX12_readWant 151 = .ok (.iload_n 2, 1) := by decide +kernel
theorem dX12_readWant_152 : decode cX12_readWant 152 = .ok (.ireturn, 1) := by decide +kernel
theorem dX12_wants_0 : decode cX12_wants 0 = .ok (.aload_n 0, 1) := by decide +kernel
theorem dX12_wants_1 : decode cX12_wants 1 = .ok (.iconst 0, 1) := by decide +kernel
theorem dX12_wants_2 : decode cX12_wants 2 = .ok (.putfield 109, 3) := by decide +kernel
theorem dX12_wants_5 : decode cX12_wants 5 = .ok (.aload_n 0, 1) := by decide +kernel
theorem dX12_wants_6 : decode cX12_wants 6 = .ok (.bipush 59, 2) := by decide +kernel
theorem dX12_wants_8 : decode cX12_wants 8 = .ok (.invokevirtual 177, 3) := by decide +kernel
theorem dX12_wants_11 : decode cX12_wants 11 = .ok (.aload_n 0, 1) := by decide +kernel
theorem dX12_wants_12 : decode cX12_wants 12 = .ok (.getfield 135, 3) := by decide +kernel
theorem dX12_wants_15 : decode cX12_wants 15 = .ok (.ifCond .ne 5, 3) := by decide +kernel
theorem dX12_wants_18 : decode cX12_wants 18 = .ok (.iconst 0, 1) := by decide +kernel
theorem dX12_wants_19 : decode cX12_wants 19 = .ok (.ireturn, 1) := by decide +kernel
theorem dX12_wants_20 : decode cX12_wants 20 = .ok (.iconst 0, 1) := by decide +kernel
theorem dX12_wants_21 : decode cX12_wants 21 = .ok (.istore_n 1, 1) := by decide +kernel
theorem dX12_wants_22 : decode cX12_wants 22 = .ok (.iconst 1, 1) := by decide +kernel
theorem dX12_wants_23 : decode cX12_wants 23 = .ok (.istore_n 2, 1) := by decide +kernel
theorem dX12_wants_24 : decode cX12_wants 24 = .ok (.iload_n 2, 1) := by decide +kernel
theorem dX12_wants_25 : decode cX12_wants 25 = .ok (.ifCond .eq 59, 3) := by decide +kernel
theorem dX12_wants_28 : decode cX12_wants 28 = .ok (.aload_n 0, 1) := by decide +kernel
theorem dX12_wants_29 : decode cX12_wants 29 = .ok (.invokevirtual 151, 3) := by decide +kernel
theorem dX12_wants_32 : decode cX12_wants 32 = .ok (.ifCond .eq 52, 3) := by decide +kernel
theorem dX12_wants_35 : decode cX12_wants 35 = .ok (.aload_n 0, 1) := by decide +kernel
theorem dX12_wants_36 : decode cX12_wants 36 = .ok (.getfield 126, 3) := by decide +kernel
theorem dX12_wants_39 : decode cX12_wants 39 = .ok (.iload_n 1, 1) := by decide +kernel
theorem dX12_wants_40 : decode cX12_wants 40 = .ok (.iadd, 1) := by decide +kernel
theorem dX12_wants_41 : decode cX12_wants 41 = .ok (.bipush 6, 2) := by decide +kernel
theorem dX12_wants_43 : decode cX12_wants 43 = .ok (.if_icmp .ne 14, 3) := by decide +kernel
theorem dX12_wants_46 : decode cX12_wants 46 = .ok (.aload_n 0, 1) := by decide +kernel
theorem dX12_wants_47 : decode cX12_wants 47 = .ok (.aload_n 0, 1) := by decide +kernel
theorem dX12_wants_48 : decode cX12_wants 48 = .ok (.getfield 141, 3) := by decide +kernel
theorem dX12_wants_51 : decode cX12_wants 51 = .ok (.invokevirtual 163, 3) := by decide +kernel
theorem dX12_wants_54 : decode cX12_wants 54 = .ok (.goto 17, 3) := by decide +kernel
theorem dX12_wants_57 : decode cX12_wants 57 = .ok (.aload_n 0, 1) := by decide +kernel
theorem dX12_wants_58 : decode cX12_wants 58 = .ok (.getfield 39, 3) := by decide +kernel
theorem dX12_wants_61 : decode cX12_wants 61 = .ok (.iload_n 1, 1) := by decide +kernel
theorem dX12_wants_62 : decode cX12_wants 62 = .ok (.aload_n 0, 1) := by decide +kernel
theorem dX12_wants_63 : decode cX12_wants 63 = .ok (.bipush 9, 2) := by decide +kernel
theorem dX12_wants_65 : decode cX12_wants 65 = .ok (.iload_n 1, 1) := by decide +kernel
theorem dX12_wants_66 : decode cX12_wants 66 = .ok (.imul, 1) := by decide +kernel
theorem dX12_wants_67 : decode cX12_wants 67 = .ok (.invokevirtual 196, 3) := by decide +kernel
theorem dX12_wants_70 : decode cX12_wants 70 = .ok (.iastore, 1) := by decide +kernel
theorem dX12_wants_71 : decode cX12_wants 71 = .ok (.iinc 1 1, 3) := by decide +kernel
theorem dX12_wants_74 : decode cX12_wants 74 = .ok (.aload_n 0, 1) := by decide +kernel
theorem dX12_wants_75 : decode cX12_wants 75 = .ok (.bipush 59, 2) := by decide +kernel
theorem dX12_wants_77 : decode cX12_wants 77 = .ok (.invokevirtual 159, 3) := by decide +kernel
theorem dX12_wants_80 : decode cX12_wants 80 = .ok (.istore_n 2, 1) := by decide +kernel
theorem dX12_wants_81 : decode cX12_wants 81 = .ok (.goto (-57), 3) := by decide +kernel
theorem dX12_wants_84 : decode cX12_wants 84 = .ok (.aload_n 0, 1) := by decide +kernel
theorem dX12_wants_85 : decode cX12_wants 85 = .ok (.invokevirtual 183, 3) := by decide +kernel
theorem dX12_wants_88 : decode cX12_wants 88 = .ok (.ifCond .ne 10, 3) := by decide +kernel
theorem dX12_wants_91 : decode cX12_wants 91 = .ok (.iconst (-1), 1) := by decide +kernel
theorem dX12_wants_92 : decode cX12_wants 92 = .ok (.aload_n 0, 1) := by decide +kernel
theorem dX12_wants_93 : decode cX12_wants 93 = .ok (.getfield 144, 3) := by decide +kernel
theorem dX12_wants_96 : decode cX12_wants 96 = .ok (.isub, 1) := by decide +kernel
theorem dX12_wants_97 : decode cX12_wants 97 = .ok (.ireturn, 1) := by decide +kernel
theorem dX12_wants_98 : decode cX12_wants 98 = .ok (.iconst 0, 1) := by decide +kernel
theorem dX12_wants_99 : decode cX12_wants 99 = .ok (.istore_n 3, 1) := by decide +kernel
theorem dX12_wants_100 : decode cX12_wants 100 = .ok (.iload_n 3, 1) := by decide +kernel
theorem dX12_wants_101 : decode cX12_wants 101 = .ok (.iload_n 1, 1) := by decide +kernel
theorem dX12_wants_102 : decode cX12_wants 102 = .ok (.if_icmp .ge 77, 3) := by decide +kernel
theorem dX12_wants_105 : decode cX12_wants 105 = .ok (.aload_n 0, 1) := by decide +kernel
theorem dX12_wants_106 : decode cX12_wants 106 = .ok (.getfield 22, 3) := by decide +kernel
theorem dX12_wants_109 : decode cX12_wants 109 = .ok (.aload_n 0, 1) := by decide +kernel
theorem dX12_wants_110 : decode cX12_wants 110 = .ok (.getfield 126, 3) := by decide +kernel
theorem dX12_wants_113 : decode cX12_wants 113 = .ok (.aload_n 0, 1) := by decide +kernel
theorem dX12_wants_114 : decode cX12_wants 114 = .ok (.getfield 39, 3) := by decide +kernel
theorem dX12_wants_117 : decode cX12_wants 117 = .ok (.iload_n 3, 1) := by decide +kernel
theorem dX12_wants_118 : decode cX12_wants 118 = .ok (.iaload, 1) := by decide +kernel
theorem dX12_wants_119 : decode cX12_wants 119 = .ok (.iastore, 1) := by decide +kernel
theorem dX12_wants_120 : decode cX12_wants 120 = .ok (.iconst 0, 1) := by decide +kernel
theorem dX12_wants_121 : decode cX12_wants 121 = .ok (.istore 4, 2) := by decide +kernel
theorem dX12_wants_123 : decode cX12_wants 123 = .ok (.iload 4, 2) := by decide +kernel
theorem dX12_wants_125 : decode cX12_wants 125 = .ok (.bipush 9, 2) := by decide +kernel
theorem dX12_wants_127 : decode cX12_wants 127 = .ok (.if_icmp .ge 36, 3) := by decide +kernel
theorem dX12_wants_130 : decode cX12_wants 130 = .ok (.aload_n 0, 1) := by decide +kernel
theorem dX12_wants_131 : decode cX12_wants 131 = .ok (.getfield 25, 3) := by decide +kernel
theorem dX12_wants_134 : decode cX12_wants 134 = .ok (.bipush 9, 2) := by decide +kernel
theorem dX12_wants_136 : decode cX12_wants 136 = .ok (.aload_n 0, 1) := by decide +kernel
theorem dX12_wants_137 : decode cX12_wants 137 = .ok (.getfield 126, 3) := by decide +kernel
theorem dX12_wants_140 : decode cX12_wants 140 = .ok (.imul, 1) := by decide +kernel
theorem dX12_wants_141 : decode cX12_wants 141 = .ok (.iload 4, 2) := by decide +kernel
theorem dX12_wants_143 : decode cX12_wants 143 = .ok (.iadd, 1) := by decide +kernel
theorem dX12_wants_144 : decode cX12_wants 144 = .ok (.aload_n 0, 1) := by decide +kernel
theorem dX12_wants_145 : decode cX12_wants 145 = .ok (.getfield 36, 3) := by decide +kernel
theorem dX12_wants_148 : decode cX12_wants 148 = .ok (.bipush 9, 2) := by decide +kernel
theorem dX12_wants_150 : decode cX12_wants 150 = .ok (.iload_n 3, 1) := by decide +kernel
theorem dX12_wants_151 : decode cX12_wants 151 = .ok (.imul, 1) := by decide +kernel
theorem dX12_wants_152 : decode cX12_wants 152 = .ok (.iload 4, 2) := by decide +kernel
theorem dX12_wants_154 : decode cX12_wants 154 = .ok (.iadd, 1) := by decide +kernel
theorem dX12_wants_155 : decode cX12_wants 155 = .ok (.iaload, 1) := by decide +kernel
theorem dX12_wants_156 : decode cX12_wants 156 = .ok (.iastore, 1) := by decide +kernel
theorem dX12_wants_157 : decode cX12_wants 157 = .ok (.iinc 4 1, 3) := by decide +kernel
theorem dX12_wants_160 : decode cX12_wants 160 = .ok (.goto (-37), 3) := by decide +kernel
theorem dX12_wants_163 : decode cX12_wants 163 = .ok (.aload_n 0, 1) := by decide +kernel
theorem dX12_wants_164 : decode cX12_wants 164 = .ok (.dup, 1) := by decide +kernel
theorem dX12_wants_165 : decode cX12_wants 165 = .ok (.getfield 126, 3) := by decide +kernel
theorem dX12_wants_168 : decode cX12_wants 168 = .ok (.iconst 1, 1) := by decide +kernel
theorem dX12_wants_169 : decode cX12_wants 169 = .ok (.iadd, 1) := by decide +kernel
theorem dX12_wants_170 : decode cX12_wants 170 = .ok (.putfield 126, 3) := by decide +kernel
theorem dX12_wants_173 : decode cX12_wants 173 = .ok (.iinc 3 1, 3) := by decide +kernel
theorem dX12_wants_176 : decode cX12_wants 176 = .ok (.goto (-76), 3) := by decide +kernel
theorem dX12_wants_179 : decode cX12_wants 179 = .ok (.aload_n 0, 1) := by decide +kernel
theorem dX12_wants_180 : decode cX12_wants 180 = .ok (.invokevirtual 186, 3) := by decide +kernel
theorem dX12_wants_183 : decode cX12_wants 183 = .ok (.iload_n 1, 1) := by decide +kernel
theorem dX12_wants_184 : decode cX12_wants 184 = .ok (.ireturn, 1) := by decide +kernel
theorem dX12_heldBy_0 : decode cX12_heldBy 0 = .ok (.aload_n 0, 1) := by decide +kernel
theorem dX12_heldBy_1 : decode cX12_heldBy 1 = .ok (.iload_n 1, 1) := by decide +kernel
theorem dX12_heldBy_2 : decode cX12_heldBy 2 = .ok (.invokevirtual 200, 3) := by decide +kernel
theorem dX12_heldBy_5 : decode cX12_heldBy 5 = .ok (.istore_n 2, 1) := by decide +kernel
theorem dX12_heldBy_6 : decode cX12_heldBy 6 = .ok (.aload_n 0, 1) := by decide +kernel
theorem dX12_heldBy_7 : decode cX12_heldBy 7 = .ok (.bipush 60, 2) := by decide +kernel
theorem dX12_heldBy_9 : decode cX12_heldBy 9 = .ok (.invokevirtual 159, 3) := by decide +kernel
theorem dX12_heldBy_12 : decode cX12_heldBy 12 = .ok (.ifCond .eq 18, 3) := by decide +kernel
theorem dX12_heldBy_15 : decode cX12_heldBy 15 = .ok (.iload_n 2, 1) := by decide +kernel
theorem dX12_heldBy_16 : decode cX12_heldBy 16 = .ok (.aload_n 0, 1) := by decide +kernel
theorem dX12_heldBy_17 : decode cX12_heldBy 17 = .ok (.iload_n 1, 1) := by decide +kernel
theorem dX12_heldBy_18 : decode cX12_heldBy 18 = .ok (.invokevirtual 200, 3) := by decide +kernel
theorem dX12_heldBy_21 : decode cX12_heldBy 21 = .ok (.if_icmp .ge 7, 3) := by decide +kernel
theorem dX12_heldBy_24 : decode cX12_heldBy 24 = .ok (.iconst 1, 1) := by decide +kernel
theorem dX12_heldBy_25 : decode cX12_heldBy 25 = .ok (.goto 4, 3) := by decide +kernel
theorem dX12_heldBy_28 : decode cX12_heldBy 28 = .ok (.iconst 0, 1) := by decide +kernel
theorem dX12_heldBy_29 : decode cX12_heldBy 29 = .ok (.ireturn, 1) := by decide +kernel
theorem dX12_heldBy_30 : decode cX12_heldBy 30 = .ok (.aload_n 0, 1) := by decide +kernel
theorem dX12_heldBy_31 : decode cX12_heldBy 31 = .ok (.bipush 62, 2) := by decide +kernel
theorem dX12_heldBy_33 : decode cX12_heldBy 33 = .ok (.invokevirtual 159, 3) := by decide +kernel
theorem dX12_heldBy_36 : decode cX12_heldBy 36 = .ok (.ifCond .eq 18, 3) := by decide +kernel
theorem dX12_heldBy_39 : decode cX12_heldBy 39 = .ok (.iload_n 2, 1) := by decide +kernel
theorem dX12_heldBy_40 : decode cX12_heldBy 40 = .ok (.aload_n 0, 1) := by decide +kernel
theorem dX12_heldBy_41 : decode cX12_heldBy 41 = .ok (.iload_n 1, 1) := by decide +kernel
theorem dX12_heldBy_42 : decode cX12_heldBy 42 = .ok (.invokevirtual 200, 3) := by decide +kernel
theorem dX12_heldBy_45 : decode cX12_heldBy 45 = .ok (.if_icmp .le 7, 3) := by decide +kernel
theorem dX12_heldBy_48 : decode cX12_heldBy 48 = .ok (.iconst 1, 1) := by decide +kernel
theorem dX12_heldBy_49 : decode cX12_heldBy 49 = .ok (.goto 4, 3) := by decide +kernel
theorem dX12_heldBy_52 : decode cX12_heldBy 52 = .ok (.iconst 0, 1) := by decide +kernel
theorem dX12_heldBy_53 : decode cX12_heldBy 53 = .ok (.ireturn, 1) := by decide +kernel
theorem dX12_heldBy_54 : decode cX12_heldBy 54 = .ok (.aload_n 0, 1) := by decide +kernel
theorem dX12_heldBy_55 : decode cX12_heldBy 55 = .ok (.bipush 61, 2) := by decide +kernel
theorem dX12_heldBy_57 : decode cX12_heldBy 57 = .ok (.invokevirtual 159, 3) := by decide +kernel
theorem dX12_heldBy_60 : decode cX12_heldBy 60 = .ok (.ifCond .eq 18, 3) := by decide +kernel
theorem dX12_heldBy_63 : decode cX12_heldBy 63 = .ok (.iload_n 2, 1) := by decide +kernel
theorem dX12_heldBy_64 : decode cX12_heldBy 64 = .ok (.aload_n 0, 1) := by decide +kernel
theorem dX12_heldBy_65 : decode cX12_heldBy 65 = .ok (.iload_n 1, 1) := by decide +kernel
theorem dX12_heldBy_66 : decode cX12_heldBy 66 = .ok (.invokevirtual 200, 3) := by decide +kernel
theorem dX12_heldBy_69 : decode cX12_heldBy 69 = .ok (.if_icmp .ne 7, 3) := by decide +kernel
theorem dX12_heldBy_72 : decode cX12_heldBy 72 = .ok (.iconst 1, 1) := by decide +kernel
theorem dX12_heldBy_73 : decode cX12_heldBy 73 = .ok (.goto 4, 3) := by decide +kernel
theorem dX12_heldBy_76 : decode cX12_heldBy 76 = .ok (.iconst 0, 1) := by decide +kernel
theorem dX12_heldBy_77 : decode cX12_heldBy 77 = .ok (.ireturn, 1) := by decide +kernel
theorem dX12_heldBy_78 : decode cX12_heldBy 78 = .ok (.iload_n 2, 1) := by decide +kernel
theorem dX12_heldBy_79 : decode cX12_heldBy 79 = .ok (.ireturn, 1) := by decide +kernel
theorem dX12_sum_0 : decode cX12_sum 0 = .ok (.aload_n 0, 1) := by decide +kernel
theorem dX12_sum_1 : decode cX12_sum 1 = .ok (.iload_n 1, 1) := by decide +kernel
theorem dX12_sum_2 : decode cX12_sum 2 = .ok (.invokevirtual 203, 3) := by decide +kernel
theorem dX12_sum_5 : decode cX12_sum 5 = .ok (.istore_n 2, 1) := by decide +kernel
theorem dX12_sum_6 : decode cX12_sum 6 = .ok (.aload_n 0, 1) := by decide +kernel
theorem dX12_sum_7 : decode cX12_sum 7 = .ok (.invokevirtual 151, 3) := by decide +kernel
theorem dX12_sum_10 : decode cX12_sum 10 = .ok (.ifCond .eq 72, 3) := by decide +kernel
theorem dX12_sum_13 : decode cX12_sum 13 = .ok (.aload_n 0, 1) := by decide +kernel
theorem dX12_sum_14 : decode cX12_sum 14 = .ok (.invokevirtual 155, 3) := by decide +kernel
theorem dX12_sum_17 : decode cX12_sum 17 = .ok (.bipush 43, 2) := by decide +kernel
theorem dX12_sum_19 : decode cX12_sum 19 = .ok (.if_icmp .eq 12, 3) := by decide +kernel
theorem dX12_sum_22 : decode cX12_sum 22 = .ok (.aload_n 0, 1) := by decide +kernel
theorem dX12_sum_23 : decode cX12_sum 23 = .ok (.invokevirtual 155, 3) := by decide +kernel
theorem dX12_sum_26 : decode cX12_sum 26 = .ok (.bipush 45, 2) := by decide +kernel
theorem dX12_sum_28 : decode cX12_sum 28 = .ok (.if_icmp .ne 54, 3) := by decide +kernel
theorem dX12_sum_31 : decode cX12_sum 31 = .ok (.aload_n 0, 1) := by decide +kernel
theorem dX12_sum_32 : decode cX12_sum 32 = .ok (.invokevirtual 155, 3) := by decide +kernel
theorem dX12_sum_35 : decode cX12_sum 35 = .ok (.bipush 43, 2) := by decide +kernel
theorem dX12_sum_37 : decode cX12_sum 37 = .ok (.if_icmp .ne 7, 3) := by decide +kernel
theorem dX12_sum_40 : decode cX12_sum 40 = .ok (.iconst 1, 1) := by decide +kernel
theorem dX12_sum_41 : decode cX12_sum 41 = .ok (.goto 4, 3) := by decide +kernel
theorem dX12_sum_44 : decode cX12_sum 44 = .ok (.iconst 0, 1) := by decide +kernel
theorem dX12_sum_45 : decode cX12_sum 45 = .ok (.istore_n 3, 1) := by decide +kernel
theorem dX12_sum_46 : decode cX12_sum 46 = .ok (.aload_n 0, 1) := by decide +kernel
theorem dX12_sum_47 : decode cX12_sum 47 = .ok (.dup, 1) := by decide +kernel
theorem dX12_sum_48 : decode cX12_sum 48 = .ok (.getfield 141, 3) := by decide +kernel
theorem dX12_sum_51 : decode cX12_sum 51 = .ok (.iconst 1, 1) := by decide +kernel
theorem dX12_sum_52 : decode cX12_sum 52 = .ok (.iadd, 1) := by decide +kernel
theorem dX12_sum_53 : decode cX12_sum 53 = .ok (.putfield 141, 3) := by decide +kernel
theorem dX12_sum_56 : decode cX12_sum 56 = .ok (.aload_n 0, 1) := by decide +kernel
theorem dX12_sum_57 : decode cX12_sum 57 = .ok (.iload_n 1, 1) := by decide +kernel
theorem dX12_sum_58 : decode cX12_sum 58 = .ok (.invokevirtual 203, 3) := by decide +kernel
theorem dX12_sum_61 : decode cX12_sum 61 = .ok (.istore 4, 2) := by decide +kernel
theorem dX12_sum_63 : decode cX12_sum 63 = .ok (.iload_n 3, 1) := by decide +kernel
theorem dX12_sum_64 : decode cX12_sum 64 = .ok (.ifCond .eq 10, 3) := by decide +kernel
theorem dX12_sum_67 : decode cX12_sum 67 = .ok (.iload_n 2, 1) := by decide +kernel
theorem dX12_sum_68 : decode cX12_sum 68 = .ok (.iload 4, 2) := by decide +kernel
theorem dX12_sum_70 : decode cX12_sum 70 = .ok (.iadd, 1) := by decide +kernel
theorem dX12_sum_71 : decode cX12_sum 71 = .ok (.goto 7, 3) := by decide +kernel
theorem dX12_sum_74 : decode cX12_sum 74 = .ok (.iload_n 2, 1) := by decide +kernel
theorem dX12_sum_75 : decode cX12_sum 75 = .ok (.iload 4, 2) := by decide +kernel
theorem dX12_sum_77 : decode cX12_sum 77 = .ok (.isub, 1) := by decide +kernel
theorem dX12_sum_78 : decode cX12_sum 78 = .ok (.istore_n 2, 1) := by decide +kernel
theorem dX12_sum_79 : decode cX12_sum 79 = .ok (.goto (-73), 3) := by decide +kernel
theorem dX12_sum_82 : decode cX12_sum 82 = .ok (.iload_n 2, 1) := by decide +kernel
theorem dX12_sum_83 : decode cX12_sum 83 = .ok (.ireturn, 1) := by decide +kernel
theorem dX12_product_0 : decode cX12_product 0 = .ok (.aload_n 0, 1) := by decide +kernel
theorem dX12_product_1 : decode cX12_product 1 = .ok (.iload_n 1, 1) := by decide +kernel
theorem dX12_product_2 : decode cX12_product 2 = .ok (.invokevirtual 206, 3) := by decide +kernel
theorem dX12_product_5 : decode cX12_product 5 = .ok (.istore_n 2, 1) := by decide +kernel
theorem dX12_product_6 : decode cX12_product 6 = .ok (.aload_n 0, 1) := by decide +kernel
theorem dX12_product_7 : decode cX12_product 7 = .ok (.invokevirtual 151, 3) := by decide +kernel
theorem dX12_product_10 : decode cX12_product 10 = .ok (.ifCond .eq 81, 3) := by decide +kernel
theorem dX12_product_13 : decode cX12_product 13 = .ok (.aload_n 0, 1) := by decide +kernel
theorem dX12_product_14 : decode cX12_product 14 = .ok (.invokevirtual 155, 3) := by decide +kernel
theorem dX12_product_17 : decode cX12_product 17 = .ok (.bipush 42, 2) := by decide +kernel
theorem dX12_product_19 : decode cX12_product 19 = .ok (.if_icmp .eq 12, 3) := by decide +kernel
theorem dX12_product_22 : decode cX12_product 22 = .ok (.aload_n 0, 1) := by decide +kernel
theorem dX12_product_23 : decode cX12_product 23 = .ok (.invokevirtual 155, 3) := by decide +kernel
theorem dX12_product_26 : decode cX12_product 26 = .ok (.bipush 47, 2) := by decide +kernel
theorem dX12_product_28 : decode cX12_product 28 = .ok (.if_icmp .ne 63, 3) := by decide +kernel
theorem dX12_product_31 : decode cX12_product 31 = .ok (.aload_n 0, 1) := by decide +kernel
theorem dX12_product_32 : decode cX12_product 32 = .ok (.invokevirtual 155, 3) := by decide +kernel
theorem dX12_product_35 : decode cX12_product 35 = .ok (.bipush 42, 2) := by decide +kernel
theorem dX12_product_37 : decode cX12_product 37 = .ok (.if_icmp .ne 7, 3) := by decide +kernel
theorem dX12_product_40 : decode cX12_product 40 = .ok (.iconst 1, 1) := by decide +kernel
theorem dX12_product_41 : decode cX12_product 41 = .ok (.goto 4, 3) := by decide +kernel
theorem dX12_product_44 : decode cX12_product 44 = .ok (.iconst 0, 1) := by decide +kernel
theorem dX12_product_45 : decode cX12_product 45 = .ok (.istore_n 3, 1) := by decide +kernel
theorem dX12_product_46 : decode cX12_product 46 = .ok (.aload_n 0, 1) := by decide +kernel
theorem dX12_product_47 : decode cX12_product 47 = .ok (.dup, 1) := by decide +kernel
theorem dX12_product_48 : decode cX12_product 48 = .ok (.getfield 141, 3) := by decide +kernel
theorem dX12_product_51 : decode cX12_product 51 = .ok (.iconst 1, 1) := by decide +kernel
theorem dX12_product_52 : decode cX12_product 52 = .ok (.iadd, 1) := by decide +kernel
theorem dX12_product_53 : decode cX12_product 53 = .ok (.putfield 141, 3) := by decide +kernel
theorem dX12_product_56 : decode cX12_product 56 = .ok (.aload_n 0, 1) := by decide +kernel
theorem dX12_product_57 : decode cX12_product 57 = .ok (.iload_n 1, 1) := by decide +kernel
theorem dX12_product_58 : decode cX12_product 58 = .ok (.invokevirtual 206, 3) := by decide +kernel
theorem dX12_product_61 : decode cX12_product 61 = .ok (.istore 4, 2) := by decide +kernel
theorem dX12_product_63 : decode cX12_product 63 = .ok (.iload_n 3, 1) := by decide +kernel
theorem dX12_product_64 : decode cX12_product 64 = .ok (.ifCond .eq 10, 3) := by decide +kernel
theorem dX12_product_67 : decode cX12_product 67 = .ok (.iload_n 2, 1) := by decide +kernel
theorem dX12_product_68 : decode cX12_product 68 = .ok (.iload 4, 2) := by decide +kernel
theorem dX12_product_70 : decode cX12_product 70 = .ok (.imul, 1) := by decide +kernel
theorem dX12_product_71 : decode cX12_product 71 = .ok (.goto 16, 3) := by decide +kernel
theorem dX12_product_74 : decode cX12_product 74 = .ok (.iload 4, 2) := by decide +kernel
theorem dX12_product_76 : decode cX12_product 76 = .ok (.ifCond .ne 7, 3) := by decide +kernel
theorem dX12_product_79 : decode cX12_product 79 = .ok (.iconst 0, 1) := by decide +kernel
theorem dX12_product_80 : decode cX12_product 80 = .ok (.goto 7, 3) := by decide +kernel
theorem dX12_product_83 : decode cX12_product 83 = .ok (.iload_n 2, 1) := by decide +kernel
theorem dX12_product_84 : decode cX12_product 84 = .ok (.iload 4, 2) := by decide +kernel
theorem dX12_product_86 : decode cX12_product 86 = .ok (.idiv, 1) := by decide +kernel
theorem dX12_product_87 : decode cX12_product 87 = .ok (.istore_n 2, 1) := by decide +kernel
theorem dX12_product_88 : decode cX12_product 88 = .ok (.goto (-82), 3) := by decide +kernel
theorem dX12_product_91 : decode cX12_product 91 = .ok (.iload_n 2, 1) := by decide +kernel
theorem dX12_product_92 : decode cX12_product 92 = .ok (.ireturn, 1) := by decide +kernel
theorem dX12_letterOf_0 : decode cX12_letterOf 0 = .ok (.iload_n 0, 1) := by decide +kernel
theorem dX12_letterOf_1 : decode cX12_letterOf 1 = .ok (.bipush 118, 2) := by decide +kernel
theorem dX12_letterOf_3 : decode cX12_letterOf 3 = .ok (.if_icmp .ne 7, 3) := by decide +kernel
theorem dX12_letterOf_6 : decode cX12_letterOf 6 = .ok (.iconst 0, 1) := by decide +kernel
theorem dX12_letterOf_7 : decode cX12_letterOf 7 = .ok (.goto 65, 3) := by decide +kernel
theorem dX12_letterOf_10 : decode cX12_letterOf 10 = .ok (.iload_n 0, 1) := by decide +kernel
theorem dX12_letterOf_11 : decode cX12_letterOf 11 = .ok (.bipush 116, 2) := by decide +kernel
theorem dX12_letterOf_13 : decode cX12_letterOf 13 = .ok (.if_icmp .ne 7, 3) := by decide +kernel
theorem dX12_letterOf_16 : decode cX12_letterOf 16 = .ok (.iconst 1, 1) := by decide +kernel
theorem dX12_letterOf_17 : decode cX12_letterOf 17 = .ok (.goto 55, 3) := by decide +kernel
theorem dX12_letterOf_20 : decode cX12_letterOf 20 = .ok (.iload_n 0, 1) := by decide +kernel
theorem dX12_letterOf_21 : decode cX12_letterOf 21 = .ok (.bipush 103, 2) := by decide +kernel
theorem dX12_letterOf_23 : decode cX12_letterOf 23 = .ok (.if_icmp .ne 7, 3) := by decide +kernel
theorem dX12_letterOf_26 : decode cX12_letterOf 26 = .ok (.iconst 2, 1) := by decide +kernel
theorem dX12_letterOf_27 : decode cX12_letterOf 27 = .ok (.goto 45, 3) := by decide +kernel
theorem dX12_letterOf_30 : decode cX12_letterOf 30 = .ok (.iload_n 0, 1) := by decide +kernel
theorem dX12_letterOf_31 : decode cX12_letterOf 31 = .ok (.bipush 101, 2) := by decide +kernel
theorem dX12_letterOf_33 : decode cX12_letterOf 33 = .ok (.if_icmp .ne 7, 3) := by decide +kernel
theorem dX12_letterOf_36 : decode cX12_letterOf 36 = .ok (.iconst 3, 1) := by decide +kernel
theorem dX12_letterOf_37 : decode cX12_letterOf 37 = .ok (.goto 35, 3) := by decide +kernel
theorem dX12_letterOf_40 : decode cX12_letterOf 40 = .ok (.iload_n 0, 1) := by decide +kernel
theorem dX12_letterOf_41 : decode cX12_letterOf 41 = .ok (.bipush 100, 2) := by decide +kernel
theorem dX12_letterOf_43 : decode cX12_letterOf 43 = .ok (.if_icmp .ne 7, 3) := by decide +kernel
theorem dX12_letterOf_46 : decode cX12_letterOf 46 = .ok (.iconst 4, 1) := by decide +kernel
theorem dX12_letterOf_47 : decode cX12_letterOf 47 = .ok (.goto 25, 3) := by decide +kernel
theorem dX12_letterOf_50 : decode cX12_letterOf 50 = .ok (.iload_n 0, 1) := by decide +kernel
theorem dX12_letterOf_51 : decode cX12_letterOf 51 = .ok (.bipush 115, 2) := by decide +kernel
theorem dX12_letterOf_53 : decode cX12_letterOf 53 = .ok (.if_icmp .ne 7, 3) := by decide +kernel
theorem dX12_letterOf_56 : decode cX12_letterOf 56 = .ok (.iconst 5, 1) := by decide +kernel
theorem dX12_letterOf_57 : decode cX12_letterOf 57 = .ok (.goto 15, 3) := by decide +kernel
theorem dX12_letterOf_60 : decode cX12_letterOf 60 = .ok (.iload_n 0, 1) := by decide +kernel
theorem dX12_letterOf_61 : decode cX12_letterOf 61 = .ok (.bipush 110, 2) := by decide +kernel
theorem dX12_letterOf_63 : decode cX12_letterOf 63 = .ok (.if_icmp .ne 8, 3) := by decide +kernel
theorem dX12_letterOf_66 : decode cX12_letterOf 66 = .ok (.bipush 6, 2) := by decide +kernel
theorem dX12_letterOf_68 : decode cX12_letterOf 68 = .ok (.goto 4, 3) := by decide +kernel
theorem dX12_letterOf_71 : decode cX12_letterOf 71 = .ok (.iconst (-1), 1) := by decide +kernel
theorem dX12_letterOf_72 : decode cX12_letterOf 72 = .ok (.ireturn, 1) := by decide +kernel
theorem dX12_thing_0 : decode cX12_thing 0 = .ok (.aload_n 0, 1) := by decide +kernel
theorem dX12_thing_1 : decode cX12_thing 1 = .ok (.bipush 45, 2) := by decide +kernel
theorem dX12_thing_3 : decode cX12_thing 3 = .ok (.invokevirtual 159, 3) := by decide +kernel
theorem dX12_thing_6 : decode cX12_thing 6 = .ok (.ifCond .eq 10, 3) := by decide +kernel
theorem dX12_thing_9 : decode cX12_thing 9 = .ok (.aload_n 0, 1) := by decide +kernel
theorem dX12_thing_10 : decode cX12_thing 10 = .ok (.iload_n 1, 1) := by decide +kernel
theorem dX12_thing_11 : decode cX12_thing 11 = .ok (.invokevirtual 206, 3) := by decide +kernel
theorem dX12_thing_14 : decode cX12_thing 14 = .ok (.ineg, 1) := by decide +kernel
theorem dX12_thing_15 : decode cX12_thing 15 = .ok (.ireturn, 1) := by decide +kernel
theorem dX12_thing_16 : decode cX12_thing 16 = .ok (.aload_n 0, 1) := by decide +kernel
theorem dX12_thing_17 : decode cX12_thing 17 = .ok (.invokevirtual 151, 3) := by decide +kernel
theorem dX12_thing_20 : decode cX12_thing 20 = .ok (.ifCond .ne 5, 3) := by decide +kernel
theorem dX12_thing_23 : decode cX12_thing 23 = .ok (.iconst 0, 1) := by decide +kernel
theorem dX12_thing_24 : decode cX12_thing 24 = .ok (.ireturn, 1) := by decide +kernel
theorem dX12_thing_25 : decode cX12_thing 25 = .ok (.aload_n 0, 1) := by decide +kernel
theorem dX12_thing_26 : decode cX12_thing 26 = .ok (.invokevirtual 155, 3) := by decide +kernel
theorem dX12_thing_29 : decode cX12_thing 29 = .ok (.istore_n 2, 1) := by decide +kernel
theorem dX12_thing_30 : decode cX12_thing 30 = .ok (.iload_n 2, 1) := by decide +kernel
theorem dX12_thing_31 : decode cX12_thing 31 = .ok (.bipush 40, 2) := by decide +kernel
theorem dX12_thing_33 : decode cX12_thing 33 = .ok (.if_icmp .ne 34, 3) := by decide +kernel
theorem dX12_thing_36 : decode cX12_thing 36 = .ok (.iload_n 1, 1) := by decide +kernel
theorem dX12_thing_37 : decode cX12_thing 37 = .ok (.iconst 4, 1) := by decide +kernel
theorem dX12_thing_38 : decode cX12_thing 38 = .ok (.if_icmp .ge 29, 3) := by decide +kernel
theorem dX12_thing_41 : decode cX12_thing 41 = .ok (.aload_n 0, 1) := by decide +kernel
theorem dX12_thing_42 : decode cX12_thing 42 = .ok (.dup, 1) := by decide +kernel
theorem dX12_thing_43 : decode cX12_thing 43 = .ok (.getfield 141, 3) := by decide +kernel
theorem dX12_thing_46 : decode cX12_thing 46 = .ok (.iconst 1, 1) := by decide +kernel
theorem dX12_thing_47 : decode cX12_thing 47 = .ok (.iadd, 1) := by decide +kernel
theorem dX12_thing_48 : decode cX12_thing 48 = .ok (.putfield 141, 3) := by decide +kernel
theorem dX12_thing_51 : decode cX12_thing 51 = .ok (.aload_n 0, 1) := by decide +kernel
theorem dX12_thing_52 : decode cX12_thing 52 = .ok (.iload_n 1, 1) := by decide +kernel
theorem dX12_thing_53 : decode cX12_thing 53 = .ok (.iconst 1, 1) := by decide +kernel
theorem dX12_thing_54 : decode cX12_thing 54 = .ok (.iadd, 1) := by decide +kernel
theorem dX12_thing_55 : decode cX12_thing 55 = .ok (.invokevirtual 209, 3) := by decide +kernel
theorem dX12_thing_58 : decode cX12_thing 58 = .ok (.istore_n 3, 1) := by decide +kernel
theorem dX12_thing_59 : decode cX12_thing 59 = .ok (.aload_n 0, 1) := by decide +kernel
theorem dX12_thing_60 : decode cX12_thing 60 = .ok (.bipush 41, 2) := by decide +kernel
theorem dX12_thing_62 : decode cX12_thing 62 = .ok (.invokevirtual 212, 3) := by decide +kernel
theorem dX12_thing_65 : decode cX12_thing 65 = .ok (.iload_n 3, 1) := by decide +kernel
theorem dX12_thing_66 : decode cX12_thing 66 = .ok (.ireturn, 1) := by decide +kernel
theorem dX12_thing_67 : decode cX12_thing 67 = .ok (.iload_n 2, 1) := by decide +kernel
theorem dX12_thing_68 : decode cX12_thing 68 = .ok (.bipush 48, 2) := by decide +kernel
theorem dX12_thing_70 : decode cX12_thing 70 = .ok (.bipush 57, 2) := by decide +kernel
theorem dX12_thing_72 : decode cX12_thing 72 = .ok (.invokestatic 119, 3) := by decide +kernel
theorem dX12_thing_75 : decode cX12_thing 75 = .ok (.ifCond .eq 9, 3) := by decide +kernel
theorem dX12_thing_78 : decode cX12_thing 78 = .ok (.aload_n 0, 1) := by decide +kernel
theorem dX12_thing_79 : decode cX12_thing 79 = .ok (.iconst 3, 1) := by decide +kernel
theorem dX12_thing_80 : decode cX12_thing 80 = .ok (.invokevirtual 216, 3) := by decide +kernel
theorem dX12_thing_83 : decode cX12_thing 83 = .ok (.ireturn, 1) := by decide +kernel
theorem dX12_thing_84 : decode cX12_thing 84 = .ok (.iload_n 2, 1) := by decide +kernel
theorem dX12_thing_85 : decode cX12_thing 85 = .ok (.invokestatic 219, 3) := by decide +kernel
theorem dX12_thing_88 : decode cX12_thing 88 = .ok (.iconst (-1), 1) := by decide +kernel
theorem dX12_thing_89 : decode cX12_thing 89 = .ok (.if_icmp .ne 13, 3) := by decide +kernel
theorem dX12_thing_92 : decode cX12_thing 92 = .ok (.aload_n 0, 1) := by decide +kernel
theorem dX12_thing_93 : decode cX12_thing 93 = .ok (.aload_n 0, 1) := by decide +kernel
theorem dX12_thing_94 : decode cX12_thing 94 = .ok (.getfield 141, 3) := by decide +kernel
theorem dX12_thing_97 : decode cX12_thing 97 = .ok (.invokevirtual 163, 3) := by decide +kernel
theorem dX12_thing_100 : decode cX12_thing 100 = .ok (.iconst 0, 1) := by decide +kernel
theorem dX12_thing_101 : decode cX12_thing 101 = .ok (.ireturn, 1) := by decide +kernel
theorem dX12_thing_102 : decode cX12_thing 102 = .ok (.aload_n 0, 1) := by decide +kernel
theorem dX12_thing_103 : decode cX12_thing 103 = .ok (.dup, 1) := by decide +kernel
theorem dX12_thing_104 : decode cX12_thing 104 = .ok (.getfield 141, 3) := by decide +kernel
theorem dX12_thing_107 : decode cX12_thing 107 = .ok (.iconst 1, 1) := by decide +kernel
theorem dX12_thing_108 : decode cX12_thing 108 = .ok (.iadd, 1) := by decide +kernel
theorem dX12_thing_109 : decode cX12_thing 109 = .ok (.putfield 141, 3) := by decide +kernel
theorem dX12_thing_112 : decode cX12_thing 112 = .ok (.aload_n 0, 1) := by decide +kernel
theorem dX12_thing_113 : decode cX12_thing 113 = .ok (.getfield 222, 3) := by decide +kernel
theorem dX12_thing_116 : decode cX12_thing 116 = .ok (.ifCond .eq 15, 3) := by decide +kernel
theorem dX12_thing_119 : decode cX12_thing 119 = .ok (.aload_n 0, 1) := by decide +kernel
theorem dX12_thing_120 : decode cX12_thing 120 = .ok (.getfield 48, 3) := by decide +kernel
theorem dX12_thing_123 : decode cX12_thing 123 = .ok (.iload_n 2, 1) := by decide +kernel
theorem dX12_thing_124 : decode cX12_thing 124 = .ok (.invokestatic 219, 3) := by decide +kernel
theorem dX12_thing_127 : decode cX12_thing 127 = .ok (.iaload, 1) := by decide +kernel
theorem dX12_thing_128 : decode cX12_thing 128 = .ok (.goto 4, 3) := by decide +kernel
theorem dX12_thing_131 : decode cX12_thing 131 = .ok (.iconst 0, 1) := by decide +kernel
theorem dX12_thing_132 : decode cX12_thing 132 = .ok (.ireturn, 1) := by decide +kernel
theorem dX12_readRule_0 : decode cX12_readRule 0 = .ok (.aload_n 0, 1) := by decide +kernel
theorem dX12_readRule_1 : decode cX12_readRule 1 = .ok (.bipush 40, 2) := by decide +kernel
theorem dX12_readRule_3 : decode cX12_readRule 3 = .ok (.invokevirtual 177, 3) := by decide +kernel
theorem dX12_readRule_6 : decode cX12_readRule 6 = .ok (.aload_n 0, 1) := by decide +kernel
theorem dX12_readRule_7 : decode cX12_readRule 7 = .ok (.iconst 0, 1) := by decide +kernel
theorem dX12_readRule_8 : decode cX12_readRule 8 = .ok (.putfield 222, 3) := by decide +kernel
theorem dX12_readRule_11 : decode cX12_readRule 11 = .ok (.aload_n 0, 1) := by decide +kernel
theorem dX12_readRule_12 : decode cX12_readRule 12 = .ok (.getfield 135, 3) := by decide +kernel
theorem dX12_readRule_15 : decode cX12_readRule 15 = .ok (.ifCond .le 9, 3) := by decide +kernel
theorem dX12_readRule_18 : decode cX12_readRule 18 = .ok (.aload_n 0, 1) := by decide +kernel
theorem dX12_readRule_19 : decode cX12_readRule 19 = .ok (.iconst 0, 1) := by decide +kernel
theorem dX12_readRule_20 : decode cX12_readRule 20 = .ok (.invokevirtual 209, 3) := by decide +kernel
theorem dX12_readRule_23 : decode cX12_readRule 23 = .ok (.pop, 1) := by decide +kernel
theorem dX12_readRule_24 : decode cX12_readRule 24 = .ok (.aload_n 0, 1) := by decide +kernel
theorem dX12_readRule_25 : decode cX12_readRule 25 = .ok (.invokevirtual 183, 3) := by decide +kernel
theorem dX12_readRule_28 : decode cX12_readRule 28 = .ok (.ireturn, 1) := by decide +kernel
theorem dX12_rule_0 : decode cX12_rule 0 = .ok (.aload_n 0, 1) := by decide +kernel
theorem dX12_rule_1 : decode cX12_rule 1 = .ok (.iconst 0, 1) := by decide +kernel
theorem dX12_rule_2 : decode cX12_rule 2 = .ok (.putfield 109, 3) := by decide +kernel
theorem dX12_rule_5 : decode cX12_rule 5 = .ok (.aload_n 0, 1) := by decide +kernel
theorem dX12_rule_6 : decode cX12_rule 6 = .ok (.getfield 129, 3) := by decide +kernel
theorem dX12_rule_9 : decode cX12_rule 9 = .ok (.istore_n 1, 1) := by decide +kernel
theorem dX12_rule_10 : decode cX12_rule 10 = .ok (.aload_n 0, 1) := by decide +kernel
theorem dX12_rule_11 : decode cX12_rule 11 = .ok (.invokevirtual 226, 3) := by decide +kernel
theorem dX12_rule_14 : decode cX12_rule 14 = .ok (.ifCond .ne 10, 3) := by decide +kernel
theorem dX12_rule_17 : decode cX12_rule 17 = .ok (.iconst (-1), 1) := by decide +kernel
theorem dX12_rule_18 : decode cX12_rule 18 = .ok (.aload_n 0, 1) := by decide +kernel
theorem dX12_rule_19 : decode cX12_rule 19 = .ok (.getfield 144, 3) := by decide +kernel
theorem dX12_rule_22 : decode cX12_rule 22 = .ok (.isub, 1) := by decide +kernel
theorem dX12_rule_23 : decode cX12_rule 23 = .ok (.ireturn, 1) := by decide +kernel
theorem dX12_rule_24 : decode cX12_rule 24 = .ok (.iconst 0, 1) := by decide +kernel
theorem dX12_rule_25 : decode cX12_rule 25 = .ok (.istore_n 2, 1) := by decide +kernel
theorem dX12_rule_26 : decode cX12_rule 26 = .ok (.iload_n 2, 1) := by decide +kernel
theorem dX12_rule_27 : decode cX12_rule 27 = .ok (.iload_n 1, 1) := by decide +kernel
theorem dX12_rule_28 : decode cX12_rule 28 = .ok (.if_icmp .ge 21, 3) := by decide +kernel
theorem dX12_rule_31 : decode cX12_rule 31 = .ok (.aload_n 0, 1) := by decide +kernel
theorem dX12_rule_32 : decode cX12_rule 32 = .ok (.getfield 42, 3) := by decide +kernel
theorem dX12_rule_35 : decode cX12_rule 35 = .ok (.iload_n 2, 1) := by decide +kernel
theorem dX12_rule_36 : decode cX12_rule 36 = .ok (.aload_n 0, 1) := by decide +kernel
theorem dX12_rule_37 : decode cX12_rule 37 = .ok (.getfield 28, 3) := by decide +kernel
theorem dX12_rule_40 : decode cX12_rule 40 = .ok (.iload_n 2, 1) := by decide +kernel
theorem dX12_rule_41 : decode cX12_rule 41 = .ok (.baload, 1) := by decide +kernel
theorem dX12_rule_42 : decode cX12_rule 42 = .ok (.bastore, 1) := by decide +kernel
theorem dX12_rule_43 : decode cX12_rule 43 = .ok (.iinc 2 1, 3) := by decide +kernel
theorem dX12_rule_46 : decode cX12_rule 46 = .ok (.goto (-20), 3) := by decide +kernel
theorem dX12_rule_49 : decode cX12_rule 49 = .ok (.aload_n 0, 1) := by decide +kernel
theorem dX12_rule_50 : decode cX12_rule 50 = .ok (.iload_n 1, 1) := by decide +kernel
theorem dX12_rule_51 : decode cX12_rule 51 = .ok (.putfield 229, 3) := by decide +kernel
theorem dX12_rule_54 : decode cX12_rule 54 = .ok (.iconst 0, 1) := by decide +kernel
theorem dX12_rule_55 : decode cX12_rule 55 = .ok (.ireturn, 1) := by decide +kernel
theorem dX12_humour_0 : decode cX12_humour 0 = .ok (.aload_n 0, 1) := by decide +kernel
theorem dX12_humour_1 : decode cX12_humour 1 = .ok (.bipush 8, 2) := by decide +kernel
theorem dX12_humour_3 : decode cX12_humour 3 = .ok (.iconst 4, 1) := by decide +kernel
theorem dX12_humour_4 : decode cX12_humour 4 = .ok (.iload_n 1, 1) := by decide +kernel
theorem dX12_humour_5 : decode cX12_humour 5 = .ok (.imul, 1) := by decide +kernel
theorem dX12_humour_6 : decode cX12_humour 6 = .ok (.iadd, 1) := by decide +kernel
theorem dX12_humour_7 : decode cX12_humour 7 = .ok (.iload_n 2, 1) := by decide +kernel
theorem dX12_humour_8 : decode cX12_humour 8 = .ok (.iadd, 1) := by decide +kernel
theorem dX12_humour_9 : decode cX12_humour 9 = .ok (.iaload, 1) := by decide +kernel
theorem dX12_humour_10 : decode cX12_humour 10 = .ok (.ireturn, 1) := by decide +kernel
theorem dX12_pushOf_0 : decode cX12_pushOf 0 = .ok (.aload_n 1, 1) := by decide +kernel
theorem dX12_pushOf_1 : decode cX12_pushOf 1 = .ok (.iload_n 2, 1) := by decide +kernel
theorem dX12_pushOf_2 : decode cX12_pushOf 2 = .ok (.iload 4, 2) := by decide +kernel
theorem dX12_pushOf_4 : decode cX12_pushOf 4 = .ok (.invokestatic 232, 3) := by decide +kernel
theorem dX12_pushOf_7 : decode cX12_pushOf 7 = .ok (.istore 5, 2) := by decide +kernel
theorem dX12_pushOf_9 : decode cX12_pushOf 9 = .ok (.aload_n 0, 1) := by decide +kernel
theorem dX12_pushOf_10 : decode cX12_pushOf 10 = .ok (.getfield 16, 3) := by decide +kernel
theorem dX12_pushOf_13 : decode cX12_pushOf 13 = .ok (.iconst 4, 1) := by decide +kernel
theorem dX12_pushOf_14 : decode cX12_pushOf 14 = .ok (.iload_n 3, 1) := by decide +kernel
theorem dX12_pushOf_15 : decode cX12_pushOf 15 = .ok (.imul, 1) := by decide +kernel
theorem dX12_pushOf_16 : decode cX12_pushOf 16 = .ok (.iload 4, 2) := by decide +kernel
theorem dX12_pushOf_18 : decode cX12_pushOf 18 = .ok (.iadd, 1) := by decide +kernel
theorem dX12_pushOf_19 : decode cX12_pushOf 19 = .ok (.iaload, 1) := by decide +kernel
theorem dX12_pushOf_20 : decode cX12_pushOf 20 = .ok (.istore 6, 2) := by decide +kernel
theorem dX12_pushOf_22 : decode cX12_pushOf 22 = .ok (.iload 6, 2) := by decide +kernel
theorem dX12_pushOf_24 : decode cX12_pushOf 24 = .ok (.iload 5, 2) := by decide +kernel
theorem dX12_pushOf_26 : decode cX12_pushOf 26 = .ok (.invokestatic 236, 3) := by decide +kernel
theorem dX12_pushOf_29 : decode cX12_pushOf 29 = .ok (.istore 7, 2) := by decide +kernel
theorem dX12_pushOf_31 : decode cX12_pushOf 31 = .ok (.aload_n 0, 1) := by decide +kernel
theorem dX12_pushOf_32 : decode cX12_pushOf 32 = .ok (.getfield 229, 3) := by decide +kernel
theorem dX12_pushOf_35 : decode cX12_pushOf 35 = .ok (.ifCond .le 120, 3) := by decide +kernel
theorem dX12_pushOf_38 : decode cX12_pushOf 38 = .ok (.aload_n 0, 1) := by decide +kernel
theorem dX12_pushOf_39 : decode cX12_pushOf 39 = .ok (.getfield 48, 3) := by decide +kernel
theorem dX12_pushOf_42 : decode cX12_pushOf 42 = .ok (.iconst 0, 1) := by decide +kernel
theorem dX12_pushOf_43 : decode cX12_pushOf 43 = .ok (.iload 5, 2) := by decide +kernel
theorem dX12_pushOf_45 : decode cX12_pushOf 45 = .ok (.iastore, 1) := by decide +kernel
theorem dX12_pushOf_46 : decode cX12_pushOf 46 = .ok (.aload_n 0, 1) := by decide +kernel
theorem dX12_pushOf_47 : decode cX12_pushOf 47 = .ok (.getfield 48, 3) := by decide +kernel
theorem dX12_pushOf_50 : decode cX12_pushOf 50 = .ok (.iconst 1, 1) := by decide +kernel
theorem dX12_pushOf_51 : decode cX12_pushOf 51 = .ok (.iload 6, 2) := by decide +kernel
theorem dX12_pushOf_53 : decode cX12_pushOf 53 = .ok (.iastore, 1) := by decide +kernel
theorem dX12_pushOf_54 : decode cX12_pushOf 54 = .ok (.aload_n 0, 1) := by decide +kernel
theorem dX12_pushOf_55 : decode cX12_pushOf 55 = .ok (.getfield 48, 3) := by decide +kernel
theorem dX12_pushOf_58 : decode cX12_pushOf 58 = .ok (.iconst 2, 1) := by decide +kernel
theorem dX12_pushOf_59 : decode cX12_pushOf 59 = .ok (.aload_n 0, 1) := by decide +kernel
theorem dX12_pushOf_60 : decode cX12_pushOf 60 = .ok (.getfield 13, 3) := by decide +kernel
theorem dX12_pushOf_63 : decode cX12_pushOf 63 = .ok (.iload_n 3, 1) := by decide +kernel
theorem dX12_pushOf_64 : decode cX12_pushOf 64 = .ok (.iaload, 1) := by decide +kernel
theorem dX12_pushOf_65 : decode cX12_pushOf 65 = .ok (.iastore, 1) := by decide +kernel
theorem dX12_pushOf_66 : decode cX12_pushOf 66 = .ok (.aload_n 0, 1) := by decide +kernel
theorem dX12_pushOf_67 : decode cX12_pushOf 67 = .ok (.getfield 48, 3) := by decide +kernel
theorem dX12_pushOf_70 : decode cX12_pushOf 70 = .ok (.iconst 3, 1) := by decide +kernel
theorem dX12_pushOf_71 : decode cX12_pushOf 71 = .ok (.aload_n 1, 1) := by decide +kernel
theorem dX12_pushOf_72 : decode cX12_pushOf 72 = .ok (.bipush 32, 2) := by decide +kernel
theorem dX12_pushOf_74 : decode cX12_pushOf 74 = .ok (.iload_n 2, 1) := by decide +kernel
theorem dX12_pushOf_75 : decode cX12_pushOf 75 = .ok (.iadd, 1) := by decide +kernel
theorem dX12_pushOf_76 : decode cX12_pushOf 76 = .ok (.iaload, 1) := by decide +kernel
theorem dX12_pushOf_77 : decode cX12_pushOf 77 = .ok (.invokestatic 242, 3) := by decide +kernel
theorem dX12_pushOf_80 : decode cX12_pushOf 80 = .ok (.iastore, 1) := by decide +kernel
theorem dX12_pushOf_81 : decode cX12_pushOf 81 = .ok (.aload_n 0, 1) := by decide +kernel
theorem dX12_pushOf_82 : decode cX12_pushOf 82 = .ok (.getfield 48, 3) := by decide +kernel
theorem dX12_pushOf_85 : decode cX12_pushOf 85 = .ok (.iconst 4, 1) := by decide +kernel
theorem dX12_pushOf_86 : decode cX12_pushOf 86 = .ok (.aload_n 1, 1) := by decide +kernel
theorem dX12_pushOf_87 : decode cX12_pushOf 87 = .ok (.bipush 38, 2) := by decide +kernel
theorem dX12_pushOf_89 : decode cX12_pushOf 89 = .ok (.bipush 8, 2) := by decide +kernel
theorem dX12_pushOf_91 : decode cX12_pushOf 91 = .ok (.iload_n 2, 1) := by decide +kernel
theorem dX12_pushOf_92 : decode cX12_pushOf 92 = .ok (.imul, 1) := by decide +kernel
theorem dX12_pushOf_93 : decode cX12_pushOf 93 = .ok (.iadd, 1) := by decide +kernel
theorem dX12_pushOf_94 : decode cX12_pushOf 94 = .ok (.iload_n 3, 1) := by decide +kernel
theorem dX12_pushOf_95 : decode cX12_pushOf 95 = .ok (.iadd, 1) := by decide +kernel
theorem dX12_pushOf_96 : decode cX12_pushOf 96 = .ok (.iaload, 1) := by decide +kernel
theorem dX12_pushOf_97 : decode cX12_pushOf 97 = .ok (.iastore, 1) := by decide +kernel
theorem dX12_pushOf_98 : decode cX12_pushOf 98 = .ok (.aload_n 0, 1) := by decide +kernel
theorem dX12_pushOf_99 : decode cX12_pushOf 99 = .ok (.getfield 48, 3) := by decide +kernel
theorem dX12_pushOf_102 : decode cX12_pushOf 102 = .ok (.iconst 5, 1) := by decide +kernel
theorem dX12_pushOf_103 : decode cX12_pushOf 103 = .ok (.aload_n 0, 1) := by decide +kernel
theorem dX12_pushOf_104 : decode cX12_pushOf 104 = .ok (.getfield 19, 3) := by decide +kernel
theorem dX12_pushOf_107 : decode cX12_pushOf 107 = .ok (.iload_n 2, 1) := by decide +kernel
theorem dX12_pushOf_108 : decode cX12_pushOf 108 = .ok (.iaload, 1) := by decide +kernel
theorem dX12_pushOf_109 : decode cX12_pushOf 109 = .ok (.iastore, 1) := by decide +kernel
theorem dX12_pushOf_110 : decode cX12_pushOf 110 = .ok (.aload_n 0, 1) := by decide +kernel
theorem dX12_pushOf_111 : decode cX12_pushOf 111 = .ok (.getfield 48, 3) := by decide +kernel
theorem dX12_pushOf_114 : decode cX12_pushOf 114 = .ok (.bipush 6, 2) := by decide +kernel
theorem dX12_pushOf_116 : decode cX12_pushOf 116 = .ok (.aload_n 1, 1) := by decide +kernel
theorem dX12_pushOf_117 : decode cX12_pushOf 117 = .ok (.bipush 86, 2) := by decide +kernel
theorem dX12_pushOf_119 : decode cX12_pushOf 119 = .ok (.iaload, 1) := by decide +kernel
theorem dX12_pushOf_120 : decode cX12_pushOf 120 = .ok (.bipush 7, 2) := by decide +kernel
theorem dX12_pushOf_122 : decode cX12_pushOf 122 = .ok (.irem, 1) := by decide +kernel
theorem dX12_pushOf_123 : decode cX12_pushOf 123 = .ok (.iastore, 1) := by decide +kernel
theorem dX12_pushOf_124 : decode cX12_pushOf 124 = .ok (.aload_n 0, 1) := by decide +kernel
theorem dX12_pushOf_125 : decode cX12_pushOf 125 = .ok (.aload_n 0, 1) := by decide +kernel
theorem dX12_pushOf_126 : decode cX12_pushOf 126 = .ok (.getfield 42, 3) := by decide +kernel
theorem dX12_pushOf_129 : decode cX12_pushOf 129 = .ok (.aload_n 0, 1) := by decide +kernel
theorem dX12_pushOf_130 : decode cX12_pushOf 130 = .ok (.getfield 229, 3) := by decide +kernel
theorem dX12_pushOf_133 : decode cX12_pushOf 133 = .ok (.bipush 40, 2) := by decide +kernel
theorem dX12_pushOf_135 : decode cX12_pushOf 135 = .ok (.invokevirtual 147, 3) := by decide +kernel
theorem dX12_pushOf_138 : decode cX12_pushOf 138 = .ok (.aload_n 0, 1) := by decide +kernel
theorem dX12_pushOf_139 : decode cX12_pushOf 139 = .ok (.iconst 1, 1) := by decide +kernel
theorem dX12_pushOf_140 : decode cX12_pushOf 140 = .ok (.putfield 222, 3) := by decide +kernel
theorem dX12_pushOf_143 : decode cX12_pushOf 143 = .ok (.aload_n 0, 1) := by decide +kernel
theorem dX12_pushOf_144 : decode cX12_pushOf 144 = .ok (.iconst 0, 1) := by decide +kernel
theorem dX12_pushOf_145 : decode cX12_pushOf 145 = .ok (.invokevirtual 209, 3) := by decide +kernel
theorem dX12_pushOf_148 : decode cX12_pushOf 148 = .ok (.istore 7, 2) := by decide +kernel
theorem dX12_pushOf_150 : decode cX12_pushOf 150 = .ok (.aload_n 0, 1) := by decide +kernel
theorem dX12_pushOf_151 : decode cX12_pushOf 151 = .ok (.iconst 0, 1) := by decide +kernel
theorem dX12_pushOf_152 : decode cX12_pushOf 152 = .ok (.putfield 222, 3) := by decide +kernel
theorem dX12_pushOf_155 : decode cX12_pushOf 155 = .ok (.bipush (-99), 2) := by decide +kernel
theorem dX12_pushOf_157 : decode cX12_pushOf 157 = .ok (.bipush 99, 2) := by decide +kernel
theorem dX12_pushOf_159 : decode cX12_pushOf 159 = .ok (.iload 7, 2) := by decide +kernel
theorem dX12_pushOf_161 : decode cX12_pushOf 161 = .ok (.invokestatic 245, 3) := by decide +kernel
theorem dX12_pushOf_164 : decode cX12_pushOf 164 = .ok (.invokestatic 250, 3) := by decide +kernel
theorem dX12_pushOf_167 : decode cX12_pushOf 167 = .ok (.ireturn, 1) := by decide +kernel
theorem dX12_isTerm_0 : decode cX12_isTerm 0 = .ok (.bipush 9, 2) := by decide +kernel
theorem dX12_isTerm_2 : decode cX12_isTerm 2 = .ok (.iload_n 3, 1) := by decide +kernel
theorem dX12_isTerm_3 : decode cX12_isTerm 3 = .ok (.imul, 1) := by decide +kernel
theorem dX12_isTerm_4 : decode cX12_isTerm 4 = .ok (.iconst 3, 1) := by decide +kernel
theorem dX12_isTerm_5 : decode cX12_isTerm 5 = .ok (.iload 4, 2) := by decide +kernel
theorem dX12_isTerm_7 : decode cX12_isTerm 7 = .ok (.imul, 1) := by decide +kernel
theorem dX12_isTerm_8 : decode cX12_isTerm 8 = .ok (.iadd, 1) := by decide +kernel
theorem dX12_isTerm_9 : decode cX12_isTerm 9 = .ok (.istore 5, 2) := by decide +kernel
theorem dX12_isTerm_11 : decode cX12_isTerm 11 = .ok (.aload_n 1, 1) := by decide +kernel
theorem dX12_isTerm_12 : decode cX12_isTerm 12 = .ok (.iload_n 2, 1) := by decide +kernel
theorem dX12_isTerm_13 : decode cX12_isTerm 13 = .ok (.aload_n 0, 1) := by decide +kernel
theorem dX12_isTerm_14 : decode cX12_isTerm 14 = .ok (.getfield 25, 3) := by decide +kernel
theorem dX12_isTerm_17 : decode cX12_isTerm 17 = .ok (.iload 5, 2) := by decide +kernel
theorem dX12_isTerm_19 : decode cX12_isTerm 19 = .ok (.iaload, 1) := by decide +kernel
theorem dX12_isTerm_20 : decode cX12_isTerm 20 = .ok (.invokestatic 232, 3) := by decide +kernel
theorem dX12_isTerm_23 : decode cX12_isTerm 23 = .ok (.istore 6, 2) := by decide +kernel
theorem dX12_isTerm_25 : decode cX12_isTerm 25 = .ok (.aload_n 0, 1) := by decide +kernel
theorem dX12_isTerm_26 : decode cX12_isTerm 26 = .ok (.getfield 25, 3) := by decide +kernel
theorem dX12_isTerm_29 : decode cX12_isTerm 29 = .ok (.iload 5, 2) := by decide +kernel
theorem dX12_isTerm_31 : decode cX12_isTerm 31 = .ok (.iconst 1, 1) := by decide +kernel
theorem dX12_isTerm_32 : decode cX12_isTerm 32 = .ok (.iadd, 1) := by decide +kernel
theorem dX12_isTerm_33 : decode cX12_isTerm 33 = .ok (.iaload, 1) := by decide +kernel
theorem dX12_isTerm_34 : decode cX12_isTerm 34 = .ok (.iconst 1, 1) := by decide +kernel
theorem dX12_isTerm_35 : decode cX12_isTerm 35 = .ok (.if_icmp .ne 25, 3) := by decide +kernel
theorem dX12_isTerm_38 : decode cX12_isTerm 38 = .ok (.iload 6, 2) := by decide +kernel
theorem dX12_isTerm_40 : decode cX12_isTerm 40 = .ok (.aload_n 0, 1) := by decide +kernel
theorem dX12_isTerm_41 : decode cX12_isTerm 41 = .ok (.getfield 25, 3) := by decide +kernel
theorem dX12_isTerm_44 : decode cX12_isTerm 44 = .ok (.iload 5, 2) := by decide +kernel
theorem dX12_isTerm_46 : decode cX12_isTerm 46 = .ok (.iconst 2, 1) := by decide +kernel
theorem dX12_isTerm_47 : decode cX12_isTerm 47 = .ok (.iadd, 1) := by decide +kernel
theorem dX12_isTerm_48 : decode cX12_isTerm 48 = .ok (.iaload, 1) := by decide +kernel
theorem dX12_isTerm_49 : decode cX12_isTerm 49 = .ok (.if_icmp .le 7, 3) := by decide +kernel
theorem dX12_isTerm_52 : decode cX12_isTerm 52 = .ok (.iconst 1, 1) := by decide +kernel
theorem dX12_isTerm_53 : decode cX12_isTerm 53 = .ok (.goto 26, 3) := by decide +kernel
theorem dX12_isTerm_56 : decode cX12_isTerm 56 = .ok (.iconst 0, 1) := by decide +kernel
theorem dX12_isTerm_57 : decode cX12_isTerm 57 = .ok (.goto 22, 3) := by decide +kernel
theorem dX12_isTerm_60 : decode cX12_isTerm 60 = .ok (.iload 6, 2) := by decide +kernel
theorem dX12_isTerm_62 : decode cX12_isTerm 62 = .ok (.aload_n 0, 1) := by decide +kernel
theorem dX12_isTerm_63 : decode cX12_isTerm 63 = .ok (.getfield 25, 3) := by decide +kernel
theorem dX12_isTerm_66 : decode cX12_isTerm 66 = .ok (.iload 5, 2) := by decide +kernel
theorem dX12_isTerm_68 : decode cX12_isTerm 68 = .ok (.iconst 2, 1) := by decide +kernel
theorem dX12_isTerm_69 : decode cX12_isTerm 69 = .ok (.iadd, 1) := by decide +kernel
theorem dX12_isTerm_70 : decode cX12_isTerm 70 = .ok (.iaload, 1) := by decide +kernel
theorem dX12_isTerm_71 : decode cX12_isTerm 71 = .ok (.if_icmp .ge 7, 3) := by decide +kernel
theorem dX12_isTerm_74 : decode cX12_isTerm 74 = .ok (.iconst 1, 1) := by decide +kernel
theorem dX12_isTerm_75 : decode cX12_isTerm 75 = .ok (.goto 4, 3) := by decide +kernel
theorem dX12_isTerm_78 : decode cX12_isTerm 78 = .ok (.iconst 0, 1) := by decide +kernel
theorem dX12_isTerm_79 : decode cX12_isTerm 79 = .ok (.ireturn, 1) := by decide +kernel
theorem dX12_hasWant_0 : decode cX12_hasWant 0 = .ok (.iconst 0, 1) := by decide +kernel
theorem dX12_hasWant_1 : decode cX12_hasWant 1 = .ok (.istore 4, 2) := by decide +kernel
theorem dX12_hasWant_3 : decode cX12_hasWant 3 = .ok (.iload 4, 2) := by decide +kernel
theorem dX12_hasWant_5 : decode cX12_hasWant 5 = .ok (.aload_n 0, 1) := by decide +kernel
theorem dX12_hasWant_6 : decode cX12_hasWant 6 = .ok (.getfield 22, 3) := by decide +kernel
theorem dX12_hasWant_9 : decode cX12_hasWant 9 = .ok (.iload_n 3, 1) := by decide +kernel
theorem dX12_hasWant_10 : decode cX12_hasWant 10 = .ok (.iaload, 1) := by decide +kernel
theorem dX12_hasWant_11 : decode cX12_hasWant 11 = .ok (.if_icmp .ge 23, 3) := by decide +kernel
theorem dX12_hasWant_14 : decode cX12_hasWant 14 = .ok (.aload_n 0, 1) := by decide +kernel
theorem dX12_hasWant_15 : decode cX12_hasWant 15 = .ok (.aload_n 1, 1) := by decide +kernel
theorem dX12_hasWant_16 : decode cX12_hasWant 16 = .ok (.iload_n 2, 1) := by decide +kernel
theorem dX12_hasWant_17 : decode cX12_hasWant 17 = .ok (.iload_n 3, 1) := by decide +kernel
theorem dX12_hasWant_18 : decode cX12_hasWant 18 = .ok (.iload 4, 2) := by decide +kernel
theorem dX12_hasWant_20 : decode cX12_hasWant 20 = .ok (.invokevirtual 253, 3) := by decide +kernel
theorem dX12_hasWant_23 : decode cX12_hasWant 23 = .ok (.ifCond .ne 5, 3) := by decide +kernel
theorem dX12_hasWant_26 : decode cX12_hasWant 26 = .ok (.iconst 0, 1) := by decide +kernel
theorem dX12_hasWant_27 : decode cX12_hasWant 27 = .ok (.ireturn, 1) := by decide +kernel
theorem dX12_hasWant_28 : decode cX12_hasWant 28 = .ok (.iinc 4 1, 3) := by decide +kernel
theorem dX12_hasWant_31 : decode cX12_hasWant 31 = .ok (.goto (-28), 3) := by decide +kernel
theorem dX12_hasWant_34 : decode cX12_hasWant 34 = .ok (.iconst 1, 1) := by decide +kernel
theorem dX12_hasWant_35 : decode cX12_hasWant 35 = .ok (.ireturn, 1) := by decide +kernel
theorem dX12_had_0 : decode cX12_had 0 = .ok (.iconst 0, 1) := by decide +kernel
theorem dX12_had_1 : decode cX12_had 1 = .ok (.istore_n 3, 1) := by decide +kernel
theorem dX12_had_2 : decode cX12_had 2 = .ok (.iconst 0, 1) := by decide +kernel
theorem dX12_had_3 : decode cX12_had 3 = .ok (.istore 4, 2) := by decide +kernel
theorem dX12_had_5 : decode cX12_had 5 = .ok (.iload 4, 2) := by decide +kernel
theorem dX12_had_7 : decode cX12_had 7 = .ok (.aload_n 0, 1) := by decide +kernel
theorem dX12_had_8 : decode cX12_had 8 = .ok (.getfield 126, 3) := by decide +kernel
theorem dX12_had_11 : decode cX12_had 11 = .ok (.if_icmp .ge 31, 3) := by decide +kernel
theorem dX12_had_14 : decode cX12_had 14 = .ok (.iload_n 3, 1) := by decide +kernel
theorem dX12_had_15 : decode cX12_had 15 = .ok (.aload_n 0, 1) := by decide +kernel
theorem dX12_had_16 : decode cX12_had 16 = .ok (.aload_n 1, 1) := by decide +kernel
theorem dX12_had_17 : decode cX12_had 17 = .ok (.iload_n 2, 1) := by decide +kernel
theorem dX12_had_18 : decode cX12_had 18 = .ok (.iload 4, 2) := by decide +kernel
theorem dX12_had_20 : decode cX12_had 20 = .ok (.invokevirtual 257, 3) := by decide +kernel
theorem dX12_had_23 : decode cX12_had 23 = .ok (.ifCond .eq 10, 3) := by decide +kernel
theorem dX12_had_26 : decode cX12_had 26 = .ok (.iconst 1, 1) := by decide +kernel
theorem dX12_had_27 : decode cX12_had 27 = .ok (.iload 4, 2) := by decide +kernel
theorem dX12_had_29 : decode cX12_had 29 = .ok (.ishl, 1) := by decide +kernel
theorem dX12_had_30 : decode cX12_had 30 = .ok (.goto 4, 3) := by decide +kernel
theorem dX12_had_33 : decode cX12_had 33 = .ok (.iconst 0, 1) := by decide +kernel
theorem dX12_had_34 : decode cX12_had 34 = .ok (.ior, 1) := by decide +kernel
theorem dX12_had_35 : decode cX12_had 35 = .ok (.istore_n 3, 1) := by decide +kernel
theorem dX12_had_36 : decode cX12_had 36 = .ok (.iinc 4 1, 3) := by decide +kernel
theorem dX12_had_39 : decode cX12_had 39 = .ok (.goto (-34), 3) := by decide +kernel
theorem dX12_had_42 : decode cX12_had 42 = .ok (.iload_n 3, 1) := by decide +kernel
theorem dX12_had_43 : decode cX12_had 43 = .ok (.ireturn, 1) := by decide +kernel
theorem dX12_hadByAll_0 : decode cX12_hadByAll 0 = .ok (.iconst 0, 1) := by decide +kernel
theorem dX12_hadByAll_1 : decode cX12_hadByAll 1 = .ok (.istore_n 2, 1) := by decide +kernel
theorem dX12_hadByAll_2 : decode cX12_hadByAll 2 = .ok (.iconst 0, 1) := by decide +kernel
theorem dX12_hadByAll_3 : decode cX12_hadByAll 3 = .ok (.istore_n 3, 1) := by decide +kernel
theorem dX12_hadByAll_4 : decode cX12_hadByAll 4 = .ok (.iload_n 3, 1) := by decide +kernel
theorem dX12_hadByAll_5 : decode cX12_hadByAll 5 = .ok (.aload_n 0, 1) := by decide +kernel
theorem dX12_hadByAll_6 : decode cX12_hadByAll 6 = .ok (.getfield 123, 3) := by decide +kernel
theorem dX12_hadByAll_9 : decode cX12_hadByAll 9 = .ok (.if_icmp .ge 21, 3) := by decide +kernel
theorem dX12_hadByAll_12 : decode cX12_hadByAll 12 = .ok (.iload_n 2, 1) := by decide +kernel
theorem dX12_hadByAll_13 : decode cX12_hadByAll 13 = .ok (.aload_n 0, 1) := by decide +kernel
theorem dX12_hadByAll_14 : decode cX12_hadByAll 14 = .ok (.aload_n 1, 1) := by decide +kernel
theorem dX12_hadByAll_15 : decode cX12_hadByAll 15 = .ok (.iload_n 3, 1) := by decide +kernel
theorem dX12_hadByAll_16 : decode cX12_hadByAll 16 = .ok (.invokevirtual 261, 3) := by decide +kernel
theorem dX12_hadByAll_19 : decode cX12_hadByAll 19 = .ok (.invokestatic 242, 3) := by decide +kernel
theorem dX12_hadByAll_22 : decode cX12_hadByAll 22 = .ok (.iadd, 1) := by decide +kernel
theorem dX12_hadByAll_23 : decode cX12_hadByAll 23 = .ok (.istore_n 2, 1) := by decide +kernel
theorem dX12_hadByAll_24 : decode cX12_hadByAll 24 = .ok (.iinc 3 1, 3) := by decide +kernel
theorem dX12_hadByAll_27 : decode cX12_hadByAll 27 = .ok (.goto (-23), 3) := by decide +kernel
theorem dX12_hadByAll_30 : decode cX12_hadByAll 30 = .ok (.iload_n 2, 1) := by decide +kernel
theorem dX12_hadByAll_31 : decode cX12_hadByAll 31 = .ok (.ireturn, 1) := by decide +kernel
theorem dX12_humoursOfAll_0 : decode cX12_humoursOfAll 0 = .ok (.iconst 0, 1) := by decide +kernel
theorem dX12_humoursOfAll_1 : decode cX12_humoursOfAll 1 = .ok (.istore_n 2, 1) := by decide +kernel
theorem dX12_humoursOfAll_2 : decode cX12_humoursOfAll 2 = .ok (.iconst 0, 1) := by decide +kernel
theorem dX12_humoursOfAll_3 : decode cX12_humoursOfAll 3 = .ok (.istore_n 3, 1) := by decide +kernel
theorem dX12_humoursOfAll_4 : decode cX12_humoursOfAll 4 = .ok (.iload_n 3, 1) := by decide +kernel
theorem dX12_humoursOfAll_5 : decode cX12_humoursOfAll 5 = .ok (.iconst 4, 1) := by decide +kernel
theorem dX12_humoursOfAll_6 : decode cX12_humoursOfAll 6 = .ok (.aload_n 0, 1) := by decide +kernel
theorem dX12_humoursOfAll_7 : decode cX12_humoursOfAll 7 = .ok (.getfield 123, 3) := by decide +kernel
theorem dX12_humoursOfAll_10 : decode cX12_humoursOfAll 10 = .ok (.imul, 1) := by decide +kernel
theorem dX12_humoursOfAll_11 : decode cX12_humoursOfAll 11 = .ok (.if_icmp .ge 18, 3) := by decide +kernel
theorem dX12_humoursOfAll_14 : decode cX12_humoursOfAll 14 = .ok (.iload_n 2, 1) := by decide +kernel
theorem dX12_humoursOfAll_15 : decode cX12_humoursOfAll 15 = .ok (.aload_n 1, 1) := by decide +kernel
theorem dX12_humoursOfAll_16 : decode cX12_humoursOfAll 16 = .ok (.bipush 8, 2) := by decide +kernel
theorem dX12_humoursOfAll_18 : decode cX12_humoursOfAll 18 = .ok (.iload_n 3, 1) := by decide +kernel
theorem dX12_humoursOfAll_19 : decode cX12_humoursOfAll 19 = .ok (.iadd, 1) := by decide +kernel
theorem dX12_humoursOfAll_20 : decode cX12_humoursOfAll 20 = .ok (.iaload, 1) := by decide +kernel
theorem dX12_humoursOfAll_21 : decode cX12_humoursOfAll 21 = .ok (.iadd, 1) := by decide +kernel
theorem dX12_humoursOfAll_22 : decode cX12_humoursOfAll 22 = .ok (.istore_n 2, 1) := by decide +kernel
theorem dX12_humoursOfAll_23 : decode cX12_humoursOfAll 23 = .ok (.iinc 3 1, 3) := by decide +kernel
theorem dX12_humoursOfAll_26 : decode cX12_humoursOfAll 26 = .ok (.goto (-22), 3) := by decide +kernel
theorem dX12_humoursOfAll_29 : decode cX12_humoursOfAll 29 = .ok (.iload_n 2, 1) := by decide +kernel
theorem dX12_humoursOfAll_30 : decode cX12_humoursOfAll 30 = .ok (.ireturn, 1) := by decide +kernel
theorem dX12_heldByAll_0 : decode cX12_heldByAll 0 = .ok (.iconst 0, 1) := by decide +kernel
theorem dX12_heldByAll_1 : decode cX12_heldByAll 1 = .ok (.istore_n 2, 1) := by decide +kernel
theorem dX12_heldByAll_2 : decode cX12_heldByAll 2 = .ok (.iconst 0, 1) := by decide +kernel
theorem dX12_heldByAll_3 : decode cX12_heldByAll 3 = .ok (.istore_n 3, 1) := by decide +kernel
theorem dX12_heldByAll_4 : decode cX12_heldByAll 4 = .ok (.iload_n 3, 1) := by decide +kernel
theorem dX12_heldByAll_5 : decode cX12_heldByAll 5 = .ok (.aload_n 0, 1) := by decide +kernel
theorem dX12_heldByAll_6 : decode cX12_heldByAll 6 = .ok (.getfield 123, 3) := by decide +kernel
theorem dX12_heldByAll_9 : decode cX12_heldByAll 9 = .ok (.if_icmp .ge 21, 3) := by decide +kernel
theorem dX12_heldByAll_12 : decode cX12_heldByAll 12 = .ok (.iload_n 2, 1) := by decide +kernel
theorem dX12_heldByAll_13 : decode cX12_heldByAll 13 = .ok (.aload_n 1, 1) := by decide +kernel
theorem dX12_heldByAll_14 : decode cX12_heldByAll 14 = .ok (.bipush 32, 2) := by decide +kernel
theorem dX12_heldByAll_16 : decode cX12_heldByAll 16 = .ok (.iload_n 3, 1) := by decide +kernel
theorem dX12_heldByAll_17 : decode cX12_heldByAll 17 = .ok (.iadd, 1) := by decide +kernel
theorem dX12_heldByAll_18 : decode cX12_heldByAll 18 = .ok (.iaload, 1) := by decide +kernel
theorem dX12_heldByAll_19 : decode cX12_heldByAll 19 = .ok (.invokestatic 242, 3) := by decide +kernel
theorem dX12_heldByAll_22 : decode cX12_heldByAll 22 = .ok (.iadd, 1) := by decide +kernel
theorem dX12_heldByAll_23 : decode cX12_heldByAll 23 = .ok (.istore_n 2, 1) := by decide +kernel
theorem dX12_heldByAll_24 : decode cX12_heldByAll 24 = .ok (.iinc 3 1, 3) := by decide +kernel
theorem dX12_heldByAll_27 : decode cX12_heldByAll 27 = .ok (.goto (-23), 3) := by decide +kernel
theorem dX12_heldByAll_30 : decode cX12_heldByAll 30 = .ok (.iload_n 2, 1) := by decide +kernel
theorem dX12_heldByAll_31 : decode cX12_heldByAll 31 = .ok (.ireturn, 1) := by decide +kernel
theorem dX12_holders_0 : decode cX12_holders 0 = .ok (.iconst 0, 1) := by decide +kernel
theorem dX12_holders_1 : decode cX12_holders 1 = .ok (.istore_n 2, 1) := by decide +kernel
theorem dX12_holders_2 : decode cX12_holders 2 = .ok (.iconst 0, 1) := by decide +kernel
theorem dX12_holders_3 : decode cX12_holders 3 = .ok (.istore_n 3, 1) := by decide +kernel
theorem dX12_holders_4 : decode cX12_holders 4 = .ok (.iload_n 3, 1) := by decide +kernel
theorem dX12_holders_5 : decode cX12_holders 5 = .ok (.aload_n 0, 1) := by decide +kernel
theorem dX12_holders_6 : decode cX12_holders 6 = .ok (.getfield 123, 3) := by decide +kernel
theorem dX12_holders_9 : decode cX12_holders 9 = .ok (.if_icmp .ge 35, 3) := by decide +kernel
theorem dX12_holders_12 : decode cX12_holders 12 = .ok (.iload_n 2, 1) := by decide +kernel
theorem dX12_holders_13 : decode cX12_holders 13 = .ok (.aload_n 0, 1) := by decide +kernel
theorem dX12_holders_14 : decode cX12_holders 14 = .ok (.getfield 9, 3) := by decide +kernel
theorem dX12_holders_17 : decode cX12_holders 17 = .ok (.bipush 32, 2) := by decide +kernel
theorem dX12_holders_19 : decode cX12_holders 19 = .ok (.iload_n 3, 1) := by decide +kernel
theorem dX12_holders_20 : decode cX12_holders 20 = .ok (.iadd, 1) := by decide +kernel
theorem dX12_holders_21 : decode cX12_holders 21 = .ok (.iaload, 1) := by decide +kernel
theorem dX12_holders_22 : decode cX12_holders 22 = .ok (.iload_n 1, 1) := by decide +kernel
theorem dX12_holders_23 : decode cX12_holders 23 = .ok (.invokestatic 265, 3) := by decide +kernel
theorem dX12_holders_26 : decode cX12_holders 26 = .ok (.ifCond .eq 9, 3) := by decide +kernel
theorem dX12_holders_29 : decode cX12_holders 29 = .ok (.iconst 1, 1) := by decide +kernel
theorem dX12_holders_30 : decode cX12_holders 30 = .ok (.iload_n 3, 1) := by decide +kernel
theorem dX12_holders_31 : decode cX12_holders 31 = .ok (.ishl, 1) := by decide +kernel
theorem dX12_holders_32 : decode cX12_holders 32 = .ok (.goto 4, 3) := by decide +kernel
theorem dX12_holders_35 : decode cX12_holders 35 = .ok (.iconst 0, 1) := by decide +kernel
theorem dX12_holders_36 : decode cX12_holders 36 = .ok (.ior, 1) := by decide +kernel
theorem dX12_holders_37 : decode cX12_holders 37 = .ok (.istore_n 2, 1) := by decide +kernel
theorem dX12_holders_38 : decode cX12_holders 38 = .ok (.iinc 3 1, 3) := by decide +kernel
theorem dX12_holders_41 : decode cX12_holders 41 = .ok (.goto (-37), 3) := by decide +kernel
theorem dX12_holders_44 : decode cX12_holders 44 = .ok (.iload_n 2, 1) := by decide +kernel
theorem dX12_holders_45 : decode cX12_holders 45 = .ok (.ireturn, 1) := by decide +kernel
theorem dX12_ground_0 : decode cX12_ground 0 = .ok (.aload_n 0, 1) := by decide +kernel
theorem dX12_ground_1 : decode cX12_ground 1 = .ok (.iconst 0, 1) := by decide +kernel
theorem dX12_ground_2 : decode cX12_ground 2 = .ok (.putfield 109, 3) := by decide +kernel
theorem dX12_ground_5 : decode cX12_ground 5 = .ok (.aload_n 0, 1) := by decide +kernel
theorem dX12_ground_6 : decode cX12_ground 6 = .ok (.iload_n 1, 1) := by decide +kernel
theorem dX12_ground_7 : decode cX12_ground 7 = .ok (.invokevirtual 269, 3) := by decide +kernel
theorem dX12_ground_10 : decode cX12_ground 10 = .ok (.ifCond .eq 13, 3) := by decide +kernel
theorem dX12_ground_13 : decode cX12_ground 13 = .ok (.iload_n 2, 1) := by decide +kernel
theorem dX12_ground_14 : decode cX12_ground 14 = .ok (.iconst 0, 1) := by decide +kernel
theorem dX12_ground_15 : decode cX12_ground 15 = .ok (.bipush 6, 2) := by decide +kernel
theorem dX12_ground_17 : decode cX12_ground 17 = .ok (.invokestatic 119, 3) := by decide +kernel
theorem dX12_ground_20 : decode cX12_ground 20 = .ok (.ifCond .ne 8, 3) := by decide +kernel
theorem dX12_ground_23 : decode cX12_ground 23 = .ok (.aload_n 0, 1) := by decide +kernel
theorem dX12_ground_24 : decode cX12_ground 24 = .ok (.invokevirtual 272, 3) := by decide +kernel
theorem dX12_ground_27 : decode cX12_ground 27 = .ok (.ireturn, 1) := by decide +kernel
theorem dX12_ground_28 : decode cX12_ground 28 = .ok (.iload_n 2, 1) := by decide +kernel
theorem dX12_ground_29 : decode cX12_ground 29 = .ok (.ifCond .ne 12, 3) := by decide +kernel
theorem dX12_ground_32 : decode cX12_ground 32 = .ok (.aload_n 0, 1) := by decide +kernel
theorem dX12_ground_33 : decode cX12_ground 33 = .ok (.getfield 13, 3) := by decide +kernel
theorem dX12_ground_36 : decode cX12_ground 36 = .ok (.iload_n 1, 1) := by decide +kernel
theorem dX12_ground_37 : decode cX12_ground 37 = .ok (.iaload, 1) := by decide +kernel
theorem dX12_ground_38 : decode cX12_ground 38 = .ok (.goto 43, 3) := by decide +kernel
theorem dX12_ground_41 : decode cX12_ground 41 = .ok (.iload_n 2, 1) := by decide +kernel
theorem dX12_ground_42 : decode cX12_ground 42 = .ok (.iconst 1, 1) := by decide +kernel
theorem dX12_ground_43 : decode cX12_ground 43 = .ok (.if_icmp .ne 12, 3) := by decide +kernel
theorem dX12_ground_46 : decode cX12_ground 46 = .ok (.aload_n 0, 1) := by decide +kernel
theorem dX12_ground_47 : decode cX12_ground 47 = .ok (.getfield 9, 3) := by decide +kernel
theorem dX12_ground_50 : decode cX12_ground 50 = .ok (.iload_n 1, 1) := by decide +kernel
theorem dX12_ground_51 : decode cX12_ground 51 = .ok (.iaload, 1) := by decide +kernel
theorem dX12_ground_52 : decode cX12_ground 52 = .ok (.goto 29, 3) := by decide +kernel
theorem dX12_ground_55 : decode cX12_ground 55 = .ok (.iload_n 2, 1) := by decide +kernel
theorem dX12_ground_56 : decode cX12_ground 56 = .ok (.bipush 6, 2) := by decide +kernel
theorem dX12_ground_58 : decode cX12_ground 58 = .ok (.if_icmp .ne 11, 3) := by decide +kernel
theorem dX12_ground_61 : decode cX12_ground 61 = .ok (.aload_n 0, 1) := by decide +kernel
theorem dX12_ground_62 : decode cX12_ground 62 = .ok (.iload_n 1, 1) := by decide +kernel
theorem dX12_ground_63 : decode cX12_ground 63 = .ok (.invokevirtual 275, 3) := by decide +kernel
theorem dX12_ground_66 : decode cX12_ground 66 = .ok (.goto 15, 3) := by decide +kernel
theorem dX12_ground_69 : decode cX12_ground 69 = .ok (.aload_n 0, 1) := by decide +kernel
theorem dX12_ground_70 : decode cX12_ground 70 = .ok (.getfield 16, 3) := by decide +kernel
theorem dX12_ground_73 : decode cX12_ground 73 = .ok (.iconst 4, 1) := by decide +kernel
theorem dX12_ground_74 : decode cX12_ground 74 = .ok (.iload_n 1, 1) := by decide +kernel
theorem dX12_ground_75 : decode cX12_ground 75 = .ok (.imul, 1) := by decide +kernel
theorem dX12_ground_76 : decode cX12_ground 76 = .ok (.iload_n 2, 1) := by decide +kernel
theorem dX12_ground_77 : decode cX12_ground 77 = .ok (.iadd, 1) := by decide +kernel
theorem dX12_ground_78 : decode cX12_ground 78 = .ok (.iconst 2, 1) := by decide +kernel
theorem dX12_ground_79 : decode cX12_ground 79 = .ok (.isub, 1) := by decide +kernel
theorem dX12_ground_80 : decode cX12_ground 80 = .ok (.iaload, 1) := by decide +kernel
theorem dX12_ground_81 : decode cX12_ground 81 = .ok (.ireturn, 1) := by decide +kernel
theorem dX12_person_0 : decode cX12_person 0 = .ok (.aload_n 0, 1) := by decide +kernel
theorem dX12_person_1 : decode cX12_person 1 = .ok (.iconst 0, 1) := by decide +kernel
theorem dX12_person_2 : decode cX12_person 2 = .ok (.putfield 109, 3) := by decide +kernel
theorem dX12_person_5 : decode cX12_person 5 = .ok (.aload_n 0, 1) := by decide +kernel
theorem dX12_person_6 : decode cX12_person 6 = .ok (.iload_n 1, 1) := by decide +kernel
theorem dX12_person_7 : decode cX12_person 7 = .ok (.invokevirtual 278, 3) := by decide +kernel
theorem dX12_person_10 : decode cX12_person 10 = .ok (.ifCond .eq 13, 3) := by decide +kernel
theorem dX12_person_13 : decode cX12_person 13 = .ok (.iload_n 2, 1) := by decide +kernel
theorem dX12_person_14 : decode cX12_person 14 = .ok (.iconst 0, 1) := by decide +kernel
theorem dX12_person_15 : decode cX12_person 15 = .ok (.bipush 6, 2) := by decide +kernel
theorem dX12_person_17 : decode cX12_person 17 = .ok (.invokestatic 119, 3) := by decide +kernel
theorem dX12_person_20 : decode cX12_person 20 = .ok (.ifCond .ne 8, 3) := by decide +kernel
theorem dX12_person_23 : decode cX12_person 23 = .ok (.aload_n 0, 1) := by decide +kernel
theorem dX12_person_24 : decode cX12_person 24 = .ok (.invokevirtual 272, 3) := by decide +kernel
theorem dX12_person_27 : decode cX12_person 27 = .ok (.ireturn, 1) := by decide +kernel
theorem dX12_person_28 : decode cX12_person 28 = .ok (.iload_n 2, 1) := by decide +kernel
theorem dX12_person_29 : decode cX12_person 29 = .ok (.ifCond .ne 12, 3) := by decide +kernel
theorem dX12_person_32 : decode cX12_person 32 = .ok (.aload_n 0, 1) := by decide +kernel
theorem dX12_person_33 : decode cX12_person 33 = .ok (.getfield 19, 3) := by decide +kernel
theorem dX12_person_36 : decode cX12_person 36 = .ok (.iload_n 1, 1) := by decide +kernel
theorem dX12_person_37 : decode cX12_person 37 = .ok (.iaload, 1) := by decide +kernel
theorem dX12_person_38 : decode cX12_person 38 = .ok (.goto 49, 3) := by decide +kernel
theorem dX12_person_41 : decode cX12_person 41 = .ok (.iload_n 2, 1) := by decide +kernel
theorem dX12_person_42 : decode cX12_person 42 = .ok (.iconst 5, 1) := by decide +kernel
theorem dX12_person_43 : decode cX12_person 43 = .ok (.if_icmp .ne 15, 3) := by decide +kernel
theorem dX12_person_46 : decode cX12_person 46 = .ok (.aload_n 0, 1) := by decide +kernel
theorem dX12_person_47 : decode cX12_person 47 = .ok (.getfield 9, 3) := by decide +kernel
theorem dX12_person_50 : decode cX12_person 50 = .ok (.bipush 32, 2) := by decide +kernel
theorem dX12_person_52 : decode cX12_person 52 = .ok (.iload_n 1, 1) := by decide +kernel
theorem dX12_person_53 : decode cX12_person 53 = .ok (.iadd, 1) := by decide +kernel
theorem dX12_person_54 : decode cX12_person 54 = .ok (.iaload, 1) := by decide +kernel
theorem dX12_person_55 : decode cX12_person 55 = .ok (.goto 32, 3) := by decide +kernel
theorem dX12_person_58 : decode cX12_person 58 = .ok (.iload_n 2, 1) := by decide +kernel
theorem dX12_person_59 : decode cX12_person 59 = .ok (.bipush 6, 2) := by decide +kernel
theorem dX12_person_61 : decode cX12_person 61 = .ok (.if_icmp .ne 15, 3) := by decide +kernel
theorem dX12_person_64 : decode cX12_person 64 = .ok (.aload_n 0, 1) := by decide +kernel
theorem dX12_person_65 : decode cX12_person 65 = .ok (.aload_n 0, 1) := by decide +kernel
theorem dX12_person_66 : decode cX12_person 66 = .ok (.getfield 9, 3) := by decide +kernel
theorem dX12_person_69 : decode cX12_person 69 = .ok (.iload_n 1, 1) := by decide +kernel
theorem dX12_person_70 : decode cX12_person 70 = .ok (.invokevirtual 261, 3) := by decide +kernel
theorem dX12_person_73 : decode cX12_person 73 = .ok (.goto 14, 3) := by decide +kernel
theorem dX12_person_76 : decode cX12_person 76 = .ok (.aload_n 0, 1) := by decide +kernel
theorem dX12_person_77 : decode cX12_person 77 = .ok (.getfield 9, 3) := by decide +kernel
theorem dX12_person_80 : decode cX12_person 80 = .ok (.iload_n 1, 1) := by decide +kernel
theorem dX12_person_81 : decode cX12_person 81 = .ok (.iload_n 2, 1) := by decide +kernel
theorem dX12_person_82 : decode cX12_person 82 = .ok (.iconst 1, 1) := by decide +kernel
theorem dX12_person_83 : decode cX12_person 83 = .ok (.isub, 1) := by decide +kernel
theorem dX12_person_84 : decode cX12_person 84 = .ok (.invokestatic 232, 3) := by decide +kernel
theorem dX12_person_87 : decode cX12_person 87 = .ok (.ireturn, 1) := by decide +kernel
theorem dX12_held_0 : decode cX12_held 0 = .ok (.aload_n 0, 1) := by decide +kernel
theorem dX12_held_1 : decode cX12_held 1 = .ok (.iconst 0, 1) := by decide +kernel
theorem dX12_held_2 : decode cX12_held 2 = .ok (.putfield 109, 3) := by decide +kernel
theorem dX12_held_5 : decode cX12_held 5 = .ok (.aload_n 0, 1) := by decide +kernel
theorem dX12_held_6 : decode cX12_held 6 = .ok (.iload_n 1, 1) := by decide +kernel
theorem dX12_held_7 : decode cX12_held 7 = .ok (.invokevirtual 278, 3) := by decide +kernel
theorem dX12_held_10 : decode cX12_held 10 = .ok (.ifCond .eq 11, 3) := by decide +kernel
theorem dX12_held_13 : decode cX12_held 13 = .ok (.aload_n 0, 1) := by decide +kernel
theorem dX12_held_14 : decode cX12_held 14 = .ok (.iload_n 2, 1) := by decide +kernel
theorem dX12_held_15 : decode cX12_held 15 = .ok (.invokevirtual 269, 3) := by decide +kernel
theorem dX12_held_18 : decode cX12_held 18 = .ok (.ifCond .ne 5, 3) := by decide +kernel
theorem dX12_held_21 : decode cX12_held 21 = .ok (.iconst (-1), 1) := by decide +kernel
theorem dX12_held_22 : decode cX12_held 22 = .ok (.ireturn, 1) := by decide +kernel
theorem dX12_held_23 : decode cX12_held 23 = .ok (.aload_n 0, 1) := by decide +kernel
theorem dX12_held_24 : decode cX12_held 24 = .ok (.getfield 9, 3) := by decide +kernel
theorem dX12_held_27 : decode cX12_held 27 = .ok (.bipush 32, 2) := by decide +kernel
theorem dX12_held_29 : decode cX12_held 29 = .ok (.iload_n 1, 1) := by decide +kernel
theorem dX12_held_30 : decode cX12_held 30 = .ok (.iadd, 1) := by decide +kernel
theorem dX12_held_31 : decode cX12_held 31 = .ok (.iaload, 1) := by decide +kernel
theorem dX12_held_32 : decode cX12_held 32 = .ok (.iload_n 2, 1) := by decide +kernel
theorem dX12_held_33 : decode cX12_held 33 = .ok (.invokestatic 265, 3) := by decide +kernel
theorem dX12_held_36 : decode cX12_held 36 = .ok (.ifCond .eq 20, 3) := by decide +kernel
theorem dX12_held_39 : decode cX12_held 39 = .ok (.aload_n 0, 1) := by decide +kernel
theorem dX12_held_40 : decode cX12_held 40 = .ok (.getfield 9, 3) := by decide +kernel
theorem dX12_held_43 : decode cX12_held 43 = .ok (.bipush 38, 2) := by decide +kernel
theorem dX12_held_45 : decode cX12_held 45 = .ok (.bipush 8, 2) := by decide +kernel
theorem dX12_held_47 : decode cX12_held 47 = .ok (.iload_n 1, 1) := by decide +kernel
theorem dX12_held_48 : decode cX12_held 48 = .ok (.imul, 1) := by decide +kernel
theorem dX12_held_49 : decode cX12_held 49 = .ok (.iadd, 1) := by decide +kernel
theorem dX12_held_50 : decode cX12_held 50 = .ok (.iload_n 2, 1) := by decide +kernel
theorem dX12_held_51 : decode cX12_held 51 = .ok (.iadd, 1) := by decide +kernel
theorem dX12_held_52 : decode cX12_held 52 = .ok (.iaload, 1) := by decide +kernel
theorem dX12_held_53 : decode cX12_held 53 = .ok (.goto 5, 3) := by decide +kernel
theorem dX12_held_56 : decode cX12_held 56 = .ok (.bipush (-2), 2) := by decide +kernel
theorem dX12_held_58 : decode cX12_held 58 = .ok (.ireturn, 1) := by decide +kernel
theorem dX12_stock_0 : decode cX12_stock 0 = .ok (.iconst 0, 1) := by decide +kernel
theorem dX12_stock_1 : decode cX12_stock 1 = .ok (.istore_n 1, 1) := by decide +kernel
theorem dX12_stock_2 : decode cX12_stock 2 = .ok (.iconst 0, 1) := by decide +kernel
theorem dX12_stock_3 : decode cX12_stock 3 = .ok (.istore_n 2, 1) := by decide +kernel
theorem dX12_stock_4 : decode cX12_stock 4 = .ok (.iload_n 2, 1) := by decide +kernel
theorem dX12_stock_5 : decode cX12_stock 5 = .ok (.aload_n 0, 1) := by decide +kernel
theorem dX12_stock_6 : decode cX12_stock 6 = .ok (.getfield 116, 3) := by decide +kernel
theorem dX12_stock_9 : decode cX12_stock 9 = .ok (.if_icmp .ge 18, 3) := by decide +kernel
theorem dX12_stock_12 : decode cX12_stock 12 = .ok (.iload_n 1, 1) := by decide +kernel
theorem dX12_stock_13 : decode cX12_stock 13 = .ok (.aload_n 0, 1) := by decide +kernel
theorem dX12_stock_14 : decode cX12_stock 14 = .ok (.getfield 9, 3) := by decide +kernel
theorem dX12_stock_17 : decode cX12_stock 17 = .ok (.iload_n 2, 1) := by decide +kernel
theorem dX12_stock_18 : decode cX12_stock 18 = .ok (.iaload, 1) := by decide +kernel
theorem dX12_stock_19 : decode cX12_stock 19 = .ok (.iadd, 1) := by decide +kernel
theorem dX12_stock_20 : decode cX12_stock 20 = .ok (.istore_n 1, 1) := by decide +kernel
theorem dX12_stock_21 : decode cX12_stock 21 = .ok (.iinc 2 1, 3) := by decide +kernel
theorem dX12_stock_24 : decode cX12_stock 24 = .ok (.goto (-20), 3) := by decide +kernel
theorem dX12_stock_27 : decode cX12_stock 27 = .ok (.iload_n 1, 1) := by decide +kernel
theorem dX12_stock_28 : decode cX12_stock 28 = .ok (.ireturn, 1) := by decide +kernel
theorem dX12_sheet_0 : decode cX12_sheet 0 = .ok (.aload_n 0, 1) := by decide +kernel
theorem dX12_sheet_1 : decode cX12_sheet 1 = .ok (.iconst 0, 1) := by decide +kernel
theorem dX12_sheet_2 : decode cX12_sheet 2 = .ok (.putfield 109, 3) := by decide +kernel
theorem dX12_sheet_5 : decode cX12_sheet 5 = .ok (.iload_n 1, 1) := by decide +kernel
theorem dX12_sheet_6 : decode cX12_sheet 6 = .ok (.iconst 0, 1) := by decide +kernel
theorem dX12_sheet_7 : decode cX12_sheet 7 = .ok (.iconst 3, 1) := by decide +kernel
theorem dX12_sheet_8 : decode cX12_sheet 8 = .ok (.invokestatic 119, 3) := by decide +kernel
theorem dX12_sheet_11 : decode cX12_sheet 11 = .ok (.ifCond .eq 9, 3) := by decide +kernel
theorem dX12_sheet_14 : decode cX12_sheet 14 = .ok (.iload_n 2, 1) := by decide +kernel
theorem dX12_sheet_15 : decode cX12_sheet 15 = .ok (.bipush 8, 2) := by decide +kernel
theorem dX12_sheet_17 : decode cX12_sheet 17 = .ok (.if_icmp .le 5, 3) := by decide +kernel
theorem dX12_sheet_20 : decode cX12_sheet 20 = .ok (.iconst (-1), 1) := by decide +kernel
theorem dX12_sheet_21 : decode cX12_sheet 21 = .ok (.ireturn, 1) := by decide +kernel
theorem dX12_sheet_22 : decode cX12_sheet 22 = .ok (.iload_n 1, 1) := by decide +kernel
theorem dX12_sheet_23 : decode cX12_sheet 23 = .ok (.iconst 3, 1) := by decide +kernel
theorem dX12_sheet_24 : decode cX12_sheet 24 = .ok (.if_icmp .ge 10, 3) := by decide +kernel
theorem dX12_sheet_27 : decode cX12_sheet 27 = .ok (.iload_n 2, 1) := by decide +kernel
theorem dX12_sheet_28 : decode cX12_sheet 28 = .ok (.ifCond .ge 6, 3) := by decide +kernel
theorem dX12_sheet_31 : decode cX12_sheet 31 = .ok (.bipush (-2), 2) := by decide +kernel
theorem dX12_sheet_33 : decode cX12_sheet 33 = .ok (.ireturn, 1) := by decide +kernel
theorem dX12_sheet_34 : decode cX12_sheet 34 = .ok (.iload_n 3, 1) := by decide +kernel
theorem dX12_sheet_35 : decode cX12_sheet 35 = .ok (.istore 5, 2) := by decide +kernel
theorem dX12_sheet_37 : decode cX12_sheet 37 = .ok (.iconst 0, 1) := by decide +kernel
theorem dX12_sheet_38 : decode cX12_sheet 38 = .ok (.istore 6, 2) := by decide +kernel
theorem dX12_sheet_40 : decode cX12_sheet 40 = .ok (.iload 6, 2) := by decide +kernel
theorem dX12_sheet_42 : decode cX12_sheet 42 = .ok (.aload_n 0, 1) := by decide +kernel
theorem dX12_sheet_43 : decode cX12_sheet 43 = .ok (.getfield 116, 3) := by decide +kernel
theorem dX12_sheet_46 : decode cX12_sheet 46 = .ok (.if_icmp .ge 74, 3) := by decide +kernel
theorem dX12_sheet_49 : decode cX12_sheet 49 = .ok (.iload_n 1, 1) := by decide +kernel
theorem dX12_sheet_50 : decode cX12_sheet 50 = .ok (.ifCond .ne 9, 3) := by decide +kernel
theorem dX12_sheet_53 : decode cX12_sheet 53 = .ok (.iload 5, 2) := by decide +kernel
theorem dX12_sheet_55 : decode cX12_sheet 55 = .ok (.i2b, 1) := by decide +kernel
theorem dX12_sheet_56 : decode cX12_sheet 56 = .ok (.goto 16, 3) := by decide +kernel
theorem dX12_sheet_59 : decode cX12_sheet 59 = .ok (.iload_n 1, 1) := by decide +kernel
theorem dX12_sheet_60 : decode cX12_sheet 60 = .ok (.iconst 1, 1) := by decide +kernel
theorem dX12_sheet_61 : decode cX12_sheet 61 = .ok (.if_icmp .ne 9, 3) := by decide +kernel
theorem dX12_sheet_64 : decode cX12_sheet 64 = .ok (.iload 5, 2) := by decide +kernel
theorem dX12_sheet_66 : decode cX12_sheet 66 = .ok (.i2s, 1) := by decide +kernel
theorem dX12_sheet_67 : decode cX12_sheet 67 = .ok (.goto 5, 3) := by decide +kernel
theorem dX12_sheet_70 : decode cX12_sheet 70 = .ok (.iload 5, 2) := by decide +kernel
theorem dX12_sheet_72 : decode cX12_sheet 72 = .ok (.istore 7, 2) := by decide +kernel
theorem dX12_sheet_74 : decode cX12_sheet 74 = .ok (.aload_n 0, 1) := by decide +kernel
theorem dX12_sheet_75 : decode cX12_sheet 75 = .ok (.getfield 9, 3) := by decide +kernel
theorem dX12_sheet_78 : decode cX12_sheet 78 = .ok (.iload 6, 2) := by decide +kernel
theorem dX12_sheet_80 : decode cX12_sheet 80 = .ok (.iload_n 1, 1) := by decide +kernel
theorem dX12_sheet_81 : decode cX12_sheet 81 = .ok (.iconst 3, 1) := by decide +kernel
theorem dX12_sheet_82 : decode cX12_sheet 82 = .ok (.if_icmp .eq 9, 3) := by decide +kernel
theorem dX12_sheet_85 : decode cX12_sheet 85 = .ok (.iload 6, 2) := by decide +kernel
theorem dX12_sheet_87 : decode cX12_sheet 87 = .ok (.iload_n 2, 1) := by decide +kernel
theorem dX12_sheet_88 : decode cX12_sheet 88 = .ok (.if_icmp .lt 7, 3) := by decide +kernel
theorem dX12_sheet_91 : decode cX12_sheet 91 = .ok (.iconst 0, 1) := by decide +kernel
theorem dX12_sheet_92 : decode cX12_sheet 92 = .ok (.goto 14, 3) := by decide +kernel
theorem dX12_sheet_95 : decode cX12_sheet 95 = .ok (.iconst 0, 1) := by decide +kernel
theorem dX12_sheet_96 : decode cX12_sheet 96 = .ok (.bipush 99, 2) := by decide +kernel
theorem dX12_sheet_98 : decode cX12_sheet 98 = .ok (.iload 7, 2) := by decide +kernel
theorem dX12_sheet_100 : decode cX12_sheet 100 = .ok (.invokestatic 245, 3) := by decide +kernel
theorem dX12_sheet_103 : decode cX12_sheet 103 = .ok (.invokestatic 250, 3) := by decide +kernel
theorem dX12_sheet_106 : decode cX12_sheet 106 = .ok (.iastore, 1) := by decide +kernel
theorem dX12_sheet_107 : decode cX12_sheet 107 = .ok (.iload 5, 2) := by decide +kernel
theorem dX12_sheet_109 : decode cX12_sheet 109 = .ok (.iload 4, 2) := by decide +kernel
theorem dX12_sheet_111 : decode cX12_sheet 111 = .ok (.iadd, 1) := by decide +kernel
theorem dX12_sheet_112 : decode cX12_sheet 112 = .ok (.istore 5, 2) := by decide +kernel
theorem dX12_sheet_114 : decode cX12_sheet 114 = .ok (.iinc 6 1, 3) := by decide +kernel
theorem dX12_sheet_117 : decode cX12_sheet 117 = .ok (.goto (-77), 3) := by decide +kernel
theorem dX12_sheet_120 : decode cX12_sheet 120 = .ok (.iload_n 1, 1) := by decide +kernel
theorem dX12_sheet_121 : decode cX12_sheet 121 = .ok (.iconst 3, 1) := by decide +kernel
theorem dX12_sheet_122 : decode cX12_sheet 122 = .ok (.if_icmp .ne 8, 3) := by decide +kernel
theorem dX12_sheet_125 : decode cX12_sheet 125 = .ok (.bipush (-3), 2) := by decide +kernel
theorem dX12_sheet_127 : decode cX12_sheet 127 = .ok (.goto 7, 3) := by decide +kernel
theorem dX12_sheet_130 : decode cX12_sheet 130 = .ok (.aload_n 0, 1) := by decide +kernel
theorem dX12_sheet_131 : decode cX12_sheet 131 = .ok (.invokevirtual 281, 3) := by decide +kernel
theorem dX12_sheet_134 : decode cX12_sheet 134 = .ok (.ireturn, 1) := by decide +kernel
theorem dX12_lay_0 : decode cX12_lay 0 = .ok (.iconst 0, 1) := by decide +kernel
theorem dX12_lay_1 : decode cX12_lay 1 = .ok (.istore_n 3, 1) := by decide +kernel
theorem dX12_lay_2 : decode cX12_lay 2 = .ok (.iload_n 3, 1) := by decide +kernel
theorem dX12_lay_3 : decode cX12_lay 3 = .ok (.bipush 88, 2) := by decide +kernel
theorem dX12_lay_5 : decode cX12_lay 5 = .ok (.if_icmp .ge 17, 3) := by decide +kernel
theorem dX12_lay_8 : decode cX12_lay 8 = .ok (.aload_n 1, 1) := by decide +kernel
theorem dX12_lay_9 : decode cX12_lay 9 = .ok (.iload_n 2, 1) := by decide +kernel
theorem dX12_lay_10 : decode cX12_lay 10 = .ok (.iload_n 3, 1) := by decide +kernel
theorem dX12_lay_11 : decode cX12_lay 11 = .ok (.iadd, 1) := by decide +kernel
theorem dX12_lay_12 : decode cX12_lay 12 = .ok (.aload_n 0, 1) := by decide +kernel
theorem dX12_lay_13 : decode cX12_lay 13 = .ok (.iload_n 3, 1) := by decide +kernel
theorem dX12_lay_14 : decode cX12_lay 14 = .ok (.iaload, 1) := by decide +kernel
theorem dX12_lay_15 : decode cX12_lay 15 = .ok (.iastore, 1) := by decide +kernel
theorem dX12_lay_16 : decode cX12_lay 16 = .ok (.iinc 3 1, 3) := by decide +kernel
theorem dX12_lay_19 : decode cX12_lay 19 = .ok (.goto (-17), 3) := by decide +kernel
theorem dX12_lay_22 : decode cX12_lay 22 = .ok (.return_, 1) := by decide +kernel
theorem dX12_remember_0 : decode cX12_remember 0 = .ok (.aload_n 0, 1) := by decide +kernel
theorem dX12_remember_1 : decode cX12_remember 1 = .ok (.getfield 171, 3) := by decide +kernel
theorem dX12_remember_4 : decode cX12_remember 4 = .ok (.bipush 12, 2) := by decide +kernel
theorem dX12_remember_6 : decode cX12_remember 6 = .ok (.if_icmp .ne 43, 3) := by decide +kernel
theorem dX12_remember_9 : decode cX12_remember 9 = .ok (.iconst 0, 1) := by decide +kernel
theorem dX12_remember_10 : decode cX12_remember 10 = .ok (.istore_n 2, 1) := by decide +kernel
theorem dX12_remember_11 : decode cX12_remember 11 = .ok (.iload_n 2, 1) := by decide +kernel
theorem dX12_remember_12 : decode cX12_remember 12 = .ok (.sipush 968, 3) := by decide +kernel
theorem dX12_remember_15 : decode cX12_remember 15 = .ok (.if_icmp .ge 24, 3) := by decide +kernel
theorem dX12_remember_18 : decode cX12_remember 18 = .ok (.aload_n 0, 1) := by decide +kernel
theorem dX12_remember_19 : decode cX12_remember 19 = .ok (.getfield 51, 3) := by decide +kernel
theorem dX12_remember_22 : decode cX12_remember 22 = .ok (.iload_n 2, 1) := by decide +kernel
theorem dX12_remember_23 : decode cX12_remember 23 = .ok (.aload_n 0, 1) := by decide +kernel
theorem dX12_remember_24 : decode cX12_remember 24 = .ok (.getfield 51, 3) := by decide +kernel
theorem dX12_remember_27 : decode cX12_remember 27 = .ok (.iload_n 2, 1) := by decide +kernel
theorem dX12_remember_28 : decode cX12_remember 28 = .ok (.bipush 88, 2) := by decide +kernel
theorem dX12_remember_30 : decode cX12_remember 30 = .ok (.iadd, 1) := by decide +kernel
theorem dX12_remember_31 : decode cX12_remember 31 = .ok (.iaload, 1) := by decide +kernel
theorem dX12_remember_32 : decode cX12_remember 32 = .ok (.iastore, 1) := by decide +kernel
theorem dX12_remember_33 : decode cX12_remember 33 = .ok (.iinc 2 1, 3) := by decide +kernel
theorem dX12_remember_36 : decode cX12_remember 36 = .ok (.goto (-25), 3) := by decide +kernel
theorem dX12_remember_39 : decode cX12_remember 39 = .ok (.aload_n 0, 1) := by decide +kernel
theorem dX12_remember_40 : decode cX12_remember 40 = .ok (.dup, 1) := by decide +kernel
theorem dX12_remember_41 : decode cX12_remember 41 = .ok (.getfield 171, 3) := by decide +kernel
theorem dX12_remember_44 : decode cX12_remember 44 = .ok (.iconst 1, 1) := by decide +kernel
theorem dX12_remember_45 : decode cX12_remember 45 = .ok (.isub, 1) := by decide +kernel
theorem dX12_remember_46 : decode cX12_remember 46 = .ok (.putfield 171, 3) := by decide +kernel
theorem dX12_remember_49 : decode cX12_remember 49 = .ok (.aload_n 1, 1) := by decide +kernel
theorem dX12_remember_50 : decode cX12_remember 50 = .ok (.aload_n 0, 1) := by decide +kernel
theorem dX12_remember_51 : decode cX12_remember 51 = .ok (.getfield 51, 3) := by decide +kernel
theorem dX12_remember_54 : decode cX12_remember 54 = .ok (.bipush 88, 2) := by decide +kernel
theorem dX12_remember_56 : decode cX12_remember 56 = .ok (.aload_n 0, 1) := by decide +kernel
theorem dX12_remember_57 : decode cX12_remember 57 = .ok (.getfield 171, 3) := by decide +kernel
theorem dX12_remember_60 : decode cX12_remember 60 = .ok (.imul, 1) := by decide +kernel
theorem dX12_remember_61 : decode cX12_remember 61 = .ok (.invokestatic 284, 3) := by decide +kernel
theorem dX12_remember_64 : decode cX12_remember 64 = .ok (.aload_n 0, 1) := by decide +kernel
theorem dX12_remember_65 : decode cX12_remember 65 = .ok (.dup, 1) := by decide +kernel
theorem dX12_remember_66 : decode cX12_remember 66 = .ok (.getfield 171, 3) := by decide +kernel
theorem dX12_remember_69 : decode cX12_remember 69 = .ok (.iconst 1, 1) := by decide +kernel
theorem dX12_remember_70 : decode cX12_remember 70 = .ok (.iadd, 1) := by decide +kernel
theorem dX12_remember_71 : decode cX12_remember 71 = .ok (.putfield 171, 3) := by decide +kernel
theorem dX12_remember_74 : decode cX12_remember 74 = .ok (.return_, 1) := by decide +kernel
theorem dX12_refusesGift_0 : decode cX12_refusesGift 0 = .ok (.aload_n 0, 1) := by decide +kernel
theorem dX12_refusesGift_1 : decode cX12_refusesGift 1 = .ok (.iload_n 2, 1) := by decide +kernel
theorem dX12_refusesGift_2 : decode cX12_refusesGift 2 = .ok (.invokevirtual 278, 3) := by decide +kernel
theorem dX12_refusesGift_5 : decode cX12_refusesGift 5 = .ok (.ifCond .eq 11, 3) := by decide +kernel
theorem dX12_refusesGift_8 : decode cX12_refusesGift 8 = .ok (.aload_n 0, 1) := by decide +kernel
theorem dX12_refusesGift_9 : decode cX12_refusesGift 9 = .ok (.iload_n 3, 1) := by decide +kernel
theorem dX12_refusesGift_10 : decode cX12_refusesGift 10 = .ok (.invokevirtual 269, 3) := by decide +kernel
theorem dX12_refusesGift_13 : decode cX12_refusesGift 13 = .ok (.ifCond .ne 5, 3) := by decide +kernel
theorem dX12_refusesGift_16 : decode cX12_refusesGift 16 = .ok (.iconst (-1), 1) := by decide +kernel
theorem dX12_refusesGift_17 : decode cX12_refusesGift 17 = .ok (.ireturn, 1) := by decide +kernel
theorem dX12_refusesGift_18 : decode cX12_refusesGift 18 = .ok (.aload_n 1, 1) := by decide +kernel
theorem dX12_refusesGift_19 : decode cX12_refusesGift 19 = .ok (.bipush 32, 2) := by decide +kernel
theorem dX12_refusesGift_21 : decode cX12_refusesGift 21 = .ok (.iload_n 2, 1) := by decide +kernel
theorem dX12_refusesGift_22 : decode cX12_refusesGift 22 = .ok (.iadd, 1) := by decide +kernel
theorem dX12_refusesGift_23 : decode cX12_refusesGift 23 = .ok (.iaload, 1) := by decide +kernel
theorem dX12_refusesGift_24 : decode cX12_refusesGift 24 = .ok (.iload_n 3, 1) := by decide +kernel
theorem dX12_refusesGift_25 : decode cX12_refusesGift 25 = .ok (.invokestatic 265, 3) := by decide +kernel
theorem dX12_refusesGift_28 : decode cX12_refusesGift 28 = .ok (.ifCond .eq 8, 3) := by decide +kernel
theorem dX12_refusesGift_31 : decode cX12_refusesGift 31 = .ok (.bipush (-2), 2) := by decide +kernel
theorem dX12_refusesGift_33 : decode cX12_refusesGift 33 = .ok (.goto 15, 3) := by decide +kernel
theorem dX12_refusesGift_36 : decode cX12_refusesGift 36 = .ok (.aload_n 1, 1) := by decide +kernel
theorem dX12_refusesGift_37 : decode cX12_refusesGift 37 = .ok (.iload_n 3, 1) := by decide +kernel
theorem dX12_refusesGift_38 : decode cX12_refusesGift 38 = .ok (.iaload, 1) := by decide +kernel
theorem dX12_refusesGift_39 : decode cX12_refusesGift 39 = .ok (.ifCond .ne 8, 3) := by decide +kernel
theorem dX12_refusesGift_42 : decode cX12_refusesGift 42 = .ok (.bipush (-3), 2) := by decide +kernel
theorem dX12_refusesGift_44 : decode cX12_refusesGift 44 = .ok (.goto 4, 3) := by decide +kernel
theorem dX12_refusesGift_47 : decode cX12_refusesGift 47 = .ok (.iconst 0, 1) := by decide +kernel
theorem dX12_refusesGift_48 : decode cX12_refusesGift 48 = .ok (.ireturn, 1) := by decide +kernel
theorem dX12_hold_0 : decode cX12_hold 0 = .ok (.aload_n 0, 1) := by decide +kernel
theorem dX12_hold_1 : decode cX12_hold 1 = .ok (.bipush 32, 2) := by decide +kernel
theorem dX12_hold_3 : decode cX12_hold 3 = .ok (.iload_n 1, 1) := by decide +kernel
theorem dX12_hold_4 : decode cX12_hold 4 = .ok (.iadd, 1) := by decide +kernel
theorem dX12_hold_5 : decode cX12_hold 5 = .ok (.dup2, 1) := by decide +kernel
theorem dX12_hold_6 : decode cX12_hold 6 = .ok (.iaload, 1) := by decide +kernel
theorem dX12_hold_7 : decode cX12_hold 7 = .ok (.iconst 1, 1) := by decide +kernel
theorem dX12_hold_8 : decode cX12_hold 8 = .ok (.iload_n 2, 1) := by decide +kernel
theorem dX12_hold_9 : decode cX12_hold 9 = .ok (.ishl, 1) := by decide +kernel
theorem dX12_hold_10 : decode cX12_hold 10 = .ok (.ior, 1) := by decide +kernel
theorem dX12_hold_11 : decode cX12_hold 11 = .ok (.iastore, 1) := by decide +kernel
theorem dX12_hold_12 : decode cX12_hold 12 = .ok (.aload_n 0, 1) := by decide +kernel
theorem dX12_hold_13 : decode cX12_hold 13 = .ok (.bipush 38, 2) := by decide +kernel
theorem dX12_hold_15 : decode cX12_hold 15 = .ok (.bipush 8, 2) := by decide +kernel
theorem dX12_hold_17 : decode cX12_hold 17 = .ok (.iload_n 1, 1) := by decide +kernel
theorem dX12_hold_18 : decode cX12_hold 18 = .ok (.imul, 1) := by decide +kernel
theorem dX12_hold_19 : decode cX12_hold 19 = .ok (.iadd, 1) := by decide +kernel
theorem dX12_hold_20 : decode cX12_hold 20 = .ok (.iload_n 2, 1) := by decide +kernel
theorem dX12_hold_21 : decode cX12_hold 21 = .ok (.iadd, 1) := by decide +kernel
theorem dX12_hold_22 : decode cX12_hold 22 = .ok (.iconst 0, 1) := by decide +kernel
theorem dX12_hold_23 : decode cX12_hold 23 = .ok (.iastore, 1) := by decide +kernel
theorem dX12_hold_24 : decode cX12_hold 24 = .ok (.return_, 1) := by decide +kernel
theorem dX12_goGift_0 : decode cX12_goGift 0 = .ok (.aload_n 0, 1) := by decide +kernel
theorem dX12_goGift_1 : decode cX12_goGift 1 = .ok (.iload_n 1, 1) := by decide +kernel
theorem dX12_goGift_2 : decode cX12_goGift 2 = .ok (.iload_n 2, 1) := by decide +kernel
theorem dX12_goGift_3 : decode cX12_goGift 3 = .ok (.invokestatic 288, 3) := by decide +kernel
theorem dX12_goGift_6 : decode cX12_goGift 6 = .ok (.aload_n 0, 1) := by decide +kernel
theorem dX12_goGift_7 : decode cX12_goGift 7 = .ok (.iload_n 2, 1) := by decide +kernel
theorem dX12_goGift_8 : decode cX12_goGift 8 = .ok (.dup2, 1) := by decide +kernel
theorem dX12_goGift_9 : decode cX12_goGift 9 = .ok (.iaload, 1) := by decide +kernel
theorem dX12_goGift_10 : decode cX12_goGift 10 = .ok (.iconst 1, 1) := by decide +kernel
theorem dX12_goGift_11 : decode cX12_goGift 11 = .ok (.isub, 1) := by decide +kernel
theorem dX12_goGift_12 : decode cX12_goGift 12 = .ok (.iastore, 1) := by decide +kernel
theorem dX12_goGift_13 : decode cX12_goGift 13 = .ok (.aload_n 0, 1) := by decide +kernel
theorem dX12_goGift_14 : decode cX12_goGift 14 = .ok (.bipush 87, 2) := by decide +kernel
theorem dX12_goGift_16 : decode cX12_goGift 16 = .ok (.sipush 9999, 3) := by decide +kernel
theorem dX12_goGift_19 : decode cX12_goGift 19 = .ok (.aload_n 0, 1) := by decide +kernel
theorem dX12_goGift_20 : decode cX12_goGift 20 = .ok (.bipush 87, 2) := by decide +kernel
theorem dX12_goGift_22 : decode cX12_goGift 22 = .ok (.iaload, 1) := by decide +kernel
theorem dX12_goGift_23 : decode cX12_goGift 23 = .ok (.iconst 1, 1) := by decide +kernel
theorem dX12_goGift_24 : decode cX12_goGift 24 = .ok (.iadd, 1) := by decide +kernel
theorem dX12_goGift_25 : decode cX12_goGift 25 = .ok (.invokestatic 245, 3) := by decide +kernel
theorem dX12_goGift_28 : decode cX12_goGift 28 = .ok (.iastore, 1) := by decide +kernel
theorem dX12_goGift_29 : decode cX12_goGift 29 = .ok (.return_, 1) := by decide +kernel
theorem dX12_gives_0 : decode cX12_gives 0 = .ok (.aload_n 0, 1) := by decide +kernel
theorem dX12_gives_1 : decode cX12_gives 1 = .ok (.iconst 0, 1) := by decide +kernel
theorem dX12_gives_2 : decode cX12_gives 2 = .ok (.putfield 109, 3) := by decide +kernel
theorem dX12_gives_5 : decode cX12_gives 5 = .ok (.aload_n 0, 1) := by decide +kernel
theorem dX12_gives_6 : decode cX12_gives 6 = .ok (.aload_n 0, 1) := by decide +kernel
theorem dX12_gives_7 : decode cX12_gives 7 = .ok (.getfield 9, 3) := by decide +kernel
theorem dX12_gives_10 : decode cX12_gives 10 = .ok (.iload_n 1, 1) := by decide +kernel
theorem dX12_gives_11 : decode cX12_gives 11 = .ok (.iload_n 2, 1) := by decide +kernel
theorem dX12_gives_12 : decode cX12_gives 12 = .ok (.invokevirtual 292, 3) := by decide +kernel
theorem dX12_gives_15 : decode cX12_gives 15 = .ok (.istore_n 3, 1) := by decide +kernel
theorem dX12_gives_16 : decode cX12_gives 16 = .ok (.iload_n 3, 1) := by decide +kernel
theorem dX12_gives_17 : decode cX12_gives 17 = .ok (.ifCond .ge 5, 3) := by decide +kernel
theorem dX12_gives_20 : decode cX12_gives 20 = .ok (.iload_n 3, 1) := by decide +kernel
theorem dX12_gives_21 : decode cX12_gives 21 = .ok (.ireturn, 1) := by decide +kernel
theorem dX12_gives_22 : decode cX12_gives 22 = .ok (.aload_n 0, 1) := by decide +kernel
theorem dX12_gives_23 : decode cX12_gives 23 = .ok (.aload_n 0, 1) := by decide +kernel
theorem dX12_gives_24 : decode cX12_gives 24 = .ok (.getfield 9, 3) := by decide +kernel
theorem dX12_gives_27 : decode cX12_gives 27 = .ok (.invokevirtual 295, 3) := by decide +kernel
theorem dX12_gives_30 : decode cX12_gives 30 = .ok (.aload_n 0, 1) := by decide +kernel
theorem dX12_gives_31 : decode cX12_gives 31 = .ok (.getfield 9, 3) := by decide +kernel
theorem dX12_gives_34 : decode cX12_gives 34 = .ok (.iload_n 1, 1) := by decide +kernel
theorem dX12_gives_35 : decode cX12_gives 35 = .ok (.iload_n 2, 1) := by decide +kernel
theorem dX12_gives_36 : decode cX12_gives 36 = .ok (.invokestatic 299, 3) := by decide +kernel
theorem dX12_gives_39 : decode cX12_gives 39 = .ok (.aload_n 0, 1) := by decide +kernel
theorem dX12_gives_40 : decode cX12_gives 40 = .ok (.getfield 9, 3) := by decide +kernel
theorem dX12_gives_43 : decode cX12_gives 43 = .ok (.bipush 32, 2) := by decide +kernel
theorem dX12_gives_45 : decode cX12_gives 45 = .ok (.iload_n 1, 1) := by decide +kernel
theorem dX12_gives_46 : decode cX12_gives 46 = .ok (.iadd, 1) := by decide +kernel
theorem dX12_gives_47 : decode cX12_gives 47 = .ok (.iaload, 1) := by decide +kernel
theorem dX12_gives_48 : decode cX12_gives 48 = .ok (.invokestatic 242, 3) := by decide +kernel
theorem dX12_gives_51 : decode cX12_gives 51 = .ok (.ireturn, 1) := by decide +kernel
theorem dX12_refusesBack_0 : decode cX12_refusesBack 0 = .ok (.aload_n 0, 1) := by decide +kernel
theorem dX12_refusesBack_1 : decode cX12_refusesBack 1 = .ok (.iload_n 2, 1) := by decide +kernel
theorem dX12_refusesBack_2 : decode cX12_refusesBack 2 = .ok (.invokevirtual 278, 3) := by decide +kernel
theorem dX12_refusesBack_5 : decode cX12_refusesBack 5 = .ok (.ifCond .eq 11, 3) := by decide +kernel
theorem dX12_refusesBack_8 : decode cX12_refusesBack 8 = .ok (.aload_n 0, 1) := by decide +kernel
theorem dX12_refusesBack_9 : decode cX12_refusesBack 9 = .ok (.iload_n 3, 1) := by decide +kernel
theorem dX12_refusesBack_10 : decode cX12_refusesBack 10 = .ok (.invokevirtual 269, 3) := by decide +kernel
theorem dX12_refusesBack_13 : decode cX12_refusesBack 13 = .ok (.ifCond .ne 5, 3) := by decide +kernel
theorem dX12_refusesBack_16 : decode cX12_refusesBack 16 = .ok (.iconst (-1), 1) := by decide +kernel
theorem dX12_refusesBack_17 : decode cX12_refusesBack 17 = .ok (.ireturn, 1) := by decide +kernel
theorem dX12_refusesBack_18 : decode cX12_refusesBack 18 = .ok (.aload_n 1, 1) := by decide +kernel
theorem dX12_refusesBack_19 : decode cX12_refusesBack 19 = .ok (.bipush 32, 2) := by decide +kernel
theorem dX12_refusesBack_21 : decode cX12_refusesBack 21 = .ok (.iload_n 2, 1) := by decide +kernel
theorem dX12_refusesBack_22 : decode cX12_refusesBack 22 = .ok (.iadd, 1) := by decide +kernel
theorem dX12_refusesBack_23 : decode cX12_refusesBack 23 = .ok (.iaload, 1) := by decide +kernel
theorem dX12_refusesBack_24 : decode cX12_refusesBack 24 = .ok (.iload_n 3, 1) := by decide +kernel
theorem dX12_refusesBack_25 : decode cX12_refusesBack 25 = .ok (.invokestatic 265, 3) := by decide +kernel
theorem dX12_refusesBack_28 : decode cX12_refusesBack 28 = .ok (.ifCond .eq 7, 3) := by decide +kernel
theorem dX12_refusesBack_31 : decode cX12_refusesBack 31 = .ok (.iconst 0, 1) := by decide +kernel
theorem dX12_refusesBack_32 : decode cX12_refusesBack 32 = .ok (.goto 5, 3) := by decide +kernel
theorem dX12_refusesBack_35 : decode cX12_refusesBack 35 = .ok (.bipush (-2), 2) := by decide +kernel
theorem dX12_refusesBack_37 : decode cX12_refusesBack 37 = .ok (.ireturn, 1) := by decide +kernel
theorem dX12_goBack_0 : decode cX12_goBack 0 = .ok (.aload_n 0, 1) := by decide +kernel
theorem dX12_goBack_1 : decode cX12_goBack 1 = .ok (.bipush 32, 2) := by decide +kernel
theorem dX12_goBack_3 : decode cX12_goBack 3 = .ok (.iload_n 1, 1) := by decide +kernel
theorem dX12_goBack_4 : decode cX12_goBack 4 = .ok (.iadd, 1) := by decide +kernel
theorem dX12_goBack_5 : decode cX12_goBack 5 = .ok (.dup2, 1) := by decide +kernel
theorem dX12_goBack_6 : decode cX12_goBack 6 = .ok (.iaload, 1) := by decide +kernel
theorem dX12_goBack_7 : decode cX12_goBack 7 = .ok (.iconst 1, 1) := by decide +kernel
theorem dX12_goBack_8 : decode cX12_goBack 8 = .ok (.iload_n 2, 1) := by decide +kernel
theorem dX12_goBack_9 : decode cX12_goBack 9 = .ok (.ishl, 1) := by decide +kernel
theorem dX12_goBack_10 : decode cX12_goBack 10 = .ok (.iconst (-1), 1) := by decide +kernel
theorem dX12_goBack_11 : decode cX12_goBack 11 = .ok (.ixor, 1) := by decide +kernel
theorem dX12_goBack_12 : decode cX12_goBack 12 = .ok (.iand, 1) := by decide +kernel
theorem dX12_goBack_13 : decode cX12_goBack 13 = .ok (.iastore, 1) := by decide +kernel
theorem dX12_goBack_14 : decode cX12_goBack 14 = .ok (.aload_n 0, 1) := by decide +kernel
theorem dX12_goBack_15 : decode cX12_goBack 15 = .ok (.bipush 38, 2) := by decide +kernel
theorem dX12_goBack_17 : decode cX12_goBack 17 = .ok (.bipush 8, 2) := by decide +kernel
theorem dX12_goBack_19 : decode cX12_goBack 19 = .ok (.iload_n 1, 1) := by decide +kernel
theorem dX12_goBack_20 : decode cX12_goBack 20 = .ok (.imul, 1) := by decide +kernel
theorem dX12_goBack_21 : decode cX12_goBack 21 = .ok (.iadd, 1) := by decide +kernel
theorem dX12_goBack_22 : decode cX12_goBack 22 = .ok (.iload_n 2, 1) := by decide +kernel
theorem dX12_goBack_23 : decode cX12_goBack 23 = .ok (.iadd, 1) := by decide +kernel
theorem dX12_goBack_24 : decode cX12_goBack 24 = .ok (.iconst 0, 1) := by decide +kernel
theorem dX12_goBack_25 : decode cX12_goBack 25 = .ok (.iastore, 1) := by decide +kernel
theorem dX12_goBack_26 : decode cX12_goBack 26 = .ok (.aload_n 0, 1) := by decide +kernel
theorem dX12_goBack_27 : decode cX12_goBack 27 = .ok (.iload_n 2, 1) := by decide +kernel
theorem dX12_goBack_28 : decode cX12_goBack 28 = .ok (.bipush 99, 2) := by decide +kernel
theorem dX12_goBack_30 : decode cX12_goBack 30 = .ok (.aload_n 0, 1) := by decide +kernel
theorem dX12_goBack_31 : decode cX12_goBack 31 = .ok (.iload_n 2, 1) := by decide +kernel
theorem dX12_goBack_32 : decode cX12_goBack 32 = .ok (.iaload, 1) := by decide +kernel
theorem dX12_goBack_33 : decode cX12_goBack 33 = .ok (.iconst 1, 1) := by decide +kernel
theorem dX12_goBack_34 : decode cX12_goBack 34 = .ok (.iadd, 1) := by decide +kernel
theorem dX12_goBack_35 : decode cX12_goBack 35 = .ok (.invokestatic 245, 3) := by decide +kernel
theorem dX12_goBack_38 : decode cX12_goBack 38 = .ok (.iastore, 1) := by decide +kernel
theorem dX12_goBack_39 : decode cX12_goBack 39 = .ok (.return_, 1) := by decide +kernel
theorem dX12_takesBack_0 : decode cX12_takesBack 0 = .ok (.aload_n 0, 1) := by decide +kernel
theorem dX12_takesBack_1 : decode cX12_takesBack 1 = .ok (.iconst 0, 1) := by decide +kernel
theorem dX12_takesBack_2 : decode cX12_takesBack 2 = .ok (.putfield 109, 3) := by decide +kernel
theorem dX12_takesBack_5 : decode cX12_takesBack 5 = .ok (.aload_n 0, 1) := by decide +kernel
theorem dX12_takesBack_6 : decode cX12_takesBack 6 = .ok (.aload_n 0, 1) := by decide +kernel
theorem dX12_takesBack_7 : decode cX12_takesBack 7 = .ok (.getfield 9, 3) := by decide +kernel
theorem dX12_takesBack_10 : decode cX12_takesBack 10 = .ok (.iload_n 1, 1) := by decide +kernel
theorem dX12_takesBack_11 : decode cX12_takesBack 11 = .ok (.iload_n 2, 1) := by decide +kernel
theorem dX12_takesBack_12 : decode cX12_takesBack 12 = .ok (.invokevirtual 302, 3) := by decide +kernel
theorem dX12_takesBack_15 : decode cX12_takesBack 15 = .ok (.istore_n 3, 1) := by decide +kernel
theorem dX12_takesBack_16 : decode cX12_takesBack 16 = .ok (.iload_n 3, 1) := by decide +kernel
theorem dX12_takesBack_17 : decode cX12_takesBack 17 = .ok (.ifCond .ge 5, 3) := by decide +kernel
theorem dX12_takesBack_20 : decode cX12_takesBack 20 = .ok (.iload_n 3, 1) := by decide +kernel
theorem dX12_takesBack_21 : decode cX12_takesBack 21 = .ok (.ireturn, 1) := by decide +kernel
theorem dX12_takesBack_22 : decode cX12_takesBack 22 = .ok (.aload_n 0, 1) := by decide +kernel
theorem dX12_takesBack_23 : decode cX12_takesBack 23 = .ok (.aload_n 0, 1) := by decide +kernel
theorem dX12_takesBack_24 : decode cX12_takesBack 24 = .ok (.getfield 9, 3) := by decide +kernel
theorem dX12_takesBack_27 : decode cX12_takesBack 27 = .ok (.invokevirtual 295, 3) := by decide +kernel
theorem dX12_takesBack_30 : decode cX12_takesBack 30 = .ok (.aload_n 0, 1) := by decide +kernel
theorem dX12_takesBack_31 : decode cX12_takesBack 31 = .ok (.getfield 9, 3) := by decide +kernel
theorem dX12_takesBack_34 : decode cX12_takesBack 34 = .ok (.iload_n 1, 1) := by decide +kernel
theorem dX12_takesBack_35 : decode cX12_takesBack 35 = .ok (.iload_n 2, 1) := by decide +kernel
theorem dX12_takesBack_36 : decode cX12_takesBack 36 = .ok (.invokestatic 305, 3) := by decide +kernel
theorem dX12_takesBack_39 : decode cX12_takesBack 39 = .ok (.aload_n 0, 1) := by decide +kernel
theorem dX12_takesBack_40 : decode cX12_takesBack 40 = .ok (.getfield 9, 3) := by decide +kernel
theorem dX12_takesBack_43 : decode cX12_takesBack 43 = .ok (.bipush 32, 2) := by decide +kernel
theorem dX12_takesBack_45 : decode cX12_takesBack 45 = .ok (.iload_n 1, 1) := by decide +kernel
theorem dX12_takesBack_46 : decode cX12_takesBack 46 = .ok (.iadd, 1) := by decide +kernel
theorem dX12_takesBack_47 : decode cX12_takesBack 47 = .ok (.iaload, 1) := by decide +kernel
theorem dX12_takesBack_48 : decode cX12_takesBack 48 = .ok (.invokestatic 242, 3) := by decide +kernel
theorem dX12_takesBack_51 : decode cX12_takesBack 51 = .ok (.ireturn, 1) := by decide +kernel
theorem dX12_makes_0 : decode cX12_makes 0 = .ok (.aload_n 0, 1) := by decide +kernel
theorem dX12_makes_1 : decode cX12_makes 1 = .ok (.iconst 0, 1) := by decide +kernel
theorem dX12_makes_2 : decode cX12_makes 2 = .ok (.putfield 109, 3) := by decide +kernel
theorem dX12_makes_5 : decode cX12_makes 5 = .ok (.aload_n 0, 1) := by decide +kernel
theorem dX12_makes_6 : decode cX12_makes 6 = .ok (.iload_n 1, 1) := by decide +kernel
theorem dX12_makes_7 : decode cX12_makes 7 = .ok (.invokevirtual 269, 3) := by decide +kernel
theorem dX12_makes_10 : decode cX12_makes 10 = .ok (.ifCond .eq 13, 3) := by decide +kernel
theorem dX12_makes_13 : decode cX12_makes 13 = .ok (.iload_n 2, 1) := by decide +kernel
theorem dX12_makes_14 : decode cX12_makes 14 = .ok (.iconst 1, 1) := by decide +kernel
theorem dX12_makes_15 : decode cX12_makes 15 = .ok (.bipush 99, 2) := by decide +kernel
theorem dX12_makes_17 : decode cX12_makes 17 = .ok (.invokestatic 119, 3) := by decide +kernel
theorem dX12_makes_20 : decode cX12_makes 20 = .ok (.ifCond .ne 5, 3) := by decide +kernel
theorem dX12_makes_23 : decode cX12_makes 23 = .ok (.iconst (-1), 1) := by decide +kernel
theorem dX12_makes_24 : decode cX12_makes 24 = .ok (.ireturn, 1) := by decide +kernel
theorem dX12_makes_25 : decode cX12_makes 25 = .ok (.aload_n 0, 1) := by decide +kernel
theorem dX12_makes_26 : decode cX12_makes 26 = .ok (.aload_n 0, 1) := by decide +kernel
theorem dX12_makes_27 : decode cX12_makes 27 = .ok (.getfield 9, 3) := by decide +kernel
theorem dX12_makes_30 : decode cX12_makes 30 = .ok (.invokevirtual 295, 3) := by decide +kernel
theorem dX12_makes_33 : decode cX12_makes 33 = .ok (.aload_n 0, 1) := by decide +kernel
theorem dX12_makes_34 : decode cX12_makes 34 = .ok (.getfield 9, 3) := by decide +kernel
theorem dX12_makes_37 : decode cX12_makes 37 = .ok (.iload_n 1, 1) := by decide +kernel
theorem dX12_makes_38 : decode cX12_makes 38 = .ok (.bipush 99, 2) := by decide +kernel
theorem dX12_makes_40 : decode cX12_makes 40 = .ok (.aload_n 0, 1) := by decide +kernel
theorem dX12_makes_41 : decode cX12_makes 41 = .ok (.getfield 9, 3) := by decide +kernel
theorem dX12_makes_44 : decode cX12_makes 44 = .ok (.iload_n 1, 1) := by decide +kernel
theorem dX12_makes_45 : decode cX12_makes 45 = .ok (.iaload, 1) := by decide +kernel
theorem dX12_makes_46 : decode cX12_makes 46 = .ok (.iload_n 2, 1) := by decide +kernel
theorem dX12_makes_47 : decode cX12_makes 47 = .ok (.iadd, 1) := by decide +kernel
theorem dX12_makes_48 : decode cX12_makes 48 = .ok (.invokestatic 245, 3) := by decide +kernel
theorem dX12_makes_51 : decode cX12_makes 51 = .ok (.iastore, 1) := by decide +kernel
theorem dX12_makes_52 : decode cX12_makes 52 = .ok (.aload_n 0, 1) := by decide +kernel
theorem dX12_makes_53 : decode cX12_makes 53 = .ok (.getfield 9, 3) := by decide +kernel
theorem dX12_makes_56 : decode cX12_makes 56 = .ok (.iload_n 1, 1) := by decide +kernel
theorem dX12_makes_57 : decode cX12_makes 57 = .ok (.iaload, 1) := by decide +kernel
theorem dX12_makes_58 : decode cX12_makes 58 = .ok (.ireturn, 1) := by decide +kernel
theorem dX12_goMan_0 : decode cX12_goMan 0 = .ok (.iconst 0, 1) := by decide +kernel
theorem dX12_goMan_1 : decode cX12_goMan 1 = .ok (.istore_n 3, 1) := by decide +kernel
theorem dX12_goMan_2 : decode cX12_goMan 2 = .ok (.iload_n 3, 1) := by decide +kernel
theorem dX12_goMan_3 : decode cX12_goMan 3 = .ok (.iconst 4, 1) := by decide +kernel
theorem dX12_goMan_4 : decode cX12_goMan 4 = .ok (.if_icmp .ge 85, 3) := by decide +kernel
theorem dX12_goMan_7 : decode cX12_goMan 7 = .ok (.aload_n 0, 1) := by decide +kernel
theorem dX12_goMan_8 : decode cX12_goMan 8 = .ok (.getfield 60, 3) := by decide +kernel
theorem dX12_goMan_11 : decode cX12_goMan 11 = .ok (.iload_n 3, 1) := by decide +kernel
theorem dX12_goMan_12 : decode cX12_goMan 12 = .ok (.iconst 0, 1) := by decide +kernel
theorem dX12_goMan_13 : decode cX12_goMan 13 = .ok (.iastore, 1) := by decide +kernel
theorem dX12_goMan_14 : decode cX12_goMan 14 = .ok (.iconst 0, 1) := by decide +kernel
theorem dX12_goMan_15 : decode cX12_goMan 15 = .ok (.istore 4, 2) := by decide +kernel
theorem dX12_goMan_17 : decode cX12_goMan 17 = .ok (.iload 4, 2) := by decide +kernel
theorem dX12_goMan_19 : decode cX12_goMan 19 = .ok (.aload_n 0, 1) := by decide +kernel
theorem dX12_goMan_20 : decode cX12_goMan 20 = .ok (.getfield 116, 3) := by decide +kernel
theorem dX12_goMan_23 : decode cX12_goMan 23 = .ok (.if_icmp .ge 60, 3) := by decide +kernel
theorem dX12_goMan_26 : decode cX12_goMan 26 = .ok (.aload_n 0, 1) := by decide +kernel
theorem dX12_goMan_27 : decode cX12_goMan 27 = .ok (.getfield 60, 3) := by decide +kernel
theorem dX12_goMan_30 : decode cX12_goMan 30 = .ok (.iload_n 3, 1) := by decide +kernel
theorem dX12_goMan_31 : decode cX12_goMan 31 = .ok (.dup2, 1) := by decide +kernel
theorem dX12_goMan_32 : decode cX12_goMan 32 = .ok (.iaload, 1) := by decide +kernel
theorem dX12_goMan_33 : decode cX12_goMan 33 = .ok (.aload_n 1, 1) := by decide +kernel
theorem dX12_goMan_34 : decode cX12_goMan 34 = .ok (.bipush 32, 2) := by decide +kernel
theorem dX12_goMan_36 : decode cX12_goMan 36 = .ok (.iload_n 2, 1) := by decide +kernel
theorem dX12_goMan_37 : decode cX12_goMan 37 = .ok (.iadd, 1) := by decide +kernel
theorem dX12_goMan_38 : decode cX12_goMan 38 = .ok (.iaload, 1) := by decide +kernel
theorem dX12_goMan_39 : decode cX12_goMan 39 = .ok (.iload 4, 2) := by decide +kernel
theorem dX12_goMan_41 : decode cX12_goMan 41 = .ok (.invokestatic 265, 3) := by decide +kernel
theorem dX12_goMan_44 : decode cX12_goMan 44 = .ok (.ifCond .eq 30, 3) := by decide +kernel
theorem dX12_goMan_47 : decode cX12_goMan 47 = .ok (.aload_n 0, 1) := by decide +kernel
theorem dX12_goMan_48 : decode cX12_goMan 48 = .ok (.getfield 16, 3) := by decide +kernel
theorem dX12_goMan_51 : decode cX12_goMan 51 = .ok (.iconst 4, 1) := by decide +kernel
theorem dX12_goMan_52 : decode cX12_goMan 52 = .ok (.iload 4, 2) := by decide +kernel
theorem dX12_goMan_54 : decode cX12_goMan 54 = .ok (.imul, 1) := by decide +kernel
theorem dX12_goMan_55 : decode cX12_goMan 55 = .ok (.iload_n 3, 1) := by decide +kernel
theorem dX12_goMan_56 : decode cX12_goMan 56 = .ok (.iadd, 1) := by decide +kernel
theorem dX12_goMan_57 : decode cX12_goMan 57 = .ok (.iaload, 1) := by decide +kernel
theorem dX12_goMan_58 : decode cX12_goMan 58 = .ok (.iconst (-1), 1) := by decide +kernel
theorem dX12_goMan_59 : decode cX12_goMan 59 = .ok (.if_icmp .eq 15, 3) := by decide +kernel
theorem dX12_goMan_62 : decode cX12_goMan 62 = .ok (.aload_n 0, 1) := by decide +kernel
theorem dX12_goMan_63 : decode cX12_goMan 63 = .ok (.aload_n 1, 1) := by decide +kernel
theorem dX12_goMan_64 : decode cX12_goMan 64 = .ok (.iload_n 2, 1) := by decide +kernel
theorem dX12_goMan_65 : decode cX12_goMan 65 = .ok (.iload 4, 2) := by decide +kernel
theorem dX12_goMan_67 : decode cX12_goMan 67 = .ok (.iload_n 3, 1) := by decide +kernel
theorem dX12_goMan_68 : decode cX12_goMan 68 = .ok (.invokevirtual 308, 3) := by decide +kernel
theorem dX12_goMan_71 : decode cX12_goMan 71 = .ok (.goto 4, 3) := by decide +kernel
theorem dX12_goMan_74 : decode cX12_goMan 74 = .ok (.iconst 0, 1) := by decide +kernel
theorem dX12_goMan_75 : decode cX12_goMan 75 = .ok (.iadd, 1) := by decide +kernel
theorem dX12_goMan_76 : decode cX12_goMan 76 = .ok (.iastore, 1) := by decide +kernel
theorem dX12_goMan_77 : decode cX12_goMan 77 = .ok (.iinc 4 1, 3) := by decide +kernel
theorem dX12_goMan_80 : decode cX12_goMan 80 = .ok (.goto (-63), 3) := by decide +kernel
theorem dX12_goMan_83 : decode cX12_goMan 83 = .ok (.iinc 3 1, 3) := by decide +kernel
theorem dX12_goMan_86 : decode cX12_goMan 86 = .ok (.goto (-84), 3) := by decide +kernel
theorem dX12_goMan_89 : decode cX12_goMan 89 = .ok (.iconst 0, 1) := by decide +kernel
theorem dX12_goMan_90 : decode cX12_goMan 90 = .ok (.istore_n 3, 1) := by decide +kernel
theorem dX12_goMan_91 : decode cX12_goMan 91 = .ok (.iload_n 3, 1) := by decide +kernel
theorem dX12_goMan_92 : decode cX12_goMan 92 = .ok (.iconst 4, 1) := by decide +kernel
theorem dX12_goMan_93 : decode cX12_goMan 93 = .ok (.if_icmp .ge 41, 3) := by decide +kernel
theorem dX12_goMan_96 : decode cX12_goMan 96 = .ok (.aload_n 1, 1) := by decide +kernel
theorem dX12_goMan_97 : decode cX12_goMan 97 = .ok (.bipush 8, 2) := by decide +kernel
theorem dX12_goMan_99 : decode cX12_goMan 99 = .ok (.iconst 4, 1) := by decide +kernel
theorem dX12_goMan_100 : decode cX12_goMan 100 = .ok (.iload_n 2, 1) := by decide +kernel
theorem dX12_goMan_101 : decode cX12_goMan 101 = .ok (.imul, 1) := by decide +kernel
theorem dX12_goMan_102 : decode cX12_goMan 102 = .ok (.iadd, 1) := by decide +kernel
theorem dX12_goMan_103 : decode cX12_goMan 103 = .ok (.iload_n 3, 1) := by decide +kernel
theorem dX12_goMan_104 : decode cX12_goMan 104 = .ok (.iadd, 1) := by decide +kernel
theorem dX12_goMan_105 : decode cX12_goMan 105 = .ok (.iconst 0, 1) := by decide +kernel
theorem dX12_goMan_106 : decode cX12_goMan 106 = .ok (.bipush 9, 2) := by decide +kernel
theorem dX12_goMan_108 : decode cX12_goMan 108 = .ok (.aload_n 1, 1) := by decide +kernel
theorem dX12_goMan_109 : decode cX12_goMan 109 = .ok (.iload_n 2, 1) := by decide +kernel
theorem dX12_goMan_110 : decode cX12_goMan 110 = .ok (.iload_n 3, 1) := by decide +kernel
theorem dX12_goMan_111 : decode cX12_goMan 111 = .ok (.invokestatic 232, 3) := by decide +kernel
theorem dX12_goMan_114 : decode cX12_goMan 114 = .ok (.aload_n 0, 1) := by decide +kernel
theorem dX12_goMan_115 : decode cX12_goMan 115 = .ok (.getfield 60, 3) := by decide +kernel
theorem dX12_goMan_118 : decode cX12_goMan 118 = .ok (.iload_n 3, 1) := by decide +kernel
theorem dX12_goMan_119 : decode cX12_goMan 119 = .ok (.iaload, 1) := by decide +kernel
theorem dX12_goMan_120 : decode cX12_goMan 120 = .ok (.iadd, 1) := by decide +kernel
theorem dX12_goMan_121 : decode cX12_goMan 121 = .ok (.invokestatic 245, 3) := by decide +kernel
theorem dX12_goMan_124 : decode cX12_goMan 124 = .ok (.invokestatic 250, 3) := by decide +kernel
theorem dX12_goMan_127 : decode cX12_goMan 127 = .ok (.iastore, 1) := by decide +kernel
theorem dX12_goMan_128 : decode cX12_goMan 128 = .ok (.iinc 3 1, 3) := by decide +kernel
theorem dX12_goMan_131 : decode cX12_goMan 131 = .ok (.goto (-40), 3) := by decide +kernel
theorem dX12_goMan_134 : decode cX12_goMan 134 = .ok (.return_, 1) := by decide +kernel
theorem dX12_goDay_0 : decode cX12_goDay 0 = .ok (.iconst 0, 1) := by decide +kernel
theorem dX12_goDay_1 : decode cX12_goDay 1 = .ok (.istore_n 2, 1) := by decide +kernel
theorem dX12_goDay_2 : decode cX12_goDay 2 = .ok (.iload_n 2, 1) := by decide +kernel
theorem dX12_goDay_3 : decode cX12_goDay 3 = .ok (.aload_n 0, 1) := by decide +kernel
theorem dX12_goDay_4 : decode cX12_goDay 4 = .ok (.getfield 123, 3) := by decide +kernel
theorem dX12_goDay_7 : decode cX12_goDay 7 = .ok (.if_icmp .ge 44, 3) := by decide +kernel
theorem dX12_goDay_10 : decode cX12_goDay 10 = .ok (.aload_n 0, 1) := by decide +kernel
theorem dX12_goDay_11 : decode cX12_goDay 11 = .ok (.aload_n 1, 1) := by decide +kernel
theorem dX12_goDay_12 : decode cX12_goDay 12 = .ok (.iload_n 2, 1) := by decide +kernel
theorem dX12_goDay_13 : decode cX12_goDay 13 = .ok (.invokevirtual 261, 3) := by decide +kernel
theorem dX12_goDay_16 : decode cX12_goDay 16 = .ok (.istore_n 3, 1) := by decide +kernel
theorem dX12_goDay_17 : decode cX12_goDay 17 = .ok (.aload_n 0, 1) := by decide +kernel
theorem dX12_goDay_18 : decode cX12_goDay 18 = .ok (.aload_n 1, 1) := by decide +kernel
theorem dX12_goDay_19 : decode cX12_goDay 19 = .ok (.iload_n 2, 1) := by decide +kernel
theorem dX12_goDay_20 : decode cX12_goDay 20 = .ok (.invokevirtual 312, 3) := by decide +kernel
theorem dX12_goDay_23 : decode cX12_goDay 23 = .ok (.aload_n 0, 1) := by decide +kernel
theorem dX12_goDay_24 : decode cX12_goDay 24 = .ok (.dup, 1) := by decide +kernel
theorem dX12_goDay_25 : decode cX12_goDay 25 = .ok (.getfield 316, 3) := by decide +kernel
theorem dX12_goDay_28 : decode cX12_goDay 28 = .ok (.aload_n 0, 1) := by decide +kernel
theorem dX12_goDay_29 : decode cX12_goDay 29 = .ok (.aload_n 1, 1) := by decide +kernel
theorem dX12_goDay_30 : decode cX12_goDay 30 = .ok (.iload_n 2, 1) := by decide +kernel
theorem dX12_goDay_31 : decode cX12_goDay 31 = .ok (.invokevirtual 261, 3) := by decide +kernel
theorem dX12_goDay_34 : decode cX12_goDay 34 = .ok (.iload_n 3, 1) := by decide +kernel
theorem dX12_goDay_35 : decode cX12_goDay 35 = .ok (.iconst (-1), 1) := by decide +kernel
theorem dX12_goDay_36 : decode cX12_goDay 36 = .ok (.ixor, 1) := by decide +kernel
theorem dX12_goDay_37 : decode cX12_goDay 37 = .ok (.iand, 1) := by decide +kernel
theorem dX12_goDay_38 : decode cX12_goDay 38 = .ok (.invokestatic 242, 3) := by decide +kernel
theorem dX12_goDay_41 : decode cX12_goDay 41 = .ok (.iadd, 1) := by decide +kernel
theorem dX12_goDay_42 : decode cX12_goDay 42 = .ok (.putfield 316, 3) := by decide +kernel
theorem dX12_goDay_45 : decode cX12_goDay 45 = .ok (.iinc 2 1, 3) := by decide +kernel
theorem dX12_goDay_48 : decode cX12_goDay 48 = .ok (.goto (-46), 3) := by decide +kernel
theorem dX12_goDay_51 : decode cX12_goDay 51 = .ok (.iconst 0, 1) := by decide +kernel
theorem dX12_goDay_52 : decode cX12_goDay 52 = .ok (.istore_n 2, 1) := by decide +kernel
theorem dX12_goDay_53 : decode cX12_goDay 53 = .ok (.iload_n 2, 1) := by decide +kernel
theorem dX12_goDay_54 : decode cX12_goDay 54 = .ok (.aload_n 0, 1) := by decide +kernel
theorem dX12_goDay_55 : decode cX12_goDay 55 = .ok (.getfield 123, 3) := by decide +kernel
theorem dX12_goDay_58 : decode cX12_goDay 58 = .ok (.if_icmp .ge 67, 3) := by decide +kernel
theorem dX12_goDay_61 : decode cX12_goDay 61 = .ok (.iconst 0, 1) := by decide +kernel
theorem dX12_goDay_62 : decode cX12_goDay 62 = .ok (.istore_n 3, 1) := by decide +kernel
theorem dX12_goDay_63 : decode cX12_goDay 63 = .ok (.iload_n 3, 1) := by decide +kernel
theorem dX12_goDay_64 : decode cX12_goDay 64 = .ok (.aload_n 0, 1) := by decide +kernel
theorem dX12_goDay_65 : decode cX12_goDay 65 = .ok (.getfield 116, 3) := by decide +kernel
theorem dX12_goDay_68 : decode cX12_goDay 68 = .ok (.if_icmp .ge 51, 3) := by decide +kernel
theorem dX12_goDay_71 : decode cX12_goDay 71 = .ok (.aload_n 1, 1) := by decide +kernel
theorem dX12_goDay_72 : decode cX12_goDay 72 = .ok (.bipush 32, 2) := by decide +kernel
theorem dX12_goDay_74 : decode cX12_goDay 74 = .ok (.iload_n 2, 1) := by decide +kernel
theorem dX12_goDay_75 : decode cX12_goDay 75 = .ok (.iadd, 1) := by decide +kernel
theorem dX12_goDay_76 : decode cX12_goDay 76 = .ok (.iaload, 1) := by decide +kernel
theorem dX12_goDay_77 : decode cX12_goDay 77 = .ok (.iload_n 3, 1) := by decide +kernel
theorem dX12_goDay_78 : decode cX12_goDay 78 = .ok (.invokestatic 265, 3) := by decide +kernel
theorem dX12_goDay_81 : decode cX12_goDay 81 = .ok (.ifCond .eq 32, 3) := by decide +kernel
theorem dX12_goDay_84 : decode cX12_goDay 84 = .ok (.aload_n 1, 1) := by decide +kernel
theorem dX12_goDay_85 : decode cX12_goDay 85 = .ok (.bipush 38, 2) := by decide +kernel
theorem dX12_goDay_87 : decode cX12_goDay 87 = .ok (.bipush 8, 2) := by decide +kernel
theorem dX12_goDay_89 : decode cX12_goDay 89 = .ok (.iload_n 2, 1) := by decide +kernel
theorem dX12_goDay_90 : decode cX12_goDay 90 = .ok (.imul, 1) := by decide +kernel
theorem dX12_goDay_91 : decode cX12_goDay 91 = .ok (.iadd, 1) := by decide +kernel
theorem dX12_goDay_92 : decode cX12_goDay 92 = .ok (.iload_n 3, 1) := by decide +kernel
theorem dX12_goDay_93 : decode cX12_goDay 93 = .ok (.iadd, 1) := by decide +kernel
theorem dX12_goDay_94 : decode cX12_goDay 94 = .ok (.bipush 99, 2) := by decide +kernel
theorem dX12_goDay_96 : decode cX12_goDay 96 = .ok (.aload_n 1, 1) := by decide +kernel
theorem dX12_goDay_97 : decode cX12_goDay 97 = .ok (.bipush 38, 2) := by decide +kernel
theorem dX12_goDay_99 : decode cX12_goDay 99 = .ok (.bipush 8, 2) := by decide +kernel
theorem dX12_goDay_101 : decode cX12_goDay 101 = .ok (.iload_n 2, 1) := by decide +kernel
theorem dX12_goDay_102 : decode cX12_goDay 102 = .ok (.imul, 1) := by decide +kernel
theorem dX12_goDay_103 : decode cX12_goDay 103 = .ok (.iadd, 1) := by decide +kernel
theorem dX12_goDay_104 : decode cX12_goDay 104 = .ok (.iload_n 3, 1) := by decide +kernel
theorem dX12_goDay_105 : decode cX12_goDay 105 = .ok (.iadd, 1) := by decide +kernel
theorem dX12_goDay_106 : decode cX12_goDay 106 = .ok (.iaload, 1) := by decide +kernel
theorem dX12_goDay_107 : decode cX12_goDay 107 = .ok (.iconst 1, 1) := by decide +kernel
theorem dX12_goDay_108 : decode cX12_goDay 108 = .ok (.iadd, 1) := by decide +kernel
theorem dX12_goDay_109 : decode cX12_goDay 109 = .ok (.invokestatic 245, 3) := by decide +kernel
theorem dX12_goDay_112 : decode cX12_goDay 112 = .ok (.iastore, 1) := by decide +kernel
theorem dX12_goDay_113 : decode cX12_goDay 113 = .ok (.iinc 3 1, 3) := by decide +kernel
theorem dX12_goDay_116 : decode cX12_goDay 116 = .ok (.goto (-53), 3) := by decide +kernel
theorem dX12_goDay_119 : decode cX12_goDay 119 = .ok (.iinc 2 1, 3) := by decide +kernel
theorem dX12_goDay_122 : decode cX12_goDay 122 = .ok (.goto (-69), 3) := by decide +kernel
theorem dX12_goDay_125 : decode cX12_goDay 125 = .ok (.aload_n 1, 1) := by decide +kernel
theorem dX12_goDay_126 : decode cX12_goDay 126 = .ok (.bipush 86, 2) := by decide +kernel
theorem dX12_goDay_128 : decode cX12_goDay 128 = .ok (.dup2, 1) := by decide +kernel
theorem dX12_goDay_129 : decode cX12_goDay 129 = .ok (.iaload, 1) := by decide +kernel
theorem dX12_goDay_130 : decode cX12_goDay 130 = .ok (.iconst 1, 1) := by decide +kernel
theorem dX12_goDay_131 : decode cX12_goDay 131 = .ok (.iadd, 1) := by decide +kernel
theorem dX12_goDay_132 : decode cX12_goDay 132 = .ok (.iastore, 1) := by decide +kernel
theorem dX12_goDay_133 : decode cX12_goDay 133 = .ok (.return_, 1) := by decide +kernel
theorem dX12_goDays_0 : decode cX12_goDays 0 = .ok (.aload_n 0, 1) := by decide +kernel
theorem dX12_goDays_1 : decode cX12_goDays 1 = .ok (.iconst 0, 1) := by decide +kernel
theorem dX12_goDays_2 : decode cX12_goDays 2 = .ok (.putfield 316, 3) := by decide +kernel
theorem dX12_goDays_5 : decode cX12_goDays 5 = .ok (.iconst 0, 1) := by decide +kernel
theorem dX12_goDays_6 : decode cX12_goDays 6 = .ok (.istore_n 3, 1) := by decide +kernel
theorem dX12_goDays_7 : decode cX12_goDays 7 = .ok (.iload_n 3, 1) := by decide +kernel
theorem dX12_goDays_8 : decode cX12_goDays 8 = .ok (.iload_n 2, 1) := by decide +kernel
theorem dX12_goDays_9 : decode cX12_goDays 9 = .ok (.if_icmp .ge 14, 3) := by decide +kernel
theorem dX12_goDays_12 : decode cX12_goDays 12 = .ok (.aload_n 0, 1) := by decide +kernel
theorem dX12_goDays_13 : decode cX12_goDays 13 = .ok (.aload_n 1, 1) := by decide +kernel
theorem dX12_goDays_14 : decode cX12_goDays 14 = .ok (.invokevirtual 319, 3) := by decide +kernel
theorem dX12_goDays_17 : decode cX12_goDays 17 = .ok (.iinc 3 1, 3) := by decide +kernel
theorem dX12_goDays_20 : decode cX12_goDays 20 = .ok (.goto (-13), 3) := by decide +kernel
theorem dX12_goDays_23 : decode cX12_goDays 23 = .ok (.return_, 1) := by decide +kernel
theorem dX12_days_0 : decode cX12_days 0 = .ok (.aload_n 0, 1) := by decide +kernel
theorem dX12_days_1 : decode cX12_days 1 = .ok (.iconst 0, 1) := by decide +kernel
theorem dX12_days_2 : decode cX12_days 2 = .ok (.putfield 109, 3) := by decide +kernel
theorem dX12_days_5 : decode cX12_days 5 = .ok (.iload_n 1, 1) := by decide +kernel
theorem dX12_days_6 : decode cX12_days 6 = .ok (.iconst 0, 1) := by decide +kernel
theorem dX12_days_7 : decode cX12_days 7 = .ok (.bipush 60, 2) := by decide +kernel
theorem dX12_days_9 : decode cX12_days 9 = .ok (.invokestatic 119, 3) := by decide +kernel
theorem dX12_days_12 : decode cX12_days 12 = .ok (.ifCond .ne 5, 3) := by decide +kernel
theorem dX12_days_15 : decode cX12_days 15 = .ok (.iconst (-1), 1) := by decide +kernel
theorem dX12_days_16 : decode cX12_days 16 = .ok (.ireturn, 1) := by decide +kernel
theorem dX12_days_17 : decode cX12_days 17 = .ok (.iload_n 1, 1) := by decide +kernel
theorem dX12_days_18 : decode cX12_days 18 = .ok (.ifCond .le 11, 3) := by decide +kernel
theorem dX12_days_21 : decode cX12_days 21 = .ok (.aload_n 0, 1) := by decide +kernel
theorem dX12_days_22 : decode cX12_days 22 = .ok (.aload_n 0, 1) := by decide +kernel
theorem dX12_days_23 : decode cX12_days 23 = .ok (.getfield 9, 3) := by decide +kernel
theorem dX12_days_26 : decode cX12_days 26 = .ok (.invokevirtual 295, 3) := by decide +kernel
theorem dX12_days_29 : decode cX12_days 29 = .ok (.aload_n 0, 1) := by decide +kernel
theorem dX12_days_30 : decode cX12_days 30 = .ok (.aload_n 0, 1) := by decide +kernel
theorem dX12_days_31 : decode cX12_days 31 = .ok (.getfield 9, 3) := by decide +kernel
theorem dX12_days_34 : decode cX12_days 34 = .ok (.iload_n 1, 1) := by decide +kernel
theorem dX12_days_35 : decode cX12_days 35 = .ok (.invokevirtual 322, 3) := by decide +kernel
theorem dX12_days_38 : decode cX12_days 38 = .ok (.aload_n 0, 1) := by decide +kernel
theorem dX12_days_39 : decode cX12_days 39 = .ok (.iconst 0, 1) := by decide +kernel
theorem dX12_days_40 : decode cX12_days 40 = .ok (.putfield 113, 3) := by decide +kernel
theorem dX12_days_43 : decode cX12_days 43 = .ok (.aload_n 0, 1) := by decide +kernel
theorem dX12_days_44 : decode cX12_days 44 = .ok (.aload_n 0, 1) := by decide +kernel
theorem dX12_days_45 : decode cX12_days 45 = .ok (.aload_n 0, 1) := by decide +kernel
theorem dX12_days_46 : decode cX12_days 46 = .ok (.getfield 9, 3) := by decide +kernel
theorem dX12_days_49 : decode cX12_days 49 = .ok (.invokevirtual 325, 3) := by decide +kernel
theorem dX12_days_52 : decode cX12_days 52 = .ok (.i2l, 1) := by decide +kernel
theorem dX12_days_53 : decode cX12_days 53 = .ok (.invokevirtual 329, 3) := by decide +kernel
theorem dX12_days_56 : decode cX12_days 56 = .ok (.aload_n 0, 1) := by decide +kernel
theorem dX12_days_57 : decode cX12_days 57 = .ok (.aload_n 0, 1) := by decide +kernel
theorem dX12_days_58 : decode cX12_days 58 = .ok (.getfield 316, 3) := by decide +kernel
theorem dX12_days_61 : decode cX12_days 61 = .ok (.i2l, 1) := by decide +kernel
theorem dX12_days_62 : decode cX12_days 62 = .ok (.invokevirtual 329, 3) := by decide +kernel
theorem dX12_days_65 : decode cX12_days 65 = .ok (.aload_n 0, 1) := by decide +kernel
theorem dX12_days_66 : decode cX12_days 66 = .ok (.aload_n 0, 1) := by decide +kernel
theorem dX12_days_67 : decode cX12_days 67 = .ok (.getfield 9, 3) := by decide +kernel
theorem dX12_days_70 : decode cX12_days 70 = .ok (.invokevirtual 333, 3) := by decide +kernel
theorem dX12_days_73 : decode cX12_days 73 = .ok (.ireturn, 1) := by decide +kernel
theorem dX12_year_0 : decode cX12_year 0 = .ok (.aload_n 0, 1) := by decide +kernel
theorem dX12_year_1 : decode cX12_year 1 = .ok (.iconst 0, 1) := by decide +kernel
theorem dX12_year_2 : decode cX12_year 2 = .ok (.putfield 109, 3) := by decide +kernel
theorem dX12_year_5 : decode cX12_year 5 = .ok (.aload_n 0, 1) := by decide +kernel
theorem dX12_year_6 : decode cX12_year 6 = .ok (.bipush 60, 2) := by decide +kernel
theorem dX12_year_8 : decode cX12_year 8 = .ok (.invokevirtual 177, 3) := by decide +kernel
theorem dX12_year_11 : decode cX12_year 11 = .ok (.iconst 0, 1) := by decide +kernel
theorem dX12_year_12 : decode cX12_year 12 = .ok (.istore_n 1, 1) := by decide +kernel
theorem dX12_year_13 : decode cX12_year 13 = .ok (.aload_n 0, 1) := by decide +kernel
theorem dX12_year_14 : decode cX12_year 14 = .ok (.invokevirtual 151, 3) := by decide +kernel
theorem dX12_year_17 : decode cX12_year 17 = .ok (.ifCond .eq 27, 3) := by decide +kernel
theorem dX12_year_20 : decode cX12_year 20 = .ok (.aload_n 0, 1) := by decide +kernel
theorem dX12_year_21 : decode cX12_year 21 = .ok (.getfield 141, 3) := by decide +kernel
theorem dX12_year_24 : decode cX12_year 24 = .ok (.aload_n 0, 1) := by decide +kernel
theorem dX12_year_25 : decode cX12_year 25 = .ok (.getfield 135, 3) := by decide +kernel
theorem dX12_year_28 : decode cX12_year 28 = .ok (.if_icmp .ge 16, 3) := by decide +kernel
theorem dX12_year_31 : decode cX12_year 31 = .ok (.aload_n 0, 1) := by decide +kernel
theorem dX12_year_32 : decode cX12_year 32 = .ok (.iconst 3, 1) := by decide +kernel
theorem dX12_year_33 : decode cX12_year 33 = .ok (.iload_n 1, 1) := by decide +kernel
theorem dX12_year_34 : decode cX12_year 34 = .ok (.imul, 1) := by decide +kernel
theorem dX12_year_35 : decode cX12_year 35 = .ok (.invokevirtual 336, 3) := by decide +kernel
theorem dX12_year_38 : decode cX12_year 38 = .ok (.iinc 1 1, 3) := by decide +kernel
theorem dX12_year_41 : decode cX12_year 41 = .ok (.goto (-28), 3) := by decide +kernel
theorem dX12_year_44 : decode cX12_year 44 = .ok (.aload_n 0, 1) := by decide +kernel
theorem dX12_year_45 : decode cX12_year 45 = .ok (.invokevirtual 183, 3) := by decide +kernel
theorem dX12_year_48 : decode cX12_year 48 = .ok (.ifCond .ne 10, 3) := by decide +kernel
theorem dX12_year_51 : decode cX12_year 51 = .ok (.iconst (-1), 1) := by decide +kernel
theorem dX12_year_52 : decode cX12_year 52 = .ok (.aload_n 0, 1) := by decide +kernel
theorem dX12_year_53 : decode cX12_year 53 = .ok (.getfield 144, 3) := by decide +kernel
theorem dX12_year_56 : decode cX12_year 56 = .ok (.isub, 1) := by decide +kernel
theorem dX12_year_57 : decode cX12_year 57 = .ok (.ireturn, 1) := by decide +kernel
theorem dX12_year_58 : decode cX12_year 58 = .ok (.aload_n 0, 1) := by decide +kernel
theorem dX12_year_59 : decode cX12_year 59 = .ok (.getfield 9, 3) := by decide +kernel
theorem dX12_year_62 : decode cX12_year 62 = .ok (.aload_n 0, 1) := by decide +kernel
theorem dX12_year_63 : decode cX12_year 63 = .ok (.getfield 54, 3) := by decide +kernel
theorem dX12_year_66 : decode cX12_year 66 = .ok (.iconst 0, 1) := by decide +kernel
theorem dX12_year_67 : decode cX12_year 67 = .ok (.invokestatic 284, 3) := by decide +kernel
theorem dX12_year_70 : decode cX12_year 70 = .ok (.iconst 0, 1) := by decide +kernel
theorem dX12_year_71 : decode cX12_year 71 = .ok (.istore_n 2, 1) := by decide +kernel
theorem dX12_year_72 : decode cX12_year 72 = .ok (.iload_n 2, 1) := by decide +kernel
theorem dX12_year_73 : decode cX12_year 73 = .ok (.iload_n 1, 1) := by decide +kernel
theorem dX12_year_74 : decode cX12_year 74 = .ok (.if_icmp .ge 44, 3) := by decide +kernel
theorem dX12_year_77 : decode cX12_year 77 = .ok (.aload_n 0, 1) := by decide +kernel
theorem dX12_year_78 : decode cX12_year 78 = .ok (.aload_n 0, 1) := by decide +kernel
theorem dX12_year_79 : decode cX12_year 79 = .ok (.getfield 63, 3) := by decide +kernel
theorem dX12_year_82 : decode cX12_year 82 = .ok (.iconst 3, 1) := by decide +kernel
theorem dX12_year_83 : decode cX12_year 83 = .ok (.iload_n 2, 1) := by decide +kernel
theorem dX12_year_84 : decode cX12_year 84 = .ok (.imul, 1) := by decide +kernel
theorem dX12_year_85 : decode cX12_year 85 = .ok (.iaload, 1) := by decide +kernel
theorem dX12_year_86 : decode cX12_year 86 = .ok (.aload_n 0, 1) := by decide +kernel
theorem dX12_year_87 : decode cX12_year 87 = .ok (.getfield 63, 3) := by decide +kernel
theorem dX12_year_90 : decode cX12_year 90 = .ok (.iconst 3, 1) := by decide +kernel
theorem dX12_year_91 : decode cX12_year 91 = .ok (.iload_n 2, 1) := by decide +kernel
theorem dX12_year_92 : decode cX12_year 92 = .ok (.imul, 1) := by decide +kernel
theorem dX12_year_93 : decode cX12_year 93 = .ok (.iconst 1, 1) := by decide +kernel
theorem dX12_year_94 : decode cX12_year 94 = .ok (.iadd, 1) := by decide +kernel
theorem dX12_year_95 : decode cX12_year 95 = .ok (.iaload, 1) := by decide +kernel
theorem dX12_year_96 : decode cX12_year 96 = .ok (.aload_n 0, 1) := by decide +kernel
theorem dX12_year_97 : decode cX12_year 97 = .ok (.getfield 63, 3) := by decide +kernel
theorem dX12_year_100 : decode cX12_year 100 = .ok (.iconst 3, 1) := by decide +kernel
theorem dX12_year_101 : decode cX12_year 101 = .ok (.iload_n 2, 1) := by decide +kernel
theorem dX12_year_102 : decode cX12_year 102 = .ok (.imul, 1) := by decide +kernel
theorem dX12_year_103 : decode cX12_year 103 = .ok (.iconst 2, 1) := by decide +kernel
theorem dX12_year_104 : decode cX12_year 104 = .ok (.iadd, 1) := by decide +kernel
theorem dX12_year_105 : decode cX12_year 105 = .ok (.iaload, 1) := by decide +kernel
theorem dX12_year_106 : decode cX12_year 106 = .ok (.invokevirtual 339, 3) := by decide +kernel
theorem dX12_year_109 : decode cX12_year 109 = .ok (.ifCond .eq 9, 3) := by decide +kernel
theorem dX12_year_112 : decode cX12_year 112 = .ok (.iinc 2 1, 3) := by decide +kernel
theorem dX12_year_115 : decode cX12_year 115 = .ok (.goto (-43), 3) := by decide +kernel
theorem dX12_year_118 : decode cX12_year 118 = .ok (.iload_n 2, 1) := by decide +kernel
theorem dX12_year_119 : decode cX12_year 119 = .ok (.ifCond .le 11, 3) := by decide +kernel
theorem dX12_year_122 : decode cX12_year 122 = .ok (.aload_n 0, 1) := by decide +kernel
theorem dX12_year_123 : decode cX12_year 123 = .ok (.aload_n 0, 1) := by decide +kernel
theorem dX12_year_124 : decode cX12_year 124 = .ok (.getfield 54, 3) := by decide +kernel
theorem dX12_year_127 : decode cX12_year 127 = .ok (.invokevirtual 295, 3) := by decide +kernel
theorem dX12_year_130 : decode cX12_year 130 = .ok (.aload_n 0, 1) := by decide +kernel
theorem dX12_year_131 : decode cX12_year 131 = .ok (.iconst 0, 1) := by decide +kernel
theorem dX12_year_132 : decode cX12_year 132 = .ok (.putfield 113, 3) := by decide +kernel
theorem dX12_year_135 : decode cX12_year 135 = .ok (.aload_n 0, 1) := by decide +kernel
theorem dX12_year_136 : decode cX12_year 136 = .ok (.iload_n 2, 1) := by decide +kernel
theorem dX12_year_137 : decode cX12_year 137 = .ok (.iload_n 1, 1) := by decide +kernel
theorem dX12_year_138 : decode cX12_year 138 = .ok (.if_icmp .ge 7, 3) := by decide +kernel
theorem dX12_year_141 : decode cX12_year 141 = .ok (.lconst 1, 1) := by decide +kernel
theorem dX12_year_142 : decode cX12_year 142 = .ok (.goto 4, 3) := by decide +kernel
theorem dX12_year_145 : decode cX12_year 145 = .ok (.lconst 0, 1) := by decide +kernel
theorem dX12_year_146 : decode cX12_year 146 = .ok (.invokevirtual 329, 3) := by decide +kernel
theorem dX12_year_149 : decode cX12_year 149 = .ok (.aload_n 0, 1) := by decide +kernel
theorem dX12_year_150 : decode cX12_year 150 = .ok (.aload_n 0, 1) := by decide +kernel
theorem dX12_year_151 : decode cX12_year 151 = .ok (.aload_n 0, 1) := by decide +kernel
theorem dX12_year_152 : decode cX12_year 152 = .ok (.getfield 9, 3) := by decide +kernel
theorem dX12_year_155 : decode cX12_year 155 = .ok (.invokevirtual 333, 3) := by decide +kernel
theorem dX12_year_158 : decode cX12_year 158 = .ok (.i2l, 1) := by decide +kernel
theorem dX12_year_159 : decode cX12_year 159 = .ok (.invokevirtual 329, 3) := by decide +kernel
theorem dX12_year_162 : decode cX12_year 162 = .ok (.iload_n 2, 1) := by decide +kernel
theorem dX12_year_163 : decode cX12_year 163 = .ok (.ireturn, 1) := by decide +kernel
theorem dX12_readAct_0 : decode cX12_readAct 0 = .ok (.aload_n 0, 1) := by decide +kernel
theorem dX12_readAct_1 : decode cX12_readAct 1 = .ok (.invokevirtual 155, 3) := by decide +kernel
theorem dX12_readAct_4 : decode cX12_readAct 4 = .ok (.istore_n 2, 1) := by decide +kernel
theorem dX12_readAct_5 : decode cX12_readAct 5 = .ok (.iload_n 2, 1) := by decide +kernel
theorem dX12_readAct_6 : decode cX12_readAct 6 = .ok (.bipush 103, 2) := by decide +kernel
theorem dX12_readAct_8 : decode cX12_readAct 8 = .ok (.if_icmp .eq 30, 3) := by decide +kernel
theorem dX12_readAct_11 : decode cX12_readAct 11 = .ok (.iload_n 2, 1) := by decide +kernel
theorem dX12_readAct_12 : decode cX12_readAct 12 = .ok (.bipush 116, 2) := by decide +kernel
theorem dX12_readAct_14 : decode cX12_readAct 14 = .ok (.if_icmp .eq 24, 3) := by decide +kernel
theorem dX12_readAct_17 : decode cX12_readAct 17 = .ok (.iload_n 2, 1) := by decide +kernel
theorem dX12_readAct_18 : decode cX12_readAct 18 = .ok (.bipush 109, 2) := by decide +kernel
theorem dX12_readAct_20 : decode cX12_readAct 20 = .ok (.if_icmp .eq 18, 3) := by decide +kernel
theorem dX12_readAct_23 : decode cX12_readAct 23 = .ok (.iload_n 2, 1) := by decide +kernel
theorem dX12_readAct_24 : decode cX12_readAct 24 = .ok (.bipush 100, 2) := by decide +kernel
theorem dX12_readAct_26 : decode cX12_readAct 26 = .ok (.if_icmp .eq 12, 3) := by decide +kernel
theorem dX12_readAct_29 : decode cX12_readAct 29 = .ok (.aload_n 0, 1) := by decide +kernel
theorem dX12_readAct_30 : decode cX12_readAct 30 = .ok (.aload_n 0, 1) := by decide +kernel
theorem dX12_readAct_31 : decode cX12_readAct 31 = .ok (.getfield 141, 3) := by decide +kernel
theorem dX12_readAct_34 : decode cX12_readAct 34 = .ok (.invokevirtual 163, 3) := by decide +kernel
theorem dX12_readAct_37 : decode cX12_readAct 37 = .ok (.return_, 1) := by decide +kernel
theorem dX12_readAct_38 : decode cX12_readAct 38 = .ok (.aload_n 0, 1) := by decide +kernel
theorem dX12_readAct_39 : decode cX12_readAct 39 = .ok (.dup, 1) := by decide +kernel
theorem dX12_readAct_40 : decode cX12_readAct 40 = .ok (.getfield 141, 3) := by decide +kernel
theorem dX12_readAct_43 : decode cX12_readAct 43 = .ok (.iconst 1, 1) := by decide +kernel
theorem dX12_readAct_44 : decode cX12_readAct 44 = .ok (.iadd, 1) := by decide +kernel
theorem dX12_readAct_45 : decode cX12_readAct 45 = .ok (.putfield 141, 3) := by decide +kernel
theorem dX12_readAct_48 : decode cX12_readAct 48 = .ok (.aload_n 0, 1) := by decide +kernel
theorem dX12_readAct_49 : decode cX12_readAct 49 = .ok (.getfield 63, 3) := by decide +kernel
theorem dX12_readAct_52 : decode cX12_readAct 52 = .ok (.iload_n 1, 1) := by decide +kernel
theorem dX12_readAct_53 : decode cX12_readAct 53 = .ok (.iload_n 2, 1) := by decide +kernel
theorem dX12_readAct_54 : decode cX12_readAct 54 = .ok (.iastore, 1) := by decide +kernel
theorem dX12_readAct_55 : decode cX12_readAct 55 = .ok (.aload_n 0, 1) := by decide +kernel
theorem dX12_readAct_56 : decode cX12_readAct 56 = .ok (.getfield 63, 3) := by decide +kernel
theorem dX12_readAct_59 : decode cX12_readAct 59 = .ok (.iload_n 1, 1) := by decide +kernel
theorem dX12_readAct_60 : decode cX12_readAct 60 = .ok (.iconst 1, 1) := by decide +kernel
theorem dX12_readAct_61 : decode cX12_readAct 61 = .ok (.iadd, 1) := by decide +kernel
theorem dX12_readAct_62 : decode cX12_readAct 62 = .ok (.aload_n 0, 1) := by decide +kernel
theorem dX12_readAct_63 : decode cX12_readAct 63 = .ok (.bipush 48, 2) := by decide +kernel
theorem dX12_readAct_65 : decode cX12_readAct 65 = .ok (.bipush 10, 2) := by decide +kernel
theorem dX12_readAct_67 : decode cX12_readAct 67 = .ok (.invokevirtual 167, 3) := by decide +kernel
theorem dX12_readAct_70 : decode cX12_readAct 70 = .ok (.iastore, 1) := by decide +kernel
theorem dX12_readAct_71 : decode cX12_readAct 71 = .ok (.iload_n 2, 1) := by decide +kernel
theorem dX12_readAct_72 : decode cX12_readAct 72 = .ok (.bipush 109, 2) := by decide +kernel
theorem dX12_readAct_74 : decode cX12_readAct 74 = .ok (.if_icmp .ne 21, 3) := by decide +kernel
theorem dX12_readAct_77 : decode cX12_readAct 77 = .ok (.aload_n 0, 1) := by decide +kernel
theorem dX12_readAct_78 : decode cX12_readAct 78 = .ok (.getfield 63, 3) := by decide +kernel
theorem dX12_readAct_81 : decode cX12_readAct 81 = .ok (.iload_n 1, 1) := by decide +kernel
theorem dX12_readAct_82 : decode cX12_readAct 82 = .ok (.iconst 2, 1) := by decide +kernel
theorem dX12_readAct_83 : decode cX12_readAct 83 = .ok (.iadd, 1) := by decide +kernel
theorem dX12_readAct_84 : decode cX12_readAct 84 = .ok (.aload_n 0, 1) := by decide +kernel
theorem dX12_readAct_85 : decode cX12_readAct 85 = .ok (.bipush 49, 2) := by decide +kernel
theorem dX12_readAct_87 : decode cX12_readAct 87 = .ok (.bipush 9, 2) := by decide +kernel
theorem dX12_readAct_89 : decode cX12_readAct 89 = .ok (.invokevirtual 167, 3) := by decide +kernel
theorem dX12_readAct_92 : decode cX12_readAct 92 = .ok (.iconst 1, 1) := by decide +kernel
theorem dX12_readAct_93 : decode cX12_readAct 93 = .ok (.iadd, 1) := by decide +kernel
theorem dX12_readAct_94 : decode cX12_readAct 94 = .ok (.iastore, 1) := by decide +kernel
theorem dX12_readAct_95 : decode cX12_readAct 95 = .ok (.iload_n 2, 1) := by decide +kernel
theorem dX12_readAct_96 : decode cX12_readAct 96 = .ok (.bipush 103, 2) := by decide +kernel
theorem dX12_readAct_98 : decode cX12_readAct 98 = .ok (.if_icmp .eq 9, 3) := by decide +kernel
theorem dX12_readAct_101 : decode cX12_readAct 101 = .ok (.iload_n 2, 1) := by decide +kernel
theorem dX12_readAct_102 : decode cX12_readAct 102 = .ok (.bipush 116, 2) := by decide +kernel
theorem dX12_readAct_104 : decode cX12_readAct 104 = .ok (.if_icmp .ne 19, 3) := by decide +kernel
theorem dX12_readAct_107 : decode cX12_readAct 107 = .ok (.aload_n 0, 1) := by decide +kernel
theorem dX12_readAct_108 : decode cX12_readAct 108 = .ok (.getfield 63, 3) := by decide +kernel
theorem dX12_readAct_111 : decode cX12_readAct 111 = .ok (.iload_n 1, 1) := by decide +kernel
theorem dX12_readAct_112 : decode cX12_readAct 112 = .ok (.iconst 2, 1) := by decide +kernel
theorem dX12_readAct_113 : decode cX12_readAct 113 = .ok (.iadd, 1) := by decide +kernel
theorem dX12_readAct_114 : decode cX12_readAct 114 = .ok (.aload_n 0, 1) := by decide +kernel
theorem dX12_readAct_115 : decode cX12_readAct 115 = .ok (.bipush 48, 2) := by decide +kernel
theorem dX12_readAct_117 : decode cX12_readAct 117 = .ok (.bipush 10, 2) := by decide +kernel
theorem dX12_readAct_119 : decode cX12_readAct 119 = .ok (.invokevirtual 167, 3) := by decide +kernel
theorem dX12_readAct_122 : decode cX12_readAct 122 = .ok (.iastore, 1) := by decide +kernel
theorem dX12_readAct_123 : decode cX12_readAct 123 = .ok (.return_, 1) := by decide +kernel
theorem dX12_act_0 : decode cX12_act 0 = .ok (.iload_n 1, 1) := by decide +kernel
theorem dX12_act_1 : decode cX12_act 1 = .ok (.lookupswitch 118 #[(103, 35), (109, 87), (116, 61)], 35) := by decide +kernel
theorem dX12_act_36 : decode cX12_act 36 = .ok (.aload_n 0, 1) := by decide +kernel
theorem dX12_act_37 : decode cX12_act 37 = .ok (.aload_n 0, 1) := by decide +kernel
theorem dX12_act_38 : decode cX12_act 38 = .ok (.getfield 9, 3) := by decide +kernel
theorem dX12_act_41 : decode cX12_act 41 = .ok (.iload_n 2, 1) := by decide +kernel
theorem dX12_act_42 : decode cX12_act 42 = .ok (.iload_n 3, 1) := by decide +kernel
theorem dX12_act_43 : decode cX12_act 43 = .ok (.invokevirtual 292, 3) := by decide +kernel
theorem dX12_act_46 : decode cX12_act 46 = .ok (.ifCond .ge 5, 3) := by decide +kernel
theorem dX12_act_49 : decode cX12_act 49 = .ok (.iconst 0, 1) := by decide +kernel
theorem dX12_act_50 : decode cX12_act 50 = .ok (.ireturn, 1) := by decide +kernel
theorem dX12_act_51 : decode cX12_act 51 = .ok (.aload_n 0, 1) := by decide +kernel
theorem dX12_act_52 : decode cX12_act 52 = .ok (.getfield 9, 3) := by decide +kernel
theorem dX12_act_55 : decode cX12_act 55 = .ok (.iload_n 2, 1) := by decide +kernel
theorem dX12_act_56 : decode cX12_act 56 = .ok (.iload_n 3, 1) := by decide +kernel
theorem dX12_act_57 : decode cX12_act 57 = .ok (.invokestatic 299, 3) := by decide +kernel
theorem dX12_act_60 : decode cX12_act 60 = .ok (.iconst 1, 1) := by decide +kernel
theorem dX12_act_61 : decode cX12_act 61 = .ok (.ireturn, 1) := by decide +kernel
theorem dX12_act_62 : decode cX12_act 62 = .ok (.aload_n 0, 1) := by decide +kernel
theorem dX12_act_63 : decode cX12_act 63 = .ok (.aload_n 0, 1) := by decide +kernel
theorem dX12_act_64 : decode cX12_act 64 = .ok (.getfield 9, 3) := by decide +kernel
theorem dX12_act_67 : decode cX12_act 67 = .ok (.iload_n 2, 1) := by decide +kernel
theorem dX12_act_68 : decode cX12_act 68 = .ok (.iload_n 3, 1) := by decide +kernel
theorem dX12_act_69 : decode cX12_act 69 = .ok (.invokevirtual 302, 3) := by decide +kernel
theorem dX12_act_72 : decode cX12_act 72 = .ok (.ifCond .ge 5, 3) := by decide +kernel
theorem dX12_act_75 : decode cX12_act 75 = .ok (.iconst 0, 1) := by decide +kernel
theorem dX12_act_76 : decode cX12_act 76 = .ok (.ireturn, 1) := by decide +kernel
theorem dX12_act_77 : decode cX12_act 77 = .ok (.aload_n 0, 1) := by decide +kernel
theorem dX12_act_78 : decode cX12_act 78 = .ok (.getfield 9, 3) := by decide +kernel
theorem dX12_act_81 : decode cX12_act 81 = .ok (.iload_n 2, 1) := by decide +kernel
theorem dX12_act_82 : decode cX12_act 82 = .ok (.iload_n 3, 1) := by decide +kernel
theorem dX12_act_83 : decode cX12_act 83 = .ok (.invokestatic 305, 3) := by decide +kernel
theorem dX12_act_86 : decode cX12_act 86 = .ok (.iconst 1, 1) := by decide +kernel
theorem dX12_act_87 : decode cX12_act 87 = .ok (.ireturn, 1) := by decide +kernel
theorem dX12_act_88 : decode cX12_act 88 = .ok (.aload_n 0, 1) := by decide +kernel
theorem dX12_act_89 : decode cX12_act 89 = .ok (.iload_n 2, 1) := by decide +kernel
theorem dX12_act_90 : decode cX12_act 90 = .ok (.invokevirtual 269, 3) := by decide +kernel
theorem dX12_act_93 : decode cX12_act 93 = .ok (.ifCond .ne 5, 3) := by decide +kernel
theorem dX12_act_96 : decode cX12_act 96 = .ok (.iconst 0, 1) := by decide +kernel
theorem dX12_act_97 : decode cX12_act 97 = .ok (.ireturn, 1) := by decide +kernel
theorem dX12_act_98 : decode cX12_act 98 = .ok (.aload_n 0, 1) := by decide +kernel
theorem dX12_act_99 : decode cX12_act 99 = .ok (.getfield 9, 3) := by decide +kernel
theorem dX12_act_102 : decode cX12_act 102 = .ok (.iload_n 2, 1) := by decide +kernel
theorem dX12_act_103 : decode cX12_act 103 = .ok (.bipush 99, 2) := by decide +kernel
theorem dX12_act_105 : decode cX12_act 105 = .ok (.aload_n 0, 1) := by decide +kernel
theorem dX12_act_106 : decode cX12_act 106 = .ok (.getfield 9, 3) := by decide +kernel
theorem dX12_act_109 : decode cX12_act 109 = .ok (.iload_n 2, 1) := by decide +kernel
theorem dX12_act_110 : decode cX12_act 110 = .ok (.iaload, 1) := by decide +kernel
theorem dX12_act_111 : decode cX12_act 111 = .ok (.iload_n 3, 1) := by decide +kernel
theorem dX12_act_112 : decode cX12_act 112 = .ok (.iadd, 1) := by decide +kernel
theorem dX12_act_113 : decode cX12_act 113 = .ok (.invokestatic 245, 3) := by decide +kernel
theorem dX12_act_116 : decode cX12_act 116 = .ok (.iastore, 1) := by decide +kernel
theorem dX12_act_117 : decode cX12_act 117 = .ok (.iconst 1, 1) := by decide +kernel
theorem dX12_act_118 : decode cX12_act 118 = .ok (.ireturn, 1) := by decide +kernel
theorem dX12_act_119 : decode cX12_act 119 = .ok (.aload_n 0, 1) := by decide +kernel
theorem dX12_act_120 : decode cX12_act 120 = .ok (.aload_n 0, 1) := by decide +kernel
theorem dX12_act_121 : decode cX12_act 121 = .ok (.getfield 9, 3) := by decide +kernel
theorem dX12_act_124 : decode cX12_act 124 = .ok (.iload_n 2, 1) := by decide +kernel
theorem dX12_act_125 : decode cX12_act 125 = .ok (.invokevirtual 322, 3) := by decide +kernel
theorem dX12_act_128 : decode cX12_act 128 = .ok (.iconst 1, 1) := by decide +kernel
theorem dX12_act_129 : decode cX12_act 129 = .ok (.ireturn, 1) := by decide +kernel
theorem dX12_undo_0 : decode cX12_undo 0 = .ok (.aload_n 0, 1) := by decide +kernel
theorem dX12_undo_1 : decode cX12_undo 1 = .ok (.iconst 0, 1) := by decide +kernel
theorem dX12_undo_2 : decode cX12_undo 2 = .ok (.putfield 109, 3) := by decide +kernel
theorem dX12_undo_5 : decode cX12_undo 5 = .ok (.aload_n 0, 1) := by decide +kernel
theorem dX12_undo_6 : decode cX12_undo 6 = .ok (.getfield 171, 3) := by decide +kernel
theorem dX12_undo_9 : decode cX12_undo 9 = .ok (.ifCond .ne 5, 3) := by decide +kernel
theorem dX12_undo_12 : decode cX12_undo 12 = .ok (.iconst (-1), 1) := by decide +kernel
theorem dX12_undo_13 : decode cX12_undo 13 = .ok (.ireturn, 1) := by decide +kernel
theorem dX12_undo_14 : decode cX12_undo 14 = .ok (.aload_n 0, 1) := by decide +kernel
theorem dX12_undo_15 : decode cX12_undo 15 = .ok (.dup, 1) := by decide +kernel
theorem dX12_undo_16 : decode cX12_undo 16 = .ok (.getfield 171, 3) := by decide +kernel
theorem dX12_undo_19 : decode cX12_undo 19 = .ok (.iconst 1, 1) := by decide +kernel
theorem dX12_undo_20 : decode cX12_undo 20 = .ok (.isub, 1) := by decide +kernel
theorem dX12_undo_21 : decode cX12_undo 21 = .ok (.putfield 171, 3) := by decide +kernel
theorem dX12_undo_24 : decode cX12_undo 24 = .ok (.iconst 0, 1) := by decide +kernel
theorem dX12_undo_25 : decode cX12_undo 25 = .ok (.istore_n 1, 1) := by decide +kernel
theorem dX12_undo_26 : decode cX12_undo 26 = .ok (.iload_n 1, 1) := by decide +kernel
theorem dX12_undo_27 : decode cX12_undo 27 = .ok (.bipush 88, 2) := by decide +kernel
theorem dX12_undo_29 : decode cX12_undo 29 = .ok (.if_icmp .ge 29, 3) := by decide +kernel
theorem dX12_undo_32 : decode cX12_undo 32 = .ok (.aload_n 0, 1) := by decide +kernel
theorem dX12_undo_33 : decode cX12_undo 33 = .ok (.getfield 9, 3) := by decide +kernel
theorem dX12_undo_36 : decode cX12_undo 36 = .ok (.iload_n 1, 1) := by decide +kernel
theorem dX12_undo_37 : decode cX12_undo 37 = .ok (.aload_n 0, 1) := by decide +kernel
theorem dX12_undo_38 : decode cX12_undo 38 = .ok (.getfield 51, 3) := by decide +kernel
theorem dX12_undo_41 : decode cX12_undo 41 = .ok (.bipush 88, 2) := by decide +kernel
theorem dX12_undo_43 : decode cX12_undo 43 = .ok (.aload_n 0, 1) := by decide +kernel
theorem dX12_undo_44 : decode cX12_undo 44 = .ok (.getfield 171, 3) := by decide +kernel
theorem dX12_undo_47 : decode cX12_undo 47 = .ok (.imul, 1) := by decide +kernel
theorem dX12_undo_48 : decode cX12_undo 48 = .ok (.iload_n 1, 1) := by decide +kernel
theorem dX12_undo_49 : decode cX12_undo 49 = .ok (.iadd, 1) := by decide +kernel
theorem dX12_undo_50 : decode cX12_undo 50 = .ok (.iaload, 1) := by decide +kernel
theorem dX12_undo_51 : decode cX12_undo 51 = .ok (.iastore, 1) := by decide +kernel
theorem dX12_undo_52 : decode cX12_undo 52 = .ok (.iinc 1 1, 3) := by decide +kernel
theorem dX12_undo_55 : decode cX12_undo 55 = .ok (.goto (-29), 3) := by decide +kernel
theorem dX12_undo_58 : decode cX12_undo 58 = .ok (.aload_n 0, 1) := by decide +kernel
theorem dX12_undo_59 : decode cX12_undo 59 = .ok (.getfield 171, 3) := by decide +kernel
theorem dX12_undo_62 : decode cX12_undo 62 = .ok (.ireturn, 1) := by decide +kernel
theorem dX12_tellHumours_0 : decode cX12_tellHumours 0 = .ok (.iconst 0, 1) := by decide +kernel
theorem dX12_tellHumours_1 : decode cX12_tellHumours 1 = .ok (.istore_n 3, 1) := by decide +kernel
theorem dX12_tellHumours_2 : decode cX12_tellHumours 2 = .ok (.iload_n 3, 1) := by decide +kernel
theorem dX12_tellHumours_3 : decode cX12_tellHumours 3 = .ok (.iconst 4, 1) := by decide +kernel
theorem dX12_tellHumours_4 : decode cX12_tellHumours 4 = .ok (.if_icmp .ge 20, 3) := by decide +kernel
theorem dX12_tellHumours_7 : decode cX12_tellHumours 7 = .ok (.aload_n 0, 1) := by decide +kernel
theorem dX12_tellHumours_8 : decode cX12_tellHumours 8 = .ok (.aload_n 1, 1) := by decide +kernel
theorem dX12_tellHumours_9 : decode cX12_tellHumours 9 = .ok (.iload_n 2, 1) := by decide +kernel
theorem dX12_tellHumours_10 : decode cX12_tellHumours 10 = .ok (.iload_n 3, 1) := by decide +kernel
theorem dX12_tellHumours_11 : decode cX12_tellHumours 11 = .ok (.invokestatic 232, 3) := by decide +kernel
theorem dX12_tellHumours_14 : decode cX12_tellHumours 14 = .ok (.i2l, 1) := by decide +kernel
theorem dX12_tellHumours_15 : decode cX12_tellHumours 15 = .ok (.invokevirtual 329, 3) := by decide +kernel
theorem dX12_tellHumours_18 : decode cX12_tellHumours 18 = .ok (.iinc 3 1, 3) := by decide +kernel
theorem dX12_tellHumours_21 : decode cX12_tellHumours 21 = .ok (.goto (-19), 3) := by decide +kernel
theorem dX12_tellHumours_24 : decode cX12_tellHumours 24 = .ok (.return_, 1) := by decide +kernel
theorem dX12_later_0 : decode cX12_later 0 = .ok (.aload_n 0, 1) := by decide +kernel
theorem dX12_later_1 : decode cX12_later 1 = .ok (.iconst 0, 1) := by decide +kernel
theorem dX12_later_2 : decode cX12_later 2 = .ok (.putfield 109, 3) := by decide +kernel
theorem dX12_later_5 : decode cX12_later 5 = .ok (.aload_n 0, 1) := by decide +kernel
theorem dX12_later_6 : decode cX12_later 6 = .ok (.iload_n 1, 1) := by decide +kernel
theorem dX12_later_7 : decode cX12_later 7 = .ok (.invokevirtual 278, 3) := by decide +kernel
theorem dX12_later_10 : decode cX12_later 10 = .ok (.ifCond .eq 22, 3) := by decide +kernel
theorem dX12_later_13 : decode cX12_later 13 = .ok (.iload_n 2, 1) := by decide +kernel
theorem dX12_later_14 : decode cX12_later 14 = .ok (.iconst 0, 1) := by decide +kernel
theorem dX12_later_15 : decode cX12_later 15 = .ok (.iconst 3, 1) := by decide +kernel
theorem dX12_later_16 : decode cX12_later 16 = .ok (.invokestatic 119, 3) := by decide +kernel
theorem dX12_later_19 : decode cX12_later 19 = .ok (.ifCond .eq 13, 3) := by decide +kernel
theorem dX12_later_22 : decode cX12_later 22 = .ok (.iload_n 3, 1) := by decide +kernel
theorem dX12_later_23 : decode cX12_later 23 = .ok (.iconst 0, 1) := by decide +kernel
theorem dX12_later_24 : decode cX12_later 24 = .ok (.bipush 99, 2) := by decide +kernel
theorem dX12_later_26 : decode cX12_later 26 = .ok (.invokestatic 119, 3) := by decide +kernel
theorem dX12_later_29 : decode cX12_later 29 = .ok (.ifCond .ne 5, 3) := by decide +kernel
theorem dX12_later_32 : decode cX12_later 32 = .ok (.iconst (-1), 1) := by decide +kernel
theorem dX12_later_33 : decode cX12_later 33 = .ok (.ireturn, 1) := by decide +kernel
theorem dX12_later_34 : decode cX12_later 34 = .ok (.aload_n 0, 1) := by decide +kernel
theorem dX12_later_35 : decode cX12_later 35 = .ok (.getfield 9, 3) := by decide +kernel
theorem dX12_later_38 : decode cX12_later 38 = .ok (.aload_n 0, 1) := by decide +kernel
theorem dX12_later_39 : decode cX12_later 39 = .ok (.getfield 57, 3) := by decide +kernel
theorem dX12_later_42 : decode cX12_later 42 = .ok (.iconst 0, 1) := by decide +kernel
theorem dX12_later_43 : decode cX12_later 43 = .ok (.invokestatic 284, 3) := by decide +kernel
theorem dX12_later_46 : decode cX12_later 46 = .ok (.aload_n 0, 1) := by decide +kernel
theorem dX12_later_47 : decode cX12_later 47 = .ok (.aload_n 0, 1) := by decide +kernel
theorem dX12_later_48 : decode cX12_later 48 = .ok (.getfield 57, 3) := by decide +kernel
theorem dX12_later_51 : decode cX12_later 51 = .ok (.iload_n 3, 1) := by decide +kernel
theorem dX12_later_52 : decode cX12_later 52 = .ok (.invokevirtual 322, 3) := by decide +kernel
theorem dX12_later_55 : decode cX12_later 55 = .ok (.aload_n 0, 1) := by decide +kernel
theorem dX12_later_56 : decode cX12_later 56 = .ok (.iconst 0, 1) := by decide +kernel
theorem dX12_later_57 : decode cX12_later 57 = .ok (.putfield 113, 3) := by decide +kernel
theorem dX12_later_60 : decode cX12_later 60 = .ok (.aload_n 0, 1) := by decide +kernel
theorem dX12_later_61 : decode cX12_later 61 = .ok (.aload_n 0, 1) := by decide +kernel
theorem dX12_later_62 : decode cX12_later 62 = .ok (.getfield 57, 3) := by decide +kernel
theorem dX12_later_65 : decode cX12_later 65 = .ok (.iload_n 1, 1) := by decide +kernel
theorem dX12_later_66 : decode cX12_later 66 = .ok (.invokevirtual 342, 3) := by decide +kernel
theorem dX12_later_69 : decode cX12_later 69 = .ok (.aload_n 0, 1) := by decide +kernel
theorem dX12_later_70 : decode cX12_later 70 = .ok (.aload_n 0, 1) := by decide +kernel
theorem dX12_later_71 : decode cX12_later 71 = .ok (.aload_n 0, 1) := by decide +kernel
theorem dX12_later_72 : decode cX12_later 72 = .ok (.getfield 57, 3) := by decide +kernel
theorem dX12_later_75 : decode cX12_later 75 = .ok (.iload_n 1, 1) := by decide +kernel
theorem dX12_later_76 : decode cX12_later 76 = .ok (.invokevirtual 261, 3) := by decide +kernel
theorem dX12_later_79 : decode cX12_later 79 = .ok (.i2l, 1) := by decide +kernel
theorem dX12_later_80 : decode cX12_later 80 = .ok (.invokevirtual 329, 3) := by decide +kernel
theorem dX12_later_83 : decode cX12_later 83 = .ok (.aload_n 0, 1) := by decide +kernel
theorem dX12_later_84 : decode cX12_later 84 = .ok (.getfield 57, 3) := by decide +kernel
theorem dX12_later_87 : decode cX12_later 87 = .ok (.iload_n 1, 1) := by decide +kernel
theorem dX12_later_88 : decode cX12_later 88 = .ok (.iload_n 2, 1) := by decide +kernel
theorem dX12_later_89 : decode cX12_later 89 = .ok (.invokestatic 232, 3) := by decide +kernel
theorem dX12_later_92 : decode cX12_later 92 = .ok (.ireturn, 1) := by decide +kernel
theorem dX12_settles_0 : decode cX12_settles 0 = .ok (.aload_n 0, 1) := by decide +kernel
theorem dX12_settles_1 : decode cX12_settles 1 = .ok (.iconst 0, 1) := by decide +kernel
theorem dX12_settles_2 : decode cX12_settles 2 = .ok (.putfield 109, 3) := by decide +kernel
theorem dX12_settles_5 : decode cX12_settles 5 = .ok (.aload_n 0, 1) := by decide +kernel
theorem dX12_settles_6 : decode cX12_settles 6 = .ok (.iload_n 1, 1) := by decide +kernel
theorem dX12_settles_7 : decode cX12_settles 7 = .ok (.invokevirtual 278, 3) := by decide +kernel
theorem dX12_settles_10 : decode cX12_settles 10 = .ok (.ifCond .ne 5, 3) := by decide +kernel
theorem dX12_settles_13 : decode cX12_settles 13 = .ok (.iconst (-1), 1) := by decide +kernel
theorem dX12_settles_14 : decode cX12_settles 14 = .ok (.ireturn, 1) := by decide +kernel
theorem dX12_settles_15 : decode cX12_settles 15 = .ok (.aload_n 0, 1) := by decide +kernel
theorem dX12_settles_16 : decode cX12_settles 16 = .ok (.getfield 9, 3) := by decide +kernel
theorem dX12_settles_19 : decode cX12_settles 19 = .ok (.aload_n 0, 1) := by decide +kernel
theorem dX12_settles_20 : decode cX12_settles 20 = .ok (.getfield 57, 3) := by decide +kernel
theorem dX12_settles_23 : decode cX12_settles 23 = .ok (.iconst 0, 1) := by decide +kernel
theorem dX12_settles_24 : decode cX12_settles 24 = .ok (.invokestatic 284, 3) := by decide +kernel
theorem dX12_settles_27 : decode cX12_settles 27 = .ok (.iconst 0, 1) := by decide +kernel
theorem dX12_settles_28 : decode cX12_settles 28 = .ok (.istore_n 2, 1) := by decide +kernel
theorem dX12_settles_29 : decode cX12_settles 29 = .ok (.iload_n 2, 1) := by decide +kernel
theorem dX12_settles_30 : decode cX12_settles 30 = .ok (.bipush 99, 2) := by decide +kernel
theorem dX12_settles_32 : decode cX12_settles 32 = .ok (.if_icmp .gt 115, 3) := by decide +kernel
theorem dX12_settles_35 : decode cX12_settles 35 = .ok (.iconst 0, 1) := by decide +kernel
theorem dX12_settles_36 : decode cX12_settles 36 = .ok (.istore_n 3, 1) := by decide +kernel
theorem dX12_settles_37 : decode cX12_settles 37 = .ok (.iload_n 3, 1) := by decide +kernel
theorem dX12_settles_38 : decode cX12_settles 38 = .ok (.iconst 4, 1) := by decide +kernel
theorem dX12_settles_39 : decode cX12_settles 39 = .ok (.if_icmp .ge 24, 3) := by decide +kernel
theorem dX12_settles_42 : decode cX12_settles 42 = .ok (.aload_n 0, 1) := by decide +kernel
theorem dX12_settles_43 : decode cX12_settles 43 = .ok (.getfield 66, 3) := by decide +kernel
theorem dX12_settles_46 : decode cX12_settles 46 = .ok (.iload_n 3, 1) := by decide +kernel
theorem dX12_settles_47 : decode cX12_settles 47 = .ok (.aload_n 0, 1) := by decide +kernel
theorem dX12_settles_48 : decode cX12_settles 48 = .ok (.getfield 57, 3) := by decide +kernel
theorem dX12_settles_51 : decode cX12_settles 51 = .ok (.iload_n 1, 1) := by decide +kernel
theorem dX12_settles_52 : decode cX12_settles 52 = .ok (.iload_n 3, 1) := by decide +kernel
theorem dX12_settles_53 : decode cX12_settles 53 = .ok (.invokestatic 232, 3) := by decide +kernel
theorem dX12_settles_56 : decode cX12_settles 56 = .ok (.iastore, 1) := by decide +kernel
theorem dX12_settles_57 : decode cX12_settles 57 = .ok (.iinc 3 1, 3) := by decide +kernel
theorem dX12_settles_60 : decode cX12_settles 60 = .ok (.goto (-23), 3) := by decide +kernel
theorem dX12_settles_63 : decode cX12_settles 63 = .ok (.aload_n 0, 1) := by decide +kernel
theorem dX12_settles_64 : decode cX12_settles 64 = .ok (.aload_n 0, 1) := by decide +kernel
theorem dX12_settles_65 : decode cX12_settles 65 = .ok (.getfield 57, 3) := by decide +kernel
theorem dX12_settles_68 : decode cX12_settles 68 = .ok (.invokevirtual 319, 3) := by decide +kernel
theorem dX12_settles_71 : decode cX12_settles 71 = .ok (.iconst 1, 1) := by decide +kernel
theorem dX12_settles_72 : decode cX12_settles 72 = .ok (.istore_n 3, 1) := by decide +kernel
theorem dX12_settles_73 : decode cX12_settles 73 = .ok (.iconst 0, 1) := by decide +kernel
theorem dX12_settles_74 : decode cX12_settles 74 = .ok (.istore 4, 2) := by decide +kernel
theorem dX12_settles_76 : decode cX12_settles 76 = .ok (.iload 4, 2) := by decide +kernel
theorem dX12_settles_78 : decode cX12_settles 78 = .ok (.iconst 4, 1) := by decide +kernel
theorem dX12_settles_79 : decode cX12_settles 79 = .ok (.if_icmp .ge 39, 3) := by decide +kernel
theorem dX12_settles_82 : decode cX12_settles 82 = .ok (.iload_n 3, 1) := by decide +kernel
theorem dX12_settles_83 : decode cX12_settles 83 = .ok (.ifCond .eq 27, 3) := by decide +kernel
theorem dX12_settles_86 : decode cX12_settles 86 = .ok (.aload_n 0, 1) := by decide +kernel
theorem dX12_settles_87 : decode cX12_settles 87 = .ok (.getfield 66, 3) := by decide +kernel
theorem dX12_settles_90 : decode cX12_settles 90 = .ok (.iload 4, 2) := by decide +kernel
theorem dX12_settles_92 : decode cX12_settles 92 = .ok (.iaload, 1) := by decide +kernel
theorem dX12_settles_93 : decode cX12_settles 93 = .ok (.aload_n 0, 1) := by decide +kernel
theorem dX12_settles_94 : decode cX12_settles 94 = .ok (.getfield 57, 3) := by decide +kernel
theorem dX12_settles_97 : decode cX12_settles 97 = .ok (.iload_n 1, 1) := by decide +kernel
theorem dX12_settles_98 : decode cX12_settles 98 = .ok (.iload 4, 2) := by decide +kernel
theorem dX12_settles_100 : decode cX12_settles 100 = .ok (.invokestatic 232, 3) := by decide +kernel
theorem dX12_settles_103 : decode cX12_settles 103 = .ok (.if_icmp .ne 7, 3) := by decide +kernel
theorem dX12_settles_106 : decode cX12_settles 106 = .ok (.iconst 1, 1) := by decide +kernel
theorem dX12_settles_107 : decode cX12_settles 107 = .ok (.goto 4, 3) := by decide +kernel
theorem dX12_settles_110 : decode cX12_settles 110 = .ok (.iconst 0, 1) := by decide +kernel
theorem dX12_settles_111 : decode cX12_settles 111 = .ok (.istore_n 3, 1) := by decide +kernel
theorem dX12_settles_112 : decode cX12_settles 112 = .ok (.iinc 4 1, 3) := by decide +kernel
theorem dX12_settles_115 : decode cX12_settles 115 = .ok (.goto (-39), 3) := by decide +kernel
theorem dX12_settles_118 : decode cX12_settles 118 = .ok (.iload_n 3, 1) := by decide +kernel
theorem dX12_settles_119 : decode cX12_settles 119 = .ok (.ifCond .ne 6, 3) := by decide +kernel
theorem dX12_settles_122 : decode cX12_settles 122 = .ok (.goto 19, 3) := by decide +kernel
theorem dX12_settles_125 : decode cX12_settles 125 = .ok (.aload_n 0, 1) := by decide +kernel
theorem dX12_settles_126 : decode cX12_settles 126 = .ok (.iconst 0, 1) := by decide +kernel
theorem dX12_settles_127 : decode cX12_settles 127 = .ok (.putfield 113, 3) := by decide +kernel
theorem dX12_settles_130 : decode cX12_settles 130 = .ok (.aload_n 0, 1) := by decide +kernel
theorem dX12_settles_131 : decode cX12_settles 131 = .ok (.aload_n 0, 1) := by decide +kernel
theorem dX12_settles_132 : decode cX12_settles 132 = .ok (.getfield 57, 3) := by decide +kernel
theorem dX12_settles_135 : decode cX12_settles 135 = .ok (.iload_n 1, 1) := by decide +kernel
theorem dX12_settles_136 : decode cX12_settles 136 = .ok (.invokevirtual 342, 3) := by decide +kernel
theorem dX12_settles_139 : decode cX12_settles 139 = .ok (.iload_n 2, 1) := by decide +kernel
theorem dX12_settles_140 : decode cX12_settles 140 = .ok (.ireturn, 1) := by decide +kernel
theorem dX12_settles_141 : decode cX12_settles 141 = .ok (.iinc 2 1, 3) := by decide +kernel
theorem dX12_settles_144 : decode cX12_settles 144 = .ok (.goto (-115), 3) := by decide +kernel
theorem dX12_settles_147 : decode cX12_settles 147 = .ok (.bipush (-2), 2) := by decide +kernel
theorem dX12_settles_149 : decode cX12_settles 149 = .ok (.ireturn, 1) := by decide +kernel
theorem dX12_when_0 : decode cX12_when 0 = .ok (.aload_n 0, 1) := by decide +kernel
theorem dX12_when_1 : decode cX12_when 1 = .ok (.iconst 0, 1) := by decide +kernel
theorem dX12_when_2 : decode cX12_when 2 = .ok (.putfield 109, 3) := by decide +kernel
theorem dX12_when_5 : decode cX12_when 5 = .ok (.aload_n 0, 1) := by decide +kernel
theorem dX12_when_6 : decode cX12_when 6 = .ok (.iload_n 1, 1) := by decide +kernel
theorem dX12_when_7 : decode cX12_when 7 = .ok (.invokevirtual 278, 3) := by decide +kernel
theorem dX12_when_10 : decode cX12_when 10 = .ok (.ifCond .eq 11, 3) := by decide +kernel
theorem dX12_when_13 : decode cX12_when 13 = .ok (.aload_n 0, 1) := by decide +kernel
theorem dX12_when_14 : decode cX12_when 14 = .ok (.iload_n 2, 1) := by decide +kernel
theorem dX12_when_15 : decode cX12_when 15 = .ok (.invokevirtual 345, 3) := by decide +kernel
theorem dX12_when_18 : decode cX12_when 18 = .ok (.ifCond .ne 5, 3) := by decide +kernel
theorem dX12_when_21 : decode cX12_when 21 = .ok (.iconst (-1), 1) := by decide +kernel
theorem dX12_when_22 : decode cX12_when 22 = .ok (.ireturn, 1) := by decide +kernel
theorem dX12_when_23 : decode cX12_when 23 = .ok (.aload_n 0, 1) := by decide +kernel
theorem dX12_when_24 : decode cX12_when 24 = .ok (.getfield 9, 3) := by decide +kernel
theorem dX12_when_27 : decode cX12_when 27 = .ok (.aload_n 0, 1) := by decide +kernel
theorem dX12_when_28 : decode cX12_when 28 = .ok (.getfield 57, 3) := by decide +kernel
theorem dX12_when_31 : decode cX12_when 31 = .ok (.iconst 0, 1) := by decide +kernel
theorem dX12_when_32 : decode cX12_when 32 = .ok (.invokestatic 284, 3) := by decide +kernel
theorem dX12_when_35 : decode cX12_when 35 = .ok (.iconst 0, 1) := by decide +kernel
theorem dX12_when_36 : decode cX12_when 36 = .ok (.istore_n 3, 1) := by decide +kernel
theorem dX12_when_37 : decode cX12_when 37 = .ok (.iload_n 3, 1) := by decide +kernel
theorem dX12_when_38 : decode cX12_when 38 = .ok (.bipush 99, 2) := by decide +kernel
theorem dX12_when_40 : decode cX12_when 40 = .ok (.if_icmp .gt 54, 3) := by decide +kernel
theorem dX12_when_43 : decode cX12_when 43 = .ok (.aload_n 0, 1) := by decide +kernel
theorem dX12_when_44 : decode cX12_when 44 = .ok (.aload_n 0, 1) := by decide +kernel
theorem dX12_when_45 : decode cX12_when 45 = .ok (.getfield 57, 3) := by decide +kernel
theorem dX12_when_48 : decode cX12_when 48 = .ok (.iload_n 1, 1) := by decide +kernel
theorem dX12_when_49 : decode cX12_when 49 = .ok (.iload_n 2, 1) := by decide +kernel
theorem dX12_when_50 : decode cX12_when 50 = .ok (.invokevirtual 257, 3) := by decide +kernel
theorem dX12_when_53 : decode cX12_when 53 = .ok (.ifCond .eq 27, 3) := by decide +kernel
theorem dX12_when_56 : decode cX12_when 56 = .ok (.aload_n 0, 1) := by decide +kernel
theorem dX12_when_57 : decode cX12_when 57 = .ok (.iconst 0, 1) := by decide +kernel
theorem dX12_when_58 : decode cX12_when 58 = .ok (.putfield 113, 3) := by decide +kernel
theorem dX12_when_61 : decode cX12_when 61 = .ok (.aload_n 0, 1) := by decide +kernel
theorem dX12_when_62 : decode cX12_when 62 = .ok (.aload_n 0, 1) := by decide +kernel
theorem dX12_when_63 : decode cX12_when 63 = .ok (.aload_n 0, 1) := by decide +kernel
theorem dX12_when_64 : decode cX12_when 64 = .ok (.getfield 57, 3) := by decide +kernel
theorem dX12_when_67 : decode cX12_when 67 = .ok (.iload_n 1, 1) := by decide +kernel
theorem dX12_when_68 : decode cX12_when 68 = .ok (.invokevirtual 261, 3) := by decide +kernel
theorem dX12_when_71 : decode cX12_when 71 = .ok (.invokestatic 242, 3) := by decide +kernel
theorem dX12_when_74 : decode cX12_when 74 = .ok (.i2l, 1) := by decide +kernel
theorem dX12_when_75 : decode cX12_when 75 = .ok (.invokevirtual 329, 3) := by decide +kernel
theorem dX12_when_78 : decode cX12_when 78 = .ok (.iload_n 3, 1) := by decide +kernel
theorem dX12_when_79 : decode cX12_when 79 = .ok (.ireturn, 1) := by decide +kernel
theorem dX12_when_80 : decode cX12_when 80 = .ok (.aload_n 0, 1) := by decide +kernel
theorem dX12_when_81 : decode cX12_when 81 = .ok (.aload_n 0, 1) := by decide +kernel
theorem dX12_when_82 : decode cX12_when 82 = .ok (.getfield 57, 3) := by decide +kernel
theorem dX12_when_85 : decode cX12_when 85 = .ok (.invokevirtual 319, 3) := by decide +kernel
