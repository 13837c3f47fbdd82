theorem dX0_init_0 : decode cX0_init 0 = .ok (.aload_n 0, 1) := by decide +kernel
theorem dX0_init_1 : decode cX0_init 1 = .ok (.invokespecial 3, 3) := by decide +kernel
theorem dX0_init_4 : decode cX0_init 4 = .ok (.aload_n 0, 1) := by decide +kernel
theorem dX0_init_5 : decode cX0_init 5 = .ok (.bipush 8, 2) := by decide +kernel
theorem dX0_init_7 : decode cX0_init 7 = .ok (.newarray .int, 2) := by decide +kernel
theorem dX0_init_9 : decode cX0_init 9 = .ok (.putfield 9, 3) := by decide +kernel
theorem dX0_init_12 : decode cX0_init 12 = .ok (.aload_n 0, 1) := by decide +kernel
theorem dX0_init_13 : decode cX0_init 13 = .ok (.bipush 32, 2) := by decide +kernel
theorem dX0_init_15 : decode cX0_init 15 = .ok (.newarray .int, 2) := by decide +kernel
theorem dX0_init_17 : decode cX0_init 17 = .ok (.putfield 15, 3) := by decide +kernel
theorem dX0_init_20 : decode cX0_init 20 = .ok (.aload_n 0, 1) := by decide +kernel
theorem dX0_init_21 : decode cX0_init 21 = .ok (.bipush 6, 2) := by decide +kernel
theorem dX0_init_23 : decode cX0_init 23 = .ok (.newarray .int, 2) := by decide +kernel
theorem dX0_init_25 : decode cX0_init 25 = .ok (.putfield 18, 3) := by decide +kernel
theorem dX0_init_28 : decode cX0_init 28 = .ok (.aload_n 0, 1) := by decide +kernel
theorem dX0_init_29 : decode cX0_init 29 = .ok (.bipush 6, 2) := by decide +kernel
theorem dX0_init_31 : decode cX0_init 31 = .ok (.newarray .int, 2) := by decide +kernel
theorem dX0_init_33 : decode cX0_init 33 = .ok (.putfield 21, 3) := by decide +kernel
theorem dX0_init_36 : decode cX0_init 36 = .ok (.aload_n 0, 1) := by decide +kernel
theorem dX0_init_37 : decode cX0_init 37 = .ok (.bipush 18, 2) := by decide +kernel
theorem dX0_init_39 : decode cX0_init 39 = .ok (.newarray .int, 2) := by decide +kernel
theorem dX0_init_41 : decode cX0_init 41 = .ok (.putfield 24, 3) := by decide +kernel
theorem dX0_init_44 : decode cX0_init 44 = .ok (.aload_n 0, 1) := by decide +kernel
theorem dX0_init_45 : decode cX0_init 45 = .ok (.bipush 18, 2) := by decide +kernel
theorem dX0_init_47 : decode cX0_init 47 = .ok (.newarray .int, 2) := by decide +kernel
theorem dX0_init_49 : decode cX0_init 49 = .ok (.putfield 27, 3) := by decide +kernel
theorem dX0_init_52 : decode cX0_init 52 = .ok (.aload_n 0, 1) := by decide +kernel
theorem dX0_init_53 : decode cX0_init 53 = .ok (.bipush 18, 2) := by decide +kernel
theorem dX0_init_55 : decode cX0_init 55 = .ok (.newarray .int, 2) := by decide +kernel
theorem dX0_init_57 : decode cX0_init 57 = .ok (.putfield 30, 3) := by decide +kernel
theorem dX0_init_60 : decode cX0_init 60 = .ok (.aload_n 0, 1) := by decide +kernel
theorem dX0_init_61 : decode cX0_init 61 = .ok (.new 33, 3) := by decide +kernel
theorem dX0_init_64 : decode cX0_init 64 = .ok (.dup, 1) := by decide +kernel
theorem dX0_init_65 : decode cX0_init 65 = .ok (.invokespecial 35, 3) := by decide +kernel
theorem dX0_init_68 : decode cX0_init 68 = .ok (.putfield 36, 3) := by decide +kernel
theorem dX0_init_71 : decode cX0_init 71 = .ok (.aload_n 0, 1) := by decide +kernel
theorem dX0_init_72 : decode cX0_init 72 = .ok (.new 33, 3) := by decide +kernel
theorem dX0_init_75 : decode cX0_init 75 = .ok (.dup, 1) := by decide +kernel
theorem dX0_init_76 : decode cX0_init 76 = .ok (.invokespecial 35, 3) := by decide +kernel
theorem dX0_init_79 : decode cX0_init 79 = .ok (.putfield 40, 3) := by decide +kernel
theorem dX0_init_82 : decode cX0_init 82 = .ok (.return_, 1) := by decide +kernel
theorem dX0_groundSize_0 : decode cX0_groundSize 0 = .ok (.aload_n 0, 1) := by decide +kernel
theorem dX0_groundSize_1 : decode cX0_groundSize 1 = .ok (.getfield 43, 3) := by decide +kernel
theorem dX0_groundSize_4 : decode cX0_groundSize 4 = .ok (.ireturn, 1) := by decide +kernel
theorem dX0_personSize_0 : decode cX0_personSize 0 = .ok (.aload_n 0, 1) := by decide +kernel
theorem dX0_personSize_1 : decode cX0_personSize 1 = .ok (.getfield 47, 3) := by decide +kernel
theorem dX0_personSize_4 : decode cX0_personSize 4 = .ok (.ireturn, 1) := by decide +kernel
theorem dX0_wantSize_0 : decode cX0_wantSize 0 = .ok (.aload_n 0, 1) := by decide +kernel
theorem dX0_wantSize_1 : decode cX0_wantSize 1 = .ok (.getfield 50, 3) := by decide +kernel
theorem dX0_wantSize_4 : decode cX0_wantSize 4 = .ok (.ireturn, 1) := by decide +kernel
theorem dX0_hasGround_0 : decode cX0_hasGround 0 = .ok (.iload_n 1, 1) := by decide +kernel
theorem dX0_hasGround_1 : decode cX0_hasGround 1 = .ok (.ifCond .lt 15, 3) := by decide +kernel
theorem dX0_hasGround_4 : decode cX0_hasGround 4 = .ok (.iload_n 1, 1) := by decide +kernel
theorem dX0_hasGround_5 : decode cX0_hasGround 5 = .ok (.aload_n 0, 1) := by decide +kernel
theorem dX0_hasGround_6 : decode cX0_hasGround 6 = .ok (.getfield 43, 3) := by decide +kernel
theorem dX0_hasGround_9 : decode cX0_hasGround 9 = .ok (.if_icmp .ge 7, 3) := by decide +kernel
theorem dX0_hasGround_12 : decode cX0_hasGround 12 = .ok (.iconst 1, 1) := by decide +kernel
theorem dX0_hasGround_13 : decode cX0_hasGround 13 = .ok (.goto 4, 3) := by decide +kernel
theorem dX0_hasGround_16 : decode cX0_hasGround 16 = .ok (.iconst 0, 1) := by decide +kernel
theorem dX0_hasGround_17 : decode cX0_hasGround 17 = .ok (.ireturn, 1) := by decide +kernel
theorem dX0_hasPerson_0 : decode cX0_hasPerson 0 = .ok (.iload_n 1, 1) := by decide +kernel
theorem dX0_hasPerson_1 : decode cX0_hasPerson 1 = .ok (.ifCond .lt 15, 3) := by decide +kernel
theorem dX0_hasPerson_4 : decode cX0_hasPerson 4 = .ok (.iload_n 1, 1) := by decide +kernel
theorem dX0_hasPerson_5 : decode cX0_hasPerson 5 = .ok (.aload_n 0, 1) := by decide +kernel
theorem dX0_hasPerson_6 : decode cX0_hasPerson 6 = .ok (.getfield 47, 3) := by decide +kernel
theorem dX0_hasPerson_9 : decode cX0_hasPerson 9 = .ok (.if_icmp .ge 7, 3) := by decide +kernel
theorem dX0_hasPerson_12 : decode cX0_hasPerson 12 = .ok (.iconst 1, 1) := by decide +kernel
theorem dX0_hasPerson_13 : decode cX0_hasPerson 13 = .ok (.goto 4, 3) := by decide +kernel
theorem dX0_hasPerson_16 : decode cX0_hasPerson 16 = .ok (.iconst 0, 1) := by decide +kernel
theorem dX0_hasPerson_17 : decode cX0_hasPerson 17 = .ok (.ireturn, 1) := by decide +kernel
theorem dX0_hasWant_0 : decode cX0_hasWant 0 = .ok (.iload_n 1, 1) := by decide +kernel
theorem dX0_hasWant_1 : decode cX0_hasWant 1 = .ok (.ifCond .lt 15, 3) := by decide +kernel
theorem dX0_hasWant_4 : decode cX0_hasWant 4 = .ok (.iload_n 1, 1) := by decide +kernel
theorem dX0_hasWant_5 : decode cX0_hasWant 5 = .ok (.aload_n 0, 1) := by decide +kernel
theorem dX0_hasWant_6 : decode cX0_hasWant 6 = .ok (.getfield 50, 3) := by decide +kernel
theorem dX0_hasWant_9 : decode cX0_hasWant 9 = .ok (.if_icmp .ge 7, 3) := by decide +kernel
theorem dX0_hasWant_12 : decode cX0_hasWant 12 = .ok (.iconst 1, 1) := by decide +kernel
theorem dX0_hasWant_13 : decode cX0_hasWant 13 = .ok (.goto 4, 3) := by decide +kernel
theorem dX0_hasWant_16 : decode cX0_hasWant 16 = .ok (.iconst 0, 1) := by decide +kernel
theorem dX0_hasWant_17 : decode cX0_hasWant 17 = .ok (.ireturn, 1) := by decide +kernel
theorem dX0_allWants_0 : decode cX0_allWants 0 = .ok (.iconst 1, 1) := by decide +kernel
theorem dX0_allWants_1 : decode cX0_allWants 1 = .ok (.aload_n 0, 1) := by decide +kernel
theorem dX0_allWants_2 : decode cX0_allWants 2 = .ok (.getfield 50, 3) := by decide +kernel
theorem dX0_allWants_5 : decode cX0_allWants 5 = .ok (.ishl, 1) := by decide +kernel
theorem dX0_allWants_6 : decode cX0_allWants 6 = .ok (.iconst 1, 1) := by decide +kernel
theorem dX0_allWants_7 : decode cX0_allWants 7 = .ok (.isub, 1) := by decide +kernel
theorem dX0_allWants_8 : decode cX0_allWants 8 = .ok (.ireturn, 1) := by decide +kernel
theorem dX0_presentRule_0 : decode cX0_presentRule 0 = .ok (.aload_n 0, 1) := by decide +kernel
theorem dX0_presentRule_1 : decode cX0_presentRule 1 = .ok (.getfield 36, 3) := by decide +kernel
theorem dX0_presentRule_4 : decode cX0_presentRule 4 = .ok (.areturn, 1) := by decide +kernel
theorem dX0_otherRule_0 : decode cX0_otherRule 0 = .ok (.aload_n 0, 1) := by decide +kernel
theorem dX0_otherRule_1 : decode cX0_otherRule 1 = .ok (.getfield 40, 3) := by decide +kernel
theorem dX0_otherRule_4 : decode cX0_otherRule 4 = .ok (.areturn, 1) := by decide +kernel
theorem dX0_takeOtherRule_0 : decode cX0_takeOtherRule 0 = .ok (.aload_n 0, 1) := by decide +kernel
theorem dX0_takeOtherRule_1 : decode cX0_takeOtherRule 1 = .ok (.getfield 36, 3) := by decide +kernel
theorem dX0_takeOtherRule_4 : decode cX0_takeOtherRule 4 = .ok (.astore_n 1, 1) := by decide +kernel
theorem dX0_takeOtherRule_5 : decode cX0_takeOtherRule 5 = .ok (.aload_n 0, 1) := by decide +kernel
theorem dX0_takeOtherRule_6 : decode cX0_takeOtherRule 6 = .ok (.aload_n 0, 1) := by decide +kernel
theorem dX0_takeOtherRule_7 : decode cX0_takeOtherRule 7 = .ok (.getfield 40, 3) := by decide +kernel
theorem dX0_takeOtherRule_10 : decode cX0_takeOtherRule 10 = .ok (.putfield 36, 3) := by decide +kernel
theorem dX0_takeOtherRule_13 : decode cX0_takeOtherRule 13 = .ok (.aload_n 0, 1) := by decide +kernel
theorem dX0_takeOtherRule_14 : decode cX0_takeOtherRule 14 = .ok (.aload_n 1, 1) := by decide +kernel
theorem dX0_takeOtherRule_15 : decode cX0_takeOtherRule 15 = .ok (.putfield 40, 3) := by decide +kernel
theorem dX0_takeOtherRule_18 : decode cX0_takeOtherRule 18 = .ok (.return_, 1) := by decide +kernel
theorem dX0_addGround_0 : decode cX0_addGround 0 = .ok (.aload_n 0, 1) := by decide +kernel
theorem dX0_addGround_1 : decode cX0_addGround 1 = .ok (.getfield 43, 3) := by decide +kernel
theorem dX0_addGround_4 : decode cX0_addGround 4 = .ok (.bipush 8, 2) := by decide +kernel
theorem dX0_addGround_6 : decode cX0_addGround 6 = .ok (.if_icmp .lt 4, 3) := by decide +kernel
theorem dX0_addGround_9 : decode cX0_addGround 9 = .ok (.return_, 1) := by decide +kernel
theorem dX0_addGround_10 : decode cX0_addGround 10 = .ok (.aload_n 0, 1) := by decide +kernel
theorem dX0_addGround_11 : decode cX0_addGround 11 = .ok (.getfield 9, 3) := by decide +kernel
theorem dX0_addGround_14 : decode cX0_addGround 14 = .ok (.aload_n 0, 1) := by decide +kernel
theorem dX0_addGround_15 : decode cX0_addGround 15 = .ok (.getfield 43, 3) := by decide +kernel
theorem dX0_addGround_18 : decode cX0_addGround 18 = .ok (.aload_n 1, 1) := by decide +kernel
theorem dX0_addGround_19 : decode cX0_addGround 19 = .ok (.iload_n 2, 1) := by decide +kernel
theorem dX0_addGround_20 : decode cX0_addGround 20 = .ok (.invokevirtual 53, 3) := by decide +kernel
theorem dX0_addGround_23 : decode cX0_addGround 23 = .ok (.iastore, 1) := by decide +kernel
theorem dX0_addGround_24 : decode cX0_addGround 24 = .ok (.iconst 0, 1) := by decide +kernel
theorem dX0_addGround_25 : decode cX0_addGround 25 = .ok (.istore_n 3, 1) := by decide +kernel
theorem dX0_addGround_26 : decode cX0_addGround 26 = .ok (.iload_n 3, 1) := by decide +kernel
theorem dX0_addGround_27 : decode cX0_addGround 27 = .ok (.iconst 4, 1) := by decide +kernel
theorem dX0_addGround_28 : decode cX0_addGround 28 = .ok (.if_icmp .ge 49, 3) := by decide +kernel
theorem dX0_addGround_31 : decode cX0_addGround 31 = .ok (.aload_n 1, 1) := by decide +kernel
theorem dX0_addGround_32 : decode cX0_addGround 32 = .ok (.iload_n 2, 1) := by decide +kernel
theorem dX0_addGround_33 : decode cX0_addGround 33 = .ok (.iconst 2, 1) := by decide +kernel
theorem dX0_addGround_34 : decode cX0_addGround 34 = .ok (.iadd, 1) := by decide +kernel
theorem dX0_addGround_35 : decode cX0_addGround 35 = .ok (.iload_n 3, 1) := by decide +kernel
theorem dX0_addGround_36 : decode cX0_addGround 36 = .ok (.iadd, 1) := by decide +kernel
theorem dX0_addGround_37 : decode cX0_addGround 37 = .ok (.invokevirtual 59, 3) := by decide +kernel
theorem dX0_addGround_40 : decode cX0_addGround 40 = .ok (.istore 4, 2) := by decide +kernel
theorem dX0_addGround_42 : decode cX0_addGround 42 = .ok (.aload_n 0, 1) := by decide +kernel
theorem dX0_addGround_43 : decode cX0_addGround 43 = .ok (.getfield 15, 3) := by decide +kernel
theorem dX0_addGround_46 : decode cX0_addGround 46 = .ok (.aload_n 0, 1) := by decide +kernel
theorem dX0_addGround_47 : decode cX0_addGround 47 = .ok (.getfield 43, 3) := by decide +kernel
theorem dX0_addGround_50 : decode cX0_addGround 50 = .ok (.iconst 4, 1) := by decide +kernel
theorem dX0_addGround_51 : decode cX0_addGround 51 = .ok (.imul, 1) := by decide +kernel
theorem dX0_addGround_52 : decode cX0_addGround 52 = .ok (.iload_n 3, 1) := by decide +kernel
theorem dX0_addGround_53 : decode cX0_addGround 53 = .ok (.iadd, 1) := by decide +kernel
theorem dX0_addGround_54 : decode cX0_addGround 54 = .ok (.iload 4, 2) := by decide +kernel
theorem dX0_addGround_56 : decode cX0_addGround 56 = .ok (.bipush 45, 2) := by decide +kernel
theorem dX0_addGround_58 : decode cX0_addGround 58 = .ok (.if_icmp .ne 7, 3) := by decide +kernel
theorem dX0_addGround_61 : decode cX0_addGround 61 = .ok (.iconst (-1), 1) := by decide +kernel
theorem dX0_addGround_62 : decode cX0_addGround 62 = .ok (.goto 8, 3) := by decide +kernel
theorem dX0_addGround_65 : decode cX0_addGround 65 = .ok (.iload 4, 2) := by decide +kernel
theorem dX0_addGround_67 : decode cX0_addGround 67 = .ok (.bipush 48, 2) := by decide +kernel
theorem dX0_addGround_69 : decode cX0_addGround 69 = .ok (.isub, 1) := by decide +kernel
theorem dX0_addGround_70 : decode cX0_addGround 70 = .ok (.iastore, 1) := by decide +kernel
theorem dX0_addGround_71 : decode cX0_addGround 71 = .ok (.iinc 3 1, 3) := by decide +kernel
theorem dX0_addGround_74 : decode cX0_addGround 74 = .ok (.goto (-48), 3) := by decide +kernel
theorem dX0_addGround_77 : decode cX0_addGround 77 = .ok (.aload_n 0, 1) := by decide +kernel
theorem dX0_addGround_78 : decode cX0_addGround 78 = .ok (.dup, 1) := by decide +kernel
theorem dX0_addGround_79 : decode cX0_addGround 79 = .ok (.getfield 43, 3) := by decide +kernel
theorem dX0_addGround_82 : decode cX0_addGround 82 = .ok (.iconst 1, 1) := by decide +kernel
theorem dX0_addGround_83 : decode cX0_addGround 83 = .ok (.iadd, 1) := by decide +kernel
theorem dX0_addGround_84 : decode cX0_addGround 84 = .ok (.putfield 43, 3) := by decide +kernel
theorem dX0_addGround_87 : decode cX0_addGround 87 = .ok (.return_, 1) := by decide +kernel
theorem dX0_addPerson_0 : decode cX0_addPerson 0 = .ok (.aload_n 0, 1) := by decide +kernel
theorem dX0_addPerson_1 : decode cX0_addPerson 1 = .ok (.getfield 47, 3) := by decide +kernel
theorem dX0_addPerson_4 : decode cX0_addPerson 4 = .ok (.bipush 6, 2) := by decide +kernel
theorem dX0_addPerson_6 : decode cX0_addPerson 6 = .ok (.if_icmp .ge 23, 3) := by decide +kernel
theorem dX0_addPerson_9 : decode cX0_addPerson 9 = .ok (.aload_n 0, 1) := by decide +kernel
theorem dX0_addPerson_10 : decode cX0_addPerson 10 = .ok (.getfield 18, 3) := by decide +kernel
theorem dX0_addPerson_13 : decode cX0_addPerson 13 = .ok (.aload_n 0, 1) := by decide +kernel
theorem dX0_addPerson_14 : decode cX0_addPerson 14 = .ok (.getfield 47, 3) := by decide +kernel
theorem dX0_addPerson_17 : decode cX0_addPerson 17 = .ok (.iload_n 1, 1) := by decide +kernel
theorem dX0_addPerson_18 : decode cX0_addPerson 18 = .ok (.iastore, 1) := by decide +kernel
theorem dX0_addPerson_19 : decode cX0_addPerson 19 = .ok (.aload_n 0, 1) := by decide +kernel
theorem dX0_addPerson_20 : decode cX0_addPerson 20 = .ok (.dup, 1) := by decide +kernel
theorem dX0_addPerson_21 : decode cX0_addPerson 21 = .ok (.getfield 47, 3) := by decide +kernel
theorem dX0_addPerson_24 : decode cX0_addPerson 24 = .ok (.iconst 1, 1) := by decide +kernel
theorem dX0_addPerson_25 : decode cX0_addPerson 25 = .ok (.iadd, 1) := by decide +kernel
theorem dX0_addPerson_26 : decode cX0_addPerson 26 = .ok (.putfield 47, 3) := by decide +kernel
theorem dX0_addPerson_29 : decode cX0_addPerson 29 = .ok (.return_, 1) := by decide +kernel
theorem dX0_addWants_0 : decode cX0_addWants 0 = .ok (.iconst 0, 1) := by decide +kernel
theorem dX0_addWants_1 : decode cX0_addWants 1 = .ok (.istore_n 2, 1) := by decide +kernel
theorem dX0_addWants_2 : decode cX0_addWants 2 = .ok (.iload_n 2, 1) := by decide +kernel
theorem dX0_addWants_3 : decode cX0_addWants 3 = .ok (.aload_n 1, 1) := by decide +kernel
theorem dX0_addWants_4 : decode cX0_addWants 4 = .ok (.invokevirtual 62, 3) := by decide +kernel
theorem dX0_addWants_7 : decode cX0_addWants 7 = .ok (.if_icmp .ge 32, 3) := by decide +kernel
theorem dX0_addWants_10 : decode cX0_addWants 10 = .ok (.aload_n 0, 1) := by decide +kernel
theorem dX0_addWants_11 : decode cX0_addWants 11 = .ok (.getfield 50, 3) := by decide +kernel
theorem dX0_addWants_14 : decode cX0_addWants 14 = .ok (.bipush 6, 2) := by decide +kernel
theorem dX0_addWants_16 : decode cX0_addWants 16 = .ok (.if_icmp .ge 23, 3) := by decide +kernel
theorem dX0_addWants_19 : decode cX0_addWants 19 = .ok (.aload_n 0, 1) := by decide +kernel
theorem dX0_addWants_20 : decode cX0_addWants 20 = .ok (.aload_n 1, 1) := by decide +kernel
theorem dX0_addWants_21 : decode cX0_addWants 21 = .ok (.iload_n 2, 1) := by decide +kernel
theorem dX0_addWants_22 : decode cX0_addWants 22 = .ok (.invokevirtual 66, 3) := by decide +kernel
theorem dX0_addWants_25 : decode cX0_addWants 25 = .ok (.istore_n 2, 1) := by decide +kernel
theorem dX0_addWants_26 : decode cX0_addWants 26 = .ok (.aload_n 0, 1) := by decide +kernel
theorem dX0_addWants_27 : decode cX0_addWants 27 = .ok (.dup, 1) := by decide +kernel
theorem dX0_addWants_28 : decode cX0_addWants 28 = .ok (.getfield 50, 3) := by decide +kernel
theorem dX0_addWants_31 : decode cX0_addWants 31 = .ok (.iconst 1, 1) := by decide +kernel
theorem dX0_addWants_32 : decode cX0_addWants 32 = .ok (.iadd, 1) := by decide +kernel
theorem dX0_addWants_33 : decode cX0_addWants 33 = .ok (.putfield 50, 3) := by decide +kernel
theorem dX0_addWants_36 : decode cX0_addWants 36 = .ok (.goto (-34), 3) := by decide +kernel
theorem dX0_addWants_39 : decode cX0_addWants 39 = .ok (.return_, 1) := by decide +kernel
theorem dX0_addTerms_0 : decode cX0_addTerms 0 = .ok (.iload_n 2, 1) := by decide +kernel
theorem dX0_addTerms_1 : decode cX0_addTerms 1 = .ok (.istore_n 3, 1) := by decide +kernel
theorem dX0_addTerms_2 : decode cX0_addTerms 2 = .ok (.iconst 0, 1) := by decide +kernel
theorem dX0_addTerms_3 : decode cX0_addTerms 3 = .ok (.istore 4, 2) := by decide +kernel
theorem dX0_addTerms_5 : decode cX0_addTerms 5 = .ok (.iload 4, 2) := by decide +kernel
theorem dX0_addTerms_7 : decode cX0_addTerms 7 = .ok (.iconst 3, 1) := by decide +kernel
theorem dX0_addTerms_8 : decode cX0_addTerms 8 = .ok (.if_icmp .ge 81, 3) := by decide +kernel
theorem dX0_addTerms_11 : decode cX0_addTerms 11 = .ok (.aload_n 1, 1) := by decide +kernel
theorem dX0_addTerms_12 : decode cX0_addTerms 12 = .ok (.iload_n 3, 1) := by decide +kernel
theorem dX0_addTerms_13 : decode cX0_addTerms 13 = .ok (.invokevirtual 59, 3) := by decide +kernel
theorem dX0_addTerms_16 : decode cX0_addTerms 16 = .ok (.bipush 97, 2) := by decide +kernel
theorem dX0_addTerms_18 : decode cX0_addTerms 18 = .ok (.bipush 100, 2) := by decide +kernel
theorem dX0_addTerms_20 : decode cX0_addTerms 20 = .ok (.invokestatic 70, 3) := by decide +kernel
theorem dX0_addTerms_23 : decode cX0_addTerms 23 = .ok (.ifCond .eq 66, 3) := by decide +kernel
theorem dX0_addTerms_26 : decode cX0_addTerms 26 = .ok (.aload_n 0, 1) := by decide +kernel
theorem dX0_addTerms_27 : decode cX0_addTerms 27 = .ok (.getfield 50, 3) := by decide +kernel
theorem dX0_addTerms_30 : decode cX0_addTerms 30 = .ok (.iconst 3, 1) := by decide +kernel
theorem dX0_addTerms_31 : decode cX0_addTerms 31 = .ok (.imul, 1) := by decide +kernel
theorem dX0_addTerms_32 : decode cX0_addTerms 32 = .ok (.iload 4, 2) := by decide +kernel
theorem dX0_addTerms_34 : decode cX0_addTerms 34 = .ok (.iadd, 1) := by decide +kernel
theorem dX0_addTerms_35 : decode cX0_addTerms 35 = .ok (.istore 5, 2) := by decide +kernel
theorem dX0_addTerms_37 : decode cX0_addTerms 37 = .ok (.aload_n 0, 1) := by decide +kernel
theorem dX0_addTerms_38 : decode cX0_addTerms 38 = .ok (.getfield 24, 3) := by decide +kernel
theorem dX0_addTerms_41 : decode cX0_addTerms 41 = .ok (.iload 5, 2) := by decide +kernel
theorem dX0_addTerms_43 : decode cX0_addTerms 43 = .ok (.aload_n 1, 1) := by decide +kernel
theorem dX0_addTerms_44 : decode cX0_addTerms 44 = .ok (.iload_n 3, 1) := by decide +kernel
theorem dX0_addTerms_45 : decode cX0_addTerms 45 = .ok (.invokevirtual 59, 3) := by decide +kernel
theorem dX0_addTerms_48 : decode cX0_addTerms 48 = .ok (.bipush 97, 2) := by decide +kernel
theorem dX0_addTerms_50 : decode cX0_addTerms 50 = .ok (.isub, 1) := by decide +kernel
theorem dX0_addTerms_51 : decode cX0_addTerms 51 = .ok (.iastore, 1) := by decide +kernel
theorem dX0_addTerms_52 : decode cX0_addTerms 52 = .ok (.aload_n 0, 1) := by decide +kernel
theorem dX0_addTerms_53 : decode cX0_addTerms 53 = .ok (.getfield 27, 3) := by decide +kernel
theorem dX0_addTerms_56 : decode cX0_addTerms 56 = .ok (.iload 5, 2) := by decide +kernel
theorem dX0_addTerms_58 : decode cX0_addTerms 58 = .ok (.aload_n 1, 1) := by decide +kernel
theorem dX0_addTerms_59 : decode cX0_addTerms 59 = .ok (.iload_n 3, 1) := by decide +kernel
theorem dX0_addTerms_60 : decode cX0_addTerms 60 = .ok (.iconst 1, 1) := by decide +kernel
theorem dX0_addTerms_61 : decode cX0_addTerms 61 = .ok (.iadd, 1) := by decide +kernel
theorem dX0_addTerms_62 : decode cX0_addTerms 62 = .ok (.invokevirtual 59, 3) := by decide +kernel
theorem dX0_addTerms_65 : decode cX0_addTerms 65 = .ok (.iastore, 1) := by decide +kernel
theorem dX0_addTerms_66 : decode cX0_addTerms 66 = .ok (.aload_n 0, 1) := by decide +kernel
theorem dX0_addTerms_67 : decode cX0_addTerms 67 = .ok (.getfield 30, 3) := by decide +kernel
theorem dX0_addTerms_70 : decode cX0_addTerms 70 = .ok (.iload 5, 2) := by decide +kernel
theorem dX0_addTerms_72 : decode cX0_addTerms 72 = .ok (.aload_n 1, 1) := by decide +kernel
theorem dX0_addTerms_73 : decode cX0_addTerms 73 = .ok (.iload_n 3, 1) := by decide +kernel
theorem dX0_addTerms_74 : decode cX0_addTerms 74 = .ok (.iconst 2, 1) := by decide +kernel
theorem dX0_addTerms_75 : decode cX0_addTerms 75 = .ok (.iadd, 1) := by decide +kernel
theorem dX0_addTerms_76 : decode cX0_addTerms 76 = .ok (.invokevirtual 53, 3) := by decide +kernel
theorem dX0_addTerms_79 : decode cX0_addTerms 79 = .ok (.iastore, 1) := by decide +kernel
theorem dX0_addTerms_80 : decode cX0_addTerms 80 = .ok (.iinc 3 3, 3) := by decide +kernel
theorem dX0_addTerms_83 : decode cX0_addTerms 83 = .ok (.iinc 4 1, 3) := by decide +kernel
theorem dX0_addTerms_86 : decode cX0_addTerms 86 = .ok (.goto (-81), 3) := by decide +kernel
theorem dX0_addTerms_89 : decode cX0_addTerms 89 = .ok (.aload_n 0, 1) := by decide +kernel
theorem dX0_addTerms_90 : decode cX0_addTerms 90 = .ok (.getfield 21, 3) := by decide +kernel
theorem dX0_addTerms_93 : decode cX0_addTerms 93 = .ok (.aload_n 0, 1) := by decide +kernel
theorem dX0_addTerms_94 : decode cX0_addTerms 94 = .ok (.getfield 50, 3) := by decide +kernel
theorem dX0_addTerms_97 : decode cX0_addTerms 97 = .ok (.iload 4, 2) := by decide +kernel
theorem dX0_addTerms_99 : decode cX0_addTerms 99 = .ok (.iastore, 1) := by decide +kernel
theorem dX0_addTerms_100 : decode cX0_addTerms 100 = .ok (.iload_n 3, 1) := by decide +kernel
theorem dX0_addTerms_101 : decode cX0_addTerms 101 = .ok (.iconst 1, 1) := by decide +kernel
theorem dX0_addTerms_102 : decode cX0_addTerms 102 = .ok (.iadd, 1) := by decide +kernel
theorem dX0_addTerms_103 : decode cX0_addTerms 103 = .ok (.ireturn, 1) := by decide +kernel
theorem dX0_gradeOf_0 : decode cX0_gradeOf 0 = .ok (.aload_n 0, 1) := by decide +kernel
theorem dX0_gradeOf_1 : decode cX0_gradeOf 1 = .ok (.iload_n 1, 1) := by decide +kernel
theorem dX0_gradeOf_2 : decode cX0_gradeOf 2 = .ok (.invokevirtual 74, 3) := by decide +kernel
theorem dX0_gradeOf_5 : decode cX0_gradeOf 5 = .ok (.ifCond .eq 12, 3) := by decide +kernel
theorem dX0_gradeOf_8 : decode cX0_gradeOf 8 = .ok (.aload_n 0, 1) := by decide +kernel
theorem dX0_gradeOf_9 : decode cX0_gradeOf 9 = .ok (.getfield 9, 3) := by decide +kernel
theorem dX0_gradeOf_12 : decode cX0_gradeOf 12 = .ok (.iload_n 1, 1) := by decide +kernel
theorem dX0_gradeOf_13 : decode cX0_gradeOf 13 = .ok (.iaload, 1) := by decide +kernel
theorem dX0_gradeOf_14 : decode cX0_gradeOf 14 = .ok (.goto 4, 3) := by decide +kernel
theorem dX0_gradeOf_17 : decode cX0_gradeOf 17 = .ok (.iconst 0, 1) := by decide +kernel
theorem dX0_gradeOf_18 : decode cX0_gradeOf 18 = .ok (.ireturn, 1) := by decide +kernel
theorem dX0_pullOf_0 : decode cX0_pullOf 0 = .ok (.aload_n 0, 1) := by decide +kernel
theorem dX0_pullOf_1 : decode cX0_pullOf 1 = .ok (.iload_n 1, 1) := by decide +kernel
theorem dX0_pullOf_2 : decode cX0_pullOf 2 = .ok (.invokevirtual 74, 3) := by decide +kernel
theorem dX0_pullOf_5 : decode cX0_pullOf 5 = .ok (.ifCond .eq 25, 3) := by decide +kernel
theorem dX0_pullOf_8 : decode cX0_pullOf 8 = .ok (.iload_n 2, 1) := by decide +kernel
theorem dX0_pullOf_9 : decode cX0_pullOf 9 = .ok (.ifCond .lt 21, 3) := by decide +kernel
theorem dX0_pullOf_12 : decode cX0_pullOf 12 = .ok (.iload_n 2, 1) := by decide +kernel
theorem dX0_pullOf_13 : decode cX0_pullOf 13 = .ok (.iconst 4, 1) := by decide +kernel
theorem dX0_pullOf_14 : decode cX0_pullOf 14 = .ok (.if_icmp .ge 16, 3) := by decide +kernel
theorem dX0_pullOf_17 : decode cX0_pullOf 17 = .ok (.aload_n 0, 1) := by decide +kernel
theorem dX0_pullOf_18 : decode cX0_pullOf 18 = .ok (.getfield 15, 3) := by decide +kernel
theorem dX0_pullOf_21 : decode cX0_pullOf 21 = .ok (.iload_n 1, 1) := by decide +kernel
theorem dX0_pullOf_22 : decode cX0_pullOf 22 = .ok (.iconst 4, 1) := by decide +kernel
theorem dX0_pullOf_23 : decode cX0_pullOf 23 = .ok (.imul, 1) := by decide +kernel
theorem dX0_pullOf_24 : decode cX0_pullOf 24 = .ok (.iload_n 2, 1) := by decide +kernel
theorem dX0_pullOf_25 : decode cX0_pullOf 25 = .ok (.iadd, 1) := by decide +kernel
theorem dX0_pullOf_26 : decode cX0_pullOf 26 = .ok (.iaload, 1) := by decide +kernel
theorem dX0_pullOf_27 : decode cX0_pullOf 27 = .ok (.goto 4, 3) := by decide +kernel
theorem dX0_pullOf_30 : decode cX0_pullOf 30 = .ok (.iconst (-1), 1) := by decide +kernel
theorem dX0_pullOf_31 : decode cX0_pullOf 31 = .ok (.ireturn, 1) := by decide +kernel
theorem dX0_strengthOf_0 : decode cX0_strengthOf 0 = .ok (.aload_n 0, 1) := by decide +kernel
theorem dX0_strengthOf_1 : decode cX0_strengthOf 1 = .ok (.iload_n 1, 1) := by decide +kernel
theorem dX0_strengthOf_2 : decode cX0_strengthOf 2 = .ok (.invokevirtual 78, 3) := by decide +kernel
theorem dX0_strengthOf_5 : decode cX0_strengthOf 5 = .ok (.ifCond .eq 12, 3) := by decide +kernel
theorem dX0_strengthOf_8 : decode cX0_strengthOf 8 = .ok (.aload_n 0, 1) := by decide +kernel
theorem dX0_strengthOf_9 : decode cX0_strengthOf 9 = .ok (.getfield 18, 3) := by decide +kernel
theorem dX0_strengthOf_12 : decode cX0_strengthOf 12 = .ok (.iload_n 1, 1) := by decide +kernel
theorem dX0_strengthOf_13 : decode cX0_strengthOf 13 = .ok (.iaload, 1) := by decide +kernel
theorem dX0_strengthOf_14 : decode cX0_strengthOf 14 = .ok (.goto 4, 3) := by decide +kernel
theorem dX0_strengthOf_17 : decode cX0_strengthOf 17 = .ok (.iconst 0, 1) := by decide +kernel
theorem dX0_strengthOf_18 : decode cX0_strengthOf 18 = .ok (.ireturn, 1) := by decide +kernel
theorem dX0_termsOf_0 : decode cX0_termsOf 0 = .ok (.aload_n 0, 1) := by decide +kernel
theorem dX0_termsOf_1 : decode cX0_termsOf 1 = .ok (.iload_n 1, 1) := by decide +kernel
theorem dX0_termsOf_2 : decode cX0_termsOf 2 = .ok (.invokevirtual 81, 3) := by decide +kernel
theorem dX0_termsOf_5 : decode cX0_termsOf 5 = .ok (.ifCond .eq 12, 3) := by decide +kernel
theorem dX0_termsOf_8 : decode cX0_termsOf 8 = .ok (.aload_n 0, 1) := by decide +kernel
theorem dX0_termsOf_9 : decode cX0_termsOf 9 = .ok (.getfield 21, 3) := by decide +kernel
theorem dX0_termsOf_12 : decode cX0_termsOf 12 = .ok (.iload_n 1, 1) := by decide +kernel
theorem dX0_termsOf_13 : decode cX0_termsOf 13 = .ok (.iaload, 1) := by decide +kernel
theorem dX0_termsOf_14 : decode cX0_termsOf 14 = .ok (.goto 4, 3) := by decide +kernel
theorem dX0_termsOf_17 : decode cX0_termsOf 17 = .ok (.iconst 0, 1) := by decide +kernel
theorem dX0_termsOf_18 : decode cX0_termsOf 18 = .ok (.ireturn, 1) := by decide +kernel
theorem dX0_humourOfTerm_0 : decode cX0_humourOfTerm 0 = .ok (.aload_n 0, 1) := by decide +kernel
theorem dX0_humourOfTerm_1 : decode cX0_humourOfTerm 1 = .ok (.iload_n 1, 1) := by decide +kernel
theorem dX0_humourOfTerm_2 : decode cX0_humourOfTerm 2 = .ok (.invokevirtual 81, 3) := by decide +kernel
theorem dX0_humourOfTerm_5 : decode cX0_humourOfTerm 5 = .ok (.ifCond .eq 25, 3) := by decide +kernel
theorem dX0_humourOfTerm_8 : decode cX0_humourOfTerm 8 = .ok (.iload_n 2, 1) := by decide +kernel
theorem dX0_humourOfTerm_9 : decode cX0_humourOfTerm 9 = .ok (.ifCond .lt 21, 3) := by decide +kernel
theorem dX0_humourOfTerm_12 : decode cX0_humourOfTerm 12 = .ok (.iload_n 2, 1) := by decide +kernel
theorem dX0_humourOfTerm_13 : decode cX0_humourOfTerm 13 = .ok (.iconst 3, 1) := by decide +kernel
theorem dX0_humourOfTerm_14 : decode cX0_humourOfTerm 14 = .ok (.if_icmp .ge 16, 3) := by decide +kernel
theorem dX0_humourOfTerm_17 : decode cX0_humourOfTerm 17 = .ok (.aload_n 0, 1) := by decide +kernel
theorem dX0_humourOfTerm_18 : decode cX0_humourOfTerm 18 = .ok (.getfield 24, 3) := by decide +kernel
theorem dX0_humourOfTerm_21 : decode cX0_humourOfTerm 21 = .ok (.iload_n 1, 1) := by decide +kernel
theorem dX0_humourOfTerm_22 : decode cX0_humourOfTerm 22 = .ok (.iconst 3, 1) := by decide +kernel
theorem dX0_humourOfTerm_23 : decode cX0_humourOfTerm 23 = .ok (.imul, 1) := by decide +kernel
theorem dX0_humourOfTerm_24 : decode cX0_humourOfTerm 24 = .ok (.iload_n 2, 1) := by decide +kernel
theorem dX0_humourOfTerm_25 : decode cX0_humourOfTerm 25 = .ok (.iadd, 1) := by decide +kernel
theorem dX0_humourOfTerm_26 : decode cX0_humourOfTerm 26 = .ok (.iaload, 1) := by decide +kernel
theorem dX0_humourOfTerm_27 : decode cX0_humourOfTerm 27 = .ok (.goto 4, 3) := by decide +kernel
theorem dX0_humourOfTerm_30 : decode cX0_humourOfTerm 30 = .ok (.iconst 0, 1) := by decide +kernel
theorem dX0_humourOfTerm_31 : decode cX0_humourOfTerm 31 = .ok (.ireturn, 1) := by decide +kernel
theorem dX0_offBy_0 : decode cX0_offBy 0 = .ok (.aload_n 0, 1) := by decide +kernel
theorem dX0_offBy_1 : decode cX0_offBy 1 = .ok (.iload_n 1, 1) := by decide +kernel
theorem dX0_offBy_2 : decode cX0_offBy 2 = .ok (.invokevirtual 81, 3) := by decide +kernel
theorem dX0_offBy_5 : decode cX0_offBy 5 = .ok (.ifCond .eq 12, 3) := by decide +kernel
theorem dX0_offBy_8 : decode cX0_offBy 8 = .ok (.iload_n 2, 1) := by decide +kernel
theorem dX0_offBy_9 : decode cX0_offBy 9 = .ok (.ifCond .lt 8, 3) := by decide +kernel
theorem dX0_offBy_12 : decode cX0_offBy 12 = .ok (.iload_n 2, 1) := by decide +kernel
theorem dX0_offBy_13 : decode cX0_offBy 13 = .ok (.iconst 3, 1) := by decide +kernel
theorem dX0_offBy_14 : decode cX0_offBy 14 = .ok (.if_icmp .lt 5, 3) := by decide +kernel
theorem dX0_offBy_17 : decode cX0_offBy 17 = .ok (.iconst 0, 1) := by decide +kernel
theorem dX0_offBy_18 : decode cX0_offBy 18 = .ok (.ireturn, 1) := by decide +kernel
theorem dX0_offBy_19 : decode cX0_offBy 19 = .ok (.iload_n 1, 1) := by decide +kernel
theorem dX0_offBy_20 : decode cX0_offBy 20 = .ok (.iconst 3, 1) := by decide +kernel
theorem dX0_offBy_21 : decode cX0_offBy 21 = .ok (.imul, 1) := by decide +kernel
theorem dX0_offBy_22 : decode cX0_offBy 22 = .ok (.iload_n 2, 1) := by decide +kernel
theorem dX0_offBy_23 : decode cX0_offBy 23 = .ok (.iadd, 1) := by decide +kernel
theorem dX0_offBy_24 : decode cX0_offBy 24 = .ok (.istore 4, 2) := by decide +kernel
theorem dX0_offBy_26 : decode cX0_offBy 26 = .ok (.iload_n 3, 1) := by decide +kernel
theorem dX0_offBy_27 : decode cX0_offBy 27 = .ok (.aload_n 0, 1) := by decide +kernel
theorem dX0_offBy_28 : decode cX0_offBy 28 = .ok (.getfield 30, 3) := by decide +kernel
theorem dX0_offBy_31 : decode cX0_offBy 31 = .ok (.iload 4, 2) := by decide +kernel
theorem dX0_offBy_33 : decode cX0_offBy 33 = .ok (.iaload, 1) := by decide +kernel
theorem dX0_offBy_34 : decode cX0_offBy 34 = .ok (.isub, 1) := by decide +kernel
theorem dX0_offBy_35 : decode cX0_offBy 35 = .ok (.istore 5, 2) := by decide +kernel
theorem dX0_offBy_37 : decode cX0_offBy 37 = .ok (.iconst 0, 1) := by decide +kernel
theorem dX0_offBy_38 : decode cX0_offBy 38 = .ok (.aload_n 0, 1) := by decide +kernel
theorem dX0_offBy_39 : decode cX0_offBy 39 = .ok (.getfield 27, 3) := by decide +kernel
theorem dX0_offBy_42 : decode cX0_offBy 42 = .ok (.iload 4, 2) := by decide +kernel
theorem dX0_offBy_44 : decode cX0_offBy 44 = .ok (.iaload, 1) := by decide +kernel
theorem dX0_offBy_45 : decode cX0_offBy 45 = .ok (.bipush 60, 2) := by decide +kernel
theorem dX0_offBy_47 : decode cX0_offBy 47 = .ok (.if_icmp .ne 10, 3) := by decide +kernel
theorem dX0_offBy_50 : decode cX0_offBy 50 = .ok (.iload 5, 2) := by decide +kernel
theorem dX0_offBy_52 : decode cX0_offBy 52 = .ok (.iconst 1, 1) := by decide +kernel
theorem dX0_offBy_53 : decode cX0_offBy 53 = .ok (.iadd, 1) := by decide +kernel
theorem dX0_offBy_54 : decode cX0_offBy 54 = .ok (.goto 7, 3) := by decide +kernel
theorem dX0_offBy_57 : decode cX0_offBy 57 = .ok (.iconst 1, 1) := by decide +kernel
theorem dX0_offBy_58 : decode cX0_offBy 58 = .ok (.iload 5, 2) := by decide +kernel
theorem dX0_offBy_60 : decode cX0_offBy 60 = .ok (.isub, 1) := by decide +kernel
theorem dX0_offBy_61 : decode cX0_offBy 61 = .ok (.invokestatic 84, 3) := by decide +kernel
theorem dX0_offBy_64 : decode cX0_offBy 64 = .ok (.ireturn, 1) := by decide +kernel
theorem dX0_areAtOdds_0 : decode cX0_areAtOdds 0 = .ok (.iconst 0, 1) := by decide +kernel
theorem dX0_areAtOdds_1 : decode cX0_areAtOdds 1 = .ok (.istore 4, 2) := by decide +kernel
theorem dX0_areAtOdds_3 : decode cX0_areAtOdds 3 = .ok (.iload 4, 2) := by decide +kernel
theorem dX0_areAtOdds_5 : decode cX0_areAtOdds 5 = .ok (.iconst 4, 1) := by decide +kernel
theorem dX0_areAtOdds_6 : decode cX0_areAtOdds 6 = .ok (.if_icmp .ge 53, 3) := by decide +kernel
theorem dX0_areAtOdds_9 : decode cX0_areAtOdds 9 = .ok (.aload_n 0, 1) := by decide +kernel
theorem dX0_areAtOdds_10 : decode cX0_areAtOdds 10 = .ok (.iload_n 1, 1) := by decide +kernel
theorem dX0_areAtOdds_11 : decode cX0_areAtOdds 11 = .ok (.iload 4, 2) := by decide +kernel
theorem dX0_areAtOdds_13 : decode cX0_areAtOdds 13 = .ok (.invokevirtual 90, 3) := by decide +kernel
theorem dX0_areAtOdds_16 : decode cX0_areAtOdds 16 = .ok (.istore 5, 2) := by decide +kernel
theorem dX0_areAtOdds_18 : decode cX0_areAtOdds 18 = .ok (.aload_n 0, 1) := by decide +kernel
theorem dX0_areAtOdds_19 : decode cX0_areAtOdds 19 = .ok (.iload_n 2, 1) := by decide +kernel
theorem dX0_areAtOdds_20 : decode cX0_areAtOdds 20 = .ok (.iload 4, 2) := by decide +kernel
theorem dX0_areAtOdds_22 : decode cX0_areAtOdds 22 = .ok (.invokevirtual 90, 3) := by decide +kernel
theorem dX0_areAtOdds_25 : decode cX0_areAtOdds 25 = .ok (.istore 6, 2) := by decide +kernel
theorem dX0_areAtOdds_27 : decode cX0_areAtOdds 27 = .ok (.iload 5, 2) := by decide +kernel
theorem dX0_areAtOdds_29 : decode cX0_areAtOdds 29 = .ok (.iconst (-1), 1) := by decide +kernel
theorem dX0_areAtOdds_30 : decode cX0_areAtOdds 30 = .ok (.if_icmp .eq 23, 3) := by decide +kernel
theorem dX0_areAtOdds_33 : decode cX0_areAtOdds 33 = .ok (.iload 6, 2) := by decide +kernel
theorem dX0_areAtOdds_35 : decode cX0_areAtOdds 35 = .ok (.iconst (-1), 1) := by decide +kernel
theorem dX0_areAtOdds_36 : decode cX0_areAtOdds 36 = .ok (.if_icmp .eq 17, 3) := by decide +kernel
theorem dX0_areAtOdds_39 : decode cX0_areAtOdds 39 = .ok (.iload 5, 2) := by decide +kernel
theorem dX0_areAtOdds_41 : decode cX0_areAtOdds 41 = .ok (.iload 6, 2) := by decide +kernel
theorem dX0_areAtOdds_43 : decode cX0_areAtOdds 43 = .ok (.isub, 1) := by decide +kernel
theorem dX0_areAtOdds_44 : decode cX0_areAtOdds 44 = .ok (.invokestatic 93, 3) := by decide +kernel
theorem dX0_areAtOdds_47 : decode cX0_areAtOdds 47 = .ok (.iload_n 3, 1) := by decide +kernel
theorem dX0_areAtOdds_48 : decode cX0_areAtOdds 48 = .ok (.if_icmp .le 5, 3) := by decide +kernel
theorem dX0_areAtOdds_51 : decode cX0_areAtOdds 51 = .ok (.iconst 1, 1) := by decide +kernel
theorem dX0_areAtOdds_52 : decode cX0_areAtOdds 52 = .ok (.ireturn, 1) := by decide +kernel
theorem dX0_areAtOdds_53 : decode cX0_areAtOdds 53 = .ok (.iinc 4 1, 3) := by decide +kernel
theorem dX0_areAtOdds_56 : decode cX0_areAtOdds 56 = .ok (.goto (-53), 3) := by decide +kernel
theorem dX0_areAtOdds_59 : decode cX0_areAtOdds 59 = .ok (.iconst 0, 1) := by decide +kernel
theorem dX0_areAtOdds_60 : decode cX0_areAtOdds 60 = .ok (.ireturn, 1) := by decide +kernel
theorem dX0_areAtPeace_0 : decode cX0_areAtPeace 0 = .ok (.iconst 0, 1) := by decide +kernel
theorem dX0_areAtPeace_1 : decode cX0_areAtPeace 1 = .ok (.istore_n 3, 1) := by decide +kernel
theorem dX0_areAtPeace_2 : decode cX0_areAtPeace 2 = .ok (.iload_n 3, 1) := by decide +kernel
theorem dX0_areAtPeace_3 : decode cX0_areAtPeace 3 = .ok (.aload_n 0, 1) := by decide +kernel
theorem dX0_areAtPeace_4 : decode cX0_areAtPeace 4 = .ok (.getfield 43, 3) := by decide +kernel
theorem dX0_areAtPeace_7 : decode cX0_areAtPeace 7 = .ok (.if_icmp .ge 59, 3) := by decide +kernel
theorem dX0_areAtPeace_10 : decode cX0_areAtPeace 10 = .ok (.iload_n 3, 1) := by decide +kernel
theorem dX0_areAtPeace_11 : decode cX0_areAtPeace 11 = .ok (.iconst 1, 1) := by decide +kernel
theorem dX0_areAtPeace_12 : decode cX0_areAtPeace 12 = .ok (.iadd, 1) := by decide +kernel
theorem dX0_areAtPeace_13 : decode cX0_areAtPeace 13 = .ok (.istore 4, 2) := by decide +kernel
theorem dX0_areAtPeace_15 : decode cX0_areAtPeace 15 = .ok (.iload 4, 2) := by decide +kernel
theorem dX0_areAtPeace_17 : decode cX0_areAtPeace 17 = .ok (.aload_n 0, 1) := by decide +kernel
theorem dX0_areAtPeace_18 : decode cX0_areAtPeace 18 = .ok (.getfield 43, 3) := by decide +kernel
theorem dX0_areAtPeace_21 : decode cX0_areAtPeace 21 = .ok (.if_icmp .ge 39, 3) := by decide +kernel
theorem dX0_areAtPeace_24 : decode cX0_areAtPeace 24 = .ok (.iload_n 3, 1) := by decide +kernel
theorem dX0_areAtPeace_25 : decode cX0_areAtPeace 25 = .ok (.iload_n 1, 1) := by decide +kernel
theorem dX0_areAtPeace_26 : decode cX0_areAtPeace 26 = .ok (.invokestatic 96, 3) := by decide +kernel
theorem dX0_areAtPeace_29 : decode cX0_areAtPeace 29 = .ok (.ifCond .eq 25, 3) := by decide +kernel
theorem dX0_areAtPeace_32 : decode cX0_areAtPeace 32 = .ok (.iload 4, 2) := by decide +kernel
theorem dX0_areAtPeace_34 : decode cX0_areAtPeace 34 = .ok (.iload_n 1, 1) := by decide +kernel
theorem dX0_areAtPeace_35 : decode cX0_areAtPeace 35 = .ok (.invokestatic 96, 3) := by decide +kernel
theorem dX0_areAtPeace_38 : decode cX0_areAtPeace 38 = .ok (.ifCond .eq 16, 3) := by decide +kernel
theorem dX0_areAtPeace_41 : decode cX0_areAtPeace 41 = .ok (.aload_n 0, 1) := by decide +kernel
theorem dX0_areAtPeace_42 : decode cX0_areAtPeace 42 = .ok (.iload_n 3, 1) := by decide +kernel
theorem dX0_areAtPeace_43 : decode cX0_areAtPeace 43 = .ok (.iload 4, 2) := by decide +kernel
theorem dX0_areAtPeace_45 : decode cX0_areAtPeace 45 = .ok (.iload_n 2, 1) := by decide +kernel
theorem dX0_areAtPeace_46 : decode cX0_areAtPeace 46 = .ok (.invokevirtual 100, 3) := by decide +kernel
theorem dX0_areAtPeace_49 : decode cX0_areAtPeace 49 = .ok (.ifCond .eq 5, 3) := by decide +kernel
theorem dX0_areAtPeace_52 : decode cX0_areAtPeace 52 = .ok (.iconst 0, 1) := by decide +kernel
theorem dX0_areAtPeace_53 : decode cX0_areAtPeace 53 = .ok (.ireturn, 1) := by decide +kernel
theorem dX0_areAtPeace_54 : decode cX0_areAtPeace 54 = .ok (.iinc 4 1, 3) := by decide +kernel
theorem dX0_areAtPeace_57 : decode cX0_areAtPeace 57 = .ok (.goto (-42), 3) := by decide +kernel
theorem dX0_areAtPeace_60 : decode cX0_areAtPeace 60 = .ok (.iinc 3 1, 3) := by decide +kernel
theorem dX0_areAtPeace_63 : decode cX0_areAtPeace 63 = .ok (.goto (-61), 3) := by decide +kernel
theorem dX0_areAtPeace_66 : decode cX0_areAtPeace 66 = .ok (.iconst 1, 1) := by decide +kernel
theorem dX0_areAtPeace_67 : decode cX0_areAtPeace 67 = .ok (.ireturn, 1) := by decide +kernel
theorem dX0_meanPull_0 : decode cX0_meanPull 0 = .ok (.iconst 0, 1) := by decide +kernel
theorem dX0_meanPull_1 : decode cX0_meanPull 1 = .ok (.istore_n 3, 1) := by decide +kernel
theorem dX0_meanPull_2 : decode cX0_meanPull 2 = .ok (.iconst 0, 1) := by decide +kernel
theorem dX0_meanPull_3 : decode cX0_meanPull 3 = .ok (.istore 4, 2) := by decide +kernel
theorem dX0_meanPull_5 : decode cX0_meanPull 5 = .ok (.iconst 0, 1) := by decide +kernel
theorem dX0_meanPull_6 : decode cX0_meanPull 6 = .ok (.istore 5, 2) := by decide +kernel
theorem dX0_meanPull_8 : decode cX0_meanPull 8 = .ok (.iload 5, 2) := by decide +kernel
theorem dX0_meanPull_10 : decode cX0_meanPull 10 = .ok (.aload_n 0, 1) := by decide +kernel
theorem dX0_meanPull_11 : decode cX0_meanPull 11 = .ok (.getfield 43, 3) := by decide +kernel
theorem dX0_meanPull_14 : decode cX0_meanPull 14 = .ok (.if_icmp .ge 42, 3) := by decide +kernel
theorem dX0_meanPull_17 : decode cX0_meanPull 17 = .ok (.iload 5, 2) := by decide +kernel
theorem dX0_meanPull_19 : decode cX0_meanPull 19 = .ok (.iload_n 1, 1) := by decide +kernel
theorem dX0_meanPull_20 : decode cX0_meanPull 20 = .ok (.invokestatic 96, 3) := by decide +kernel
theorem dX0_meanPull_23 : decode cX0_meanPull 23 = .ok (.ifCond .eq 27, 3) := by decide +kernel
theorem dX0_meanPull_26 : decode cX0_meanPull 26 = .ok (.aload_n 0, 1) := by decide +kernel
theorem dX0_meanPull_27 : decode cX0_meanPull 27 = .ok (.iload 5, 2) := by decide +kernel
theorem dX0_meanPull_29 : decode cX0_meanPull 29 = .ok (.iload_n 2, 1) := by decide +kernel
theorem dX0_meanPull_30 : decode cX0_meanPull 30 = .ok (.invokevirtual 90, 3) := by decide +kernel
theorem dX0_meanPull_33 : decode cX0_meanPull 33 = .ok (.iconst (-1), 1) := by decide +kernel
theorem dX0_meanPull_34 : decode cX0_meanPull 34 = .ok (.if_icmp .eq 16, 3) := by decide +kernel
theorem dX0_meanPull_37 : decode cX0_meanPull 37 = .ok (.iload_n 3, 1) := by decide +kernel
theorem dX0_meanPull_38 : decode cX0_meanPull 38 = .ok (.aload_n 0, 1) := by decide +kernel
theorem dX0_meanPull_39 : decode cX0_meanPull 39 = .ok (.iload 5, 2) := by decide +kernel
theorem dX0_meanPull_41 : decode cX0_meanPull 41 = .ok (.iload_n 2, 1) := by decide +kernel
theorem dX0_meanPull_42 : decode cX0_meanPull 42 = .ok (.invokevirtual 90, 3) := by decide +kernel
theorem dX0_meanPull_45 : decode cX0_meanPull 45 = .ok (.iadd, 1) := by decide +kernel
theorem dX0_meanPull_46 : decode cX0_meanPull 46 = .ok (.istore_n 3, 1) := by decide +kernel
theorem dX0_meanPull_47 : decode cX0_meanPull 47 = .ok (.iinc 4 1, 3) := by decide +kernel
theorem dX0_meanPull_50 : decode cX0_meanPull 50 = .ok (.iinc 5 1, 3) := by decide +kernel
theorem dX0_meanPull_53 : decode cX0_meanPull 53 = .ok (.goto (-45), 3) := by decide +kernel
theorem dX0_meanPull_56 : decode cX0_meanPull 56 = .ok (.iload 4, 2) := by decide +kernel
theorem dX0_meanPull_58 : decode cX0_meanPull 58 = .ok (.ifCond .le 10, 3) := by decide +kernel
theorem dX0_meanPull_61 : decode cX0_meanPull 61 = .ok (.iload_n 3, 1) := by decide +kernel
theorem dX0_meanPull_62 : decode cX0_meanPull 62 = .ok (.iload 4, 2) := by decide +kernel
theorem dX0_meanPull_64 : decode cX0_meanPull 64 = .ok (.idiv, 1) := by decide +kernel
theorem dX0_meanPull_65 : decode cX0_meanPull 65 = .ok (.goto 4, 3) := by decide +kernel
theorem dX0_meanPull_68 : decode cX0_meanPull 68 = .ok (.iconst (-1), 1) := by decide +kernel
theorem dX0_meanPull_69 : decode cX0_meanPull 69 = .ok (.ireturn, 1) := by decide +kernel
theorem dX1_init_0 : decode cX1_init 0 = .ok (.aload_n 0, 1) := by decide +kernel
theorem dX1_init_1 : decode cX1_init 1 = .ok (.invokespecial 3, 3) := by decide +kernel
theorem dX1_init_4 : decode cX1_init 4 = .ok (.aload_n 0, 1) := by decide +kernel
theorem dX1_init_5 : decode cX1_init 5 = .ok (.iload_n 1, 1) := by decide +kernel
theorem dX1_init_6 : decode cX1_init 6 = .ok (.putfield 9, 3) := by decide +kernel
theorem dX1_init_9 : decode cX1_init 9 = .ok (.return_, 1) := by decide +kernel
theorem dX1_slip_0 : decode cX1_slip 0 = .ok (.aload_n 0, 1) := by decide +kernel
theorem dX1_slip_1 : decode cX1_slip 1 = .ok (.iload_n 2, 1) := by decide +kernel
theorem dX1_slip_2 : decode cX1_slip 2 = .ok (.invokevirtual 15, 3) := by decide +kernel
theorem dX1_slip_5 : decode cX1_slip 5 = .ok (.aload_n 1, 1) := by decide +kernel
theorem dX1_slip_6 : decode cX1_slip 6 = .ok (.invokevirtual 19, 3) := by decide +kernel
theorem dX1_slip_9 : decode cX1_slip 9 = .ok (.istore_n 3, 1) := by decide +kernel
theorem dX1_slip_10 : decode cX1_slip 10 = .ok (.iconst 0, 1) := by decide +kernel
theorem dX1_slip_11 : decode cX1_slip 11 = .ok (.istore 4, 2) := by decide +kernel
theorem dX1_slip_13 : decode cX1_slip 13 = .ok (.iload 4, 2) := by decide +kernel
theorem dX1_slip_15 : decode cX1_slip 15 = .ok (.iload_n 3, 1) := by decide +kernel
theorem dX1_slip_16 : decode cX1_slip 16 = .ok (.if_icmp .ge 34, 3) := by decide +kernel
theorem dX1_slip_19 : decode cX1_slip 19 = .ok (.iload 4, 2) := by decide +kernel
theorem dX1_slip_21 : decode cX1_slip 21 = .ok (.aload_n 0, 1) := by decide +kernel
theorem dX1_slip_22 : decode cX1_slip 22 = .ok (.getfield 9, 3) := by decide +kernel
theorem dX1_slip_25 : decode cX1_slip 25 = .ok (.if_icmp .ge 25, 3) := by decide +kernel
theorem dX1_slip_28 : decode cX1_slip 28 = .ok (.aload_n 0, 1) := by decide +kernel
theorem dX1_slip_29 : decode cX1_slip 29 = .ok (.aload_n 1, 1) := by decide +kernel
theorem dX1_slip_30 : decode cX1_slip 30 = .ok (.iload 4, 2) := by decide +kernel
theorem dX1_slip_32 : decode cX1_slip 32 = .ok (.invokevirtual 25, 3) := by decide +kernel
theorem dX1_slip_35 : decode cX1_slip 35 = .ok (.invokevirtual 29, 3) := by decide +kernel
theorem dX1_slip_38 : decode cX1_slip 38 = .ok (.ifCond .ne 6, 3) := by decide +kernel
theorem dX1_slip_41 : decode cX1_slip 41 = .ok (.iload 4, 2) := by decide +kernel
theorem dX1_slip_43 : decode cX1_slip 43 = .ok (.ireturn, 1) := by decide +kernel
theorem dX1_slip_44 : decode cX1_slip 44 = .ok (.iinc 4 1, 3) := by decide +kernel
theorem dX1_slip_47 : decode cX1_slip 47 = .ok (.goto (-34), 3) := by decide +kernel
theorem dX1_slip_50 : decode cX1_slip 50 = .ok (.iload_n 3, 1) := by decide +kernel
theorem dX1_slip_51 : decode cX1_slip 51 = .ok (.aload_n 0, 1) := by decide +kernel
theorem dX1_slip_52 : decode cX1_slip 52 = .ok (.getfield 9, 3) := by decide +kernel
theorem dX1_slip_55 : decode cX1_slip 55 = .ok (.if_icmp .le 8, 3) := by decide +kernel
theorem dX1_slip_58 : decode cX1_slip 58 = .ok (.aload_n 0, 1) := by decide +kernel
theorem dX1_slip_59 : decode cX1_slip 59 = .ok (.getfield 9, 3) := by decide +kernel
theorem dX1_slip_62 : decode cX1_slip 62 = .ok (.ireturn, 1) := by decide +kernel
theorem dX1_slip_63 : decode cX1_slip 63 = .ok (.aload_n 0, 1) := by decide +kernel
theorem dX1_slip_64 : decode cX1_slip 64 = .ok (.invokevirtual 33, 3) := by decide +kernel
theorem dX1_slip_67 : decode cX1_slip 67 = .ok (.ifCond .eq 7, 3) := by decide +kernel
theorem dX1_slip_70 : decode cX1_slip 70 = .ok (.iconst (-1), 1) := by decide +kernel
theorem dX1_slip_71 : decode cX1_slip 71 = .ok (.goto 4, 3) := by decide +kernel
theorem dX1_slip_74 : decode cX1_slip 74 = .ok (.iload_n 3, 1) := by decide +kernel
theorem dX1_slip_75 : decode cX1_slip 75 = .ok (.ireturn, 1) := by decide +kernel
theorem dX2_init_0 : decode cX2_init 0 = .ok (.aload_n 0, 1) := by decide +kernel
theorem dX2_init_1 : decode cX2_init 1 = .ok (.iload_n 3, 1) := by decide +kernel
theorem dX2_init_2 : decode cX2_init 2 = .ok (.invokespecial 1, 3) := by decide +kernel
theorem dX2_init_5 : decode cX2_init 5 = .ok (.aload_n 0, 1) := by decide +kernel
theorem dX2_init_6 : decode cX2_init 6 = .ok (.iload_n 1, 1) := by decide +kernel
theorem dX2_init_7 : decode cX2_init 7 = .ok (.putfield 7, 3) := by decide +kernel
theorem dX2_init_10 : decode cX2_init 10 = .ok (.aload_n 0, 1) := by decide +kernel
theorem dX2_init_11 : decode cX2_init 11 = .ok (.iload_n 2, 1) := by decide +kernel
theorem dX2_init_12 : decode cX2_init 12 = .ok (.putfield 13, 3) := by decide +kernel
theorem dX2_init_15 : decode cX2_init 15 = .ok (.return_, 1) := by decide +kernel
theorem dX2_begin_0 : decode cX2_begin 0 = .ok (.aload_n 0, 1) := by decide +kernel
theorem dX2_begin_1 : decode cX2_begin 1 = .ok (.iload_n 1, 1) := by decide +kernel
theorem dX2_begin_2 : decode cX2_begin 2 = .ok (.putfield 16, 3) := by decide +kernel
theorem dX2_begin_5 : decode cX2_begin 5 = .ok (.aload_n 0, 1) := by decide +kernel
theorem dX2_begin_6 : decode cX2_begin 6 = .ok (.iconst 0, 1) := by decide +kernel
theorem dX2_begin_7 : decode cX2_begin 7 = .ok (.putfield 19, 3) := by decide +kernel
theorem dX2_begin_10 : decode cX2_begin 10 = .ok (.aload_n 0, 1) := by decide +kernel
theorem dX2_begin_11 : decode cX2_begin 11 = .ok (.iconst 0, 1) := by decide +kernel
theorem dX2_begin_12 : decode cX2_begin 12 = .ok (.putfield 22, 3) := by decide +kernel
theorem dX2_begin_15 : decode cX2_begin 15 = .ok (.return_, 1) := by decide +kernel
theorem dX2_takes_0 : decode cX2_takes 0 = .ok (.aload_n 0, 1) := by decide +kernel
theorem dX2_takes_1 : decode cX2_takes 1 = .ok (.getfield 22, 3) := by decide +kernel
theorem dX2_takes_4 : decode cX2_takes 4 = .ok (.aload_n 0, 1) := by decide +kernel
theorem dX2_takes_5 : decode cX2_takes 5 = .ok (.getfield 7, 3) := by decide +kernel
theorem dX2_takes_8 : decode cX2_takes 8 = .ok (.if_icmp .ne 20, 3) := by decide +kernel
theorem dX2_takes_11 : decode cX2_takes 11 = .ok (.aload_n 0, 1) := by decide +kernel
theorem dX2_takes_12 : decode cX2_takes 12 = .ok (.iconst 0, 1) := by decide +kernel
theorem dX2_takes_13 : decode cX2_takes 13 = .ok (.putfield 22, 3) := by decide +kernel
theorem dX2_takes_16 : decode cX2_takes 16 = .ok (.iload_n 1, 1) := by decide +kernel
theorem dX2_takes_17 : decode cX2_takes 17 = .ok (.bipush 59, 2) := by decide +kernel
theorem dX2_takes_19 : decode cX2_takes 19 = .ok (.if_icmp .ne 7, 3) := by decide +kernel
theorem dX2_takes_22 : decode cX2_takes 22 = .ok (.iconst 1, 1) := by decide +kernel
theorem dX2_takes_23 : decode cX2_takes 23 = .ok (.goto 4, 3) := by decide +kernel
theorem dX2_takes_26 : decode cX2_takes 26 = .ok (.iconst 0, 1) := by decide +kernel
theorem dX2_takes_27 : decode cX2_takes 27 = .ok (.ireturn, 1) := by decide +kernel
theorem dX2_takes_28 : decode cX2_takes 28 = .ok (.aload_n 0, 1) := by decide +kernel
theorem dX2_takes_29 : decode cX2_takes 29 = .ok (.dup, 1) := by decide +kernel
theorem dX2_takes_30 : decode cX2_takes 30 = .ok (.getfield 22, 3) := by decide +kernel
theorem dX2_takes_33 : decode cX2_takes 33 = .ok (.iconst 1, 1) := by decide +kernel
theorem dX2_takes_34 : decode cX2_takes 34 = .ok (.iadd, 1) := by decide +kernel
theorem dX2_takes_35 : decode cX2_takes 35 = .ok (.putfield 22, 3) := by decide +kernel
theorem dX2_takes_38 : decode cX2_takes 38 = .ok (.aload_n 0, 1) := by decide +kernel
theorem dX2_takes_39 : decode cX2_takes 39 = .ok (.getfield 22, 3) := by decide +kernel
theorem dX2_takes_42 : decode cX2_takes 42 = .ok (.iconst 1, 1) := by decide +kernel
theorem dX2_takes_43 : decode cX2_takes 43 = .ok (.if_icmp .ne 43, 3) := by decide +kernel
theorem dX2_takes_46 : decode cX2_takes 46 = .ok (.aload_n 0, 1) := by decide +kernel
theorem dX2_takes_47 : decode cX2_takes 47 = .ok (.dup, 1) := by decide +kernel
theorem dX2_takes_48 : decode cX2_takes 48 = .ok (.getfield 19, 3) := by decide +kernel
theorem dX2_takes_51 : decode cX2_takes 51 = .ok (.iconst 1, 1) := by decide +kernel
theorem dX2_takes_52 : decode cX2_takes 52 = .ok (.iadd, 1) := by decide +kernel
theorem dX2_takes_53 : decode cX2_takes 53 = .ok (.putfield 19, 3) := by decide +kernel
theorem dX2_takes_56 : decode cX2_takes 56 = .ok (.aload_n 0, 1) := by decide +kernel
theorem dX2_takes_57 : decode cX2_takes 57 = .ok (.getfield 19, 3) := by decide +kernel
theorem dX2_takes_60 : decode cX2_takes 60 = .ok (.aload_n 0, 1) := by decide +kernel
theorem dX2_takes_61 : decode cX2_takes 61 = .ok (.getfield 16, 3) := by decide +kernel
theorem dX2_takes_64 : decode cX2_takes 64 = .ok (.if_icmp .gt 20, 3) := by decide +kernel
theorem dX2_takes_67 : decode cX2_takes 67 = .ok (.iload_n 1, 1) := by decide +kernel
theorem dX2_takes_68 : decode cX2_takes 68 = .ok (.invokestatic 25, 3) := by decide +kernel
theorem dX2_takes_71 : decode cX2_takes 71 = .ok (.ifCond .eq 13, 3) := by decide +kernel
theorem dX2_takes_74 : decode cX2_takes 74 = .ok (.iload_n 1, 1) := by decide +kernel
theorem dX2_takes_75 : decode cX2_takes 75 = .ok (.bipush 48, 2) := by decide +kernel
theorem dX2_takes_77 : decode cX2_takes 77 = .ok (.if_icmp .eq 7, 3) := by decide +kernel
theorem dX2_takes_80 : decode cX2_takes 80 = .ok (.iconst 1, 1) := by decide +kernel
theorem dX2_takes_81 : decode cX2_takes 81 = .ok (.goto 4, 3) := by decide +kernel
theorem dX2_takes_84 : decode cX2_takes 84 = .ok (.iconst 0, 1) := by decide +kernel
theorem dX2_takes_85 : decode cX2_takes 85 = .ok (.ireturn, 1) := by decide +kernel
theorem dX2_takes_86 : decode cX2_takes 86 = .ok (.iload_n 1, 1) := by decide +kernel
theorem dX2_takes_87 : decode cX2_takes 87 = .ok (.invokestatic 25, 3) := by decide +kernel
theorem dX2_takes_90 : decode cX2_takes 90 = .ok (.ifCond .ne 20, 3) := by decide +kernel
theorem dX2_takes_93 : decode cX2_takes 93 = .ok (.aload_n 0, 1) := by decide +kernel
theorem dX2_takes_94 : decode cX2_takes 94 = .ok (.getfield 22, 3) := by decide +kernel
theorem dX2_takes_97 : decode cX2_takes 97 = .ok (.aload_n 0, 1) := by decide +kernel
theorem dX2_takes_98 : decode cX2_takes 98 = .ok (.getfield 13, 3) := by decide +kernel
theorem dX2_takes_101 : decode cX2_takes 101 = .ok (.if_icmp .le 13, 3) := by decide +kernel
theorem dX2_takes_104 : decode cX2_takes 104 = .ok (.iload_n 1, 1) := by decide +kernel
theorem dX2_takes_105 : decode cX2_takes 105 = .ok (.bipush 45, 2) := by decide +kernel
theorem dX2_takes_107 : decode cX2_takes 107 = .ok (.if_icmp .ne 7, 3) := by decide +kernel
theorem dX2_takes_110 : decode cX2_takes 110 = .ok (.iconst 1, 1) := by decide +kernel
theorem dX2_takes_111 : decode cX2_takes 111 = .ok (.goto 4, 3) := by decide +kernel
theorem dX2_takes_114 : decode cX2_takes 114 = .ok (.iconst 0, 1) := by decide +kernel
theorem dX2_takes_115 : decode cX2_takes 115 = .ok (.ireturn, 1) := by decide +kernel
theorem dX2_mayEnd_0 : decode cX2_mayEnd 0 = .ok (.aload_n 0, 1) := by decide +kernel
theorem dX2_mayEnd_1 : decode cX2_mayEnd 1 = .ok (.getfield 22, 3) := by decide +kernel
theorem dX2_mayEnd_4 : decode cX2_mayEnd 4 = .ok (.aload_n 0, 1) := by decide +kernel
theorem dX2_mayEnd_5 : decode cX2_mayEnd 5 = .ok (.getfield 7, 3) := by decide +kernel
theorem dX2_mayEnd_8 : decode cX2_mayEnd 8 = .ok (.if_icmp .ne 7, 3) := by decide +kernel
theorem dX2_mayEnd_11 : decode cX2_mayEnd 11 = .ok (.iconst 1, 1) := by decide +kernel
theorem dX2_mayEnd_12 : decode cX2_mayEnd 12 = .ok (.goto 4, 3) := by decide +kernel
theorem dX2_mayEnd_15 : decode cX2_mayEnd 15 = .ok (.iconst 0, 1) := by decide +kernel
theorem dX2_mayEnd_16 : decode cX2_mayEnd 16 = .ok (.ireturn, 1) := by decide +kernel
theorem dX2_lines_0 : decode cX2_lines 0 = .ok (.aload_n 0, 1) := by decide +kernel
theorem dX2_lines_1 : decode cX2_lines 1 = .ok (.getfield 19, 3) := by decide +kernel
theorem dX2_lines_4 : decode cX2_lines 4 = .ok (.ireturn, 1) := by decide +kernel
theorem dX3_init_0 : decode cX3_init 0 = .ok (.aload_n 0, 1) := by decide +kernel
theorem dX3_init_1 : decode cX3_init 1 = .ok (.invokespecial 1, 3) := by decide +kernel
theorem dX3_init_4 : decode cX3_init 4 = .ok (.aload_n 0, 1) := by decide +kernel
theorem dX3_init_5 : decode cX3_init 5 = .ok (.bipush 8, 2) := by decide +kernel
theorem dX3_init_7 : decode cX3_init 7 = .ok (.newarray .long, 2) := by decide +kernel
theorem dX3_init_9 : decode cX3_init 9 = .ok (.putfield 7, 3) := by decide +kernel
theorem dX3_init_12 : decode cX3_init 12 = .ok (.return_, 1) := by decide +kernel
theorem dX3_start_0 : decode cX3_start 0 = .ok (.aload_n 0, 1) := by decide +kernel
theorem dX3_start_1 : decode cX3_start 1 = .ok (.iconst 0, 1) := by decide +kernel
theorem dX3_start_2 : decode cX3_start 2 = .ok (.putfield 13, 3) := by decide +kernel
theorem dX3_start_5 : decode cX3_start 5 = .ok (.return_, 1) := by decide +kernel
theorem dX3_add_0 : decode cX3_add 0 = .ok (.aload_n 0, 1) := by decide +kernel
theorem dX3_add_1 : decode cX3_add 1 = .ok (.getfield 13, 3) := by decide +kernel
theorem dX3_add_4 : decode cX3_add 4 = .ok (.aload_n 0, 1) := by decide +kernel
theorem dX3_add_5 : decode cX3_add 5 = .ok (.getfield 7, 3) := by decide +kernel
theorem dX3_add_8 : decode cX3_add 8 = .ok (.arraylength, 1) := by decide +kernel
theorem dX3_add_9 : decode cX3_add 9 = .ok (.if_icmp .ge 23, 3) := by decide +kernel
theorem dX3_add_12 : decode cX3_add 12 = .ok (.aload_n 0, 1) := by decide +kernel
theorem dX3_add_13 : decode cX3_add 13 = .ok (.getfield 7, 3) := by decide +kernel
theorem dX3_add_16 : decode cX3_add 16 = .ok (.aload_n 0, 1) := by decide +kernel
theorem dX3_add_17 : decode cX3_add 17 = .ok (.getfield 13, 3) := by decide +kernel
theorem dX3_add_20 : decode cX3_add 20 = .ok (.lload_n 1, 1) := by decide +kernel
theorem dX3_add_21 : decode cX3_add 21 = .ok (.lastore, 1) := by decide +kernel
theorem dX3_add_22 : decode cX3_add 22 = .ok (.aload_n 0, 1) := by decide +kernel
theorem dX3_add_23 : decode cX3_add 23 = .ok (.dup, 1) := by decide +kernel
theorem dX3_add_24 : decode cX3_add 24 = .ok (.getfield 13, 3) := by decide +kernel
theorem dX3_add_27 : decode cX3_add 27 = .ok (.iconst 1, 1) := by decide +kernel
theorem dX3_add_28 : decode cX3_add 28 = .ok (.iadd, 1) := by decide +kernel
theorem dX3_add_29 : decode cX3_add 29 = .ok (.putfield 13, 3) := by decide +kernel
theorem dX3_add_32 : decode cX3_add 32 = .ok (.return_, 1) := by decide +kernel
theorem dX3_size_0 : decode cX3_size 0 = .ok (.aload_n 0, 1) := by decide +kernel
theorem dX3_size_1 : decode cX3_size 1 = .ok (.getfield 13, 3) := by decide +kernel
theorem dX3_size_4 : decode cX3_size 4 = .ok (.ireturn, 1) := by decide +kernel
theorem dX3_at_0 : decode cX3_at 0 = .ok (.iload_n 1, 1) := by decide +kernel
theorem dX3_at_1 : decode cX3_at 1 = .ok (.iconst 0, 1) := by decide +kernel
theorem dX3_at_2 : decode cX3_at 2 = .ok (.aload_n 0, 1) := by decide +kernel
theorem dX3_at_3 : decode cX3_at 3 = .ok (.getfield 13, 3) := by decide +kernel
theorem dX3_at_6 : decode cX3_at 6 = .ok (.iconst 1, 1) := by decide +kernel
theorem dX3_at_7 : decode cX3_at 7 = .ok (.isub, 1) := by decide +kernel
theorem dX3_at_8 : decode cX3_at 8 = .ok (.invokestatic 17, 3) := by decide +kernel
theorem dX3_at_11 : decode cX3_at 11 = .ok (.ifCond .eq 12, 3) := by decide +kernel
theorem dX3_at_14 : decode cX3_at 14 = .ok (.aload_n 0, 1) := by decide +kernel
theorem dX3_at_15 : decode cX3_at 15 = .ok (.getfield 7, 3) := by decide +kernel
theorem dX3_at_18 : decode cX3_at 18 = .ok (.iload_n 1, 1) := by decide +kernel
theorem dX3_at_19 : decode cX3_at 19 = .ok (.laload, 1) := by decide +kernel
theorem dX3_at_20 : decode cX3_at 20 = .ok (.goto 4, 3) := by decide +kernel
theorem dX3_at_23 : decode cX3_at 23 = .ok (.lconst 0, 1) := by decide +kernel
theorem dX3_at_24 : decode cX3_at 24 = .ok (.lreturn, 1) := by decide +kernel
theorem dX4_init_0 : decode cX4_init 0 = .ok (.aload_n 0, 1) := by decide +kernel
theorem dX4_init_1 : decode cX4_init 1 = .ok (.invokespecial 3, 3) := by decide +kernel
theorem dX4_init_4 : decode cX4_init 4 = .ok (.aload_n 0, 1) := by decide +kernel
theorem dX4_init_5 : decode cX4_init 5 = .ok (.bipush 12, 2) := by decide +kernel
theorem dX4_init_7 : decode cX4_init 7 = .ok (.newarray .int, 2) := by decide +kernel
theorem dX4_init_9 : decode cX4_init 9 = .ok (.putfield 11, 3) := by decide +kernel
theorem dX4_init_12 : decode cX4_init 12 = .ok (.aload_n 0, 1) := by decide +kernel
theorem dX4_init_13 : decode cX4_init 13 = .ok (.bipush 12, 2) := by decide +kernel
theorem dX4_init_15 : decode cX4_init 15 = .ok (.newarray .int, 2) := by decide +kernel
theorem dX4_init_17 : decode cX4_init 17 = .ok (.putfield 15, 3) := by decide +kernel
theorem dX4_init_20 : decode cX4_init 20 = .ok (.aload_n 0, 1) := by decide +kernel
theorem dX4_init_21 : decode cX4_init 21 = .ok (.bipush 12, 2) := by decide +kernel
theorem dX4_init_23 : decode cX4_init 23 = .ok (.newarray .int, 2) := by decide +kernel
theorem dX4_init_25 : decode cX4_init 25 = .ok (.putfield 18, 3) := by decide +kernel
theorem dX4_init_28 : decode cX4_init 28 = .ok (.aload_n 0, 1) := by decide +kernel
theorem dX4_init_29 : decode cX4_init 29 = .ok (.bipush 40, 2) := by decide +kernel
theorem dX4_init_31 : decode cX4_init 31 = .ok (.newarray .int, 2) := by decide +kernel
theorem dX4_init_33 : decode cX4_init 33 = .ok (.putfield 21, 3) := by decide +kernel
theorem dX4_init_36 : decode cX4_init 36 = .ok (.aload_n 0, 1) := by decide +kernel
theorem dX4_init_37 : decode cX4_init 37 = .ok (.bipush 8, 2) := by decide +kernel
theorem dX4_init_39 : decode cX4_init 39 = .ok (.newarray .int, 2) := by decide +kernel
theorem dX4_init_41 : decode cX4_init 41 = .ok (.putfield 24, 3) := by decide +kernel
theorem dX4_init_44 : decode cX4_init 44 = .ok (.aload_n 0, 1) := by decide +kernel
theorem dX4_init_45 : decode cX4_init 45 = .ok (.bipush 48, 2) := by decide +kernel
theorem dX4_init_47 : decode cX4_init 47 = .ok (.newarray .int, 2) := by decide +kernel
theorem dX4_init_49 : decode cX4_init 49 = .ok (.putfield 27, 3) := by decide +kernel
theorem dX4_init_52 : decode cX4_init 52 = .ok (.aload_n 0, 1) := by decide +kernel
theorem dX4_init_53 : decode cX4_init 53 = .ok (.bipush 8, 2) := by decide +kernel
theorem dX4_init_55 : decode cX4_init 55 = .ok (.newarray .int, 2) := by decide +kernel
theorem dX4_init_57 : decode cX4_init 57 = .ok (.putfield 30, 3) := by decide +kernel
theorem dX4_init_60 : decode cX4_init 60 = .ok (.aload_n 0, 1) := by decide +kernel
theorem dX4_init_61 : decode cX4_init 61 = .ok (.bipush 64, 2) := by decide +kernel
theorem dX4_init_63 : decode cX4_init 63 = .ok (.newarray .int, 2) := by decide +kernel
theorem dX4_init_65 : decode cX4_init 65 = .ok (.putfield 33, 3) := by decide +kernel
theorem dX4_init_68 : decode cX4_init 68 = .ok (.aload_n 0, 1) := by decide +kernel
theorem dX4_init_69 : decode cX4_init 69 = .ok (.bipush 64, 2) := by decide +kernel
theorem dX4_init_71 : decode cX4_init 71 = .ok (.newarray .int, 2) := by decide +kernel
theorem dX4_init_73 : decode cX4_init 73 = .ok (.putfield 36, 3) := by decide +kernel
theorem dX4_init_76 : decode cX4_init 76 = .ok (.aload_n 0, 1) := by decide +kernel
theorem dX4_init_77 : decode cX4_init 77 = .ok (.aload_n 1, 1) := by decide +kernel
theorem dX4_init_78 : decode cX4_init 78 = .ok (.putfield 39, 3) := by decide +kernel
theorem dX4_init_81 : decode cX4_init 81 = .ok (.aload_n 0, 1) := by decide +kernel
theorem dX4_init_82 : decode cX4_init 82 = .ok (.aload_n 2, 1) := by decide +kernel
theorem dX4_init_83 : decode cX4_init 83 = .ok (.putfield 43, 3) := by decide +kernel
theorem dX4_init_86 : decode cX4_init 86 = .ok (.aload_n 0, 1) := by decide +kernel
theorem dX4_init_87 : decode cX4_init 87 = .ok (.aload_n 3, 1) := by decide +kernel
theorem dX4_init_88 : decode cX4_init 88 = .ok (.putfield 47, 3) := by decide +kernel
theorem dX4_init_91 : decode cX4_init 91 = .ok (.aload_n 0, 1) := by decide +kernel
theorem dX4_init_92 : decode cX4_init 92 = .ok (.aload 4, 2) := by decide +kernel
theorem dX4_init_94 : decode cX4_init 94 = .ok (.putfield 50, 3) := by decide +kernel
theorem dX4_init_97 : decode cX4_init 97 = .ok (.return_, 1) := by decide +kernel
theorem dX4_wantsWith_0 : decode cX4_wantsWith 0 = .ok (.aload_n 0, 1) := by decide +kernel
theorem dX4_wantsWith_1 : decode cX4_wantsWith 1 = .ok (.getfield 47, 3) := by decide +kernel
theorem dX4_wantsWith_4 : decode cX4_wantsWith 4 = .ok (.aload_n 0, 1) := by decide +kernel
theorem dX4_wantsWith_5 : decode cX4_wantsWith 5 = .ok (.getfield 43, 3) := by decide +kernel
theorem dX4_wantsWith_8 : decode cX4_wantsWith 8 = .ok (.invokevirtual 54, 3) := by decide +kernel
theorem dX4_wantsWith_11 : decode cX4_wantsWith 11 = .ok (.iconst 0, 1) := by decide +kernel
theorem dX4_wantsWith_12 : decode cX4_wantsWith 12 = .ok (.istore 4, 2) := by decide +kernel
theorem dX4_wantsWith_14 : decode cX4_wantsWith 14 = .ok (.iload 4, 2) := by decide +kernel
theorem dX4_wantsWith_16 : decode cX4_wantsWith 16 = .ok (.aload_n 0, 1) := by decide +kernel
theorem dX4_wantsWith_17 : decode cX4_wantsWith 17 = .ok (.getfield 39, 3) := by decide +kernel
theorem dX4_wantsWith_20 : decode cX4_wantsWith 20 = .ok (.invokevirtual 60, 3) := by decide +kernel
theorem dX4_wantsWith_23 : decode cX4_wantsWith 23 = .ok (.if_icmp .ge 28, 3) := by decide +kernel
theorem dX4_wantsWith_26 : decode cX4_wantsWith 26 = .ok (.iload 4, 2) := by decide +kernel
theorem dX4_wantsWith_28 : decode cX4_wantsWith 28 = .ok (.iload_n 2, 1) := by decide +kernel
theorem dX4_wantsWith_29 : decode cX4_wantsWith 29 = .ok (.invokestatic 66, 3) := by decide +kernel
theorem dX4_wantsWith_32 : decode cX4_wantsWith 32 = .ok (.ifCond .eq 13, 3) := by decide +kernel
theorem dX4_wantsWith_35 : decode cX4_wantsWith 35 = .ok (.aload_n 0, 1) := by decide +kernel
theorem dX4_wantsWith_36 : decode cX4_wantsWith 36 = .ok (.getfield 47, 3) := by decide +kernel
theorem dX4_wantsWith_39 : decode cX4_wantsWith 39 = .ok (.iload_n 1, 1) := by decide +kernel
theorem dX4_wantsWith_40 : decode cX4_wantsWith 40 = .ok (.iload 4, 2) := by decide +kernel
theorem dX4_wantsWith_42 : decode cX4_wantsWith 42 = .ok (.invokevirtual 70, 3) := by decide +kernel
theorem dX4_wantsWith_45 : decode cX4_wantsWith 45 = .ok (.iinc 4 1, 3) := by decide +kernel
theorem dX4_wantsWith_48 : decode cX4_wantsWith 48 = .ok (.goto (-34), 3) := by decide +kernel
theorem dX4_wantsWith_51 : decode cX4_wantsWith 51 = .ok (.aload_n 0, 1) := by decide +kernel
theorem dX4_wantsWith_52 : decode cX4_wantsWith 52 = .ok (.getfield 47, 3) := by decide +kernel
theorem dX4_wantsWith_55 : decode cX4_wantsWith 55 = .ok (.iload_n 1, 1) := by decide +kernel
theorem dX4_wantsWith_56 : decode cX4_wantsWith 56 = .ok (.iload_n 3, 1) := by decide +kernel
theorem dX4_wantsWith_57 : decode cX4_wantsWith 57 = .ok (.aload_n 0, 1) := by decide +kernel
theorem dX4_wantsWith_58 : decode cX4_wantsWith 58 = .ok (.getfield 39, 3) := by decide +kernel
theorem dX4_wantsWith_61 : decode cX4_wantsWith 61 = .ok (.invokevirtual 74, 3) := by decide +kernel
theorem dX4_wantsWith_64 : decode cX4_wantsWith 64 = .ok (.invokevirtual 78, 3) := by decide +kernel
theorem dX4_wantsWith_67 : decode cX4_wantsWith 67 = .ok (.aload_n 0, 1) := by decide +kernel
theorem dX4_wantsWith_68 : decode cX4_wantsWith 68 = .ok (.getfield 47, 3) := by decide +kernel
theorem dX4_wantsWith_71 : decode cX4_wantsWith 71 = .ok (.iload_n 1, 1) := by decide +kernel
theorem dX4_wantsWith_72 : decode cX4_wantsWith 72 = .ok (.invokevirtual 82, 3) := by decide +kernel
theorem dX4_wantsWith_75 : decode cX4_wantsWith 75 = .ok (.ireturn, 1) := by decide +kernel
theorem dX4_wantsBare_0 : decode cX4_wantsBare 0 = .ok (.aload_n 0, 1) := by decide +kernel
theorem dX4_wantsBare_1 : decode cX4_wantsBare 1 = .ok (.getfield 47, 3) := by decide +kernel
theorem dX4_wantsBare_4 : decode cX4_wantsBare 4 = .ok (.aload_n 0, 1) := by decide +kernel
theorem dX4_wantsBare_5 : decode cX4_wantsBare 5 = .ok (.getfield 43, 3) := by decide +kernel
theorem dX4_wantsBare_8 : decode cX4_wantsBare 8 = .ok (.invokevirtual 54, 3) := by decide +kernel
theorem dX4_wantsBare_11 : decode cX4_wantsBare 11 = .ok (.aload_n 0, 1) := by decide +kernel
theorem dX4_wantsBare_12 : decode cX4_wantsBare 12 = .ok (.getfield 47, 3) := by decide +kernel
theorem dX4_wantsBare_15 : decode cX4_wantsBare 15 = .ok (.iload_n 1, 1) := by decide +kernel
theorem dX4_wantsBare_16 : decode cX4_wantsBare 16 = .ok (.iload_n 2, 1) := by decide +kernel
theorem dX4_wantsBare_17 : decode cX4_wantsBare 17 = .ok (.invokevirtual 86, 3) := by decide +kernel
theorem dX4_wantsBare_20 : decode cX4_wantsBare 20 = .ok (.aload_n 0, 1) := by decide +kernel
theorem dX4_wantsBare_21 : decode cX4_wantsBare 21 = .ok (.getfield 47, 3) := by decide +kernel
theorem dX4_wantsBare_24 : decode cX4_wantsBare 24 = .ok (.iload_n 1, 1) := by decide +kernel
theorem dX4_wantsBare_25 : decode cX4_wantsBare 25 = .ok (.iload_n 3, 1) := by decide +kernel
theorem dX4_wantsBare_26 : decode cX4_wantsBare 26 = .ok (.aload_n 0, 1) := by decide +kernel
theorem dX4_wantsBare_27 : decode cX4_wantsBare 27 = .ok (.getfield 39, 3) := by decide +kernel
theorem dX4_wantsBare_30 : decode cX4_wantsBare 30 = .ok (.invokevirtual 74, 3) := by decide +kernel
theorem dX4_wantsBare_33 : decode cX4_wantsBare 33 = .ok (.invokevirtual 78, 3) := by decide +kernel
theorem dX4_wantsBare_36 : decode cX4_wantsBare 36 = .ok (.aload_n 0, 1) := by decide +kernel
theorem dX4_wantsBare_37 : decode cX4_wantsBare 37 = .ok (.getfield 47, 3) := by decide +kernel
theorem dX4_wantsBare_40 : decode cX4_wantsBare 40 = .ok (.iload_n 1, 1) := by decide +kernel
theorem dX4_wantsBare_41 : decode cX4_wantsBare 41 = .ok (.invokevirtual 82, 3) := by decide +kernel
theorem dX4_wantsBare_44 : decode cX4_wantsBare 44 = .ok (.ireturn, 1) := by decide +kernel
theorem dX4_free_0 : decode cX4_free 0 = .ok (.iconst 0, 1) := by decide +kernel
theorem dX4_free_1 : decode cX4_free 1 = .ok (.istore_n 2, 1) := by decide +kernel
theorem dX4_free_2 : decode cX4_free 2 = .ok (.iconst 0, 1) := by decide +kernel
theorem dX4_free_3 : decode cX4_free 3 = .ok (.istore_n 3, 1) := by decide +kernel
theorem dX4_free_4 : decode cX4_free 4 = .ok (.iload_n 3, 1) := by decide +kernel
theorem dX4_free_5 : decode cX4_free 5 = .ok (.aload_n 0, 1) := by decide +kernel
theorem dX4_free_6 : decode cX4_free 6 = .ok (.getfield 39, 3) := by decide +kernel
theorem dX4_free_9 : decode cX4_free 9 = .ok (.invokevirtual 60, 3) := by decide +kernel
theorem dX4_free_12 : decode cX4_free 12 = .ok (.if_icmp .ge 42, 3) := by decide +kernel
theorem dX4_free_15 : decode cX4_free 15 = .ok (.iload_n 2, 1) := by decide +kernel
theorem dX4_free_16 : decode cX4_free 16 = .ok (.aload_n 0, 1) := by decide +kernel
theorem dX4_free_17 : decode cX4_free 17 = .ok (.getfield 43, 3) := by decide +kernel
theorem dX4_free_20 : decode cX4_free 20 = .ok (.iload_n 3, 1) := by decide +kernel
theorem dX4_free_21 : decode cX4_free 21 = .ok (.invokevirtual 89, 3) := by decide +kernel
theorem dX4_free_24 : decode cX4_free 24 = .ok (.ifCond .le 21, 3) := by decide +kernel
theorem dX4_free_27 : decode cX4_free 27 = .ok (.aload_n 0, 1) := by decide +kernel
theorem dX4_free_28 : decode cX4_free 28 = .ok (.getfield 43, 3) := by decide +kernel
theorem dX4_free_31 : decode cX4_free 31 = .ok (.iload_n 1, 1) := by decide +kernel
theorem dX4_free_32 : decode cX4_free 32 = .ok (.iload_n 3, 1) := by decide +kernel
theorem dX4_free_33 : decode cX4_free 33 = .ok (.invokevirtual 92, 3) := by decide +kernel
theorem dX4_free_36 : decode cX4_free 36 = .ok (.ifCond .ne 9, 3) := by decide +kernel
theorem dX4_free_39 : decode cX4_free 39 = .ok (.iconst 1, 1) := by decide +kernel
theorem dX4_free_40 : decode cX4_free 40 = .ok (.iload_n 3, 1) := by decide +kernel
theorem dX4_free_41 : decode cX4_free 41 = .ok (.ishl, 1) := by decide +kernel
theorem dX4_free_42 : decode cX4_free 42 = .ok (.goto 4, 3) := by decide +kernel
theorem dX4_free_45 : decode cX4_free 45 = .ok (.iconst 0, 1) := by decide +kernel
theorem dX4_free_46 : decode cX4_free 46 = .ok (.ior, 1) := by decide +kernel
theorem dX4_free_47 : decode cX4_free 47 = .ok (.istore_n 2, 1) := by decide +kernel
theorem dX4_free_48 : decode cX4_free 48 = .ok (.iinc 3 1, 3) := by decide +kernel
theorem dX4_free_51 : decode cX4_free 51 = .ok (.goto (-47), 3) := by decide +kernel
theorem dX4_free_54 : decode cX4_free 54 = .ok (.iload_n 2, 1) := by decide +kernel
theorem dX4_free_55 : decode cX4_free 55 = .ok (.ireturn, 1) := by decide +kernel
theorem dX4_gradesOf_0 : decode cX4_gradesOf 0 = .ok (.iconst 0, 1) := by decide +kernel
theorem dX4_gradesOf_1 : decode cX4_gradesOf 1 = .ok (.istore_n 2, 1) := by decide +kernel
theorem dX4_gradesOf_2 : decode cX4_gradesOf 2 = .ok (.iconst 0, 1) := by decide +kernel
theorem dX4_gradesOf_3 : decode cX4_gradesOf 3 = .ok (.istore_n 3, 1) := by decide +kernel
theorem dX4_gradesOf_4 : decode cX4_gradesOf 4 = .ok (.iload_n 3, 1) := by decide +kernel
theorem dX4_gradesOf_5 : decode cX4_gradesOf 5 = .ok (.aload_n 0, 1) := by decide +kernel
theorem dX4_gradesOf_6 : decode cX4_gradesOf 6 = .ok (.getfield 39, 3) := by decide +kernel
theorem dX4_gradesOf_9 : decode cX4_gradesOf 9 = .ok (.invokevirtual 60, 3) := by decide +kernel
theorem dX4_gradesOf_12 : decode cX4_gradesOf 12 = .ok (.if_icmp .ge 32, 3) := by decide +kernel
theorem dX4_gradesOf_15 : decode cX4_gradesOf 15 = .ok (.iload_n 2, 1) := by decide +kernel
theorem dX4_gradesOf_16 : decode cX4_gradesOf 16 = .ok (.iload_n 3, 1) := by decide +kernel
theorem dX4_gradesOf_17 : decode cX4_gradesOf 17 = .ok (.iload_n 1, 1) := by decide +kernel
theorem dX4_gradesOf_18 : decode cX4_gradesOf 18 = .ok (.invokestatic 66, 3) := by decide +kernel
theorem dX4_gradesOf_21 : decode cX4_gradesOf 21 = .ok (.ifCond .eq 14, 3) := by decide +kernel
theorem dX4_gradesOf_24 : decode cX4_gradesOf 24 = .ok (.aload_n 0, 1) := by decide +kernel
theorem dX4_gradesOf_25 : decode cX4_gradesOf 25 = .ok (.getfield 39, 3) := by decide +kernel
theorem dX4_gradesOf_28 : decode cX4_gradesOf 28 = .ok (.iload_n 3, 1) := by decide +kernel
theorem dX4_gradesOf_29 : decode cX4_gradesOf 29 = .ok (.invokevirtual 95, 3) := by decide +kernel
theorem dX4_gradesOf_32 : decode cX4_gradesOf 32 = .ok (.goto 4, 3) := by decide +kernel
theorem dX4_gradesOf_35 : decode cX4_gradesOf 35 = .ok (.iconst 0, 1) := by decide +kernel
theorem dX4_gradesOf_36 : decode cX4_gradesOf 36 = .ok (.iadd, 1) := by decide +kernel
theorem dX4_gradesOf_37 : decode cX4_gradesOf 37 = .ok (.istore_n 2, 1) := by decide +kernel
theorem dX4_gradesOf_38 : decode cX4_gradesOf 38 = .ok (.iinc 3 1, 3) := by decide +kernel
theorem dX4_gradesOf_41 : decode cX4_gradesOf 41 = .ok (.goto (-37), 3) := by decide +kernel
theorem dX4_gradesOf_44 : decode cX4_gradesOf 44 = .ok (.iload_n 2, 1) := by decide +kernel
theorem dX4_gradesOf_45 : decode cX4_gradesOf 45 = .ok (.ireturn, 1) := by decide +kernel
theorem dX4_fewestFor_0 : decode cX4_fewestFor 0 = .ok (.aload_n 0, 1) := by decide +kernel
theorem dX4_fewestFor_1 : decode cX4_fewestFor 1 = .ok (.iload_n 1, 1) := by decide +kernel
theorem dX4_fewestFor_2 : decode cX4_fewestFor 2 = .ok (.invokevirtual 98, 3) := by decide +kernel
theorem dX4_fewestFor_5 : decode cX4_fewestFor 5 = .ok (.istore 4, 2) := by decide +kernel
theorem dX4_fewestFor_7 : decode cX4_fewestFor 7 = .ok (.bipush (-2), 2) := by decide +kernel
theorem dX4_fewestFor_9 : decode cX4_fewestFor 9 = .ok (.istore 5, 2) := by decide +kernel
theorem dX4_fewestFor_11 : decode cX4_fewestFor 11 = .ok (.iconst 0, 1) := by decide +kernel
theorem dX4_fewestFor_12 : decode cX4_fewestFor 12 = .ok (.istore 6, 2) := by decide +kernel
theorem dX4_fewestFor_14 : decode cX4_fewestFor 14 = .ok (.iload 6, 2) := by decide +kernel
theorem dX4_fewestFor_16 : decode cX4_fewestFor 16 = .ok (.iload 4, 2) := by decide +kernel
theorem dX4_fewestFor_18 : decode cX4_fewestFor 18 = .ok (.if_icmp .gt 66, 3) := by decide +kernel
theorem dX4_fewestFor_21 : decode cX4_fewestFor 21 = .ok (.iload 6, 2) := by decide +kernel
theorem dX4_fewestFor_23 : decode cX4_fewestFor 23 = .ok (.iload 4, 2) := by decide +kernel
theorem dX4_fewestFor_25 : decode cX4_fewestFor 25 = .ok (.iconst (-1), 1) := by decide +kernel
theorem dX4_fewestFor_26 : decode cX4_fewestFor 26 = .ok (.ixor, 1) := by decide +kernel
theorem dX4_fewestFor_27 : decode cX4_fewestFor 27 = .ok (.iand, 1) := by decide +kernel
theorem dX4_fewestFor_28 : decode cX4_fewestFor 28 = .ok (.ifCond .ne 18, 3) := by decide +kernel
theorem dX4_fewestFor_31 : decode cX4_fewestFor 31 = .ok (.aload_n 0, 1) := by decide +kernel
theorem dX4_fewestFor_32 : decode cX4_fewestFor 32 = .ok (.iload 6, 2) := by decide +kernel
theorem dX4_fewestFor_34 : decode cX4_fewestFor 34 = .ok (.iload 5, 2) := by decide +kernel
theorem dX4_fewestFor_36 : decode cX4_fewestFor 36 = .ok (.invokevirtual 101, 3) := by decide +kernel
theorem dX4_fewestFor_39 : decode cX4_fewestFor 39 = .ok (.ifCond .eq 7, 3) := by decide +kernel
theorem dX4_fewestFor_42 : decode cX4_fewestFor 42 = .ok (.iconst 1, 1) := by decide +kernel
theorem dX4_fewestFor_43 : decode cX4_fewestFor 43 = .ok (.goto 4, 3) := by decide +kernel
theorem dX4_fewestFor_46 : decode cX4_fewestFor 46 = .ok (.iconst 0, 1) := by decide +kernel
theorem dX4_fewestFor_47 : decode cX4_fewestFor 47 = .ok (.istore 7, 2) := by decide +kernel
theorem dX4_fewestFor_49 : decode cX4_fewestFor 49 = .ok (.iload 7, 2) := by decide +kernel
theorem dX4_fewestFor_51 : decode cX4_fewestFor 51 = .ok (.ifCond .eq 23, 3) := by decide +kernel
theorem dX4_fewestFor_54 : decode cX4_fewestFor 54 = .ok (.iload_n 2, 1) := by decide +kernel
theorem dX4_fewestFor_55 : decode cX4_fewestFor 55 = .ok (.aload_n 0, 1) := by decide +kernel
theorem dX4_fewestFor_56 : decode cX4_fewestFor 56 = .ok (.iload_n 1, 1) := by decide +kernel
theorem dX4_fewestFor_57 : decode cX4_fewestFor 57 = .ok (.iload 6, 2) := by decide +kernel
theorem dX4_fewestFor_59 : decode cX4_fewestFor 59 = .ok (.iload_n 3, 1) := by decide +kernel
theorem dX4_fewestFor_60 : decode cX4_fewestFor 60 = .ok (.invokevirtual 104, 3) := by decide +kernel
theorem dX4_fewestFor_63 : decode cX4_fewestFor 63 = .ok (.invokestatic 66, 3) := by decide +kernel
theorem dX4_fewestFor_66 : decode cX4_fewestFor 66 = .ok (.ifCond .eq 8, 3) := by decide +kernel
theorem dX4_fewestFor_69 : decode cX4_fewestFor 69 = .ok (.iload 6, 2) := by decide +kernel
theorem dX4_fewestFor_71 : decode cX4_fewestFor 71 = .ok (.goto 5, 3) := by decide +kernel
theorem dX4_fewestFor_74 : decode cX4_fewestFor 74 = .ok (.iload 5, 2) := by decide +kernel
theorem dX4_fewestFor_76 : decode cX4_fewestFor 76 = .ok (.istore 5, 2) := by decide +kernel
theorem dX4_fewestFor_78 : decode cX4_fewestFor 78 = .ok (.iinc 6 1, 3) := by decide +kernel
theorem dX4_fewestFor_81 : decode cX4_fewestFor 81 = .ok (.goto (-67), 3) := by decide +kernel
theorem dX4_fewestFor_84 : decode cX4_fewestFor 84 = .ok (.iload 5, 2) := by decide +kernel
theorem dX4_fewestFor_86 : decode cX4_fewestFor 86 = .ok (.ifCond .ge 6, 3) := by decide +kernel
theorem dX4_fewestFor_89 : decode cX4_fewestFor 89 = .ok (.bipush (-2), 2) := by decide +kernel
theorem dX4_fewestFor_91 : decode cX4_fewestFor 91 = .ok (.ireturn, 1) := by decide +kernel
theorem dX4_fewestFor_92 : decode cX4_fewestFor 92 = .ok (.aload_n 0, 1) := by decide +kernel
theorem dX4_fewestFor_93 : decode cX4_fewestFor 93 = .ok (.getfield 50, 3) := by decide +kernel
theorem dX4_fewestFor_96 : decode cX4_fewestFor 96 = .ok (.invokevirtual 108, 3) := by decide +kernel
theorem dX4_fewestFor_99 : decode cX4_fewestFor 99 = .ok (.aload_n 0, 1) := by decide +kernel
theorem dX4_fewestFor_100 : decode cX4_fewestFor 100 = .ok (.getfield 50, 3) := by decide +kernel
theorem dX4_fewestFor_103 : decode cX4_fewestFor 103 = .ok (.iload 5, 2) := by decide +kernel
theorem dX4_fewestFor_105 : decode cX4_fewestFor 105 = .ok (.i2l, 1) := by decide +kernel
theorem dX4_fewestFor_106 : decode cX4_fewestFor 106 = .ok (.invokevirtual 113, 3) := by decide +kernel
theorem dX4_fewestFor_109 : decode cX4_fewestFor 109 = .ok (.aload_n 0, 1) := by decide +kernel
theorem dX4_fewestFor_110 : decode cX4_fewestFor 110 = .ok (.getfield 50, 3) := by decide +kernel
theorem dX4_fewestFor_113 : decode cX4_fewestFor 113 = .ok (.aload_n 0, 1) := by decide +kernel
theorem dX4_fewestFor_114 : decode cX4_fewestFor 114 = .ok (.iload 5, 2) := by decide +kernel
theorem dX4_fewestFor_116 : decode cX4_fewestFor 116 = .ok (.invokevirtual 117, 3) := by decide +kernel
theorem dX4_fewestFor_119 : decode cX4_fewestFor 119 = .ok (.i2l, 1) := by decide +kernel
theorem dX4_fewestFor_120 : decode cX4_fewestFor 120 = .ok (.invokevirtual 113, 3) := by decide +kernel
theorem dX4_fewestFor_123 : decode cX4_fewestFor 123 = .ok (.iload 5, 2) := by decide +kernel
theorem dX4_fewestFor_125 : decode cX4_fewestFor 125 = .ok (.invokestatic 120, 3) := by decide +kernel
theorem dX4_fewestFor_128 : decode cX4_fewestFor 128 = .ok (.ireturn, 1) := by decide +kernel
theorem dX4_isLess_0 : decode cX4_isLess 0 = .ok (.iload_n 2, 1) := by decide +kernel
theorem dX4_isLess_1 : decode cX4_isLess 1 = .ok (.ifCond .ge 7, 3) := by decide +kernel
theorem dX4_isLess_4 : decode cX4_isLess 4 = .ok (.iconst (-1), 1) := by decide +kernel
theorem dX4_isLess_5 : decode cX4_isLess 5 = .ok (.goto 12, 3) := by decide +kernel
theorem dX4_isLess_8 : decode cX4_isLess 8 = .ok (.iload_n 1, 1) := by decide +kernel
theorem dX4_isLess_9 : decode cX4_isLess 9 = .ok (.invokestatic 120, 3) := by decide +kernel
theorem dX4_isLess_12 : decode cX4_isLess 12 = .ok (.iload_n 2, 1) := by decide +kernel
theorem dX4_isLess_13 : decode cX4_isLess 13 = .ok (.invokestatic 120, 3) := by decide +kernel
theorem dX4_isLess_16 : decode cX4_isLess 16 = .ok (.isub, 1) := by decide +kernel
theorem dX4_isLess_17 : decode cX4_isLess 17 = .ok (.istore_n 3, 1) := by decide +kernel
theorem dX4_isLess_18 : decode cX4_isLess 18 = .ok (.iload_n 3, 1) := by decide +kernel
theorem dX4_isLess_19 : decode cX4_isLess 19 = .ok (.ifCond .lt 20, 3) := by decide +kernel
theorem dX4_isLess_22 : decode cX4_isLess 22 = .ok (.iload_n 3, 1) := by decide +kernel
theorem dX4_isLess_23 : decode cX4_isLess 23 = .ok (.ifCond .ne 20, 3) := by decide +kernel
theorem dX4_isLess_26 : decode cX4_isLess 26 = .ok (.aload_n 0, 1) := by decide +kernel
theorem dX4_isLess_27 : decode cX4_isLess 27 = .ok (.iload_n 1, 1) := by decide +kernel
theorem dX4_isLess_28 : decode cX4_isLess 28 = .ok (.invokevirtual 117, 3) := by decide +kernel
theorem dX4_isLess_31 : decode cX4_isLess 31 = .ok (.aload_n 0, 1) := by decide +kernel
theorem dX4_isLess_32 : decode cX4_isLess 32 = .ok (.iload_n 2, 1) := by decide +kernel
theorem dX4_isLess_33 : decode cX4_isLess 33 = .ok (.invokevirtual 117, 3) := by decide +kernel
theorem dX4_isLess_36 : decode cX4_isLess 36 = .ok (.if_icmp .ge 7, 3) := by decide +kernel
theorem dX4_isLess_39 : decode cX4_isLess 39 = .ok (.iconst 1, 1) := by decide +kernel
theorem dX4_isLess_40 : decode cX4_isLess 40 = .ok (.goto 4, 3) := by decide +kernel
theorem dX4_isLess_43 : decode cX4_isLess 43 = .ok (.iconst 0, 1) := by decide +kernel
theorem dX4_isLess_44 : decode cX4_isLess 44 = .ok (.ireturn, 1) := by decide +kernel
theorem dX4_bestServing_0 : decode cX4_bestServing 0 = .ok (.aload_n 0, 1) := by decide +kernel
theorem dX4_bestServing_1 : decode cX4_bestServing 1 = .ok (.iload_n 1, 1) := by decide +kernel
theorem dX4_bestServing_2 : decode cX4_bestServing 2 = .ok (.invokevirtual 98, 3) := by decide +kernel
theorem dX4_bestServing_5 : decode cX4_bestServing 5 = .ok (.istore_n 3, 1) := by decide +kernel
theorem dX4_bestServing_6 : decode cX4_bestServing 6 = .ok (.bipush (-2), 2) := by decide +kernel
theorem dX4_bestServing_8 : decode cX4_bestServing 8 = .ok (.istore 4, 2) := by decide +kernel
theorem dX4_bestServing_10 : decode cX4_bestServing 10 = .ok (.iconst 0, 1) := by decide +kernel
theorem dX4_bestServing_11 : decode cX4_bestServing 11 = .ok (.istore 5, 2) := by decide +kernel
theorem dX4_bestServing_13 : decode cX4_bestServing 13 = .ok (.iconst 0, 1) := by decide +kernel
theorem dX4_bestServing_14 : decode cX4_bestServing 14 = .ok (.istore 6, 2) := by decide +kernel
theorem dX4_bestServing_16 : decode cX4_bestServing 16 = .ok (.iload 6, 2) := by decide +kernel
theorem dX4_bestServing_18 : decode cX4_bestServing 18 = .ok (.aload_n 0, 1) := by decide +kernel
theorem dX4_bestServing_19 : decode cX4_bestServing 19 = .ok (.getfield 39, 3) := by decide +kernel
theorem dX4_bestServing_22 : decode cX4_bestServing 22 = .ok (.invokevirtual 60, 3) := by decide +kernel
theorem dX4_bestServing_25 : decode cX4_bestServing 25 = .ok (.if_icmp .ge 56, 3) := by decide +kernel
theorem dX4_bestServing_28 : decode cX4_bestServing 28 = .ok (.iload 6, 2) := by decide +kernel
theorem dX4_bestServing_30 : decode cX4_bestServing 30 = .ok (.iload_n 3, 1) := by decide +kernel
theorem dX4_bestServing_31 : decode cX4_bestServing 31 = .ok (.invokestatic 66, 3) := by decide +kernel
theorem dX4_bestServing_34 : decode cX4_bestServing 34 = .ok (.ifCond .eq 41, 3) := by decide +kernel
theorem dX4_bestServing_37 : decode cX4_bestServing 37 = .ok (.aload_n 0, 1) := by decide +kernel
theorem dX4_bestServing_38 : decode cX4_bestServing 38 = .ok (.iload_n 1, 1) := by decide +kernel
theorem dX4_bestServing_39 : decode cX4_bestServing 39 = .ok (.iconst 1, 1) := by decide +kernel
theorem dX4_bestServing_40 : decode cX4_bestServing 40 = .ok (.iload 6, 2) := by decide +kernel
theorem dX4_bestServing_42 : decode cX4_bestServing 42 = .ok (.ishl, 1) := by decide +kernel
theorem dX4_bestServing_43 : decode cX4_bestServing 43 = .ok (.iload_n 2, 1) := by decide +kernel
theorem dX4_bestServing_44 : decode cX4_bestServing 44 = .ok (.invokevirtual 104, 3) := by decide +kernel
theorem dX4_bestServing_47 : decode cX4_bestServing 47 = .ok (.istore 7, 2) := by decide +kernel
theorem dX4_bestServing_49 : decode cX4_bestServing 49 = .ok (.iload 4, 2) := by decide +kernel
theorem dX4_bestServing_51 : decode cX4_bestServing 51 = .ok (.ifCond .lt 16, 3) := by decide +kernel
theorem dX4_bestServing_54 : decode cX4_bestServing 54 = .ok (.iload 7, 2) := by decide +kernel
theorem dX4_bestServing_56 : decode cX4_bestServing 56 = .ok (.invokestatic 120, 3) := by decide +kernel
theorem dX4_bestServing_59 : decode cX4_bestServing 59 = .ok (.iload 5, 2) := by decide +kernel
theorem dX4_bestServing_61 : decode cX4_bestServing 61 = .ok (.invokestatic 120, 3) := by decide +kernel
theorem dX4_bestServing_64 : decode cX4_bestServing 64 = .ok (.if_icmp .le 11, 3) := by decide +kernel
theorem dX4_bestServing_67 : decode cX4_bestServing 67 = .ok (.iload 6, 2) := by decide +kernel
theorem dX4_bestServing_69 : decode cX4_bestServing 69 = .ok (.istore 4, 2) := by decide +kernel
theorem dX4_bestServing_71 : decode cX4_bestServing 71 = .ok (.iload 7, 2) := by decide +kernel
theorem dX4_bestServing_73 : decode cX4_bestServing 73 = .ok (.istore 5, 2) := by decide +kernel
theorem dX4_bestServing_75 : decode cX4_bestServing 75 = .ok (.iinc 6 1, 3) := by decide +kernel
theorem dX4_bestServing_78 : decode cX4_bestServing 78 = .ok (.goto (-62), 3) := by decide +kernel
theorem dX4_bestServing_81 : decode cX4_bestServing 81 = .ok (.iload 4, 2) := by decide +kernel
theorem dX4_bestServing_83 : decode cX4_bestServing 83 = .ok (.ifCond .lt 35, 3) := by decide +kernel
theorem dX4_bestServing_86 : decode cX4_bestServing 86 = .ok (.aload_n 0, 1) := by decide +kernel
theorem dX4_bestServing_87 : decode cX4_bestServing 87 = .ok (.getfield 50, 3) := by decide +kernel
theorem dX4_bestServing_90 : decode cX4_bestServing 90 = .ok (.invokevirtual 108, 3) := by decide +kernel
theorem dX4_bestServing_93 : decode cX4_bestServing 93 = .ok (.aload_n 0, 1) := by decide +kernel
theorem dX4_bestServing_94 : decode cX4_bestServing 94 = .ok (.getfield 50, 3) := by decide +kernel
theorem dX4_bestServing_97 : decode cX4_bestServing 97 = .ok (.iload 5, 2) := by decide +kernel
theorem dX4_bestServing_99 : decode cX4_bestServing 99 = .ok (.i2l, 1) := by decide +kernel
theorem dX4_bestServing_100 : decode cX4_bestServing 100 = .ok (.invokevirtual 113, 3) := by decide +kernel
theorem dX4_bestServing_103 : decode cX4_bestServing 103 = .ok (.aload_n 0, 1) := by decide +kernel
theorem dX4_bestServing_104 : decode cX4_bestServing 104 = .ok (.getfield 50, 3) := by decide +kernel
theorem dX4_bestServing_107 : decode cX4_bestServing 107 = .ok (.aload_n 0, 1) := by decide +kernel
theorem dX4_bestServing_108 : decode cX4_bestServing 108 = .ok (.iload_n 1, 1) := by decide +kernel
theorem dX4_bestServing_109 : decode cX4_bestServing 109 = .ok (.iconst 0, 1) := by decide +kernel
theorem dX4_bestServing_110 : decode cX4_bestServing 110 = .ok (.iload_n 2, 1) := by decide +kernel
theorem dX4_bestServing_111 : decode cX4_bestServing 111 = .ok (.invokevirtual 104, 3) := by decide +kernel
theorem dX4_bestServing_114 : decode cX4_bestServing 114 = .ok (.i2l, 1) := by decide +kernel
theorem dX4_bestServing_115 : decode cX4_bestServing 115 = .ok (.invokevirtual 113, 3) := by decide +kernel
theorem dX4_bestServing_118 : decode cX4_bestServing 118 = .ok (.iload 4, 2) := by decide +kernel
theorem dX4_bestServing_120 : decode cX4_bestServing 120 = .ok (.ireturn, 1) := by decide +kernel
theorem dX4_worstHeld_0 : decode cX4_worstHeld 0 = .ok (.bipush (-2), 2) := by decide +kernel
theorem dX4_worstHeld_2 : decode cX4_worstHeld 2 = .ok (.istore_n 3, 1) := by decide +kernel
theorem dX4_worstHeld_3 : decode cX4_worstHeld 3 = .ok (.iconst 0, 1) := by decide +kernel
theorem dX4_worstHeld_4 : decode cX4_worstHeld 4 = .ok (.istore 4, 2) := by decide +kernel
theorem dX4_worstHeld_6 : decode cX4_worstHeld 6 = .ok (.iconst 0, 1) := by decide +kernel
theorem dX4_worstHeld_7 : decode cX4_worstHeld 7 = .ok (.istore 5, 2) := by decide +kernel
theorem dX4_worstHeld_9 : decode cX4_worstHeld 9 = .ok (.iload 5, 2) := by decide +kernel
theorem dX4_worstHeld_11 : decode cX4_worstHeld 11 = .ok (.aload_n 0, 1) := by decide +kernel
theorem dX4_worstHeld_12 : decode cX4_worstHeld 12 = .ok (.getfield 39, 3) := by decide +kernel
theorem dX4_worstHeld_15 : decode cX4_worstHeld 15 = .ok (.invokevirtual 60, 3) := by decide +kernel
theorem dX4_worstHeld_18 : decode cX4_worstHeld 18 = .ok (.if_icmp .ge 56, 3) := by decide +kernel
theorem dX4_worstHeld_21 : decode cX4_worstHeld 21 = .ok (.aload_n 0, 1) := by decide +kernel
theorem dX4_worstHeld_22 : decode cX4_worstHeld 22 = .ok (.getfield 43, 3) := by decide +kernel
theorem dX4_worstHeld_25 : decode cX4_worstHeld 25 = .ok (.iload_n 1, 1) := by decide +kernel
theorem dX4_worstHeld_26 : decode cX4_worstHeld 26 = .ok (.iload 5, 2) := by decide +kernel
theorem dX4_worstHeld_28 : decode cX4_worstHeld 28 = .ok (.invokevirtual 92, 3) := by decide +kernel
theorem dX4_worstHeld_31 : decode cX4_worstHeld 31 = .ok (.ifCond .eq 37, 3) := by decide +kernel
theorem dX4_worstHeld_34 : decode cX4_worstHeld 34 = .ok (.aload_n 0, 1) := by decide +kernel
theorem dX4_worstHeld_35 : decode cX4_worstHeld 35 = .ok (.iload_n 1, 1) := by decide +kernel
theorem dX4_worstHeld_36 : decode cX4_worstHeld 36 = .ok (.iload 5, 2) := by decide +kernel
theorem dX4_worstHeld_38 : decode cX4_worstHeld 38 = .ok (.iload_n 2, 1) := by decide +kernel
theorem dX4_worstHeld_39 : decode cX4_worstHeld 39 = .ok (.invokevirtual 125, 3) := by decide +kernel
theorem dX4_worstHeld_42 : decode cX4_worstHeld 42 = .ok (.istore 6, 2) := by decide +kernel
theorem dX4_worstHeld_44 : decode cX4_worstHeld 44 = .ok (.iload_n 3, 1) := by decide +kernel
theorem dX4_worstHeld_45 : decode cX4_worstHeld 45 = .ok (.ifCond .lt 16, 3) := by decide +kernel
theorem dX4_worstHeld_48 : decode cX4_worstHeld 48 = .ok (.iload 6, 2) := by decide +kernel
theorem dX4_worstHeld_50 : decode cX4_worstHeld 50 = .ok (.invokestatic 120, 3) := by decide +kernel
theorem dX4_worstHeld_53 : decode cX4_worstHeld 53 = .ok (.iload 4, 2) := by decide +kernel
theorem dX4_worstHeld_55 : decode cX4_worstHeld 55 = .ok (.invokestatic 120, 3) := by decide +kernel
theorem dX4_worstHeld_58 : decode cX4_worstHeld 58 = .ok (.if_icmp .le 10, 3) := by decide +kernel
theorem dX4_worstHeld_61 : decode cX4_worstHeld 61 = .ok (.iload 5, 2) := by decide +kernel
theorem dX4_worstHeld_63 : decode cX4_worstHeld 63 = .ok (.istore_n 3, 1) := by decide +kernel
theorem dX4_worstHeld_64 : decode cX4_worstHeld 64 = .ok (.iload 6, 2) := by decide +kernel
theorem dX4_worstHeld_66 : decode cX4_worstHeld 66 = .ok (.istore 4, 2) := by decide +kernel
theorem dX4_worstHeld_68 : decode cX4_worstHeld 68 = .ok (.iinc 5 1, 3) := by decide +kernel
theorem dX4_worstHeld_71 : decode cX4_worstHeld 71 = .ok (.goto (-62), 3) := by decide +kernel
theorem dX4_worstHeld_74 : decode cX4_worstHeld 74 = .ok (.iload_n 3, 1) := by decide +kernel
theorem dX4_worstHeld_75 : decode cX4_worstHeld 75 = .ok (.ifCond .lt 20, 3) := by decide +kernel
theorem dX4_worstHeld_78 : decode cX4_worstHeld 78 = .ok (.aload_n 0, 1) := by decide +kernel
theorem dX4_worstHeld_79 : decode cX4_worstHeld 79 = .ok (.getfield 50, 3) := by decide +kernel
theorem dX4_worstHeld_82 : decode cX4_worstHeld 82 = .ok (.invokevirtual 108, 3) := by decide +kernel
theorem dX4_worstHeld_85 : decode cX4_worstHeld 85 = .ok (.aload_n 0, 1) := by decide +kernel
theorem dX4_worstHeld_86 : decode cX4_worstHeld 86 = .ok (.getfield 50, 3) := by decide +kernel
theorem dX4_worstHeld_89 : decode cX4_worstHeld 89 = .ok (.iload 4, 2) := by decide +kernel
theorem dX4_worstHeld_91 : decode cX4_worstHeld 91 = .ok (.i2l, 1) := by decide +kernel
theorem dX4_worstHeld_92 : decode cX4_worstHeld 92 = .ok (.invokevirtual 113, 3) := by decide +kernel
theorem dX4_worstHeld_95 : decode cX4_worstHeld 95 = .ok (.iload_n 3, 1) := by decide +kernel
theorem dX4_worstHeld_96 : decode cX4_worstHeld 96 = .ok (.ireturn, 1) := by decide +kernel
theorem dX4_note_0 : decode cX4_note 0 = .ok (.aload_n 0, 1) := by decide +kernel
theorem dX4_note_1 : decode cX4_note 1 = .ok (.getfield 128, 3) := by decide +kernel
theorem dX4_note_4 : decode cX4_note 4 = .ok (.bipush 12, 2) := by decide +kernel
theorem dX4_note_6 : decode cX4_note 6 = .ok (.if_icmp .lt 5, 3) := by decide +kernel
theorem dX4_note_9 : decode cX4_note 9 = .ok (.iconst 0, 1) := by decide +kernel
theorem dX4_note_10 : decode cX4_note 10 = .ok (.ireturn, 1) := by decide +kernel
theorem dX4_note_11 : decode cX4_note 11 = .ok (.aload_n 0, 1) := by decide +kernel
theorem dX4_note_12 : decode cX4_note 12 = .ok (.getfield 11, 3) := by decide +kernel
theorem dX4_note_15 : decode cX4_note 15 = .ok (.aload_n 0, 1) := by decide +kernel
theorem dX4_note_16 : decode cX4_note 16 = .ok (.getfield 128, 3) := by decide +kernel
theorem dX4_note_19 : decode cX4_note 19 = .ok (.iload_n 1, 1) := by decide +kernel
theorem dX4_note_20 : decode cX4_note 20 = .ok (.iastore, 1) := by decide +kernel
theorem dX4_note_21 : decode cX4_note 21 = .ok (.aload_n 0, 1) := by decide +kernel
theorem dX4_note_22 : decode cX4_note 22 = .ok (.getfield 15, 3) := by decide +kernel
theorem dX4_note_25 : decode cX4_note 25 = .ok (.aload_n 0, 1) := by decide +kernel
theorem dX4_note_26 : decode cX4_note 26 = .ok (.getfield 128, 3) := by decide +kernel
theorem dX4_note_29 : decode cX4_note 29 = .ok (.iload_n 2, 1) := by decide +kernel
theorem dX4_note_30 : decode cX4_note 30 = .ok (.iastore, 1) := by decide +kernel
theorem dX4_note_31 : decode cX4_note 31 = .ok (.aload_n 0, 1) := by decide +kernel
theorem dX4_note_32 : decode cX4_note 32 = .ok (.getfield 18, 3) := by decide +kernel
theorem dX4_note_35 : decode cX4_note 35 = .ok (.aload_n 0, 1) := by decide +kernel
theorem dX4_note_36 : decode cX4_note 36 = .ok (.getfield 128, 3) := by decide +kernel
theorem dX4_note_39 : decode cX4_note 39 = .ok (.iload_n 3, 1) := by decide +kernel
theorem dX4_note_40 : decode cX4_note 40 = .ok (.iastore, 1) := by decide +kernel
theorem dX4_note_41 : decode cX4_note 41 = .ok (.aload_n 0, 1) := by decide +kernel
theorem dX4_note_42 : decode cX4_note 42 = .ok (.dup, 1) := by decide +kernel
theorem dX4_note_43 : decode cX4_note 43 = .ok (.getfield 128, 3) := by decide +kernel
theorem dX4_note_46 : decode cX4_note 46 = .ok (.iconst 1, 1) := by decide +kernel
theorem dX4_note_47 : decode cX4_note 47 = .ok (.iadd, 1) := by decide +kernel
theorem dX4_note_48 : decode cX4_note 48 = .ok (.putfield 128, 3) := by decide +kernel
theorem dX4_note_51 : decode cX4_note 51 = .ok (.iconst 1, 1) := by decide +kernel
theorem dX4_note_52 : decode cX4_note 52 = .ok (.ireturn, 1) := by decide +kernel
theorem dX4_notes_0 : decode cX4_notes 0 = .ok (.aload_n 0, 1) := by decide +kernel
theorem dX4_notes_1 : decode cX4_notes 1 = .ok (.getfield 128, 3) := by decide +kernel
theorem dX4_notes_4 : decode cX4_notes 4 = .ok (.ireturn, 1) := by decide +kernel
theorem dX4_dropNotes_0 : decode cX4_dropNotes 0 = .ok (.aload_n 0, 1) := by decide +kernel
theorem dX4_dropNotes_1 : decode cX4_dropNotes 1 = .ok (.getfield 128, 3) := by decide +kernel
theorem dX4_dropNotes_4 : decode cX4_dropNotes 4 = .ok (.istore_n 1, 1) := by decide +kernel
theorem dX4_dropNotes_5 : decode cX4_dropNotes 5 = .ok (.aload_n 0, 1) := by decide +kernel
theorem dX4_dropNotes_6 : decode cX4_dropNotes 6 = .ok (.iconst 0, 1) := by decide +kernel
theorem dX4_dropNotes_7 : decode cX4_dropNotes 7 = .ok (.putfield 128, 3) := by decide +kernel
theorem dX4_dropNotes_10 : decode cX4_dropNotes 10 = .ok (.iload_n 1, 1) := by decide +kernel
theorem dX4_dropNotes_11 : decode cX4_dropNotes 11 = .ok (.ireturn, 1) := by decide +kernel
theorem dX4_wouldFit_0 : decode cX4_wouldFit 0 = .ok (.iconst 0, 1) := by decide +kernel
theorem dX4_wouldFit_1 : decode cX4_wouldFit 1 = .ok (.istore_n 2, 1) := by decide +kernel
theorem dX4_wouldFit_2 : decode cX4_wouldFit 2 = .ok (.iconst 0, 1) := by decide +kernel
theorem dX4_wouldFit_3 : decode cX4_wouldFit 3 = .ok (.istore_n 3, 1) := by decide +kernel
theorem dX4_wouldFit_4 : decode cX4_wouldFit 4 = .ok (.iload_n 3, 1) := by decide +kernel
theorem dX4_wouldFit_5 : decode cX4_wouldFit 5 = .ok (.aload_n 0, 1) := by decide +kernel
theorem dX4_wouldFit_6 : decode cX4_wouldFit 6 = .ok (.getfield 128, 3) := by decide +kernel
theorem dX4_wouldFit_9 : decode cX4_wouldFit 9 = .ok (.if_icmp .ge 20, 3) := by decide +kernel
theorem dX4_wouldFit_12 : decode cX4_wouldFit 12 = .ok (.iload_n 2, 1) := by decide +kernel
theorem dX4_wouldFit_13 : decode cX4_wouldFit 13 = .ok (.aload_n 0, 1) := by decide +kernel
theorem dX4_wouldFit_14 : decode cX4_wouldFit 14 = .ok (.getfield 11, 3) := by decide +kernel
theorem dX4_wouldFit_17 : decode cX4_wouldFit 17 = .ok (.iload_n 3, 1) := by decide +kernel
theorem dX4_wouldFit_18 : decode cX4_wouldFit 18 = .ok (.iaload, 1) := by decide +kernel
theorem dX4_wouldFit_19 : decode cX4_wouldFit 19 = .ok (.invokestatic 132, 3) := by decide +kernel
theorem dX4_wouldFit_22 : decode cX4_wouldFit 22 = .ok (.istore_n 2, 1) := by decide +kernel
theorem dX4_wouldFit_23 : decode cX4_wouldFit 23 = .ok (.iinc 3 1, 3) := by decide +kernel
theorem dX4_wouldFit_26 : decode cX4_wouldFit 26 = .ok (.goto (-22), 3) := by decide +kernel
theorem dX4_wouldFit_29 : decode cX4_wouldFit 29 = .ok (.iconst 0, 1) := by decide +kernel
theorem dX4_wouldFit_30 : decode cX4_wouldFit 30 = .ok (.istore_n 3, 1) := by decide +kernel
theorem dX4_wouldFit_31 : decode cX4_wouldFit 31 = .ok (.iload_n 3, 1) := by decide +kernel
theorem dX4_wouldFit_32 : decode cX4_wouldFit 32 = .ok (.iload_n 2, 1) := by decide +kernel
theorem dX4_wouldFit_33 : decode cX4_wouldFit 33 = .ok (.if_icmp .gt 81, 3) := by decide +kernel
theorem dX4_wouldFit_36 : decode cX4_wouldFit 36 = .ok (.iconst 0, 1) := by decide +kernel
theorem dX4_wouldFit_37 : decode cX4_wouldFit 37 = .ok (.istore 4, 2) := by decide +kernel
theorem dX4_wouldFit_39 : decode cX4_wouldFit 39 = .ok (.iload 4, 2) := by decide +kernel
theorem dX4_wouldFit_41 : decode cX4_wouldFit 41 = .ok (.aload_n 0, 1) := by decide +kernel
theorem dX4_wouldFit_42 : decode cX4_wouldFit 42 = .ok (.getfield 128, 3) := by decide +kernel
theorem dX4_wouldFit_45 : decode cX4_wouldFit 45 = .ok (.if_icmp .ge 47, 3) := by decide +kernel
theorem dX4_wouldFit_48 : decode cX4_wouldFit 48 = .ok (.aload_n 0, 1) := by decide +kernel
theorem dX4_wouldFit_49 : decode cX4_wouldFit 49 = .ok (.getfield 11, 3) := by decide +kernel
theorem dX4_wouldFit_52 : decode cX4_wouldFit 52 = .ok (.iload 4, 2) := by decide +kernel
theorem dX4_wouldFit_54 : decode cX4_wouldFit 54 = .ok (.iaload, 1) := by decide +kernel
theorem dX4_wouldFit_55 : decode cX4_wouldFit 55 = .ok (.iload_n 3, 1) := by decide +kernel
theorem dX4_wouldFit_56 : decode cX4_wouldFit 56 = .ok (.if_icmp .ne 30, 3) := by decide +kernel
theorem dX4_wouldFit_59 : decode cX4_wouldFit 59 = .ok (.aload_n 0, 1) := by decide +kernel
theorem dX4_wouldFit_60 : decode cX4_wouldFit 60 = .ok (.getfield 47, 3) := by decide +kernel
theorem dX4_wouldFit_63 : decode cX4_wouldFit 63 = .ok (.iload_n 1, 1) := by decide +kernel
theorem dX4_wouldFit_64 : decode cX4_wouldFit 64 = .ok (.aload_n 0, 1) := by decide +kernel
theorem dX4_wouldFit_65 : decode cX4_wouldFit 65 = .ok (.getfield 15, 3) := by decide +kernel
theorem dX4_wouldFit_68 : decode cX4_wouldFit 68 = .ok (.iload 4, 2) := by decide +kernel
theorem dX4_wouldFit_70 : decode cX4_wouldFit 70 = .ok (.iaload, 1) := by decide +kernel
theorem dX4_wouldFit_71 : decode cX4_wouldFit 71 = .ok (.invokevirtual 138, 3) := by decide +kernel
theorem dX4_wouldFit_74 : decode cX4_wouldFit 74 = .ok (.aload_n 0, 1) := by decide +kernel
theorem dX4_wouldFit_75 : decode cX4_wouldFit 75 = .ok (.getfield 18, 3) := by decide +kernel
theorem dX4_wouldFit_78 : decode cX4_wouldFit 78 = .ok (.iload 4, 2) := by decide +kernel
theorem dX4_wouldFit_80 : decode cX4_wouldFit 80 = .ok (.iaload, 1) := by decide +kernel
theorem dX4_wouldFit_81 : decode cX4_wouldFit 81 = .ok (.if_icmp .eq 5, 3) := by decide +kernel
theorem dX4_wouldFit_84 : decode cX4_wouldFit 84 = .ok (.iconst 0, 1) := by decide +kernel
theorem dX4_wouldFit_85 : decode cX4_wouldFit 85 = .ok (.ireturn, 1) := by decide +kernel
theorem dX4_wouldFit_86 : decode cX4_wouldFit 86 = .ok (.iinc 4 1, 3) := by decide +kernel
theorem dX4_wouldFit_89 : decode cX4_wouldFit 89 = .ok (.goto (-50), 3) := by decide +kernel
theorem dX4_wouldFit_92 : decode cX4_wouldFit 92 = .ok (.aload_n 0, 1) := by decide +kernel
theorem dX4_wouldFit_93 : decode cX4_wouldFit 93 = .ok (.getfield 47, 3) := by decide +kernel
theorem dX4_wouldFit_96 : decode cX4_wouldFit 96 = .ok (.iload_n 1, 1) := by decide +kernel
theorem dX4_wouldFit_97 : decode cX4_wouldFit 97 = .ok (.iconst 1, 1) := by decide +kernel
theorem dX4_wouldFit_98 : decode cX4_wouldFit 98 = .ok (.aload_n 0, 1) := by decide +kernel
theorem dX4_wouldFit_99 : decode cX4_wouldFit 99 = .ok (.getfield 39, 3) := by decide +kernel
theorem dX4_wouldFit_102 : decode cX4_wouldFit 102 = .ok (.invokevirtual 74, 3) := by decide +kernel
theorem dX4_wouldFit_105 : decode cX4_wouldFit 105 = .ok (.invokevirtual 78, 3) := by decide +kernel
theorem dX4_wouldFit_108 : decode cX4_wouldFit 108 = .ok (.iinc 3 1, 3) := by decide +kernel
theorem dX4_wouldFit_111 : decode cX4_wouldFit 111 = .ok (.goto (-80), 3) := by decide +kernel
theorem dX4_wouldFit_114 : decode cX4_wouldFit 114 = .ok (.iconst 1, 1) := by decide +kernel
theorem dX4_wouldFit_115 : decode cX4_wouldFit 115 = .ok (.ireturn, 1) := by decide +kernel
theorem dX4_fitting_0 : decode cX4_fitting 0 = .ok (.iconst 0, 1) := by decide +kernel
theorem dX4_fitting_1 : decode cX4_fitting 1 = .ok (.istore_n 2, 1) := by decide +kernel
theorem dX4_fitting_2 : decode cX4_fitting 2 = .ok (.iconst 0, 1) := by decide +kernel
theorem dX4_fitting_3 : decode cX4_fitting 3 = .ok (.istore_n 3, 1) := by decide +kernel
theorem dX4_fitting_4 : decode cX4_fitting 4 = .ok (.iload_n 3, 1) := by decide +kernel
theorem dX4_fitting_5 : decode cX4_fitting 5 = .ok (.aload_n 0, 1) := by decide +kernel
theorem dX4_fitting_6 : decode cX4_fitting 6 = .ok (.getfield 39, 3) := by decide +kernel
theorem dX4_fitting_9 : decode cX4_fitting 9 = .ok (.invokevirtual 60, 3) := by decide +kernel
theorem dX4_fitting_12 : decode cX4_fitting 12 = .ok (.if_icmp .ge 59, 3) := by decide +kernel
theorem dX4_fitting_15 : decode cX4_fitting 15 = .ok (.aload_n 0, 1) := by decide +kernel
theorem dX4_fitting_16 : decode cX4_fitting 16 = .ok (.getfield 43, 3) := by decide +kernel
theorem dX4_fitting_19 : decode cX4_fitting 19 = .ok (.iload_n 1, 1) := by decide +kernel
theorem dX4_fitting_20 : decode cX4_fitting 20 = .ok (.iload_n 3, 1) := by decide +kernel
theorem dX4_fitting_21 : decode cX4_fitting 21 = .ok (.invokevirtual 92, 3) := by decide +kernel
theorem dX4_fitting_24 : decode cX4_fitting 24 = .ok (.ifCond .ne 41, 3) := by decide +kernel
theorem dX4_fitting_27 : decode cX4_fitting 27 = .ok (.aload_n 0, 1) := by decide +kernel
theorem dX4_fitting_28 : decode cX4_fitting 28 = .ok (.getfield 47, 3) := by decide +kernel
theorem dX4_fitting_31 : decode cX4_fitting 31 = .ok (.aload_n 0, 1) := by decide +kernel
theorem dX4_fitting_32 : decode cX4_fitting 32 = .ok (.getfield 43, 3) := by decide +kernel
theorem dX4_fitting_35 : decode cX4_fitting 35 = .ok (.invokevirtual 54, 3) := by decide +kernel
theorem dX4_fitting_38 : decode cX4_fitting 38 = .ok (.aload_n 0, 1) := by decide +kernel
theorem dX4_fitting_39 : decode cX4_fitting 39 = .ok (.getfield 47, 3) := by decide +kernel
theorem dX4_fitting_42 : decode cX4_fitting 42 = .ok (.iload_n 1, 1) := by decide +kernel
theorem dX4_fitting_43 : decode cX4_fitting 43 = .ok (.iload_n 3, 1) := by decide +kernel
theorem dX4_fitting_44 : decode cX4_fitting 44 = .ok (.invokevirtual 70, 3) := by decide +kernel
theorem dX4_fitting_47 : decode cX4_fitting 47 = .ok (.iload_n 2, 1) := by decide +kernel
theorem dX4_fitting_48 : decode cX4_fitting 48 = .ok (.aload_n 0, 1) := by decide +kernel
theorem dX4_fitting_49 : decode cX4_fitting 49 = .ok (.iload_n 1, 1) := by decide +kernel
theorem dX4_fitting_50 : decode cX4_fitting 50 = .ok (.invokevirtual 141, 3) := by decide +kernel
theorem dX4_fitting_53 : decode cX4_fitting 53 = .ok (.ifCond .eq 9, 3) := by decide +kernel
theorem dX4_fitting_56 : decode cX4_fitting 56 = .ok (.iconst 1, 1) := by decide +kernel
theorem dX4_fitting_57 : decode cX4_fitting 57 = .ok (.iload_n 3, 1) := by decide +kernel
theorem dX4_fitting_58 : decode cX4_fitting 58 = .ok (.ishl, 1) := by decide +kernel
theorem dX4_fitting_59 : decode cX4_fitting 59 = .ok (.goto 4, 3) := by decide +kernel
theorem dX4_fitting_62 : decode cX4_fitting 62 = .ok (.iconst 0, 1) := by decide +kernel
theorem dX4_fitting_63 : decode cX4_fitting 63 = .ok (.ior, 1) := by decide +kernel
theorem dX4_fitting_64 : decode cX4_fitting 64 = .ok (.istore_n 2, 1) := by decide +kernel
theorem dX4_fitting_65 : decode cX4_fitting 65 = .ok (.iinc 3 1, 3) := by decide +kernel
theorem dX4_fitting_68 : decode cX4_fitting 68 = .ok (.goto (-64), 3) := by decide +kernel
theorem dX4_fitting_71 : decode cX4_fitting 71 = .ok (.iload_n 2, 1) := by decide +kernel
theorem dX4_fitting_72 : decode cX4_fitting 72 = .ok (.ireturn, 1) := by decide +kernel
theorem dX4_fitsBare_0 : decode cX4_fitsBare 0 = .ok (.aload_n 0, 1) := by decide +kernel
theorem dX4_fitsBare_1 : decode cX4_fitsBare 1 = .ok (.getfield 47, 3) := by decide +kernel
theorem dX4_fitsBare_4 : decode cX4_fitsBare 4 = .ok (.aload_n 0, 1) := by decide +kernel
theorem dX4_fitsBare_5 : decode cX4_fitsBare 5 = .ok (.getfield 43, 3) := by decide +kernel
theorem dX4_fitsBare_8 : decode cX4_fitsBare 8 = .ok (.invokevirtual 54, 3) := by decide +kernel
theorem dX4_fitsBare_11 : decode cX4_fitsBare 11 = .ok (.aload_n 0, 1) := by decide +kernel
theorem dX4_fitsBare_12 : decode cX4_fitsBare 12 = .ok (.iload_n 1, 1) := by decide +kernel
theorem dX4_fitsBare_13 : decode cX4_fitsBare 13 = .ok (.invokevirtual 141, 3) := by decide +kernel
theorem dX4_fitsBare_16 : decode cX4_fitsBare 16 = .ok (.ireturn, 1) := by decide +kernel
theorem dX4_bestLook_0 : decode cX4_bestLook 0 = .ok (.aload_n 0, 1) := by decide +kernel
theorem dX4_bestLook_1 : decode cX4_bestLook 1 = .ok (.getfield 21, 3) := by decide +kernel
theorem dX4_bestLook_4 : decode cX4_bestLook 4 = .ok (.iconst 0, 1) := by decide +kernel
theorem dX4_bestLook_5 : decode cX4_bestLook 5 = .ok (.invokestatic 145, 3) := by decide +kernel
theorem dX4_bestLook_8 : decode cX4_bestLook 8 = .ok (.iconst 0, 1) := by decide +kernel
theorem dX4_bestLook_9 : decode cX4_bestLook 9 = .ok (.istore 4, 2) := by decide +kernel
theorem dX4_bestLook_11 : decode cX4_bestLook 11 = .ok (.iload 4, 2) := by decide +kernel
theorem dX4_bestLook_13 : decode cX4_bestLook 13 = .ok (.aload_n 0, 1) := by decide +kernel
theorem dX4_bestLook_14 : decode cX4_bestLook 14 = .ok (.getfield 39, 3) := by decide +kernel
theorem dX4_bestLook_17 : decode cX4_bestLook 17 = .ok (.invokevirtual 60, 3) := by decide +kernel
theorem dX4_bestLook_20 : decode cX4_bestLook 20 = .ok (.if_icmp .ge 34, 3) := by decide +kernel
theorem dX4_bestLook_23 : decode cX4_bestLook 23 = .ok (.iload 4, 2) := by decide +kernel
theorem dX4_bestLook_25 : decode cX4_bestLook 25 = .ok (.iload_n 3, 1) := by decide +kernel
theorem dX4_bestLook_26 : decode cX4_bestLook 26 = .ok (.invokestatic 66, 3) := by decide +kernel
theorem dX4_bestLook_29 : decode cX4_bestLook 29 = .ok (.ifCond .eq 19, 3) := by decide +kernel
theorem dX4_bestLook_32 : decode cX4_bestLook 32 = .ok (.aload_n 0, 1) := by decide +kernel
theorem dX4_bestLook_33 : decode cX4_bestLook 33 = .ok (.iload_n 1, 1) := by decide +kernel
theorem dX4_bestLook_34 : decode cX4_bestLook 34 = .ok (.iconst 1, 1) := by decide +kernel
theorem dX4_bestLook_35 : decode cX4_bestLook 35 = .ok (.iload 4, 2) := by decide +kernel
theorem dX4_bestLook_37 : decode cX4_bestLook 37 = .ok (.ishl, 1) := by decide +kernel
theorem dX4_bestLook_38 : decode cX4_bestLook 38 = .ok (.iload_n 2, 1) := by decide +kernel
theorem dX4_bestLook_39 : decode cX4_bestLook 39 = .ok (.invokevirtual 104, 3) := by decide +kernel
theorem dX4_bestLook_42 : decode cX4_bestLook 42 = .ok (.pop, 1) := by decide +kernel
theorem dX4_bestLook_43 : decode cX4_bestLook 43 = .ok (.aload_n 0, 1) := by decide +kernel
theorem dX4_bestLook_44 : decode cX4_bestLook 44 = .ok (.iload_n 1, 1) := by decide +kernel
theorem dX4_bestLook_45 : decode cX4_bestLook 45 = .ok (.invokevirtual 151, 3) := by decide +kernel
theorem dX4_bestLook_48 : decode cX4_bestLook 48 = .ok (.iinc 4 1, 3) := by decide +kernel
theorem dX4_bestLook_51 : decode cX4_bestLook 51 = .ok (.goto (-40), 3) := by decide +kernel
theorem dX4_bestLook_54 : decode cX4_bestLook 54 = .ok (.iconst 0, 1) := by decide +kernel
theorem dX4_bestLook_55 : decode cX4_bestLook 55 = .ok (.istore 4, 2) := by decide +kernel
theorem dX4_bestLook_57 : decode cX4_bestLook 57 = .ok (.iconst 1, 1) := by decide +kernel
theorem dX4_bestLook_58 : decode cX4_bestLook 58 = .ok (.istore 5, 2) := by decide +kernel
theorem dX4_bestLook_60 : decode cX4_bestLook 60 = .ok (.iload 5, 2) := by decide +kernel
theorem dX4_bestLook_62 : decode cX4_bestLook 62 = .ok (.iconst 4, 1) := by decide +kernel
theorem dX4_bestLook_63 : decode cX4_bestLook 63 = .ok (.if_icmp .ge 33, 3) := by decide +kernel
theorem dX4_bestLook_66 : decode cX4_bestLook 66 = .ok (.aload_n 0, 1) := by decide +kernel
theorem dX4_bestLook_67 : decode cX4_bestLook 67 = .ok (.iload 5, 2) := by decide +kernel
theorem dX4_bestLook_69 : decode cX4_bestLook 69 = .ok (.invokevirtual 155, 3) := by decide +kernel
theorem dX4_bestLook_72 : decode cX4_bestLook 72 = .ok (.aload_n 0, 1) := by decide +kernel
theorem dX4_bestLook_73 : decode cX4_bestLook 73 = .ok (.iload 4, 2) := by decide +kernel
theorem dX4_bestLook_75 : decode cX4_bestLook 75 = .ok (.invokevirtual 155, 3) := by decide +kernel
theorem dX4_bestLook_78 : decode cX4_bestLook 78 = .ok (.if_icmp .ge 8, 3) := by decide +kernel
theorem dX4_bestLook_81 : decode cX4_bestLook 81 = .ok (.iload 5, 2) := by decide +kernel
theorem dX4_bestLook_83 : decode cX4_bestLook 83 = .ok (.goto 5, 3) := by decide +kernel
theorem dX4_bestLook_86 : decode cX4_bestLook 86 = .ok (.iload 4, 2) := by decide +kernel
theorem dX4_bestLook_88 : decode cX4_bestLook 88 = .ok (.istore 4, 2) := by decide +kernel
theorem dX4_bestLook_90 : decode cX4_bestLook 90 = .ok (.iinc 5 1, 3) := by decide +kernel
theorem dX4_bestLook_93 : decode cX4_bestLook 93 = .ok (.goto (-33), 3) := by decide +kernel
theorem dX4_bestLook_96 : decode cX4_bestLook 96 = .ok (.aload_n 0, 1) := by decide +kernel
theorem dX4_bestLook_97 : decode cX4_bestLook 97 = .ok (.getfield 50, 3) := by decide +kernel
theorem dX4_bestLook_100 : decode cX4_bestLook 100 = .ok (.invokevirtual 108, 3) := by decide +kernel
theorem dX4_bestLook_103 : decode cX4_bestLook 103 = .ok (.aload_n 0, 1) := by decide +kernel
theorem dX4_bestLook_104 : decode cX4_bestLook 104 = .ok (.getfield 50, 3) := by decide +kernel
theorem dX4_bestLook_107 : decode cX4_bestLook 107 = .ok (.aload_n 0, 1) := by decide +kernel
theorem dX4_bestLook_108 : decode cX4_bestLook 108 = .ok (.iload 4, 2) := by decide +kernel
theorem dX4_bestLook_110 : decode cX4_bestLook 110 = .ok (.invokevirtual 155, 3) := by decide +kernel
theorem dX4_bestLook_113 : decode cX4_bestLook 113 = .ok (.i2l, 1) := by decide +kernel
theorem dX4_bestLook_114 : decode cX4_bestLook 114 = .ok (.invokevirtual 113, 3) := by decide +kernel
theorem dX4_bestLook_117 : decode cX4_bestLook 117 = .ok (.iload 4, 2) := by decide +kernel
theorem dX4_bestLook_119 : decode cX4_bestLook 119 = .ok (.ireturn, 1) := by decide +kernel
theorem dX4_tallyHumours_0 : decode cX4_tallyHumours 0 = .ok (.iconst 0, 1) := by decide +kernel
theorem dX4_tallyHumours_1 : decode cX4_tallyHumours 1 = .ok (.istore_n 2, 1) := by decide +kernel
theorem dX4_tallyHumours_2 : decode cX4_tallyHumours 2 = .ok (.iload_n 2, 1) := by decide +kernel
theorem dX4_tallyHumours_3 : decode cX4_tallyHumours 3 = .ok (.iconst 4, 1) := by decide +kernel
theorem dX4_tallyHumours_4 : decode cX4_tallyHumours 4 = .ok (.if_icmp .ge 38, 3) := by decide +kernel
theorem dX4_tallyHumours_7 : decode cX4_tallyHumours 7 = .ok (.aload_n 0, 1) := by decide +kernel
theorem dX4_tallyHumours_8 : decode cX4_tallyHumours 8 = .ok (.getfield 21, 3) := by decide +kernel
theorem dX4_tallyHumours_11 : decode cX4_tallyHumours 11 = .ok (.iload_n 2, 1) := by decide +kernel
theorem dX4_tallyHumours_12 : decode cX4_tallyHumours 12 = .ok (.bipush 10, 2) := by decide +kernel
theorem dX4_tallyHumours_14 : decode cX4_tallyHumours 14 = .ok (.imul, 1) := by decide +kernel
theorem dX4_tallyHumours_15 : decode cX4_tallyHumours 15 = .ok (.aload_n 0, 1) := by decide +kernel
theorem dX4_tallyHumours_16 : decode cX4_tallyHumours 16 = .ok (.getfield 47, 3) := by decide +kernel
theorem dX4_tallyHumours_19 : decode cX4_tallyHumours 19 = .ok (.iload_n 1, 1) := by decide +kernel
theorem dX4_tallyHumours_20 : decode cX4_tallyHumours 20 = .ok (.iload_n 2, 1) := by decide +kernel
theorem dX4_tallyHumours_21 : decode cX4_tallyHumours 21 = .ok (.invokevirtual 138, 3) := by decide +kernel
theorem dX4_tallyHumours_24 : decode cX4_tallyHumours 24 = .ok (.iconst 0, 1) := by decide +kernel
theorem dX4_tallyHumours_25 : decode cX4_tallyHumours 25 = .ok (.bipush 9, 2) := by decide +kernel
theorem dX4_tallyHumours_27 : decode cX4_tallyHumours 27 = .ok (.invokestatic 158, 3) := by decide +kernel
theorem dX4_tallyHumours_30 : decode cX4_tallyHumours 30 = .ok (.iadd, 1) := by decide +kernel
theorem dX4_tallyHumours_31 : decode cX4_tallyHumours 31 = .ok (.dup2, 1) := by decide +kernel
theorem dX4_tallyHumours_32 : decode cX4_tallyHumours 32 = .ok (.iaload, 1) := by decide +kernel
theorem dX4_tallyHumours_33 : decode cX4_tallyHumours 33 = .ok (.iconst 1, 1) := by decide +kernel
theorem dX4_tallyHumours_34 : decode cX4_tallyHumours 34 = .ok (.iadd, 1) := by decide +kernel
theorem dX4_tallyHumours_35 : decode cX4_tallyHumours 35 = .ok (.iastore, 1) := by decide +kernel
theorem dX4_tallyHumours_36 : decode cX4_tallyHumours 36 = .ok (.iinc 2 1, 3) := by decide +kernel
theorem dX4_tallyHumours_39 : decode cX4_tallyHumours 39 = .ok (.goto (-37), 3) := by decide +kernel
theorem dX4_tallyHumours_42 : decode cX4_tallyHumours 42 = .ok (.return_, 1) := by decide +kernel
theorem dX4_mostLeft_0 : decode cX4_mostLeft 0 = .ok (.iconst 0, 1) := by decide +kernel
theorem dX4_mostLeft_1 : decode cX4_mostLeft 1 = .ok (.istore_n 2, 1) := by decide +kernel
theorem dX4_mostLeft_2 : decode cX4_mostLeft 2 = .ok (.iconst 0, 1) := by decide +kernel
theorem dX4_mostLeft_3 : decode cX4_mostLeft 3 = .ok (.istore_n 3, 1) := by decide +kernel
theorem dX4_mostLeft_4 : decode cX4_mostLeft 4 = .ok (.iload_n 3, 1) := by decide +kernel
theorem dX4_mostLeft_5 : decode cX4_mostLeft 5 = .ok (.bipush 9, 2) := by decide +kernel
theorem dX4_mostLeft_7 : decode cX4_mostLeft 7 = .ok (.if_icmp .gt 25, 3) := by decide +kernel
theorem dX4_mostLeft_10 : decode cX4_mostLeft 10 = .ok (.iload_n 2, 1) := by decide +kernel
theorem dX4_mostLeft_11 : decode cX4_mostLeft 11 = .ok (.aload_n 0, 1) := by decide +kernel
theorem dX4_mostLeft_12 : decode cX4_mostLeft 12 = .ok (.getfield 21, 3) := by decide +kernel
theorem dX4_mostLeft_15 : decode cX4_mostLeft 15 = .ok (.iload_n 1, 1) := by decide +kernel
theorem dX4_mostLeft_16 : decode cX4_mostLeft 16 = .ok (.bipush 10, 2) := by decide +kernel
theorem dX4_mostLeft_18 : decode cX4_mostLeft 18 = .ok (.imul, 1) := by decide +kernel
theorem dX4_mostLeft_19 : decode cX4_mostLeft 19 = .ok (.iload_n 3, 1) := by decide +kernel
theorem dX4_mostLeft_20 : decode cX4_mostLeft 20 = .ok (.iadd, 1) := by decide +kernel
theorem dX4_mostLeft_21 : decode cX4_mostLeft 21 = .ok (.iaload, 1) := by decide +kernel
theorem dX4_mostLeft_22 : decode cX4_mostLeft 22 = .ok (.invokestatic 132, 3) := by decide +kernel
theorem dX4_mostLeft_25 : decode cX4_mostLeft 25 = .ok (.istore_n 2, 1) := by decide +kernel
theorem dX4_mostLeft_26 : decode cX4_mostLeft 26 = .ok (.iinc 3 1, 3) := by decide +kernel
theorem dX4_mostLeft_29 : decode cX4_mostLeft 29 = .ok (.goto (-25), 3) := by decide +kernel
theorem dX4_mostLeft_32 : decode cX4_mostLeft 32 = .ok (.iload_n 2, 1) := by decide +kernel
theorem dX4_mostLeft_33 : decode cX4_mostLeft 33 = .ok (.ireturn, 1) := by decide +kernel
theorem dX4_fewestForAll_0 : decode cX4_fewestForAll 0 = .ok (.iconst 0, 1) := by decide +kernel
theorem dX4_fewestForAll_1 : decode cX4_fewestForAll 1 = .ok (.istore_n 2, 1) := by decide +kernel
theorem dX4_fewestForAll_2 : decode cX4_fewestForAll 2 = .ok (.iload_n 2, 1) := by decide +kernel
theorem dX4_fewestForAll_3 : decode cX4_fewestForAll 3 = .ok (.aload_n 0, 1) := by decide +kernel
theorem dX4_fewestForAll_4 : decode cX4_fewestForAll 4 = .ok (.getfield 39, 3) := by decide +kernel
theorem dX4_fewestForAll_7 : decode cX4_fewestForAll 7 = .ok (.invokevirtual 60, 3) := by decide +kernel
theorem dX4_fewestForAll_10 : decode cX4_fewestForAll 10 = .ok (.if_icmp .ge 69, 3) := by decide +kernel
theorem dX4_fewestForAll_13 : decode cX4_fewestForAll 13 = .ok (.aload_n 0, 1) := by decide +kernel
theorem dX4_fewestForAll_14 : decode cX4_fewestForAll 14 = .ok (.getfield 24, 3) := by decide +kernel
theorem dX4_fewestForAll_17 : decode cX4_fewestForAll 17 = .ok (.iload_n 2, 1) := by decide +kernel
theorem dX4_fewestForAll_18 : decode cX4_fewestForAll 18 = .ok (.iconst 0, 1) := by decide +kernel
theorem dX4_fewestForAll_19 : decode cX4_fewestForAll 19 = .ok (.iastore, 1) := by decide +kernel
theorem dX4_fewestForAll_20 : decode cX4_fewestForAll 20 = .ok (.iconst 0, 1) := by decide +kernel
theorem dX4_fewestForAll_21 : decode cX4_fewestForAll 21 = .ok (.istore_n 3, 1) := by decide +kernel
theorem dX4_fewestForAll_22 : decode cX4_fewestForAll 22 = .ok (.iload_n 3, 1) := by decide +kernel
theorem dX4_fewestForAll_23 : decode cX4_fewestForAll 23 = .ok (.aload_n 0, 1) := by decide +kernel
theorem dX4_fewestForAll_24 : decode cX4_fewestForAll 24 = .ok (.getfield 39, 3) := by decide +kernel
theorem dX4_fewestForAll_27 : decode cX4_fewestForAll 27 = .ok (.invokevirtual 161, 3) := by decide +kernel
theorem dX4_fewestForAll_30 : decode cX4_fewestForAll 30 = .ok (.if_icmp .ge 43, 3) := by decide +kernel
theorem dX4_fewestForAll_33 : decode cX4_fewestForAll 33 = .ok (.aload_n 0, 1) := by decide +kernel
theorem dX4_fewestForAll_34 : decode cX4_fewestForAll 34 = .ok (.getfield 24, 3) := by decide +kernel
theorem dX4_fewestForAll_37 : decode cX4_fewestForAll 37 = .ok (.iload_n 2, 1) := by decide +kernel
theorem dX4_fewestForAll_38 : decode cX4_fewestForAll 38 = .ok (.dup2, 1) := by decide +kernel
theorem dX4_fewestForAll_39 : decode cX4_fewestForAll 39 = .ok (.iaload, 1) := by decide +kernel
theorem dX4_fewestForAll_40 : decode cX4_fewestForAll 40 = .ok (.aload_n 0, 1) := by decide +kernel
theorem dX4_fewestForAll_41 : decode cX4_fewestForAll 41 = .ok (.getfield 43, 3) := by decide +kernel
theorem dX4_fewestForAll_44 : decode cX4_fewestForAll 44 = .ok (.iload_n 3, 1) := by decide +kernel
theorem dX4_fewestForAll_45 : decode cX4_fewestForAll 45 = .ok (.iload_n 2, 1) := by decide +kernel
theorem dX4_fewestForAll_46 : decode cX4_fewestForAll 46 = .ok (.invokevirtual 92, 3) := by decide +kernel
theorem dX4_fewestForAll_49 : decode cX4_fewestForAll 49 = .ok (.ifCond .eq 7, 3) := by decide +kernel
theorem dX4_fewestForAll_52 : decode cX4_fewestForAll 52 = .ok (.iconst 0, 1) := by decide +kernel
theorem dX4_fewestForAll_53 : decode cX4_fewestForAll 53 = .ok (.goto 12, 3) := by decide +kernel
theorem dX4_fewestForAll_56 : decode cX4_fewestForAll 56 = .ok (.aload_n 0, 1) := by decide +kernel
theorem dX4_fewestForAll_57 : decode cX4_fewestForAll 57 = .ok (.iload_n 3, 1) := by decide +kernel
theorem dX4_fewestForAll_58 : decode cX4_fewestForAll 58 = .ok (.iconst 1, 1) := by decide +kernel
theorem dX4_fewestForAll_59 : decode cX4_fewestForAll 59 = .ok (.iload_n 2, 1) := by decide +kernel
theorem dX4_fewestForAll_60 : decode cX4_fewestForAll 60 = .ok (.ishl, 1) := by decide +kernel
theorem dX4_fewestForAll_61 : decode cX4_fewestForAll 61 = .ok (.iload_n 1, 1) := by decide +kernel
theorem dX4_fewestForAll_62 : decode cX4_fewestForAll 62 = .ok (.invokevirtual 104, 3) := by decide +kernel
theorem dX4_fewestForAll_65 : decode cX4_fewestForAll 65 = .ok (.ior, 1) := by decide +kernel
theorem dX4_fewestForAll_66 : decode cX4_fewestForAll 66 = .ok (.iastore, 1) := by decide +kernel
theorem dX4_fewestForAll_67 : decode cX4_fewestForAll 67 = .ok (.iinc 3 1, 3) := by decide +kernel
theorem dX4_fewestForAll_70 : decode cX4_fewestForAll 70 = .ok (.goto (-48), 3) := by decide +kernel
theorem dX4_fewestForAll_73 : decode cX4_fewestForAll 73 = .ok (.iinc 2 1, 3) := by decide +kernel
theorem dX4_fewestForAll_76 : decode cX4_fewestForAll 76 = .ok (.goto (-74), 3) := by decide +kernel
theorem dX4_fewestForAll_79 : decode cX4_fewestForAll 79 = .ok (.bipush (-2), 2) := by decide +kernel
theorem dX4_fewestForAll_81 : decode cX4_fewestForAll 81 = .ok (.istore_n 2, 1) := by decide +kernel
theorem dX4_fewestForAll_82 : decode cX4_fewestForAll 82 = .ok (.iconst 0, 1) := by decide +kernel
theorem dX4_fewestForAll_83 : decode cX4_fewestForAll 83 = .ok (.istore_n 3, 1) := by decide +kernel
theorem dX4_fewestForAll_84 : decode cX4_fewestForAll 84 = .ok (.iload_n 3, 1) := by decide +kernel
theorem dX4_fewestForAll_85 : decode cX4_fewestForAll 85 = .ok (.iconst 1, 1) := by decide +kernel
theorem dX4_fewestForAll_86 : decode cX4_fewestForAll 86 = .ok (.aload_n 0, 1) := by decide +kernel
theorem dX4_fewestForAll_87 : decode cX4_fewestForAll 87 = .ok (.getfield 39, 3) := by decide +kernel
theorem dX4_fewestForAll_90 : decode cX4_fewestForAll 90 = .ok (.invokevirtual 60, 3) := by decide +kernel
theorem dX4_fewestForAll_93 : decode cX4_fewestForAll 93 = .ok (.ishl, 1) := by decide +kernel
theorem dX4_fewestForAll_94 : decode cX4_fewestForAll 94 = .ok (.if_icmp .ge 57, 3) := by decide +kernel
theorem dX4_fewestForAll_97 : decode cX4_fewestForAll 97 = .ok (.iload_n 2, 1) := by decide +kernel
theorem dX4_fewestForAll_98 : decode cX4_fewestForAll 98 = .ok (.ifCond .lt 14, 3) := by decide +kernel
theorem dX4_fewestForAll_101 : decode cX4_fewestForAll 101 = .ok (.iload_n 3, 1) := by decide +kernel
theorem dX4_fewestForAll_102 : decode cX4_fewestForAll 102 = .ok (.invokestatic 120, 3) := by decide +kernel
theorem dX4_fewestForAll_105 : decode cX4_fewestForAll 105 = .ok (.iload_n 2, 1) := by decide +kernel
theorem dX4_fewestForAll_106 : decode cX4_fewestForAll 106 = .ok (.invokestatic 120, 3) := by decide +kernel
theorem dX4_fewestForAll_109 : decode cX4_fewestForAll 109 = .ok (.if_icmp .ge 7, 3) := by decide +kernel
theorem dX4_fewestForAll_112 : decode cX4_fewestForAll 112 = .ok (.iconst 1, 1) := by decide +kernel
theorem dX4_fewestForAll_113 : decode cX4_fewestForAll 113 = .ok (.goto 4, 3) := by decide +kernel
theorem dX4_fewestForAll_116 : decode cX4_fewestForAll 116 = .ok (.iconst 0, 1) := by decide +kernel
theorem dX4_fewestForAll_117 : decode cX4_fewestForAll 117 = .ok (.istore 4, 2) := by decide +kernel
theorem dX4_fewestForAll_119 : decode cX4_fewestForAll 119 = .ok (.iload 4, 2) := by decide +kernel
theorem dX4_fewestForAll_121 : decode cX4_fewestForAll 121 = .ok (.ifCond .eq 22, 3) := by decide +kernel
theorem dX4_fewestForAll_124 : decode cX4_fewestForAll 124 = .ok (.aload_n 0, 1) := by decide +kernel
theorem dX4_fewestForAll_125 : decode cX4_fewestForAll 125 = .ok (.iload_n 3, 1) := by decide +kernel
theorem dX4_fewestForAll_126 : decode cX4_fewestForAll 126 = .ok (.invokevirtual 164, 3) := by decide +kernel
theorem dX4_fewestForAll_129 : decode cX4_fewestForAll 129 = .ok (.aload_n 0, 1) := by decide +kernel
theorem dX4_fewestForAll_130 : decode cX4_fewestForAll 130 = .ok (.getfield 39, 3) := by decide +kernel
theorem dX4_fewestForAll_133 : decode cX4_fewestForAll 133 = .ok (.invokevirtual 167, 3) := by decide +kernel
theorem dX4_fewestForAll_136 : decode cX4_fewestForAll 136 = .ok (.if_icmp .ne 7, 3) := by decide +kernel
theorem dX4_fewestForAll_139 : decode cX4_fewestForAll 139 = .ok (.iload_n 3, 1) := by decide +kernel
theorem dX4_fewestForAll_140 : decode cX4_fewestForAll 140 = .ok (.goto 4, 3) := by decide +kernel
theorem dX4_fewestForAll_143 : decode cX4_fewestForAll 143 = .ok (.iload_n 2, 1) := by decide +kernel
theorem dX4_fewestForAll_144 : decode cX4_fewestForAll 144 = .ok (.istore_n 2, 1) := by decide +kernel
theorem dX4_fewestForAll_145 : decode cX4_fewestForAll 145 = .ok (.iinc 3 1, 3) := by decide +kernel
theorem dX4_fewestForAll_148 : decode cX4_fewestForAll 148 = .ok (.goto (-64), 3) := by decide +kernel
theorem dX4_fewestForAll_151 : decode cX4_fewestForAll 151 = .ok (.iload_n 2, 1) := by decide +kernel
theorem dX4_fewestForAll_152 : decode cX4_fewestForAll 152 = .ok (.ifCond .ge 6, 3) := by decide +kernel
theorem dX4_fewestForAll_155 : decode cX4_fewestForAll 155 = .ok (.bipush (-2), 2) := by decide +kernel
theorem dX4_fewestForAll_157 : decode cX4_fewestForAll 157 = .ok (.ireturn, 1) := by decide +kernel
theorem dX4_fewestForAll_158 : decode cX4_fewestForAll 158 = .ok (.aload_n 0, 1) := by decide +kernel
theorem dX4_fewestForAll_159 : decode cX4_fewestForAll 159 = .ok (.getfield 50, 3) := by decide +kernel
theorem dX4_fewestForAll_162 : decode cX4_fewestForAll 162 = .ok (.invokevirtual 108, 3) := by decide +kernel
theorem dX4_fewestForAll_165 : decode cX4_fewestForAll 165 = .ok (.aload_n 0, 1) := by decide +kernel
theorem dX4_fewestForAll_166 : decode cX4_fewestForAll 166 = .ok (.getfield 50, 3) := by decide +kernel
theorem dX4_fewestForAll_169 : decode cX4_fewestForAll 169 = .ok (.iload_n 2, 1) := by decide +kernel
theorem dX4_fewestForAll_170 : decode cX4_fewestForAll 170 = .ok (.i2l, 1) := by decide +kernel
theorem dX4_fewestForAll_171 : decode cX4_fewestForAll 171 = .ok (.invokevirtual 113, 3) := by decide +kernel
theorem dX4_fewestForAll_174 : decode cX4_fewestForAll 174 = .ok (.iload_n 2, 1) := by decide +kernel
theorem dX4_fewestForAll_175 : decode cX4_fewestForAll 175 = .ok (.invokestatic 120, 3) := by decide +kernel
theorem dX4_fewestForAll_178 : decode cX4_fewestForAll 178 = .ok (.ireturn, 1) := by decide +kernel
theorem dX4_servedTogether_0 : decode cX4_servedTogether 0 = .ok (.iconst 0, 1) := by decide +kernel
theorem dX4_servedTogether_1 : decode cX4_servedTogether 1 = .ok (.istore_n 2, 1) := by decide +kernel
theorem dX4_servedTogether_2 : decode cX4_servedTogether 2 = .ok (.iconst 0, 1) := by decide +kernel
theorem dX4_servedTogether_3 : decode cX4_servedTogether 3 = .ok (.istore_n 3, 1) := by decide +kernel
theorem dX4_servedTogether_4 : decode cX4_servedTogether 4 = .ok (.iload_n 3, 1) := by decide +kernel
theorem dX4_servedTogether_5 : decode cX4_servedTogether 5 = .ok (.aload_n 0, 1) := by decide +kernel
theorem dX4_servedTogether_6 : decode cX4_servedTogether 6 = .ok (.getfield 39, 3) := by decide +kernel
theorem dX4_servedTogether_9 : decode cX4_servedTogether 9 = .ok (.invokevirtual 60, 3) := by decide +kernel
theorem dX4_servedTogether_12 : decode cX4_servedTogether 12 = .ok (.if_icmp .ge 30, 3) := by decide +kernel
theorem dX4_servedTogether_15 : decode cX4_servedTogether 15 = .ok (.iload_n 2, 1) := by decide +kernel
theorem dX4_servedTogether_16 : decode cX4_servedTogether 16 = .ok (.iload_n 3, 1) := by decide +kernel
theorem dX4_servedTogether_17 : decode cX4_servedTogether 17 = .ok (.iload_n 1, 1) := by decide +kernel
theorem dX4_servedTogether_18 : decode cX4_servedTogether 18 = .ok (.invokestatic 66, 3) := by decide +kernel
theorem dX4_servedTogether_21 : decode cX4_servedTogether 21 = .ok (.ifCond .eq 12, 3) := by decide +kernel
theorem dX4_servedTogether_24 : decode cX4_servedTogether 24 = .ok (.aload_n 0, 1) := by decide +kernel
theorem dX4_servedTogether_25 : decode cX4_servedTogether 25 = .ok (.getfield 24, 3) := by decide +kernel
theorem dX4_servedTogether_28 : decode cX4_servedTogether 28 = .ok (.iload_n 3, 1) := by decide +kernel
theorem dX4_servedTogether_29 : decode cX4_servedTogether 29 = .ok (.iaload, 1) := by decide +kernel
theorem dX4_servedTogether_30 : decode cX4_servedTogether 30 = .ok (.goto 4, 3) := by decide +kernel
theorem dX4_servedTogether_33 : decode cX4_servedTogether 33 = .ok (.iconst 0, 1) := by decide +kernel
theorem dX4_servedTogether_34 : decode cX4_servedTogether 34 = .ok (.ior, 1) := by decide +kernel
theorem dX4_servedTogether_35 : decode cX4_servedTogether 35 = .ok (.istore_n 2, 1) := by decide +kernel
theorem dX4_servedTogether_36 : decode cX4_servedTogether 36 = .ok (.iinc 3 1, 3) := by decide +kernel
theorem dX4_servedTogether_39 : decode cX4_servedTogether 39 = .ok (.goto (-35), 3) := by decide +kernel
theorem dX4_servedTogether_42 : decode cX4_servedTogether 42 = .ok (.iload_n 2, 1) := by decide +kernel
theorem dX4_servedTogether_43 : decode cX4_servedTogether 43 = .ok (.ireturn, 1) := by decide +kernel
theorem dX4_reckonGains_0 : decode cX4_reckonGains 0 = .ok (.iconst 0, 1) := by decide +kernel
theorem dX4_reckonGains_1 : decode cX4_reckonGains 1 = .ok (.istore_n 2, 1) := by decide +kernel
theorem dX4_reckonGains_2 : decode cX4_reckonGains 2 = .ok (.iconst 0, 1) := by decide +kernel
theorem dX4_reckonGains_3 : decode cX4_reckonGains 3 = .ok (.istore_n 3, 1) := by decide +kernel
theorem dX4_reckonGains_4 : decode cX4_reckonGains 4 = .ok (.iload_n 3, 1) := by decide +kernel
theorem dX4_reckonGains_5 : decode cX4_reckonGains 5 = .ok (.aload_n 0, 1) := by decide +kernel
theorem dX4_reckonGains_6 : decode cX4_reckonGains 6 = .ok (.getfield 39, 3) := by decide +kernel
theorem dX4_reckonGains_9 : decode cX4_reckonGains 9 = .ok (.invokevirtual 161, 3) := by decide +kernel
theorem dX4_reckonGains_12 : decode cX4_reckonGains 12 = .ok (.if_icmp .ge 104, 3) := by decide +kernel
theorem dX4_reckonGains_15 : decode cX4_reckonGains 15 = .ok (.aload_n 0, 1) := by decide +kernel
theorem dX4_reckonGains_16 : decode cX4_reckonGains 16 = .ok (.iload_n 3, 1) := by decide +kernel
theorem dX4_reckonGains_17 : decode cX4_reckonGains 17 = .ok (.invokevirtual 98, 3) := by decide +kernel
theorem dX4_reckonGains_20 : decode cX4_reckonGains 20 = .ok (.istore 4, 2) := by decide +kernel
theorem dX4_reckonGains_22 : decode cX4_reckonGains 22 = .ok (.aload_n 0, 1) := by decide +kernel
theorem dX4_reckonGains_23 : decode cX4_reckonGains 23 = .ok (.iload_n 3, 1) := by decide +kernel
theorem dX4_reckonGains_24 : decode cX4_reckonGains 24 = .ok (.iconst 0, 1) := by decide +kernel
theorem dX4_reckonGains_25 : decode cX4_reckonGains 25 = .ok (.iload_n 1, 1) := by decide +kernel
theorem dX4_reckonGains_26 : decode cX4_reckonGains 26 = .ok (.invokevirtual 104, 3) := by decide +kernel
theorem dX4_reckonGains_29 : decode cX4_reckonGains 29 = .ok (.invokestatic 120, 3) := by decide +kernel
theorem dX4_reckonGains_32 : decode cX4_reckonGains 32 = .ok (.istore 5, 2) := by decide +kernel
theorem dX4_reckonGains_34 : decode cX4_reckonGains 34 = .ok (.iconst 0, 1) := by decide +kernel
theorem dX4_reckonGains_35 : decode cX4_reckonGains 35 = .ok (.istore 6, 2) := by decide +kernel
theorem dX4_reckonGains_37 : decode cX4_reckonGains 37 = .ok (.iload 6, 2) := by decide +kernel
theorem dX4_reckonGains_39 : decode cX4_reckonGains 39 = .ok (.aload_n 0, 1) := by decide +kernel
theorem dX4_reckonGains_40 : decode cX4_reckonGains 40 = .ok (.getfield 39, 3) := by decide +kernel
theorem dX4_reckonGains_43 : decode cX4_reckonGains 43 = .ok (.invokevirtual 60, 3) := by decide +kernel
theorem dX4_reckonGains_46 : decode cX4_reckonGains 46 = .ok (.if_icmp .ge 59, 3) := by decide +kernel
theorem dX4_reckonGains_49 : decode cX4_reckonGains 49 = .ok (.iload 6, 2) := by decide +kernel
theorem dX4_reckonGains_51 : decode cX4_reckonGains 51 = .ok (.iload 4, 2) := by decide +kernel
theorem dX4_reckonGains_53 : decode cX4_reckonGains 53 = .ok (.invokestatic 66, 3) := by decide +kernel
theorem dX4_reckonGains_56 : decode cX4_reckonGains 56 = .ok (.ifCond .eq 19, 3) := by decide +kernel
theorem dX4_reckonGains_59 : decode cX4_reckonGains 59 = .ok (.aload_n 0, 1) := by decide +kernel
theorem dX4_reckonGains_60 : decode cX4_reckonGains 60 = .ok (.iload_n 3, 1) := by decide +kernel
theorem dX4_reckonGains_61 : decode cX4_reckonGains 61 = .ok (.iconst 1, 1) := by decide +kernel
theorem dX4_reckonGains_62 : decode cX4_reckonGains 62 = .ok (.iload 6, 2) := by decide +kernel
theorem dX4_reckonGains_64 : decode cX4_reckonGains 64 = .ok (.ishl, 1) := by decide +kernel
theorem dX4_reckonGains_65 : decode cX4_reckonGains 65 = .ok (.iload_n 1, 1) := by decide +kernel
theorem dX4_reckonGains_66 : decode cX4_reckonGains 66 = .ok (.invokevirtual 104, 3) := by decide +kernel
theorem dX4_reckonGains_69 : decode cX4_reckonGains 69 = .ok (.invokestatic 120, 3) := by decide +kernel
theorem dX4_reckonGains_72 : decode cX4_reckonGains 72 = .ok (.goto 4, 3) := by decide +kernel
theorem dX4_reckonGains_75 : decode cX4_reckonGains 75 = .ok (.iconst 0, 1) := by decide +kernel
theorem dX4_reckonGains_76 : decode cX4_reckonGains 76 = .ok (.istore 7, 2) := by decide +kernel
theorem dX4_reckonGains_78 : decode cX4_reckonGains 78 = .ok (.aload_n 0, 1) := by decide +kernel
theorem dX4_reckonGains_79 : decode cX4_reckonGains 79 = .ok (.getfield 27, 3) := by decide +kernel
theorem dX4_reckonGains_82 : decode cX4_reckonGains 82 = .ok (.iload_n 3, 1) := by decide +kernel
theorem dX4_reckonGains_83 : decode cX4_reckonGains 83 = .ok (.bipush 8, 2) := by decide +kernel
theorem dX4_reckonGains_85 : decode cX4_reckonGains 85 = .ok (.imul, 1) := by decide +kernel
theorem dX4_reckonGains_86 : decode cX4_reckonGains 86 = .ok (.iload 6, 2) := by decide +kernel
theorem dX4_reckonGains_88 : decode cX4_reckonGains 88 = .ok (.iadd, 1) := by decide +kernel
theorem dX4_reckonGains_89 : decode cX4_reckonGains 89 = .ok (.iconst 0, 1) := by decide +kernel
theorem dX4_reckonGains_90 : decode cX4_reckonGains 90 = .ok (.iload 7, 2) := by decide +kernel
theorem dX4_reckonGains_92 : decode cX4_reckonGains 92 = .ok (.iload 5, 2) := by decide +kernel
theorem dX4_reckonGains_94 : decode cX4_reckonGains 94 = .ok (.isub, 1) := by decide +kernel
theorem dX4_reckonGains_95 : decode cX4_reckonGains 95 = .ok (.invokestatic 132, 3) := by decide +kernel
theorem dX4_reckonGains_98 : decode cX4_reckonGains 98 = .ok (.iastore, 1) := by decide +kernel
theorem dX4_reckonGains_99 : decode cX4_reckonGains 99 = .ok (.iinc 6 1, 3) := by decide +kernel
theorem dX4_reckonGains_102 : decode cX4_reckonGains 102 = .ok (.goto (-65), 3) := by decide +kernel
theorem dX4_reckonGains_105 : decode cX4_reckonGains 105 = .ok (.iload_n 2, 1) := by decide +kernel
theorem dX4_reckonGains_106 : decode cX4_reckonGains 106 = .ok (.iload 5, 2) := by decide +kernel
theorem dX4_reckonGains_108 : decode cX4_reckonGains 108 = .ok (.iadd, 1) := by decide +kernel
theorem dX4_reckonGains_109 : decode cX4_reckonGains 109 = .ok (.istore_n 2, 1) := by decide +kernel
theorem dX4_reckonGains_110 : decode cX4_reckonGains 110 = .ok (.iinc 3 1, 3) := by decide +kernel
theorem dX4_reckonGains_113 : decode cX4_reckonGains 113 = .ok (.goto (-109), 3) := by decide +kernel
theorem dX4_reckonGains_116 : decode cX4_reckonGains 116 = .ok (.iload_n 2, 1) := by decide +kernel
theorem dX4_reckonGains_117 : decode cX4_reckonGains 117 = .ok (.ireturn, 1) := by decide +kernel
theorem dX4_shareOut_0 : decode cX4_shareOut 0 = .ok (.iconst 0, 1) := by decide +kernel
theorem dX4_shareOut_1 : decode cX4_shareOut 1 = .ok (.istore_n 1, 1) := by decide +kernel
theorem dX4_shareOut_2 : decode cX4_shareOut 2 = .ok (.iload_n 1, 1) := by decide +kernel
theorem dX4_shareOut_3 : decode cX4_shareOut 3 = .ok (.aload_n 0, 1) := by decide +kernel
theorem dX4_shareOut_4 : decode cX4_shareOut 4 = .ok (.getfield 39, 3) := by decide +kernel
theorem dX4_shareOut_7 : decode cX4_shareOut 7 = .ok (.invokevirtual 60, 3) := by decide +kernel
theorem dX4_shareOut_10 : decode cX4_shareOut 10 = .ok (.if_icmp .ge 23, 3) := by decide +kernel
theorem dX4_shareOut_13 : decode cX4_shareOut 13 = .ok (.aload_n 0, 1) := by decide +kernel
theorem dX4_shareOut_14 : decode cX4_shareOut 14 = .ok (.getfield 30, 3) := by decide +kernel
theorem dX4_shareOut_17 : decode cX4_shareOut 17 = .ok (.iload_n 1, 1) := by decide +kernel
theorem dX4_shareOut_18 : decode cX4_shareOut 18 = .ok (.aload_n 0, 1) := by decide +kernel
theorem dX4_shareOut_19 : decode cX4_shareOut 19 = .ok (.getfield 43, 3) := by decide +kernel
theorem dX4_shareOut_22 : decode cX4_shareOut 22 = .ok (.iload_n 1, 1) := by decide +kernel
theorem dX4_shareOut_23 : decode cX4_shareOut 23 = .ok (.invokevirtual 89, 3) := by decide +kernel
theorem dX4_shareOut_26 : decode cX4_shareOut 26 = .ok (.iastore, 1) := by decide +kernel
theorem dX4_shareOut_27 : decode cX4_shareOut 27 = .ok (.iinc 1 1, 3) := by decide +kernel
theorem dX4_shareOut_30 : decode cX4_shareOut 30 = .ok (.goto (-28), 3) := by decide +kernel
theorem dX4_shareOut_33 : decode cX4_shareOut 33 = .ok (.aload_n 0, 1) := by decide +kernel
theorem dX4_shareOut_34 : decode cX4_shareOut 34 = .ok (.iconst 0, 1) := by decide +kernel
theorem dX4_shareOut_35 : decode cX4_shareOut 35 = .ok (.invokevirtual 170, 3) := by decide +kernel
theorem dX4_shareOut_38 : decode cX4_shareOut 38 = .ok (.istore_n 1, 1) := by decide +kernel
theorem dX4_shareOut_39 : decode cX4_shareOut 39 = .ok (.iload_n 1, 1) := by decide +kernel
theorem dX4_shareOut_40 : decode cX4_shareOut 40 = .ok (.istore_n 2, 1) := by decide +kernel
theorem dX4_shareOut_41 : decode cX4_shareOut 41 = .ok (.aload_n 0, 1) := by decide +kernel
theorem dX4_shareOut_42 : decode cX4_shareOut 42 = .ok (.getfield 50, 3) := by decide +kernel
theorem dX4_shareOut_45 : decode cX4_shareOut 45 = .ok (.invokevirtual 108, 3) := by decide +kernel
theorem dX4_shareOut_48 : decode cX4_shareOut 48 = .ok (.iconst 0, 1) := by decide +kernel
theorem dX4_shareOut_49 : decode cX4_shareOut 49 = .ok (.istore_n 3, 1) := by decide +kernel
theorem dX4_shareOut_50 : decode cX4_shareOut 50 = .ok (.iload_n 3, 1) := by decide +kernel
theorem dX4_shareOut_51 : decode cX4_shareOut 51 = .ok (.aload_n 0, 1) := by decide +kernel
theorem dX4_shareOut_52 : decode cX4_shareOut 52 = .ok (.getfield 39, 3) := by decide +kernel
theorem dX4_shareOut_55 : decode cX4_shareOut 55 = .ok (.invokevirtual 161, 3) := by decide +kernel
theorem dX4_shareOut_58 : decode cX4_shareOut 58 = .ok (.if_icmp .ge 51, 3) := by decide +kernel
theorem dX4_shareOut_61 : decode cX4_shareOut 61 = .ok (.aload_n 0, 1) := by decide +kernel
theorem dX4_shareOut_62 : decode cX4_shareOut 62 = .ok (.iload_n 3, 1) := by decide +kernel
theorem dX4_shareOut_63 : decode cX4_shareOut 63 = .ok (.iload_n 2, 1) := by decide +kernel
theorem dX4_shareOut_64 : decode cX4_shareOut 64 = .ok (.invokevirtual 173, 3) := by decide +kernel
theorem dX4_shareOut_67 : decode cX4_shareOut 67 = .ok (.istore 4, 2) := by decide +kernel
theorem dX4_shareOut_69 : decode cX4_shareOut 69 = .ok (.iload_n 2, 1) := by decide +kernel
theorem dX4_shareOut_70 : decode cX4_shareOut 70 = .ok (.iload 4, 2) := by decide +kernel
theorem dX4_shareOut_72 : decode cX4_shareOut 72 = .ok (.ifCond .ge 7, 3) := by decide +kernel
theorem dX4_shareOut_75 : decode cX4_shareOut 75 = .ok (.iconst 0, 1) := by decide +kernel
theorem dX4_shareOut_76 : decode cX4_shareOut 76 = .ok (.goto 15, 3) := by decide +kernel
theorem dX4_shareOut_79 : decode cX4_shareOut 79 = .ok (.aload_n 0, 1) := by decide +kernel
theorem dX4_shareOut_80 : decode cX4_shareOut 80 = .ok (.getfield 27, 3) := by decide +kernel
theorem dX4_shareOut_83 : decode cX4_shareOut 83 = .ok (.iload_n 3, 1) := by decide +kernel
theorem dX4_shareOut_84 : decode cX4_shareOut 84 = .ok (.bipush 8, 2) := by decide +kernel
theorem dX4_shareOut_86 : decode cX4_shareOut 86 = .ok (.imul, 1) := by decide +kernel
theorem dX4_shareOut_87 : decode cX4_shareOut 87 = .ok (.iload 4, 2) := by decide +kernel
theorem dX4_shareOut_89 : decode cX4_shareOut 89 = .ok (.iadd, 1) := by decide +kernel
theorem dX4_shareOut_90 : decode cX4_shareOut 90 = .ok (.iaload, 1) := by decide +kernel
theorem dX4_shareOut_91 : decode cX4_shareOut 91 = .ok (.isub, 1) := by decide +kernel
theorem dX4_shareOut_92 : decode cX4_shareOut 92 = .ok (.istore_n 2, 1) := by decide +kernel
theorem dX4_shareOut_93 : decode cX4_shareOut 93 = .ok (.aload_n 0, 1) := by decide +kernel
theorem dX4_shareOut_94 : decode cX4_shareOut 94 = .ok (.getfield 50, 3) := by decide +kernel
theorem dX4_shareOut_97 : decode cX4_shareOut 97 = .ok (.iload 4, 2) := by decide +kernel
theorem dX4_shareOut_99 : decode cX4_shareOut 99 = .ok (.i2l, 1) := by decide +kernel
theorem dX4_shareOut_100 : decode cX4_shareOut 100 = .ok (.invokevirtual 113, 3) := by decide +kernel
theorem dX4_shareOut_103 : decode cX4_shareOut 103 = .ok (.iinc 3 1, 3) := by decide +kernel
theorem dX4_shareOut_106 : decode cX4_shareOut 106 = .ok (.goto (-56), 3) := by decide +kernel
theorem dX4_shareOut_109 : decode cX4_shareOut 109 = .ok (.iload_n 1, 1) := by decide +kernel
theorem dX4_shareOut_110 : decode cX4_shareOut 110 = .ok (.ireturn, 1) := by decide +kernel
theorem dX4_leastGiven_0 : decode cX4_leastGiven 0 = .ok (.aload_n 0, 1) := by decide +kernel
theorem dX4_leastGiven_1 : decode cX4_leastGiven 1 = .ok (.iload_n 1, 1) := by decide +kernel
theorem dX4_leastGiven_2 : decode cX4_leastGiven 2 = .ok (.iconst 1, 1) := by decide +kernel
theorem dX4_leastGiven_3 : decode cX4_leastGiven 3 = .ok (.iadd, 1) := by decide +kernel
theorem dX4_leastGiven_4 : decode cX4_leastGiven 4 = .ok (.invokevirtual 170, 3) := by decide +kernel
theorem dX4_leastGiven_7 : decode cX4_leastGiven 7 = .ok (.iload_n 2, 1) := by decide +kernel
theorem dX4_leastGiven_8 : decode cX4_leastGiven 8 = .ok (.if_icmp .ne 5, 3) := by decide +kernel
theorem dX4_leastGiven_11 : decode cX4_leastGiven 11 = .ok (.iconst (-1), 1) := by decide +kernel
theorem dX4_leastGiven_12 : decode cX4_leastGiven 12 = .ok (.ireturn, 1) := by decide +kernel
theorem dX4_leastGiven_13 : decode cX4_leastGiven 13 = .ok (.iconst 0, 1) := by decide +kernel
theorem dX4_leastGiven_14 : decode cX4_leastGiven 14 = .ok (.istore_n 3, 1) := by decide +kernel
theorem dX4_leastGiven_15 : decode cX4_leastGiven 15 = .ok (.iload_n 3, 1) := by decide +kernel
theorem dX4_leastGiven_16 : decode cX4_leastGiven 16 = .ok (.aload_n 0, 1) := by decide +kernel
theorem dX4_leastGiven_17 : decode cX4_leastGiven 17 = .ok (.getfield 39, 3) := by decide +kernel
theorem dX4_leastGiven_20 : decode cX4_leastGiven 20 = .ok (.invokevirtual 60, 3) := by decide +kernel
theorem dX4_leastGiven_23 : decode cX4_leastGiven 23 = .ok (.if_icmp .ge 72, 3) := by decide +kernel
theorem dX4_leastGiven_26 : decode cX4_leastGiven 26 = .ok (.aload_n 0, 1) := by decide +kernel
theorem dX4_leastGiven_27 : decode cX4_leastGiven 27 = .ok (.getfield 27, 3) := by decide +kernel
theorem dX4_leastGiven_30 : decode cX4_leastGiven 30 = .ok (.iload_n 1, 1) := by decide +kernel
theorem dX4_leastGiven_31 : decode cX4_leastGiven 31 = .ok (.bipush 8, 2) := by decide +kernel
theorem dX4_leastGiven_33 : decode cX4_leastGiven 33 = .ok (.imul, 1) := by decide +kernel
theorem dX4_leastGiven_34 : decode cX4_leastGiven 34 = .ok (.iload_n 3, 1) := by decide +kernel
theorem dX4_leastGiven_35 : decode cX4_leastGiven 35 = .ok (.iadd, 1) := by decide +kernel
theorem dX4_leastGiven_36 : decode cX4_leastGiven 36 = .ok (.iaload, 1) := by decide +kernel
theorem dX4_leastGiven_37 : decode cX4_leastGiven 37 = .ok (.istore 4, 2) := by decide +kernel
theorem dX4_leastGiven_39 : decode cX4_leastGiven 39 = .ok (.iload 4, 2) := by decide +kernel
theorem dX4_leastGiven_41 : decode cX4_leastGiven 41 = .ok (.ifCond .le 48, 3) := by decide +kernel
theorem dX4_leastGiven_44 : decode cX4_leastGiven 44 = .ok (.aload_n 0, 1) := by decide +kernel
theorem dX4_leastGiven_45 : decode cX4_leastGiven 45 = .ok (.getfield 30, 3) := by decide +kernel
theorem dX4_leastGiven_48 : decode cX4_leastGiven 48 = .ok (.iload_n 3, 1) := by decide +kernel
theorem dX4_leastGiven_49 : decode cX4_leastGiven 49 = .ok (.iaload, 1) := by decide +kernel
theorem dX4_leastGiven_50 : decode cX4_leastGiven 50 = .ok (.ifCond .le 39, 3) := by decide +kernel
theorem dX4_leastGiven_53 : decode cX4_leastGiven 53 = .ok (.aload_n 0, 1) := by decide +kernel
theorem dX4_leastGiven_54 : decode cX4_leastGiven 54 = .ok (.getfield 30, 3) := by decide +kernel
theorem dX4_leastGiven_57 : decode cX4_leastGiven 57 = .ok (.iload_n 3, 1) := by decide +kernel
theorem dX4_leastGiven_58 : decode cX4_leastGiven 58 = .ok (.dup2, 1) := by decide +kernel
theorem dX4_leastGiven_59 : decode cX4_leastGiven 59 = .ok (.iaload, 1) := by decide +kernel
theorem dX4_leastGiven_60 : decode cX4_leastGiven 60 = .ok (.iconst 1, 1) := by decide +kernel
theorem dX4_leastGiven_61 : decode cX4_leastGiven 61 = .ok (.isub, 1) := by decide +kernel
theorem dX4_leastGiven_62 : decode cX4_leastGiven 62 = .ok (.iastore, 1) := by decide +kernel
theorem dX4_leastGiven_63 : decode cX4_leastGiven 63 = .ok (.iload 4, 2) := by decide +kernel
theorem dX4_leastGiven_65 : decode cX4_leastGiven 65 = .ok (.aload_n 0, 1) := by decide +kernel
theorem dX4_leastGiven_66 : decode cX4_leastGiven 66 = .ok (.iload_n 1, 1) := by decide +kernel
theorem dX4_leastGiven_67 : decode cX4_leastGiven 67 = .ok (.iconst 1, 1) := by decide +kernel
theorem dX4_leastGiven_68 : decode cX4_leastGiven 68 = .ok (.iadd, 1) := by decide +kernel
theorem dX4_leastGiven_69 : decode cX4_leastGiven 69 = .ok (.invokevirtual 170, 3) := by decide +kernel
theorem dX4_leastGiven_72 : decode cX4_leastGiven 72 = .ok (.iadd, 1) := by decide +kernel
theorem dX4_leastGiven_73 : decode cX4_leastGiven 73 = .ok (.iload_n 2, 1) := by decide +kernel
theorem dX4_leastGiven_74 : decode cX4_leastGiven 74 = .ok (.if_icmp .ne 5, 3) := by decide +kernel
theorem dX4_leastGiven_77 : decode cX4_leastGiven 77 = .ok (.iload_n 3, 1) := by decide +kernel
theorem dX4_leastGiven_78 : decode cX4_leastGiven 78 = .ok (.ireturn, 1) := by decide +kernel
theorem dX4_leastGiven_79 : decode cX4_leastGiven 79 = .ok (.aload_n 0, 1) := by decide +kernel
theorem dX4_leastGiven_80 : decode cX4_leastGiven 80 = .ok (.getfield 30, 3) := by decide +kernel
theorem dX4_leastGiven_83 : decode cX4_leastGiven 83 = .ok (.iload_n 3, 1) := by decide +kernel
theorem dX4_leastGiven_84 : decode cX4_leastGiven 84 = .ok (.dup2, 1) := by decide +kernel
theorem dX4_leastGiven_85 : decode cX4_leastGiven 85 = .ok (.iaload, 1) := by decide +kernel
theorem dX4_leastGiven_86 : decode cX4_leastGiven 86 = .ok (.iconst 1, 1) := by decide +kernel
theorem dX4_leastGiven_87 : decode cX4_leastGiven 87 = .ok (.iadd, 1) := by decide +kernel
theorem dX4_leastGiven_88 : decode cX4_leastGiven 88 = .ok (.iastore, 1) := by decide +kernel
theorem dX4_leastGiven_89 : decode cX4_leastGiven 89 = .ok (.iinc 3 1, 3) := by decide +kernel
theorem dX4_leastGiven_92 : decode cX4_leastGiven 92 = .ok (.goto (-77), 3) := by decide +kernel
theorem dX4_leastGiven_95 : decode cX4_leastGiven 95 = .ok (.iconst (-1), 1) := by decide +kernel
theorem dX4_leastGiven_96 : decode cX4_leastGiven 96 = .ok (.ireturn, 1) := by decide +kernel
theorem dX4_mostGained_0 : decode cX4_mostGained 0 = .ok (.iconst 1, 1) := by decide +kernel
theorem dX4_mostGained_1 : decode cX4_mostGained 1 = .ok (.iconst 0, 1) := by decide +kernel
theorem dX4_mostGained_2 : decode cX4_mostGained 2 = .ok (.aload_n 0, 1) := by decide +kernel
theorem dX4_mostGained_3 : decode cX4_mostGained 3 = .ok (.getfield 39, 3) := by decide +kernel
theorem dX4_mostGained_6 : decode cX4_mostGained 6 = .ok (.invokevirtual 161, 3) := by decide +kernel
theorem dX4_mostGained_9 : decode cX4_mostGained 9 = .ok (.iload_n 1, 1) := by decide +kernel
theorem dX4_mostGained_10 : decode cX4_mostGained 10 = .ok (.isub, 1) := by decide +kernel
theorem dX4_mostGained_11 : decode cX4_mostGained 11 = .ok (.invokestatic 132, 3) := by decide +kernel
theorem dX4_mostGained_14 : decode cX4_mostGained 14 = .ok (.ishl, 1) := by decide +kernel
theorem dX4_mostGained_15 : decode cX4_mostGained 15 = .ok (.istore_n 2, 1) := by decide +kernel
theorem dX4_mostGained_16 : decode cX4_mostGained 16 = .ok (.iconst 0, 1) := by decide +kernel
theorem dX4_mostGained_17 : decode cX4_mostGained 17 = .ok (.istore_n 3, 1) := by decide +kernel
theorem dX4_mostGained_18 : decode cX4_mostGained 18 = .ok (.iload_n 3, 1) := by decide +kernel
theorem dX4_mostGained_19 : decode cX4_mostGained 19 = .ok (.iload_n 2, 1) := by decide +kernel
theorem dX4_mostGained_20 : decode cX4_mostGained 20 = .ok (.if_icmp .ge 25, 3) := by decide +kernel
theorem dX4_mostGained_23 : decode cX4_mostGained 23 = .ok (.iload_n 3, 1) := by decide +kernel
theorem dX4_mostGained_24 : decode cX4_mostGained 24 = .ok (.aload_n 0, 1) := by decide +kernel
theorem dX4_mostGained_25 : decode cX4_mostGained 25 = .ok (.getfield 33, 3) := by decide +kernel
theorem dX4_mostGained_28 : decode cX4_mostGained 28 = .ok (.arraylength, 1) := by decide +kernel
theorem dX4_mostGained_29 : decode cX4_mostGained 29 = .ok (.if_icmp .ge 16, 3) := by decide +kernel
theorem dX4_mostGained_32 : decode cX4_mostGained 32 = .ok (.aload_n 0, 1) := by decide +kernel
theorem dX4_mostGained_33 : decode cX4_mostGained 33 = .ok (.getfield 33, 3) := by decide +kernel
theorem dX4_mostGained_36 : decode cX4_mostGained 36 = .ok (.iload_n 3, 1) := by decide +kernel
theorem dX4_mostGained_37 : decode cX4_mostGained 37 = .ok (.iconst 0, 1) := by decide +kernel
theorem dX4_mostGained_38 : decode cX4_mostGained 38 = .ok (.iastore, 1) := by decide +kernel
theorem dX4_mostGained_39 : decode cX4_mostGained 39 = .ok (.iinc 3 1, 3) := by decide +kernel
theorem dX4_mostGained_42 : decode cX4_mostGained 42 = .ok (.goto (-24), 3) := by decide +kernel
theorem dX4_mostGained_45 : decode cX4_mostGained 45 = .ok (.iconst 0, 1) := by decide +kernel
theorem dX4_mostGained_46 : decode cX4_mostGained 46 = .ok (.istore_n 3, 1) := by decide +kernel
theorem dX4_mostGained_47 : decode cX4_mostGained 47 = .ok (.iload_n 3, 1) := by decide +kernel
theorem dX4_mostGained_48 : decode cX4_mostGained 48 = .ok (.aload_n 0, 1) := by decide +kernel
theorem dX4_mostGained_49 : decode cX4_mostGained 49 = .ok (.getfield 39, 3) := by decide +kernel
theorem dX4_mostGained_52 : decode cX4_mostGained 52 = .ok (.invokevirtual 60, 3) := by decide +kernel
theorem dX4_mostGained_55 : decode cX4_mostGained 55 = .ok (.if_icmp .ge 51, 3) := by decide +kernel
theorem dX4_mostGained_58 : decode cX4_mostGained 58 = .ok (.aload_n 0, 1) := by decide +kernel
theorem dX4_mostGained_59 : decode cX4_mostGained 59 = .ok (.iload_n 3, 1) := by decide +kernel
theorem dX4_mostGained_60 : decode cX4_mostGained 60 = .ok (.iload_n 1, 1) := by decide +kernel
theorem dX4_mostGained_61 : decode cX4_mostGained 61 = .ok (.iload_n 2, 1) := by decide +kernel
theorem dX4_mostGained_62 : decode cX4_mostGained 62 = .ok (.invokevirtual 176, 3) := by decide +kernel
theorem dX4_mostGained_65 : decode cX4_mostGained 65 = .ok (.iload_n 2, 1) := by decide +kernel
theorem dX4_mostGained_66 : decode cX4_mostGained 66 = .ok (.iconst 1, 1) := by decide +kernel
theorem dX4_mostGained_67 : decode cX4_mostGained 67 = .ok (.isub, 1) := by decide +kernel
theorem dX4_mostGained_68 : decode cX4_mostGained 68 = .ok (.istore 4, 2) := by decide +kernel
theorem dX4_mostGained_70 : decode cX4_mostGained 70 = .ok (.iload 4, 2) := by decide +kernel
theorem dX4_mostGained_72 : decode cX4_mostGained 72 = .ok (.ifCond .le 28, 3) := by decide +kernel
theorem dX4_mostGained_75 : decode cX4_mostGained 75 = .ok (.aload_n 0, 1) := by decide +kernel
theorem dX4_mostGained_76 : decode cX4_mostGained 76 = .ok (.getfield 33, 3) := by decide +kernel
theorem dX4_mostGained_79 : decode cX4_mostGained 79 = .ok (.iload 4, 2) := by decide +kernel
theorem dX4_mostGained_81 : decode cX4_mostGained 81 = .ok (.aload_n 0, 1) := by decide +kernel
theorem dX4_mostGained_82 : decode cX4_mostGained 82 = .ok (.iload 4, 2) := by decide +kernel
theorem dX4_mostGained_84 : decode cX4_mostGained 84 = .ok (.aload_n 0, 1) := by decide +kernel
theorem dX4_mostGained_85 : decode cX4_mostGained 85 = .ok (.getfield 30, 3) := by decide +kernel
theorem dX4_mostGained_88 : decode cX4_mostGained 88 = .ok (.iload_n 3, 1) := by decide +kernel
theorem dX4_mostGained_89 : decode cX4_mostGained 89 = .ok (.iaload, 1) := by decide +kernel
theorem dX4_mostGained_90 : decode cX4_mostGained 90 = .ok (.invokevirtual 180, 3) := by decide +kernel
theorem dX4_mostGained_93 : decode cX4_mostGained 93 = .ok (.iastore, 1) := by decide +kernel
theorem dX4_mostGained_94 : decode cX4_mostGained 94 = .ok (.iinc 4 (-1), 3) := by decide +kernel
theorem dX4_mostGained_97 : decode cX4_mostGained 97 = .ok (.goto (-27), 3) := by decide +kernel
theorem dX4_mostGained_100 : decode cX4_mostGained 100 = .ok (.iinc 3 1, 3) := by decide +kernel
theorem dX4_mostGained_103 : decode cX4_mostGained 103 = .ok (.goto (-56), 3) := by decide +kernel
theorem dX4_mostGained_106 : decode cX4_mostGained 106 = .ok (.aload_n 0, 1) := by decide +kernel
theorem dX4_mostGained_107 : decode cX4_mostGained 107 = .ok (.getfield 33, 3) := by decide +kernel
theorem dX4_mostGained_110 : decode cX4_mostGained 110 = .ok (.iload_n 2, 1) := by decide +kernel
theorem dX4_mostGained_111 : decode cX4_mostGained 111 = .ok (.iconst 1, 1) := by decide +kernel
theorem dX4_mostGained_112 : decode cX4_mostGained 112 = .ok (.isub, 1) := by decide +kernel
theorem dX4_mostGained_113 : decode cX4_mostGained 113 = .ok (.iaload, 1) := by decide +kernel
theorem dX4_mostGained_114 : decode cX4_mostGained 114 = .ok (.ireturn, 1) := by decide +kernel
theorem dX4_sumGains_0 : decode cX4_sumGains 0 = .ok (.aload_n 0, 1) := by decide +kernel
theorem dX4_sumGains_1 : decode cX4_sumGains 1 = .ok (.getfield 36, 3) := by decide +kernel
theorem dX4_sumGains_4 : decode cX4_sumGains 4 = .ok (.iconst 0, 1) := by decide +kernel
theorem dX4_sumGains_5 : decode cX4_sumGains 5 = .ok (.iconst 0, 1) := by decide +kernel
theorem dX4_sumGains_6 : decode cX4_sumGains 6 = .ok (.iastore, 1) := by decide +kernel
theorem dX4_sumGains_7 : decode cX4_sumGains 7 = .ok (.iload_n 2, 1) := by decide +kernel
theorem dX4_sumGains_8 : decode cX4_sumGains 8 = .ok (.istore 4, 2) := by decide +kernel
theorem dX4_sumGains_10 : decode cX4_sumGains 10 = .ok (.iload 4, 2) := by decide +kernel
theorem dX4_sumGains_12 : decode cX4_sumGains 12 = .ok (.aload_n 0, 1) := by decide +kernel
theorem dX4_sumGains_13 : decode cX4_sumGains 13 = .ok (.getfield 39, 3) := by decide +kernel
theorem dX4_sumGains_16 : decode cX4_sumGains 16 = .ok (.invokevirtual 161, 3) := by decide +kernel
theorem dX4_sumGains_19 : decode cX4_sumGains 19 = .ok (.if_icmp .ge 72, 3) := by decide +kernel
theorem dX4_sumGains_22 : decode cX4_sumGains 22 = .ok (.iconst 1, 1) := by decide +kernel
theorem dX4_sumGains_23 : decode cX4_sumGains 23 = .ok (.iload 4, 2) := by decide +kernel
theorem dX4_sumGains_25 : decode cX4_sumGains 25 = .ok (.iload_n 2, 1) := by decide +kernel
theorem dX4_sumGains_26 : decode cX4_sumGains 26 = .ok (.isub, 1) := by decide +kernel
theorem dX4_sumGains_27 : decode cX4_sumGains 27 = .ok (.ishl, 1) := by decide +kernel
theorem dX4_sumGains_28 : decode cX4_sumGains 28 = .ok (.istore 5, 2) := by decide +kernel
theorem dX4_sumGains_30 : decode cX4_sumGains 30 = .ok (.iload 5, 2) := by decide +kernel
theorem dX4_sumGains_32 : decode cX4_sumGains 32 = .ok (.istore 6, 2) := by decide +kernel
theorem dX4_sumGains_34 : decode cX4_sumGains 34 = .ok (.iload 6, 2) := by decide +kernel
theorem dX4_sumGains_36 : decode cX4_sumGains 36 = .ok (.iconst 2, 1) := by decide +kernel
theorem dX4_sumGains_37 : decode cX4_sumGains 37 = .ok (.iload 5, 2) := by decide +kernel
theorem dX4_sumGains_39 : decode cX4_sumGains 39 = .ok (.imul, 1) := by decide +kernel
theorem dX4_sumGains_40 : decode cX4_sumGains 40 = .ok (.if_icmp .ge 45, 3) := by decide +kernel
theorem dX4_sumGains_43 : decode cX4_sumGains 43 = .ok (.iload 6, 2) := by decide +kernel
theorem dX4_sumGains_45 : decode cX4_sumGains 45 = .ok (.iload_n 3, 1) := by decide +kernel
theorem dX4_sumGains_46 : decode cX4_sumGains 46 = .ok (.if_icmp .ge 39, 3) := by decide +kernel
theorem dX4_sumGains_49 : decode cX4_sumGains 49 = .ok (.aload_n 0, 1) := by decide +kernel
theorem dX4_sumGains_50 : decode cX4_sumGains 50 = .ok (.getfield 36, 3) := by decide +kernel
theorem dX4_sumGains_53 : decode cX4_sumGains 53 = .ok (.iload 6, 2) := by decide +kernel
theorem dX4_sumGains_55 : decode cX4_sumGains 55 = .ok (.aload_n 0, 1) := by decide +kernel
theorem dX4_sumGains_56 : decode cX4_sumGains 56 = .ok (.getfield 36, 3) := by decide +kernel
theorem dX4_sumGains_59 : decode cX4_sumGains 59 = .ok (.iload 6, 2) := by decide +kernel
theorem dX4_sumGains_61 : decode cX4_sumGains 61 = .ok (.iload 5, 2) := by decide +kernel
theorem dX4_sumGains_63 : decode cX4_sumGains 63 = .ok (.isub, 1) := by decide +kernel
theorem dX4_sumGains_64 : decode cX4_sumGains 64 = .ok (.iaload, 1) := by decide +kernel
theorem dX4_sumGains_65 : decode cX4_sumGains 65 = .ok (.aload_n 0, 1) := by decide +kernel
theorem dX4_sumGains_66 : decode cX4_sumGains 66 = .ok (.getfield 27, 3) := by decide +kernel
theorem dX4_sumGains_69 : decode cX4_sumGains 69 = .ok (.iload 4, 2) := by decide +kernel
theorem dX4_sumGains_71 : decode cX4_sumGains 71 = .ok (.bipush 8, 2) := by decide +kernel
theorem dX4_sumGains_73 : decode cX4_sumGains 73 = .ok (.imul, 1) := by decide +kernel
theorem dX4_sumGains_74 : decode cX4_sumGains 74 = .ok (.iload_n 1, 1) := by decide +kernel
theorem dX4_sumGains_75 : decode cX4_sumGains 75 = .ok (.iadd, 1) := by decide +kernel
theorem dX4_sumGains_76 : decode cX4_sumGains 76 = .ok (.iaload, 1) := by decide +kernel
theorem dX4_sumGains_77 : decode cX4_sumGains 77 = .ok (.iadd, 1) := by decide +kernel
theorem dX4_sumGains_78 : decode cX4_sumGains 78 = .ok (.iastore, 1) := by decide +kernel
theorem dX4_sumGains_79 : decode cX4_sumGains 79 = .ok (.iinc 6 1, 3) := by decide +kernel
theorem dX4_sumGains_82 : decode cX4_sumGains 82 = .ok (.goto (-48), 3) := by decide +kernel
theorem dX4_sumGains_85 : decode cX4_sumGains 85 = .ok (.iinc 4 1, 3) := by decide +kernel
theorem dX4_sumGains_88 : decode cX4_sumGains 88 = .ok (.goto (-78), 3) := by decide +kernel
theorem dX4_sumGains_91 : decode cX4_sumGains 91 = .ok (.return_, 1) := by decide +kernel
theorem dX4_bestWith_0 : decode cX4_bestWith 0 = .ok (.aload_n 0, 1) := by decide +kernel
theorem dX4_bestWith_1 : decode cX4_bestWith 1 = .ok (.getfield 33, 3) := by decide +kernel
theorem dX4_bestWith_4 : decode cX4_bestWith 4 = .ok (.iload_n 1, 1) := by decide +kernel
theorem dX4_bestWith_5 : decode cX4_bestWith 5 = .ok (.iaload, 1) := by decide +kernel
theorem dX4_bestWith_6 : decode cX4_bestWith 6 = .ok (.istore_n 3, 1) := by decide +kernel
theorem dX4_bestWith_7 : decode cX4_bestWith 7 = .ok (.iload_n 1, 1) := by decide +kernel
theorem dX4_bestWith_8 : decode cX4_bestWith 8 = .ok (.istore 4, 2) := by decide +kernel
theorem dX4_bestWith_10 : decode cX4_bestWith 10 = .ok (.iload 4, 2) := by decide +kernel
theorem dX4_bestWith_12 : decode cX4_bestWith 12 = .ok (.ifCond .le 47, 3) := by decide +kernel
theorem dX4_bestWith_15 : decode cX4_bestWith 15 = .ok (.iload 4, 2) := by decide +kernel
theorem dX4_bestWith_17 : decode cX4_bestWith 17 = .ok (.invokestatic 120, 3) := by decide +kernel
theorem dX4_bestWith_20 : decode cX4_bestWith 20 = .ok (.iload_n 2, 1) := by decide +kernel
theorem dX4_bestWith_21 : decode cX4_bestWith 21 = .ok (.if_icmp .gt 27, 3) := by decide +kernel
theorem dX4_bestWith_24 : decode cX4_bestWith 24 = .ok (.iload_n 3, 1) := by decide +kernel
theorem dX4_bestWith_25 : decode cX4_bestWith 25 = .ok (.aload_n 0, 1) := by decide +kernel
theorem dX4_bestWith_26 : decode cX4_bestWith 26 = .ok (.getfield 33, 3) := by decide +kernel
theorem dX4_bestWith_29 : decode cX4_bestWith 29 = .ok (.iload_n 1, 1) := by decide +kernel
theorem dX4_bestWith_30 : decode cX4_bestWith 30 = .ok (.iload 4, 2) := by decide +kernel
theorem dX4_bestWith_32 : decode cX4_bestWith 32 = .ok (.iconst (-1), 1) := by decide +kernel
theorem dX4_bestWith_33 : decode cX4_bestWith 33 = .ok (.ixor, 1) := by decide +kernel
theorem dX4_bestWith_34 : decode cX4_bestWith 34 = .ok (.iand, 1) := by decide +kernel
theorem dX4_bestWith_35 : decode cX4_bestWith 35 = .ok (.iaload, 1) := by decide +kernel
theorem dX4_bestWith_36 : decode cX4_bestWith 36 = .ok (.aload_n 0, 1) := by decide +kernel
theorem dX4_bestWith_37 : decode cX4_bestWith 37 = .ok (.getfield 36, 3) := by decide +kernel
theorem dX4_bestWith_40 : decode cX4_bestWith 40 = .ok (.iload 4, 2) := by decide +kernel
theorem dX4_bestWith_42 : decode cX4_bestWith 42 = .ok (.iaload, 1) := by decide +kernel
theorem dX4_bestWith_43 : decode cX4_bestWith 43 = .ok (.iadd, 1) := by decide +kernel
theorem dX4_bestWith_44 : decode cX4_bestWith 44 = .ok (.invokestatic 132, 3) := by decide +kernel
theorem dX4_bestWith_47 : decode cX4_bestWith 47 = .ok (.istore_n 3, 1) := by decide +kernel
theorem dX4_bestWith_48 : decode cX4_bestWith 48 = .ok (.iload 4, 2) := by decide +kernel
theorem dX4_bestWith_50 : decode cX4_bestWith 50 = .ok (.iconst 1, 1) := by decide +kernel
theorem dX4_bestWith_51 : decode cX4_bestWith 51 = .ok (.isub, 1) := by decide +kernel
theorem dX4_bestWith_52 : decode cX4_bestWith 52 = .ok (.iload_n 1, 1) := by decide +kernel
theorem dX4_bestWith_53 : decode cX4_bestWith 53 = .ok (.iand, 1) := by decide +kernel
theorem dX4_bestWith_54 : decode cX4_bestWith 54 = .ok (.istore 4, 2) := by decide +kernel
theorem dX4_bestWith_56 : decode cX4_bestWith 56 = .ok (.goto (-46), 3) := by decide +kernel
theorem dX4_bestWith_59 : decode cX4_bestWith 59 = .ok (.iload_n 3, 1) := by decide +kernel
theorem dX4_bestWith_60 : decode cX4_bestWith 60 = .ok (.ireturn, 1) := by decide +kernel
theorem dX5_init_0 : decode cX5_init 0 = .ok (.aload_n 0, 1) := by decide +kernel
theorem dX5_init_1 : decode cX5_init 1 = .ok (.invokespecial 1, 3) := by decide +kernel
theorem dX5_init_4 : decode cX5_init 4 = .ok (.aload_n 0, 1) := by decide +kernel
theorem dX5_init_5 : decode cX5_init 5 = .ok (.sipush 1148, 3) := by decide +kernel
theorem dX5_init_8 : decode cX5_init 8 = .ok (.newarray .int, 2) := by decide +kernel
theorem dX5_init_10 : decode cX5_init 10 = .ok (.putfield 11, 3) := by decide +kernel
theorem dX5_init_13 : decode cX5_init 13 = .ok (.return_, 1) := by decide +kernel
theorem dX5_size_0 : decode cX5_size 0 = .ok (.aload_n 0, 1) := by decide +kernel
theorem dX5_size_1 : decode cX5_size 1 = .ok (.getfield 15, 3) := by decide +kernel
theorem dX5_size_4 : decode cX5_size 4 = .ok (.ireturn, 1) := by decide +kernel
theorem dX5_remember_0 : decode cX5_remember 0 = .ok (.aload_n 1, 1) := by decide +kernel
theorem dX5_remember_1 : decode cX5_remember 1 = .ok (.aload_n 0, 1) := by decide +kernel
theorem dX5_remember_2 : decode cX5_remember 2 = .ok (.getfield 11, 3) := by decide +kernel
theorem dX5_remember_5 : decode cX5_remember 5 = .ok (.aload_n 0, 1) := by decide +kernel
theorem dX5_remember_6 : decode cX5_remember 6 = .ok (.getfield 19, 3) := by decide +kernel
theorem dX5_remember_9 : decode cX5_remember 9 = .ok (.bipush 82, 2) := by decide +kernel
theorem dX5_remember_11 : decode cX5_remember 11 = .ok (.imul, 1) := by decide +kernel
theorem dX5_remember_12 : decode cX5_remember 12 = .ok (.invokevirtual 22, 3) := by decide +kernel
theorem dX5_remember_15 : decode cX5_remember 15 = .ok (.aload_n 0, 1) := by decide +kernel
theorem dX5_remember_16 : decode cX5_remember 16 = .ok (.aload_n 0, 1) := by decide +kernel
theorem dX5_remember_17 : decode cX5_remember 17 = .ok (.getfield 19, 3) := by decide +kernel
theorem dX5_remember_20 : decode cX5_remember 20 = .ok (.iconst 1, 1) := by decide +kernel
theorem dX5_remember_21 : decode cX5_remember 21 = .ok (.iadd, 1) := by decide +kernel
theorem dX5_remember_22 : decode cX5_remember 22 = .ok (.bipush 12, 2) := by decide +kernel
theorem dX5_remember_24 : decode cX5_remember 24 = .ok (.irem, 1) := by decide +kernel
theorem dX5_remember_25 : decode cX5_remember 25 = .ok (.putfield 19, 3) := by decide +kernel
theorem dX5_remember_28 : decode cX5_remember 28 = .ok (.aload_n 0, 1) := by decide +kernel
theorem dX5_remember_29 : decode cX5_remember 29 = .ok (.bipush 12, 2) := by decide +kernel
theorem dX5_remember_31 : decode cX5_remember 31 = .ok (.aload_n 0, 1) := by decide +kernel
theorem dX5_remember_32 : decode cX5_remember 32 = .ok (.getfield 15, 3) := by decide +kernel
theorem dX5_remember_35 : decode cX5_remember 35 = .ok (.iconst 1, 1) := by decide +kernel
theorem dX5_remember_36 : decode cX5_remember 36 = .ok (.iadd, 1) := by decide +kernel
theorem dX5_remember_37 : decode cX5_remember 37 = .ok (.invokestatic 26, 3) := by decide +kernel
theorem dX5_remember_40 : decode cX5_remember 40 = .ok (.putfield 15, 3) := by decide +kernel
theorem dX5_remember_43 : decode cX5_remember 43 = .ok (.return_, 1) := by decide +kernel
theorem dX5_bringBack_0 : decode cX5_bringBack 0 = .ok (.aload_n 0, 1) := by decide +kernel
theorem dX5_bringBack_1 : decode cX5_bringBack 1 = .ok (.getfield 15, 3) := by decide +kernel
theorem dX5_bringBack_4 : decode cX5_bringBack 4 = .ok (.ifCond .ne 5, 3) := by decide +kernel
theorem dX5_bringBack_7 : decode cX5_bringBack 7 = .ok (.iconst 0, 1) := by decide +kernel
theorem dX5_bringBack_8 : decode cX5_bringBack 8 = .ok (.ireturn, 1) := by decide +kernel
theorem dX5_bringBack_9 : decode cX5_bringBack 9 = .ok (.aload_n 0, 1) := by decide +kernel
theorem dX5_bringBack_10 : decode cX5_bringBack 10 = .ok (.aload_n 0, 1) := by decide +kernel
theorem dX5_bringBack_11 : decode cX5_bringBack 11 = .ok (.getfield 19, 3) := by decide +kernel
theorem dX5_bringBack_14 : decode cX5_bringBack 14 = .ok (.bipush 12, 2) := by decide +kernel
theorem dX5_bringBack_16 : decode cX5_bringBack 16 = .ok (.iadd, 1) := by decide +kernel
theorem dX5_bringBack_17 : decode cX5_bringBack 17 = .ok (.iconst 1, 1) := by decide +kernel
theorem dX5_bringBack_18 : decode cX5_bringBack 18 = .ok (.isub, 1) := by decide +kernel
theorem dX5_bringBack_19 : decode cX5_bringBack 19 = .ok (.bipush 12, 2) := by decide +kernel
theorem dX5_bringBack_21 : decode cX5_bringBack 21 = .ok (.irem, 1) := by decide +kernel
theorem dX5_bringBack_22 : decode cX5_bringBack 22 = .ok (.putfield 19, 3) := by decide +kernel
theorem dX5_bringBack_25 : decode cX5_bringBack 25 = .ok (.aload_n 0, 1) := by decide +kernel
theorem dX5_bringBack_26 : decode cX5_bringBack 26 = .ok (.dup, 1) := by decide +kernel
theorem dX5_bringBack_27 : decode cX5_bringBack 27 = .ok (.getfield 15, 3) := by decide +kernel
theorem dX5_bringBack_30 : decode cX5_bringBack 30 = .ok (.iconst 1, 1) := by decide +kernel
theorem dX5_bringBack_31 : decode cX5_bringBack 31 = .ok (.isub, 1) := by decide +kernel
theorem dX5_bringBack_32 : decode cX5_bringBack 32 = .ok (.putfield 15, 3) := by decide +kernel
theorem dX5_bringBack_35 : decode cX5_bringBack 35 = .ok (.aload_n 1, 1) := by decide +kernel
theorem dX5_bringBack_36 : decode cX5_bringBack 36 = .ok (.aload_n 0, 1) := by decide +kernel
theorem dX5_bringBack_37 : decode cX5_bringBack 37 = .ok (.getfield 11, 3) := by decide +kernel
theorem dX5_bringBack_40 : decode cX5_bringBack 40 = .ok (.aload_n 0, 1) := by decide +kernel
theorem dX5_bringBack_41 : decode cX5_bringBack 41 = .ok (.getfield 19, 3) := by decide +kernel
theorem dX5_bringBack_44 : decode cX5_bringBack 44 = .ok (.bipush 82, 2) := by decide +kernel
theorem dX5_bringBack_46 : decode cX5_bringBack 46 = .ok (.imul, 1) := by decide +kernel
theorem dX5_bringBack_47 : decode cX5_bringBack 47 = .ok (.invokevirtual 32, 3) := by decide +kernel
theorem dX5_bringBack_50 : decode cX5_bringBack 50 = .ok (.iconst 1, 1) := by decide +kernel
theorem dX5_bringBack_51 : decode cX5_bringBack 51 = .ok (.ireturn, 1) := by decide +kernel
theorem dX5_keepAs_0 : decode cX5_keepAs 0 = .ok (.iload_n 1, 1) := by decide +kernel
theorem dX5_keepAs_1 : decode cX5_keepAs 1 = .ok (.iconst 0, 1) := by decide +kernel
theorem dX5_keepAs_2 : decode cX5_keepAs 2 = .ok (.iconst 1, 1) := by decide +kernel
theorem dX5_keepAs_3 : decode cX5_keepAs 3 = .ok (.invokestatic 35, 3) := by decide +kernel
theorem dX5_keepAs_6 : decode cX5_keepAs 6 = .ok (.ifCond .ne 5, 3) := by decide +kernel
theorem dX5_keepAs_9 : decode cX5_keepAs 9 = .ok (.iconst 0, 1) := by decide +kernel
theorem dX5_keepAs_10 : decode cX5_keepAs 10 = .ok (.ireturn, 1) := by decide +kernel
theorem dX5_keepAs_11 : decode cX5_keepAs 11 = .ok (.aload_n 2, 1) := by decide +kernel
theorem dX5_keepAs_12 : decode cX5_keepAs 12 = .ok (.aload_n 0, 1) := by decide +kernel
theorem dX5_keepAs_13 : decode cX5_keepAs 13 = .ok (.getfield 11, 3) := by decide +kernel
theorem dX5_keepAs_16 : decode cX5_keepAs 16 = .ok (.bipush 12, 2) := by decide +kernel
theorem dX5_keepAs_18 : decode cX5_keepAs 18 = .ok (.iload_n 1, 1) := by decide +kernel
theorem dX5_keepAs_19 : decode cX5_keepAs 19 = .ok (.iadd, 1) := by decide +kernel
theorem dX5_keepAs_20 : decode cX5_keepAs 20 = .ok (.bipush 82, 2) := by decide +kernel
theorem dX5_keepAs_22 : decode cX5_keepAs 22 = .ok (.imul, 1) := by decide +kernel
theorem dX5_keepAs_23 : decode cX5_keepAs 23 = .ok (.invokevirtual 22, 3) := by decide +kernel
theorem dX5_keepAs_26 : decode cX5_keepAs 26 = .ok (.aload_n 0, 1) := by decide +kernel
theorem dX5_keepAs_27 : decode cX5_keepAs 27 = .ok (.dup, 1) := by decide +kernel
theorem dX5_keepAs_28 : decode cX5_keepAs 28 = .ok (.getfield 41, 3) := by decide +kernel
theorem dX5_keepAs_31 : decode cX5_keepAs 31 = .ok (.iconst 1, 1) := by decide +kernel
theorem dX5_keepAs_32 : decode cX5_keepAs 32 = .ok (.iload_n 1, 1) := by decide +kernel
theorem dX5_keepAs_33 : decode cX5_keepAs 33 = .ok (.ishl, 1) := by decide +kernel
theorem dX5_keepAs_34 : decode cX5_keepAs 34 = .ok (.ior, 1) := by decide +kernel
theorem dX5_keepAs_35 : decode cX5_keepAs 35 = .ok (.putfield 41, 3) := by decide +kernel
theorem dX5_keepAs_38 : decode cX5_keepAs 38 = .ok (.iconst 1, 1) := by decide +kernel
theorem dX5_keepAs_39 : decode cX5_keepAs 39 = .ok (.ireturn, 1) := by decide +kernel
theorem dX5_bringKept_0 : decode cX5_bringKept 0 = .ok (.iload_n 1, 1) := by decide +kernel
theorem dX5_bringKept_1 : decode cX5_bringKept 1 = .ok (.iconst 0, 1) := by decide +kernel
theorem dX5_bringKept_2 : decode cX5_bringKept 2 = .ok (.iconst 1, 1) := by decide +kernel
theorem dX5_bringKept_3 : decode cX5_bringKept 3 = .ok (.invokestatic 35, 3) := by decide +kernel
theorem dX5_bringKept_6 : decode cX5_bringKept 6 = .ok (.ifCond .eq 14, 3) := by decide +kernel
theorem dX5_bringKept_9 : decode cX5_bringKept 9 = .ok (.iload_n 1, 1) := by decide +kernel
theorem dX5_bringKept_10 : decode cX5_bringKept 10 = .ok (.aload_n 0, 1) := by decide +kernel
theorem dX5_bringKept_11 : decode cX5_bringKept 11 = .ok (.getfield 41, 3) := by decide +kernel
theorem dX5_bringKept_14 : decode cX5_bringKept 14 = .ok (.invokestatic 44, 3) := by decide +kernel
theorem dX5_bringKept_17 : decode cX5_bringKept 17 = .ok (.ifCond .ne 5, 3) := by decide +kernel
theorem dX5_bringKept_20 : decode cX5_bringKept 20 = .ok (.iconst 0, 1) := by decide +kernel
theorem dX5_bringKept_21 : decode cX5_bringKept 21 = .ok (.ireturn, 1) := by decide +kernel
theorem dX5_bringKept_22 : decode cX5_bringKept 22 = .ok (.aload_n 2, 1) := by decide +kernel
theorem dX5_bringKept_23 : decode cX5_bringKept 23 = .ok (.aload_n 0, 1) := by decide +kernel
theorem dX5_bringKept_24 : decode cX5_bringKept 24 = .ok (.getfield 11, 3) := by decide +kernel
theorem dX5_bringKept_27 : decode cX5_bringKept 27 = .ok (.bipush 12, 2) := by decide +kernel
theorem dX5_bringKept_29 : decode cX5_bringKept 29 = .ok (.iload_n 1, 1) := by decide +kernel
theorem dX5_bringKept_30 : decode cX5_bringKept 30 = .ok (.iadd, 1) := by decide +kernel
theorem dX5_bringKept_31 : decode cX5_bringKept 31 = .ok (.bipush 82, 2) := by decide +kernel
theorem dX5_bringKept_33 : decode cX5_bringKept 33 = .ok (.imul, 1) := by decide +kernel
theorem dX5_bringKept_34 : decode cX5_bringKept 34 = .ok (.invokevirtual 32, 3) := by decide +kernel
theorem dX5_bringKept_37 : decode cX5_bringKept 37 = .ok (.aload_n 0, 1) := by decide +kernel
theorem dX5_bringKept_38 : decode cX5_bringKept 38 = .ok (.iconst 0, 1) := by decide +kernel
theorem dX5_bringKept_39 : decode cX5_bringKept 39 = .ok (.putfield 15, 3) := by decide +kernel
theorem dX5_bringKept_42 : decode cX5_bringKept 42 = .ok (.iconst 1, 1) := by decide +kernel
theorem dX5_bringKept_43 : decode cX5_bringKept 43 = .ok (.ireturn, 1) := by decide +kernel
theorem dX5_forgetAll_0 : decode cX5_forgetAll 0 = .ok (.aload_n 0, 1) := by decide +kernel
theorem dX5_forgetAll_1 : decode cX5_forgetAll 1 = .ok (.iconst 0, 1) := by decide +kernel
theorem dX5_forgetAll_2 : decode cX5_forgetAll 2 = .ok (.putfield 15, 3) := by decide +kernel
theorem dX5_forgetAll_5 : decode cX5_forgetAll 5 = .ok (.aload_n 0, 1) := by decide +kernel
theorem dX5_forgetAll_6 : decode cX5_forgetAll 6 = .ok (.iconst 0, 1) := by decide +kernel
theorem dX5_forgetAll_7 : decode cX5_forgetAll 7 = .ok (.putfield 41, 3) := by decide +kernel
theorem dX5_forgetAll_10 : decode cX5_forgetAll 10 = .ok (.return_, 1) := by decide +kernel
theorem dX6_init_0 : decode cX6_init 0 = .ok (.aload_n 0, 1) := by decide +kernel
theorem dX6_init_1 : decode cX6_init 1 = .ok (.bipush 40, 2) := by decide +kernel
theorem dX6_init_3 : decode cX6_init 3 = .ok (.invokespecial 5, 3) := by decide +kernel
theorem dX6_init_6 : decode cX6_init 6 = .ok (.aload_n 0, 1) := by decide +kernel
theorem dX6_init_7 : decode cX6_init 7 = .ok (.bipush 40, 2) := by decide +kernel
theorem dX6_init_9 : decode cX6_init 9 = .ok (.newarray .int, 2) := by decide +kernel
theorem dX6_init_11 : decode cX6_init 11 = .ok (.putfield 11, 3) := by decide +kernel
theorem dX6_init_14 : decode cX6_init 14 = .ok (.aload_n 0, 1) := by decide +kernel
theorem dX6_init_15 : decode cX6_init 15 = .ok (.bipush 40, 2) := by decide +kernel
theorem dX6_init_17 : decode cX6_init 17 = .ok (.newarray .int, 2) := by decide +kernel
theorem dX6_init_19 : decode cX6_init 19 = .ok (.putfield 15, 3) := by decide +kernel
theorem dX6_init_22 : decode cX6_init 22 = .ok (.aload_n 0, 1) := by decide +kernel
theorem dX6_init_23 : decode cX6_init 23 = .ok (.bipush 40, 2) := by decide +kernel
theorem dX6_init_25 : decode cX6_init 25 = .ok (.newarray .int, 2) := by decide +kernel
theorem dX6_init_27 : decode cX6_init 27 = .ok (.putfield 18, 3) := by decide +kernel
theorem dX6_init_30 : decode cX6_init 30 = .ok (.return_, 1) := by decide +kernel
theorem dX6_read_0 : decode cX6_read 0 = .ok (.aload_n 1, 1) := by decide +kernel
theorem dX6_read_1 : decode cX6_read 1 = .ok (.invokevirtual 21, 3) := by decide +kernel
theorem dX6_read_4 : decode cX6_read 4 = .ok (.ifCond .ne 10, 3) := by decide +kernel
theorem dX6_read_7 : decode cX6_read 7 = .ok (.aload_n 0, 1) := by decide +kernel
theorem dX6_read_8 : decode cX6_read 8 = .ok (.iconst 0, 1) := by decide +kernel
theorem dX6_read_9 : decode cX6_read 9 = .ok (.putfield 27, 3) := by decide +kernel
theorem dX6_read_12 : decode cX6_read 12 = .ok (.iconst (-1), 1) := by decide +kernel
theorem dX6_read_13 : decode cX6_read 13 = .ok (.ireturn, 1) := by decide +kernel
theorem dX6_read_14 : decode cX6_read 14 = .ok (.aload_n 0, 1) := by decide +kernel
theorem dX6_read_15 : decode cX6_read 15 = .ok (.aload_n 1, 1) := by decide +kernel
theorem dX6_read_16 : decode cX6_read 16 = .ok (.iconst 0, 1) := by decide +kernel
theorem dX6_read_17 : decode cX6_read 17 = .ok (.invokevirtual 30, 3) := by decide +kernel
theorem dX6_read_20 : decode cX6_read 20 = .ok (.istore_n 2, 1) := by decide +kernel
theorem dX6_read_21 : decode cX6_read 21 = .ok (.iload_n 2, 1) := by decide +kernel
theorem dX6_read_22 : decode cX6_read 22 = .ok (.iconst (-1), 1) := by decide +kernel
theorem dX6_read_23 : decode cX6_read 23 = .ok (.if_icmp .ne 8, 3) := by decide +kernel
theorem dX6_read_26 : decode cX6_read 26 = .ok (.aload_n 0, 1) := by decide +kernel
theorem dX6_read_27 : decode cX6_read 27 = .ok (.iconst 1, 1) := by decide +kernel
theorem dX6_read_28 : decode cX6_read 28 = .ok (.invokevirtual 34, 3) := by decide +kernel
theorem dX6_read_31 : decode cX6_read 31 = .ok (.iload_n 2, 1) := by decide +kernel
theorem dX6_read_32 : decode cX6_read 32 = .ok (.ireturn, 1) := by decide +kernel
theorem dX6_begin_0 : decode cX6_begin 0 = .ok (.aload_n 0, 1) := by decide +kernel
theorem dX6_begin_1 : decode cX6_begin 1 = .ok (.iconst 0, 1) := by decide +kernel
theorem dX6_begin_2 : decode cX6_begin 2 = .ok (.putfield 27, 3) := by decide +kernel
theorem dX6_begin_5 : decode cX6_begin 5 = .ok (.aload_n 0, 1) := by decide +kernel
theorem dX6_begin_6 : decode cX6_begin 6 = .ok (.iconst 0, 1) := by decide +kernel
theorem dX6_begin_7 : decode cX6_begin 7 = .ok (.putfield 37, 3) := by decide +kernel
theorem dX6_begin_10 : decode cX6_begin 10 = .ok (.aload_n 0, 1) := by decide +kernel
theorem dX6_begin_11 : decode cX6_begin 11 = .ok (.iconst 0, 1) := by decide +kernel
theorem dX6_begin_12 : decode cX6_begin 12 = .ok (.putfield 40, 3) := by decide +kernel
theorem dX6_begin_15 : decode cX6_begin 15 = .ok (.aload_n 0, 1) := by decide +kernel
theorem dX6_begin_16 : decode cX6_begin 16 = .ok (.iconst 0, 1) := by decide +kernel
theorem dX6_begin_17 : decode cX6_begin 17 = .ok (.putfield 43, 3) := by decide +kernel
theorem dX6_begin_20 : decode cX6_begin 20 = .ok (.aload_n 0, 1) := by decide +kernel
theorem dX6_begin_21 : decode cX6_begin 21 = .ok (.iconst 0, 1) := by decide +kernel
theorem dX6_begin_22 : decode cX6_begin 22 = .ok (.putfield 46, 3) := by decide +kernel
theorem dX6_begin_25 : decode cX6_begin 25 = .ok (.aload_n 0, 1) := by decide +kernel
theorem dX6_begin_26 : decode cX6_begin 26 = .ok (.iconst 1, 1) := by decide +kernel
theorem dX6_begin_27 : decode cX6_begin 27 = .ok (.putfield 49, 3) := by decide +kernel
theorem dX6_begin_30 : decode cX6_begin 30 = .ok (.return_, 1) := by decide +kernel
theorem dX6_takes_0 : decode cX6_takes 0 = .ok (.aload_n 0, 1) := by decide +kernel
theorem dX6_takes_1 : decode cX6_takes 1 = .ok (.getfield 49, 3) := by decide +kernel
theorem dX6_takes_4 : decode cX6_takes 4 = .ok (.ifCond .eq 9, 3) := by decide +kernel
theorem dX6_takes_7 : decode cX6_takes 7 = .ok (.aload_n 0, 1) := by decide +kernel
theorem dX6_takes_8 : decode cX6_takes 8 = .ok (.iload_n 1, 1) := by decide +kernel
theorem dX6_takes_9 : decode cX6_takes 9 = .ok (.invokevirtual 53, 3) := by decide +kernel
theorem dX6_takes_12 : decode cX6_takes 12 = .ok (.ireturn, 1) := by decide +kernel
theorem dX6_takes_13 : decode cX6_takes 13 = .ok (.aload_n 0, 1) := by decide +kernel
theorem dX6_takes_14 : decode cX6_takes 14 = .ok (.getfield 43, 3) := by decide +kernel
theorem dX6_takes_17 : decode cX6_takes 17 = .ok (.ifCond .le 16, 3) := by decide +kernel
theorem dX6_takes_20 : decode cX6_takes 20 = .ok (.iload_n 1, 1) := by decide +kernel
theorem dX6_takes_21 : decode cX6_takes 21 = .ok (.invokestatic 57, 3) := by decide +kernel
theorem dX6_takes_24 : decode cX6_takes 24 = .ok (.ifCond .eq 9, 3) := by decide +kernel
theorem dX6_takes_27 : decode cX6_takes 27 = .ok (.aload_n 0, 1) := by decide +kernel
theorem dX6_takes_28 : decode cX6_takes 28 = .ok (.iload_n 1, 1) := by decide +kernel
theorem dX6_takes_29 : decode cX6_takes 29 = .ok (.invokevirtual 60, 3) := by decide +kernel
theorem dX6_takes_32 : decode cX6_takes 32 = .ok (.ireturn, 1) := by decide +kernel
theorem dX6_takes_33 : decode cX6_takes 33 = .ok (.aload_n 0, 1) := by decide +kernel
theorem dX6_takes_34 : decode cX6_takes 34 = .ok (.iconst 0, 1) := by decide +kernel
theorem dX6_takes_35 : decode cX6_takes 35 = .ok (.putfield 43, 3) := by decide +kernel
theorem dX6_takes_38 : decode cX6_takes 38 = .ok (.iload_n 1, 1) := by decide +kernel
theorem dX6_takes_39 : decode cX6_takes 39 = .ok (.bipush 41, 2) := by decide +kernel
theorem dX6_takes_41 : decode cX6_takes 41 = .ok (.if_icmp .ne 10, 3) := by decide +kernel
theorem dX6_takes_44 : decode cX6_takes 44 = .ok (.aload_n 0, 1) := by decide +kernel
theorem dX6_takes_45 : decode cX6_takes 45 = .ok (.invokevirtual 63, 3) := by decide +kernel
theorem dX6_takes_48 : decode cX6_takes 48 = .ok (.goto 8, 3) := by decide +kernel
theorem dX6_takes_51 : decode cX6_takes 51 = .ok (.aload_n 0, 1) := by decide +kernel
theorem dX6_takes_52 : decode cX6_takes 52 = .ok (.iload_n 1, 1) := by decide +kernel
theorem dX6_takes_53 : decode cX6_takes 53 = .ok (.invokevirtual 67, 3) := by decide +kernel
theorem dX6_takes_56 : decode cX6_takes 56 = .ok (.ireturn, 1) := by decide +kernel
theorem dX6_takesThing_0 : decode cX6_takesThing 0 = .ok (.iload_n 1, 1) := by decide +kernel
theorem dX6_takesThing_1 : decode cX6_takesThing 1 = .ok (.bipush 45, 2) := by decide +kernel
theorem dX6_takesThing_3 : decode cX6_takesThing 3 = .ok (.if_icmp .ne 12, 3) := by decide +kernel
theorem dX6_takesThing_6 : decode cX6_takesThing 6 = .ok (.aload_n 0, 1) := by decide +kernel
theorem dX6_takesThing_7 : decode cX6_takesThing 7 = .ok (.sipush 256, 3) := by decide +kernel
theorem dX6_takesThing_10 : decode cX6_takesThing 10 = .ok (.invokevirtual 70, 3) := by decide +kernel
theorem dX6_takesThing_13 : decode cX6_takesThing 13 = .ok (.iconst 1, 1) := by decide +kernel
theorem dX6_takesThing_14 : decode cX6_takesThing 14 = .ok (.ireturn, 1) := by decide +kernel
theorem dX6_takesThing_15 : decode cX6_takesThing 15 = .ok (.iload_n 1, 1) := by decide +kernel
theorem dX6_takesThing_16 : decode cX6_takesThing 16 = .ok (.bipush 40, 2) := by decide +kernel
theorem dX6_takesThing_18 : decode cX6_takesThing 18 = .ok (.if_icmp .ne 50, 3) := by decide +kernel
theorem dX6_takesThing_21 : decode cX6_takesThing 21 = .ok (.aload_n 0, 1) := by decide +kernel
theorem dX6_takesThing_22 : decode cX6_takesThing 22 = .ok (.dup, 1) := by decide +kernel
theorem dX6_takesThing_23 : decode cX6_takesThing 23 = .ok (.getfield 40, 3) := by decide +kernel
theorem dX6_takesThing_26 : decode cX6_takesThing 26 = .ok (.iconst 1, 1) := by decide +kernel
theorem dX6_takesThing_27 : decode cX6_takesThing 27 = .ok (.iadd, 1) := by decide +kernel
theorem dX6_takesThing_28 : decode cX6_takesThing 28 = .ok (.putfield 40, 3) := by decide +kernel
theorem dX6_takesThing_31 : decode cX6_takesThing 31 = .ok (.aload_n 0, 1) := by decide +kernel
theorem dX6_takesThing_32 : decode cX6_takesThing 32 = .ok (.dup, 1) := by decide +kernel
theorem dX6_takesThing_33 : decode cX6_takesThing 33 = .ok (.getfield 46, 3) := by decide +kernel
theorem dX6_takesThing_36 : decode cX6_takesThing 36 = .ok (.iconst 1, 1) := by decide +kernel
theorem dX6_takesThing_37 : decode cX6_takesThing 37 = .ok (.aload_n 0, 1) := by decide +kernel
theorem dX6_takesThing_38 : decode cX6_takesThing 38 = .ok (.getfield 40, 3) := by decide +kernel
theorem dX6_takesThing_41 : decode cX6_takesThing 41 = .ok (.ishl, 1) := by decide +kernel
theorem dX6_takesThing_42 : decode cX6_takesThing 42 = .ok (.iconst (-1), 1) := by decide +kernel
theorem dX6_takesThing_43 : decode cX6_takesThing 43 = .ok (.ixor, 1) := by decide +kernel
theorem dX6_takesThing_44 : decode cX6_takesThing 44 = .ok (.iand, 1) := by decide +kernel
theorem dX6_takesThing_45 : decode cX6_takesThing 45 = .ok (.putfield 46, 3) := by decide +kernel
theorem dX6_takesThing_48 : decode cX6_takesThing 48 = .ok (.aload_n 0, 1) := by decide +kernel
theorem dX6_takesThing_49 : decode cX6_takesThing 49 = .ok (.bipush 40, 2) := by decide +kernel
theorem dX6_takesThing_51 : decode cX6_takesThing 51 = .ok (.invokevirtual 70, 3) := by decide +kernel
theorem dX6_takesThing_54 : decode cX6_takesThing 54 = .ok (.aload_n 0, 1) := by decide +kernel
theorem dX6_takesThing_55 : decode cX6_takesThing 55 = .ok (.getfield 40, 3) := by decide +kernel
theorem dX6_takesThing_58 : decode cX6_takesThing 58 = .ok (.iconst 4, 1) := by decide +kernel
theorem dX6_takesThing_59 : decode cX6_takesThing 59 = .ok (.if_icmp .gt 7, 3) := by decide +kernel
theorem dX6_takesThing_62 : decode cX6_takesThing 62 = .ok (.iconst 1, 1) := by decide +kernel
theorem dX6_takesThing_63 : decode cX6_takesThing 63 = .ok (.goto 4, 3) := by decide +kernel
theorem dX6_takesThing_66 : decode cX6_takesThing 66 = .ok (.iconst 0, 1) := by decide +kernel
theorem dX6_takesThing_67 : decode cX6_takesThing 67 = .ok (.ireturn, 1) := by decide +kernel
theorem dX6_takesThing_68 : decode cX6_takesThing 68 = .ok (.aload_n 0, 1) := by decide +kernel
theorem dX6_takesThing_69 : decode cX6_takesThing 69 = .ok (.iconst 0, 1) := by decide +kernel
theorem dX6_takesThing_70 : decode cX6_takesThing 70 = .ok (.putfield 49, 3) := by decide +kernel
theorem dX6_takesThing_73 : decode cX6_takesThing 73 = .ok (.iload_n 1, 1) := by decide +kernel
theorem dX6_takesThing_74 : decode cX6_takesThing 74 = .ok (.invokestatic 57, 3) := by decide +kernel
theorem dX6_takesThing_77 : decode cX6_takesThing 77 = .ok (.ifCond .eq 18, 3) := by decide +kernel
theorem dX6_takesThing_80 : decode cX6_takesThing 80 = .ok (.aload_n 0, 1) := by decide +kernel
theorem dX6_takesThing_81 : decode cX6_takesThing 81 = .ok (.iconst 1, 1) := by decide +kernel
theorem dX6_takesThing_82 : decode cX6_takesThing 82 = .ok (.putfield 43, 3) := by decide +kernel
theorem dX6_takesThing_85 : decode cX6_takesThing 85 = .ok (.aload_n 0, 1) := by decide +kernel
theorem dX6_takesThing_86 : decode cX6_takesThing 86 = .ok (.iload_n 1, 1) := by decide +kernel
theorem dX6_takesThing_87 : decode cX6_takesThing 87 = .ok (.bipush 48, 2) := by decide +kernel
theorem dX6_takesThing_89 : decode cX6_takesThing 89 = .ok (.isub, 1) := by decide +kernel
theorem dX6_takesThing_90 : decode cX6_takesThing 90 = .ok (.invokevirtual 73, 3) := by decide +kernel
theorem dX6_takesThing_93 : decode cX6_takesThing 93 = .ok (.iconst 1, 1) := by decide +kernel
theorem dX6_takesThing_94 : decode cX6_takesThing 94 = .ok (.ireturn, 1) := by decide +kernel
theorem dX6_takesThing_95 : decode cX6_takesThing 95 = .ok (.ldc 76, 2) := by decide +kernel
theorem dX6_takesThing_97 : decode cX6_takesThing 97 = .ok (.iload_n 1, 1) := by decide +kernel
theorem dX6_takesThing_98 : decode cX6_takesThing 98 = .ok (.i2c, 1) := by decide +kernel
theorem dX6_takesThing_99 : decode cX6_takesThing 99 = .ok (.invokevirtual 78, 3) := by decide +kernel
theorem dX6_takesThing_102 : decode cX6_takesThing 102 = .ok (.istore_n 2, 1) := by decide +kernel
theorem dX6_takesThing_103 : decode cX6_takesThing 103 = .ok (.aload_n 0, 1) := by decide +kernel
theorem dX6_takesThing_104 : decode cX6_takesThing 104 = .ok (.sipush 1000, 3) := by decide +kernel
theorem dX6_takesThing_107 : decode cX6_takesThing 107 = .ok (.iload_n 2, 1) := by decide +kernel
theorem dX6_takesThing_108 : decode cX6_takesThing 108 = .ok (.iadd, 1) := by decide +kernel
theorem dX6_takesThing_109 : decode cX6_takesThing 109 = .ok (.invokevirtual 73, 3) := by decide +kernel
theorem dX6_takesThing_112 : decode cX6_takesThing 112 = .ok (.iload_n 2, 1) := by decide +kernel
theorem dX6_takesThing_113 : decode cX6_takesThing 113 = .ok (.ifCond .lt 7, 3) := by decide +kernel
theorem dX6_takesThing_116 : decode cX6_takesThing 116 = .ok (.iconst 1, 1) := by decide +kernel
theorem dX6_takesThing_117 : decode cX6_takesThing 117 = .ok (.goto 4, 3) := by decide +kernel
theorem dX6_takesThing_120 : decode cX6_takesThing 120 = .ok (.iconst 0, 1) := by decide +kernel
theorem dX6_takesThing_121 : decode cX6_takesThing 121 = .ok (.ireturn, 1) := by decide +kernel
theorem dX6_takesDigit_0 : decode cX6_takesDigit 0 = .ok (.aload_n 0, 1) := by decide +kernel
theorem dX6_takesDigit_1 : decode cX6_takesDigit 1 = .ok (.dup, 1) := by decide +kernel
theorem dX6_takesDigit_2 : decode cX6_takesDigit 2 = .ok (.getfield 43, 3) := by decide +kernel
theorem dX6_takesDigit_5 : decode cX6_takesDigit 5 = .ok (.iconst 1, 1) := by decide +kernel
theorem dX6_takesDigit_6 : decode cX6_takesDigit 6 = .ok (.iadd, 1) := by decide +kernel
theorem dX6_takesDigit_7 : decode cX6_takesDigit 7 = .ok (.putfield 43, 3) := by decide +kernel
theorem dX6_takesDigit_10 : decode cX6_takesDigit 10 = .ok (.aload_n 0, 1) := by decide +kernel
theorem dX6_takesDigit_11 : decode cX6_takesDigit 11 = .ok (.getfield 43, 3) := by decide +kernel
theorem dX6_takesDigit_14 : decode cX6_takesDigit 14 = .ok (.iconst 3, 1) := by decide +kernel
theorem dX6_takesDigit_15 : decode cX6_takesDigit 15 = .ok (.if_icmp .gt 11, 3) := by decide +kernel
theorem dX6_takesDigit_18 : decode cX6_takesDigit 18 = .ok (.aload_n 0, 1) := by decide +kernel
theorem dX6_takesDigit_19 : decode cX6_takesDigit 19 = .ok (.getfield 27, 3) := by decide +kernel
theorem dX6_takesDigit_22 : decode cX6_takesDigit 22 = .ok (.iconst 1, 1) := by decide +kernel
theorem dX6_takesDigit_23 : decode cX6_takesDigit 23 = .ok (.if_icmp .ge 5, 3) := by decide +kernel
theorem dX6_takesDigit_26 : decode cX6_takesDigit 26 = .ok (.iconst 0, 1) := by decide +kernel
theorem dX6_takesDigit_27 : decode cX6_takesDigit 27 = .ok (.ireturn, 1) := by decide +kernel
theorem dX6_takesDigit_28 : decode cX6_takesDigit 28 = .ok (.aload_n 0, 1) := by decide +kernel
theorem dX6_takesDigit_29 : decode cX6_takesDigit 29 = .ok (.getfield 11, 3) := by decide +kernel
theorem dX6_takesDigit_32 : decode cX6_takesDigit 32 = .ok (.aload_n 0, 1) := by decide +kernel
theorem dX6_takesDigit_33 : decode cX6_takesDigit 33 = .ok (.getfield 27, 3) := by decide +kernel
theorem dX6_takesDigit_36 : decode cX6_takesDigit 36 = .ok (.iconst 1, 1) := by decide +kernel
theorem dX6_takesDigit_37 : decode cX6_takesDigit 37 = .ok (.isub, 1) := by decide +kernel
theorem dX6_takesDigit_38 : decode cX6_takesDigit 38 = .ok (.aload_n 0, 1) := by decide +kernel
theorem dX6_takesDigit_39 : decode cX6_takesDigit 39 = .ok (.getfield 11, 3) := by decide +kernel
theorem dX6_takesDigit_42 : decode cX6_takesDigit 42 = .ok (.aload_n 0, 1) := by decide +kernel
theorem dX6_takesDigit_43 : decode cX6_takesDigit 43 = .ok (.getfield 27, 3) := by decide +kernel
theorem dX6_takesDigit_46 : decode cX6_takesDigit 46 = .ok (.iconst 1, 1) := by decide +kernel
theorem dX6_takesDigit_47 : decode cX6_takesDigit 47 = .ok (.isub, 1) := by decide +kernel
theorem dX6_takesDigit_48 : decode cX6_takesDigit 48 = .ok (.iaload, 1) := by decide +kernel
theorem dX6_takesDigit_49 : decode cX6_takesDigit 49 = .ok (.bipush 10, 2) := by decide +kernel
theorem dX6_takesDigit_51 : decode cX6_takesDigit 51 = .ok (.imul, 1) := by decide +kernel
theorem dX6_takesDigit_52 : decode cX6_takesDigit 52 = .ok (.iload_n 1, 1) := by decide +kernel
theorem dX6_takesDigit_53 : decode cX6_takesDigit 53 = .ok (.iadd, 1) := by decide +kernel
theorem dX6_takesDigit_54 : decode cX6_takesDigit 54 = .ok (.bipush 48, 2) := by decide +kernel
theorem dX6_takesDigit_56 : decode cX6_takesDigit 56 = .ok (.isub, 1) := by decide +kernel
theorem dX6_takesDigit_57 : decode cX6_takesDigit 57 = .ok (.iastore, 1) := by decide +kernel
theorem dX6_takesDigit_58 : decode cX6_takesDigit 58 = .ok (.iconst 1, 1) := by decide +kernel
theorem dX6_takesDigit_59 : decode cX6_takesDigit 59 = .ok (.ireturn, 1) := by decide +kernel
theorem dX6_closes_0 : decode cX6_closes 0 = .ok (.aload_n 0, 1) := by decide +kernel
theorem dX6_closes_1 : decode cX6_closes 1 = .ok (.getfield 40, 3) := by decide +kernel
theorem dX6_closes_4 : decode cX6_closes 4 = .ok (.ifCond .ne 5, 3) := by decide +kernel
theorem dX6_closes_7 : decode cX6_closes 7 = .ok (.iconst 0, 1) := by decide +kernel
theorem dX6_closes_8 : decode cX6_closes 8 = .ok (.ireturn, 1) := by decide +kernel
theorem dX6_closes_9 : decode cX6_closes 9 = .ok (.aload_n 0, 1) := by decide +kernel
theorem dX6_closes_10 : decode cX6_closes 10 = .ok (.iconst 1, 1) := by decide +kernel
theorem dX6_closes_11 : decode cX6_closes 11 = .ok (.invokevirtual 34, 3) := by decide +kernel
theorem dX6_closes_14 : decode cX6_closes 14 = .ok (.aload_n 0, 1) := by decide +kernel
theorem dX6_closes_15 : decode cX6_closes 15 = .ok (.dup, 1) := by decide +kernel
theorem dX6_closes_16 : decode cX6_closes 16 = .ok (.getfield 37, 3) := by decide +kernel
theorem dX6_closes_19 : decode cX6_closes 19 = .ok (.iconst 1, 1) := by decide +kernel
theorem dX6_closes_20 : decode cX6_closes 20 = .ok (.isub, 1) := by decide +kernel
theorem dX6_closes_21 : decode cX6_closes 21 = .ok (.putfield 37, 3) := by decide +kernel
theorem dX6_closes_24 : decode cX6_closes 24 = .ok (.aload_n 0, 1) := by decide +kernel
theorem dX6_closes_25 : decode cX6_closes 25 = .ok (.dup, 1) := by decide +kernel
theorem dX6_closes_26 : decode cX6_closes 26 = .ok (.getfield 40, 3) := by decide +kernel
theorem dX6_closes_29 : decode cX6_closes 29 = .ok (.iconst 1, 1) := by decide +kernel
theorem dX6_closes_30 : decode cX6_closes 30 = .ok (.isub, 1) := by decide +kernel
theorem dX6_closes_31 : decode cX6_closes 31 = .ok (.putfield 40, 3) := by decide +kernel
theorem dX6_closes_34 : decode cX6_closes 34 = .ok (.iconst 1, 1) := by decide +kernel
theorem dX6_closes_35 : decode cX6_closes 35 = .ok (.ireturn, 1) := by decide +kernel
theorem dX6_takesBetween_0 : decode cX6_takesBetween 0 = .ok (.iload_n 1, 1) := by decide +kernel
theorem dX6_takesBetween_1 : decode cX6_takesBetween 1 = .ok (.invokestatic 84, 3) := by decide +kernel
theorem dX6_takesBetween_4 : decode cX6_takesBetween 4 = .ok (.istore_n 2, 1) := by decide +kernel
theorem dX6_takesBetween_5 : decode cX6_takesBetween 5 = .ok (.iload_n 2, 1) := by decide +kernel
theorem dX6_takesBetween_6 : decode cX6_takesBetween 6 = .ok (.iconst 1, 1) := by decide +kernel
theorem dX6_takesBetween_7 : decode cX6_takesBetween 7 = .ok (.if_icmp .ne 34, 3) := by decide +kernel
theorem dX6_takesBetween_10 : decode cX6_takesBetween 10 = .ok (.aload_n 0, 1) := by decide +kernel
theorem dX6_takesBetween_11 : decode cX6_takesBetween 11 = .ok (.getfield 40, 3) := by decide +kernel
theorem dX6_takesBetween_14 : decode cX6_takesBetween 14 = .ok (.aload_n 0, 1) := by decide +kernel
theorem dX6_takesBetween_15 : decode cX6_takesBetween 15 = .ok (.getfield 46, 3) := by decide +kernel
theorem dX6_takesBetween_18 : decode cX6_takesBetween 18 = .ok (.invokestatic 87, 3) := by decide +kernel
theorem dX6_takesBetween_21 : decode cX6_takesBetween 21 = .ok (.ifCond .eq 5, 3) := by decide +kernel
theorem dX6_takesBetween_24 : decode cX6_takesBetween 24 = .ok (.iconst 0, 1) := by decide +kernel
theorem dX6_takesBetween_25 : decode cX6_takesBetween 25 = .ok (.ireturn, 1) := by decide +kernel
theorem dX6_takesBetween_26 : decode cX6_takesBetween 26 = .ok (.aload_n 0, 1) := by decide +kernel
theorem dX6_takesBetween_27 : decode cX6_takesBetween 27 = .ok (.dup, 1) := by decide +kernel
theorem dX6_takesBetween_28 : decode cX6_takesBetween 28 = .ok (.getfield 46, 3) := by decide +kernel
theorem dX6_takesBetween_31 : decode cX6_takesBetween 31 = .ok (.iconst 1, 1) := by decide +kernel
theorem dX6_takesBetween_32 : decode cX6_takesBetween 32 = .ok (.aload_n 0, 1) := by decide +kernel
theorem dX6_takesBetween_33 : decode cX6_takesBetween 33 = .ok (.getfield 40, 3) := by decide +kernel
theorem dX6_takesBetween_36 : decode cX6_takesBetween 36 = .ok (.ishl, 1) := by decide +kernel
theorem dX6_takesBetween_37 : decode cX6_takesBetween 37 = .ok (.ior, 1) := by decide +kernel
theorem dX6_takesBetween_38 : decode cX6_takesBetween 38 = .ok (.putfield 46, 3) := by decide +kernel
theorem dX6_takesBetween_41 : decode cX6_takesBetween 41 = .ok (.aload_n 0, 1) := by decide +kernel
theorem dX6_takesBetween_42 : decode cX6_takesBetween 42 = .ok (.iconst 1, 1) := by decide +kernel
theorem dX6_takesBetween_43 : decode cX6_takesBetween 43 = .ok (.iload_n 2, 1) := by decide +kernel
theorem dX6_takesBetween_44 : decode cX6_takesBetween 44 = .ok (.invokestatic 91, 3) := by decide +kernel
theorem dX6_takesBetween_47 : decode cX6_takesBetween 47 = .ok (.invokevirtual 34, 3) := by decide +kernel
theorem dX6_takesBetween_50 : decode cX6_takesBetween 50 = .ok (.aload_n 0, 1) := by decide +kernel
theorem dX6_takesBetween_51 : decode cX6_takesBetween 51 = .ok (.iload_n 1, 1) := by decide +kernel
theorem dX6_takesBetween_52 : decode cX6_takesBetween 52 = .ok (.invokevirtual 70, 3) := by decide +kernel
theorem dX6_takesBetween_55 : decode cX6_takesBetween 55 = .ok (.aload_n 0, 1) := by decide +kernel
theorem dX6_takesBetween_56 : decode cX6_takesBetween 56 = .ok (.iconst 1, 1) := by decide +kernel
theorem dX6_takesBetween_57 : decode cX6_takesBetween 57 = .ok (.putfield 49, 3) := by decide +kernel
theorem dX6_takesBetween_60 : decode cX6_takesBetween 60 = .ok (.iload_n 2, 1) := by decide +kernel
theorem dX6_takesBetween_61 : decode cX6_takesBetween 61 = .ok (.ifCond .le 7, 3) := by decide +kernel
theorem dX6_takesBetween_64 : decode cX6_takesBetween 64 = .ok (.iconst 1, 1) := by decide +kernel
theorem dX6_takesBetween_65 : decode cX6_takesBetween 65 = .ok (.goto 4, 3) := by decide +kernel
theorem dX6_takesBetween_68 : decode cX6_takesBetween 68 = .ok (.iconst 0, 1) := by decide +kernel
theorem dX6_takesBetween_69 : decode cX6_takesBetween 69 = .ok (.ireturn, 1) := by decide +kernel
theorem dX6_rankOf_0 : decode cX6_rankOf 0 = .ok (.iload_n 0, 1) := by decide +kernel
theorem dX6_rankOf_1 : decode cX6_rankOf 1 = .ok (.lookupswitch 83 #[(42, 79), (43, 77), (45, 77), (47, 79), (60, 75), (61, 75), (62, 75), (256, 81)], 75) := by decide +kernel
theorem dX6_rankOf_76 : decode cX6_rankOf 76 = .ok (.iconst 1, 1) := by decide +kernel
theorem dX6_rankOf_77 : decode cX6_rankOf 77 = .ok (.ireturn, 1) := by decide +kernel
theorem dX6_rankOf_78 : decode cX6_rankOf 78 = .ok (.iconst 2, 1) := by decide +kernel
theorem dX6_rankOf_79 : decode cX6_rankOf 79 = .ok (.ireturn, 1) := by decide +kernel
theorem dX6_rankOf_80 : decode cX6_rankOf 80 = .ok (.iconst 3, 1) := by decide +kernel
theorem dX6_rankOf_81 : decode cX6_rankOf 81 = .ok (.ireturn, 1) := by decide +kernel
theorem dX6_rankOf_82 : decode cX6_rankOf 82 = .ok (.iconst 4, 1) := by decide +kernel
theorem dX6_rankOf_83 : decode cX6_rankOf 83 = .ok (.ireturn, 1) := by decide +kernel
theorem dX6_rankOf_84 : decode cX6_rankOf 84 = .ok (.iconst 0, 1) := by decide +kernel
theorem dX6_rankOf_85 : decode cX6_rankOf 85 = .ok (.ireturn, 1) := by decide +kernel
theorem dX6_layOut_0 : decode cX6_layOut 0 = .ok (.aload_n 0, 1) := by decide +kernel
theorem dX6_layOut_1 : decode cX6_layOut 1 = .ok (.getfield 37, 3) := by decide +kernel
theorem dX6_layOut_4 : decode cX6_layOut 4 = .ok (.ifCond .le 48, 3) := by decide +kernel
theorem dX6_layOut_7 : decode cX6_layOut 7 = .ok (.aload_n 0, 1) := by decide +kernel
theorem dX6_layOut_8 : decode cX6_layOut 8 = .ok (.getfield 15, 3) := by decide +kernel
theorem dX6_layOut_11 : decode cX6_layOut 11 = .ok (.aload_n 0, 1) := by decide +kernel
theorem dX6_layOut_12 : decode cX6_layOut 12 = .ok (.getfield 37, 3) := by decide +kernel
theorem dX6_layOut_15 : decode cX6_layOut 15 = .ok (.iconst 1, 1) := by decide +kernel
theorem dX6_layOut_16 : decode cX6_layOut 16 = .ok (.isub, 1) := by decide +kernel
theorem dX6_layOut_17 : decode cX6_layOut 17 = .ok (.iaload, 1) := by decide +kernel
theorem dX6_layOut_18 : decode cX6_layOut 18 = .ok (.invokestatic 84, 3) := by decide +kernel
theorem dX6_layOut_21 : decode cX6_layOut 21 = .ok (.iload_n 1, 1) := by decide +kernel
theorem dX6_layOut_22 : decode cX6_layOut 22 = .ok (.if_icmp .lt 30, 3) := by decide +kernel
theorem dX6_layOut_25 : decode cX6_layOut 25 = .ok (.aload_n 0, 1) := by decide +kernel
theorem dX6_layOut_26 : decode cX6_layOut 26 = .ok (.dup, 1) := by decide +kernel
theorem dX6_layOut_27 : decode cX6_layOut 27 = .ok (.getfield 37, 3) := by decide +kernel
theorem dX6_layOut_30 : decode cX6_layOut 30 = .ok (.iconst 1, 1) := by decide +kernel
theorem dX6_layOut_31 : decode cX6_layOut 31 = .ok (.isub, 1) := by decide +kernel
theorem dX6_layOut_32 : decode cX6_layOut 32 = .ok (.putfield 37, 3) := by decide +kernel
theorem dX6_layOut_35 : decode cX6_layOut 35 = .ok (.aload_n 0, 1) := by decide +kernel
theorem dX6_layOut_36 : decode cX6_layOut 36 = .ok (.aload_n 0, 1) := by decide +kernel
theorem dX6_layOut_37 : decode cX6_layOut 37 = .ok (.getfield 15, 3) := by decide +kernel
theorem dX6_layOut_40 : decode cX6_layOut 40 = .ok (.aload_n 0, 1) := by decide +kernel
theorem dX6_layOut_41 : decode cX6_layOut 41 = .ok (.getfield 37, 3) := by decide +kernel
theorem dX6_layOut_44 : decode cX6_layOut 44 = .ok (.iaload, 1) := by decide +kernel
theorem dX6_layOut_45 : decode cX6_layOut 45 = .ok (.ineg, 1) := by decide +kernel
theorem dX6_layOut_46 : decode cX6_layOut 46 = .ok (.invokevirtual 73, 3) := by decide +kernel
theorem dX6_layOut_49 : decode cX6_layOut 49 = .ok (.goto (-49), 3) := by decide +kernel
theorem dX6_layOut_52 : decode cX6_layOut 52 = .ok (.return_, 1) := by decide +kernel
theorem dX6_hold_0 : decode cX6_hold 0 = .ok (.aload_n 0, 1) := by decide +kernel
theorem dX6_hold_1 : decode cX6_hold 1 = .ok (.getfield 37, 3) := by decide +kernel
theorem dX6_hold_4 : decode cX6_hold 4 = .ok (.bipush 40, 2) := by decide +kernel
theorem dX6_hold_6 : decode cX6_hold 6 = .ok (.if_icmp .ge 23, 3) := by decide +kernel
theorem dX6_hold_9 : decode cX6_hold 9 = .ok (.aload_n 0, 1) := by decide +kernel
theorem dX6_hold_10 : decode cX6_hold 10 = .ok (.getfield 15, 3) := by decide +kernel
theorem dX6_hold_13 : decode cX6_hold 13 = .ok (.aload_n 0, 1) := by decide +kernel
theorem dX6_hold_14 : decode cX6_hold 14 = .ok (.getfield 37, 3) := by decide +kernel
theorem dX6_hold_17 : decode cX6_hold 17 = .ok (.iload_n 1, 1) := by decide +kernel
theorem dX6_hold_18 : decode cX6_hold 18 = .ok (.iastore, 1) := by decide +kernel
theorem dX6_hold_19 : decode cX6_hold 19 = .ok (.aload_n 0, 1) := by decide +kernel
theorem dX6_hold_20 : decode cX6_hold 20 = .ok (.dup, 1) := by decide +kernel
theorem dX6_hold_21 : decode cX6_hold 21 = .ok (.getfield 37, 3) := by decide +kernel
theorem dX6_hold_24 : decode cX6_hold 24 = .ok (.iconst 1, 1) := by decide +kernel
theorem dX6_hold_25 : decode cX6_hold 25 = .ok (.iadd, 1) := by decide +kernel
theorem dX6_hold_26 : decode cX6_hold 26 = .ok (.putfield 37, 3) := by decide +kernel
theorem dX6_hold_29 : decode cX6_hold 29 = .ok (.return_, 1) := by decide +kernel
theorem dX6_step_0 : decode cX6_step 0 = .ok (.aload_n 0, 1) := by decide +kernel
theorem dX6_step_1 : decode cX6_step 1 = .ok (.getfield 27, 3) := by decide +kernel
theorem dX6_step_4 : decode cX6_step 4 = .ok (.bipush 40, 2) := by decide +kernel
theorem dX6_step_6 : decode cX6_step 6 = .ok (.if_icmp .ge 23, 3) := by decide +kernel
theorem dX6_step_9 : decode cX6_step 9 = .ok (.aload_n 0, 1) := by decide +kernel
theorem dX6_step_10 : decode cX6_step 10 = .ok (.getfield 11, 3) := by decide +kernel
theorem dX6_step_13 : decode cX6_step 13 = .ok (.aload_n 0, 1) := by decide +kernel
theorem dX6_step_14 : decode cX6_step 14 = .ok (.getfield 27, 3) := by decide +kernel
theorem dX6_step_17 : decode cX6_step 17 = .ok (.iload_n 1, 1) := by decide +kernel
theorem dX6_step_18 : decode cX6_step 18 = .ok (.iastore, 1) := by decide +kernel
theorem dX6_step_19 : decode cX6_step 19 = .ok (.aload_n 0, 1) := by decide +kernel
theorem dX6_step_20 : decode cX6_step 20 = .ok (.dup, 1) := by decide +kernel
theorem dX6_step_21 : decode cX6_step 21 = .ok (.getfield 27, 3) := by decide +kernel
theorem dX6_step_24 : decode cX6_step 24 = .ok (.iconst 1, 1) := by decide +kernel
theorem dX6_step_25 : decode cX6_step 25 = .ok (.iadd, 1) := by decide +kernel
theorem dX6_step_26 : decode cX6_step 26 = .ok (.putfield 27, 3) := by decide +kernel
theorem dX6_step_29 : decode cX6_step 29 = .ok (.return_, 1) := by decide +kernel
theorem dX6_mayEnd_0 : decode cX6_mayEnd 0 = .ok (.aload_n 0, 1) := by decide +kernel
theorem dX6_mayEnd_1 : decode cX6_mayEnd 1 = .ok (.getfield 49, 3) := by decide +kernel
theorem dX6_mayEnd_4 : decode cX6_mayEnd 4 = .ok (.ifCond .ne 14, 3) := by decide +kernel
theorem dX6_mayEnd_7 : decode cX6_mayEnd 7 = .ok (.aload_n 0, 1) := by decide +kernel
theorem dX6_mayEnd_8 : decode cX6_mayEnd 8 = .ok (.getfield 40, 3) := by decide +kernel
theorem dX6_mayEnd_11 : decode cX6_mayEnd 11 = .ok (.ifCond .ne 7, 3) := by decide +kernel
theorem dX6_mayEnd_14 : decode cX6_mayEnd 14 = .ok (.iconst 1, 1) := by decide +kernel
theorem dX6_mayEnd_15 : decode cX6_mayEnd 15 = .ok (.goto 4, 3) := by decide +kernel
theorem dX6_mayEnd_18 : decode cX6_mayEnd 18 = .ok (.iconst 0, 1) := by decide +kernel
theorem dX6_mayEnd_19 : decode cX6_mayEnd 19 = .ok (.ireturn, 1) := by decide +kernel
theorem dX6_push_0 : decode cX6_push 0 = .ok (.aload_n 1, 1) := by decide +kernel
theorem dX6_push_1 : decode cX6_push 1 = .ok (.arraylength, 1) := by decide +kernel
theorem dX6_push_2 : decode cX6_push 2 = .ok (.bipush 7, 2) := by decide +kernel
theorem dX6_push_4 : decode cX6_push 4 = .ok (.if_icmp .ge 5, 3) := by decide +kernel
theorem dX6_push_7 : decode cX6_push 7 = .ok (.iconst 0, 1) := by decide +kernel
theorem dX6_push_8 : decode cX6_push 8 = .ok (.ireturn, 1) := by decide +kernel
theorem dX6_push_9 : decode cX6_push 9 = .ok (.aload_n 0, 1) := by decide +kernel
theorem dX6_push_10 : decode cX6_push 10 = .ok (.getfield 27, 3) := by decide +kernel
theorem dX6_push_13 : decode cX6_push 13 = .ok (.ifCond .ne 31, 3) := by decide +kernel
theorem dX6_push_16 : decode cX6_push 16 = .ok (.aload_n 1, 1) := by decide +kernel
theorem dX6_push_17 : decode cX6_push 17 = .ok (.iconst 1, 1) := by decide +kernel
theorem dX6_push_18 : decode cX6_push 18 = .ok (.iaload, 1) := by decide +kernel
theorem dX6_push_19 : decode cX6_push 19 = .ok (.aload_n 1, 1) := by decide +kernel
theorem dX6_push_20 : decode cX6_push 20 = .ok (.iconst 0, 1) := by decide +kernel
theorem dX6_push_21 : decode cX6_push 21 = .ok (.iaload, 1) := by decide +kernel
theorem dX6_push_22 : decode cX6_push 22 = .ok (.if_icmp .le 7, 3) := by decide +kernel
theorem dX6_push_25 : decode cX6_push 25 = .ok (.iconst 1, 1) := by decide +kernel
theorem dX6_push_26 : decode cX6_push 26 = .ok (.goto 17, 3) := by decide +kernel
theorem dX6_push_29 : decode cX6_push 29 = .ok (.aload_n 1, 1) := by decide +kernel
theorem dX6_push_30 : decode cX6_push 30 = .ok (.iconst 1, 1) := by decide +kernel
theorem dX6_push_31 : decode cX6_push 31 = .ok (.iaload, 1) := by decide +kernel
theorem dX6_push_32 : decode cX6_push 32 = .ok (.aload_n 1, 1) := by decide +kernel
theorem dX6_push_33 : decode cX6_push 33 = .ok (.iconst 0, 1) := by decide +kernel
theorem dX6_push_34 : decode cX6_push 34 = .ok (.iaload, 1) := by decide +kernel
theorem dX6_push_35 : decode cX6_push 35 = .ok (.if_icmp .ge 7, 3) := by decide +kernel
theorem dX6_push_38 : decode cX6_push 38 = .ok (.iconst (-1), 1) := by decide +kernel
theorem dX6_push_39 : decode cX6_push 39 = .ok (.goto 4, 3) := by decide +kernel
theorem dX6_push_42 : decode cX6_push 42 = .ok (.iconst 0, 1) := by decide +kernel
theorem dX6_push_43 : decode cX6_push 43 = .ok (.ireturn, 1) := by decide +kernel
theorem dX6_push_44 : decode cX6_push 44 = .ok (.iconst 0, 1) := by decide +kernel
theorem dX6_push_45 : decode cX6_push 45 = .ok (.istore_n 2, 1) := by decide +kernel
theorem dX6_push_46 : decode cX6_push 46 = .ok (.iconst 0, 1) := by decide +kernel
theorem dX6_push_47 : decode cX6_push 47 = .ok (.istore_n 3, 1) := by decide +kernel
theorem dX6_push_48 : decode cX6_push 48 = .ok (.iload_n 3, 1) := by decide +kernel
theorem dX6_push_49 : decode cX6_push 49 = .ok (.aload_n 0, 1) := by decide +kernel
theorem dX6_push_50 : decode cX6_push 50 = .ok (.getfield 27, 3) := by decide +kernel
theorem dX6_push_53 : decode cX6_push 53 = .ok (.if_icmp .ge 137, 3) := by decide +kernel
theorem dX6_push_56 : decode cX6_push 56 = .ok (.aload_n 0, 1) := by decide +kernel
theorem dX6_push_57 : decode cX6_push 57 = .ok (.getfield 11, 3) := by decide +kernel
theorem dX6_push_60 : decode cX6_push 60 = .ok (.iload_n 3, 1) := by decide +kernel
theorem dX6_push_61 : decode cX6_push 61 = .ok (.iaload, 1) := by decide +kernel
theorem dX6_push_62 : decode cX6_push 62 = .ok (.istore 4, 2) := by decide +kernel
theorem dX6_push_64 : decode cX6_push 64 = .ok (.iload 4, 2) := by decide +kernel
theorem dX6_push_66 : decode cX6_push 66 = .ok (.ifCond .lt 50, 3) := by decide +kernel
theorem dX6_push_69 : decode cX6_push 69 = .ok (.iload_n 2, 1) := by decide +kernel
theorem dX6_push_70 : decode cX6_push 70 = .ok (.bipush 40, 2) := by decide +kernel
theorem dX6_push_72 : decode cX6_push 72 = .ok (.if_icmp .ge 44, 3) := by decide +kernel
theorem dX6_push_75 : decode cX6_push 75 = .ok (.iload 4, 2) := by decide +kernel
theorem dX6_push_77 : decode cX6_push 77 = .ok (.sipush 1000, 3) := by decide +kernel
theorem dX6_push_80 : decode cX6_push 80 = .ok (.isub, 1) := by decide +kernel
theorem dX6_push_81 : decode cX6_push 81 = .ok (.istore 5, 2) := by decide +kernel
theorem dX6_push_83 : decode cX6_push 83 = .ok (.aload_n 0, 1) := by decide +kernel
theorem dX6_push_84 : decode cX6_push 84 = .ok (.getfield 18, 3) := by decide +kernel
theorem dX6_push_87 : decode cX6_push 87 = .ok (.iload_n 2, 1) := by decide +kernel
theorem dX6_push_88 : decode cX6_push 88 = .ok (.iload 5, 2) := by decide +kernel
theorem dX6_push_90 : decode cX6_push 90 = .ok (.ifCond .lt 17, 3) := by decide +kernel
theorem dX6_push_93 : decode cX6_push 93 = .ok (.iload 5, 2) := by decide +kernel
theorem dX6_push_95 : decode cX6_push 95 = .ok (.bipush 7, 2) := by decide +kernel
theorem dX6_push_97 : decode cX6_push 97 = .ok (.if_icmp .ge 10, 3) := by decide +kernel
theorem dX6_push_100 : decode cX6_push 100 = .ok (.aload_n 1, 1) := by decide +kernel
theorem dX6_push_101 : decode cX6_push 101 = .ok (.iload 5, 2) := by decide +kernel
theorem dX6_push_103 : decode cX6_push 103 = .ok (.iaload, 1) := by decide +kernel
theorem dX6_push_104 : decode cX6_push 104 = .ok (.goto 5, 3) := by decide +kernel
theorem dX6_push_107 : decode cX6_push 107 = .ok (.iload 4, 2) := by decide +kernel
theorem dX6_push_109 : decode cX6_push 109 = .ok (.iastore, 1) := by decide +kernel
theorem dX6_push_110 : decode cX6_push 110 = .ok (.iinc 2 1, 3) := by decide +kernel
theorem dX6_push_113 : decode cX6_push 113 = .ok (.goto 71, 3) := by decide +kernel
theorem dX6_push_116 : decode cX6_push 116 = .ok (.iload 4, 2) := by decide +kernel
theorem dX6_push_118 : decode cX6_push 118 = .ok (.sipush (-256), 3) := by decide +kernel
theorem dX6_push_121 : decode cX6_push 121 = .ok (.if_icmp .ne 27, 3) := by decide +kernel
theorem dX6_push_124 : decode cX6_push 124 = .ok (.iload_n 2, 1) := by decide +kernel
theorem dX6_push_125 : decode cX6_push 125 = .ok (.ifCond .le 23, 3) := by decide +kernel
theorem dX6_push_128 : decode cX6_push 128 = .ok (.aload_n 0, 1) := by decide +kernel
theorem dX6_push_129 : decode cX6_push 129 = .ok (.getfield 18, 3) := by decide +kernel
theorem dX6_push_132 : decode cX6_push 132 = .ok (.iload_n 2, 1) := by decide +kernel
theorem dX6_push_133 : decode cX6_push 133 = .ok (.iconst 1, 1) := by decide +kernel
theorem dX6_push_134 : decode cX6_push 134 = .ok (.isub, 1) := by decide +kernel
theorem dX6_push_135 : decode cX6_push 135 = .ok (.aload_n 0, 1) := by decide +kernel
theorem dX6_push_136 : decode cX6_push 136 = .ok (.getfield 18, 3) := by decide +kernel
theorem dX6_push_139 : decode cX6_push 139 = .ok (.iload_n 2, 1) := by decide +kernel
theorem dX6_push_140 : decode cX6_push 140 = .ok (.iconst 1, 1) := by decide +kernel
theorem dX6_push_141 : decode cX6_push 141 = .ok (.isub, 1) := by decide +kernel
theorem dX6_push_142 : decode cX6_push 142 = .ok (.iaload, 1) := by decide +kernel
theorem dX6_push_143 : decode cX6_push 143 = .ok (.ineg, 1) := by decide +kernel
theorem dX6_push_144 : decode cX6_push 144 = .ok (.iastore, 1) := by decide +kernel
theorem dX6_push_145 : decode cX6_push 145 = .ok (.goto 39, 3) := by decide +kernel
theorem dX6_push_148 : decode cX6_push 148 = .ok (.iload_n 2, 1) := by decide +kernel
theorem dX6_push_149 : decode cX6_push 149 = .ok (.iconst 1, 1) := by decide +kernel
theorem dX6_push_150 : decode cX6_push 150 = .ok (.if_icmp .le 34, 3) := by decide +kernel
theorem dX6_push_153 : decode cX6_push 153 = .ok (.iinc 2 (-1), 3) := by decide +kernel
theorem dX6_push_156 : decode cX6_push 156 = .ok (.aload_n 0, 1) := by decide +kernel
theorem dX6_push_157 : decode cX6_push 157 = .ok (.getfield 18, 3) := by decide +kernel
theorem dX6_push_160 : decode cX6_push 160 = .ok (.iload_n 2, 1) := by decide +kernel
theorem dX6_push_161 : decode cX6_push 161 = .ok (.iconst 1, 1) := by decide +kernel
theorem dX6_push_162 : decode cX6_push 162 = .ok (.isub, 1) := by decide +kernel
theorem dX6_push_163 : decode cX6_push 163 = .ok (.iload 4, 2) := by decide +kernel
theorem dX6_push_165 : decode cX6_push 165 = .ok (.ineg, 1) := by decide +kernel
theorem dX6_push_166 : decode cX6_push 166 = .ok (.aload_n 0, 1) := by decide +kernel
theorem dX6_push_167 : decode cX6_push 167 = .ok (.getfield 18, 3) := by decide +kernel
theorem dX6_push_170 : decode cX6_push 170 = .ok (.iload_n 2, 1) := by decide +kernel
theorem dX6_push_171 : decode cX6_push 171 = .ok (.iconst 1, 1) := by decide +kernel
theorem dX6_push_172 : decode cX6_push 172 = .ok (.isub, 1) := by decide +kernel
theorem dX6_push_173 : decode cX6_push 173 = .ok (.iaload, 1) := by decide +kernel
theorem dX6_push_174 : decode cX6_push 174 = .ok (.aload_n 0, 1) := by decide +kernel
theorem dX6_push_175 : decode cX6_push 175 = .ok (.getfield 18, 3) := by decide +kernel
theorem dX6_push_178 : decode cX6_push 178 = .ok (.iload_n 2, 1) := by decide +kernel
theorem dX6_push_179 : decode cX6_push 179 = .ok (.iaload, 1) := by decide +kernel
theorem dX6_push_180 : decode cX6_push 180 = .ok (.invokestatic 97, 3) := by decide +kernel
theorem dX6_push_183 : decode cX6_push 183 = .ok (.iastore, 1) := by decide +kernel
theorem dX6_push_184 : decode cX6_push 184 = .ok (.iinc 3 1, 3) := by decide +kernel
theorem dX6_push_187 : decode cX6_push 187 = .ok (.goto (-139), 3) := by decide +kernel
theorem dX6_push_190 : decode cX6_push 190 = .ok (.aload_n 0, 1) := by decide +kernel
theorem dX6_push_191 : decode cX6_push 191 = .ok (.getfield 18, 3) := by decide +kernel
theorem dX6_push_194 : decode cX6_push 194 = .ok (.iconst 0, 1) := by decide +kernel
theorem dX6_push_195 : decode cX6_push 195 = .ok (.iaload, 1) := by decide +kernel
theorem dX6_push_196 : decode cX6_push 196 = .ok (.bipush (-99), 2) := by decide +kernel
theorem dX6_push_198 : decode cX6_push 198 = .ok (.bipush 99, 2) := by decide +kernel
theorem dX6_push_200 : decode cX6_push 200 = .ok (.invokestatic 101, 3) := by decide +kernel
theorem dX6_push_203 : decode cX6_push 203 = .ok (.ireturn, 1) := by decide +kernel
theorem dX6_outcome_0 : decode cX6_outcome 0 = .ok (.iload_n 0, 1) := by decide +kernel
theorem dX6_outcome_1 : decode cX6_outcome 1 = .ok (.lookupswitch 104 #[(42, 100), (43, 92), (45, 96), (60, 59), (61, 81), (62, 70)], 59) := by decide +kernel
theorem dX6_outcome_60 : decode cX6_outcome 60 = .ok (.iload_n 1, 1) := by decide +kernel
theorem dX6_outcome_61 : decode cX6_outcome 61 = .ok (.iload_n 2, 1) := by decide +kernel
theorem dX6_outcome_62 : decode cX6_outcome 62 = .ok (.if_icmp .ge 7, 3) := by decide +kernel
theorem dX6_outcome_65 : decode cX6_outcome 65 = .ok (.iconst 1, 1) := by decide +kernel
theorem dX6_outcome_66 : decode cX6_outcome 66 = .ok (.goto 4, 3) := by decide +kernel
theorem dX6_outcome_69 : decode cX6_outcome 69 = .ok (.iconst 0, 1) := by decide +kernel
theorem dX6_outcome_70 : decode cX6_outcome 70 = .ok (.ireturn, 1) := by decide +kernel
theorem dX6_outcome_71 : decode cX6_outcome 71 = .ok (.iload_n 1, 1) := by decide +kernel
theorem dX6_outcome_72 : decode cX6_outcome 72 = .ok (.iload_n 2, 1) := by decide +kernel
theorem dX6_outcome_73 : decode cX6_outcome 73 = .ok (.if_icmp .le 7, 3) := by decide +kernel
theorem dX6_outcome_76 : decode cX6_outcome 76 = .ok (.iconst 1, 1) := by decide +kernel
theorem dX6_outcome_77 : decode cX6_outcome 77 = .ok (.goto 4, 3) := by decide +kernel
theorem dX6_outcome_80 : decode cX6_outcome 80 = .ok (.iconst 0, 1) := by decide +kernel
theorem dX6_outcome_81 : decode cX6_outcome 81 = .ok (.ireturn, 1) := by decide +kernel
theorem dX6_outcome_82 : decode cX6_outcome 82 = .ok (.iload_n 1, 1) := by decide +kernel
theorem dX6_outcome_83 : decode cX6_outcome 83 = .ok (.iload_n 2, 1) := by decide +kernel
theorem dX6_outcome_84 : decode cX6_outcome 84 = .ok (.if_icmp .ne 7, 3) := by decide +kernel
theorem dX6_outcome_87 : decode cX6_outcome 87 = .ok (.iconst 1, 1) := by decide +kernel
theorem dX6_outcome_88 : decode cX6_outcome 88 = .ok (.goto 4, 3) := by decide +kernel
theorem dX6_outcome_91 : decode cX6_outcome 91 = .ok (.iconst 0, 1) := by decide +kernel
theorem dX6_outcome_92 : decode cX6_outcome 92 = .ok (.ireturn, 1) := by decide +kernel
theorem dX6_outcome_93 : decode cX6_outcome 93 = .ok (.iload_n 1, 1) := by decide +kernel
theorem dX6_outcome_94 : decode cX6_outcome 94 = .ok (.iload_n 2, 1) := by decide +kernel
theorem dX6_outcome_95 : decode cX6_outcome 95 = .ok (.iadd, 1) := by decide +kernel
theorem dX6_outcome_96 : decode cX6_outcome 96 = .ok (.ireturn, 1) := by decide +kernel
theorem dX6_outcome_97 : decode cX6_outcome 97 = .ok (.iload_n 1, 1) := by decide +kernel
theorem dX6_outcome_98 : decode cX6_outcome 98 = .ok (.iload_n 2, 1) := by decide +kernel
theorem dX6_outcome_99 : decode cX6_outcome 99 = .ok (.isub, 1) := by decide +kernel
theorem dX6_outcome_100 : decode cX6_outcome 100 = .ok (.ireturn, 1) := by decide +kernel
theorem dX6_outcome_101 : decode cX6_outcome 101 = .ok (.iload_n 1, 1) := by decide +kernel
theorem dX6_outcome_102 : decode cX6_outcome 102 = .ok (.iload_n 2, 1) := by decide +kernel
theorem dX6_outcome_103 : decode cX6_outcome 103 = .ok (.imul, 1) := by decide +kernel
theorem dX6_outcome_104 : decode cX6_outcome 104 = .ok (.ireturn, 1) := by decide +kernel
theorem dX6_outcome_105 : decode cX6_outcome 105 = .ok (.iload_n 2, 1) := by decide +kernel
theorem dX6_outcome_106 : decode cX6_outcome 106 = .ok (.ifCond .ne 7, 3) := by decide +kernel
theorem dX6_outcome_109 : decode cX6_outcome 109 = .ok (.iconst 0, 1) := by decide +kernel
theorem dX6_outcome_110 : decode cX6_outcome 110 = .ok (.goto 6, 3) := by decide +kernel
theorem dX6_outcome_113 : decode cX6_outcome 113 = .ok (.iload_n 1, 1) := by decide +kernel
theorem dX6_outcome_114 : decode cX6_outcome 114 = .ok (.iload_n 2, 1) := by decide +kernel
theorem dX6_outcome_115 : decode cX6_outcome 115 = .ok (.idiv, 1) := by decide +kernel
theorem dX6_outcome_116 : decode cX6_outcome 116 = .ok (.ireturn, 1) := by decide +kernel
theorem dX7_init_0 : decode cX7_init 0 = .ok (.aload_n 0, 1) := by decide +kernel
theorem dX7_init_1 : decode cX7_init 1 = .ok (.invokespecial 3, 3) := by decide +kernel
theorem dX7_init_4 : decode cX7_init 4 = .ok (.aload_n 0, 1) := by decide +kernel
theorem dX7_init_5 : decode cX7_init 5 = .ok (.bipush 80, 2) := by decide +kernel
theorem dX7_init_7 : decode cX7_init 7 = .ok (.newarray .char, 2) := by decide +kernel
theorem dX7_init_9 : decode cX7_init 9 = .ok (.putfield 9, 3) := by decide +kernel
theorem dX7_init_12 : decode cX7_init 12 = .ok (.return_, 1) := by decide +kernel
theorem dX7_add_0 : decode cX7_add 0 = .ok (.aload_n 0, 1) := by decide +kernel
theorem dX7_add_1 : decode cX7_add 1 = .ok (.getfield 15, 3) := by decide +kernel
theorem dX7_add_4 : decode cX7_add 4 = .ok (.iconst 4, 1) := by decide +kernel
theorem dX7_add_5 : decode cX7_add 5 = .ok (.iadd, 1) := by decide +kernel
theorem dX7_add_6 : decode cX7_add 6 = .ok (.bipush 80, 2) := by decide +kernel
theorem dX7_add_8 : decode cX7_add 8 = .ok (.if_icmp .le 5, 3) := by decide +kernel
theorem dX7_add_11 : decode cX7_add 11 = .ok (.iconst 0, 1) := by decide +kernel
theorem dX7_add_12 : decode cX7_add 12 = .ok (.ireturn, 1) := by decide +kernel
theorem dX7_add_13 : decode cX7_add 13 = .ok (.bipush 24, 2) := by decide +kernel
theorem dX7_add_15 : decode cX7_add 15 = .ok (.istore_n 2, 1) := by decide +kernel
theorem dX7_add_16 : decode cX7_add 16 = .ok (.iload_n 2, 1) := by decide +kernel
theorem dX7_add_17 : decode cX7_add 17 = .ok (.ifCond .lt 36, 3) := by decide +kernel
theorem dX7_add_20 : decode cX7_add 20 = .ok (.aload_n 0, 1) := by decide +kernel
theorem dX7_add_21 : decode cX7_add 21 = .ok (.getfield 9, 3) := by decide +kernel
theorem dX7_add_24 : decode cX7_add 24 = .ok (.aload_n 0, 1) := by decide +kernel
theorem dX7_add_25 : decode cX7_add 25 = .ok (.getfield 15, 3) := by decide +kernel
theorem dX7_add_28 : decode cX7_add 28 = .ok (.iload_n 1, 1) := by decide +kernel
theorem dX7_add_29 : decode cX7_add 29 = .ok (.iload_n 2, 1) := by decide +kernel
theorem dX7_add_30 : decode cX7_add 30 = .ok (.iushr, 1) := by decide +kernel
theorem dX7_add_31 : decode cX7_add 31 = .ok (.sipush 255, 3) := by decide +kernel
theorem dX7_add_34 : decode cX7_add 34 = .ok (.iand, 1) := by decide +kernel
theorem dX7_add_35 : decode cX7_add 35 = .ok (.i2c, 1) := by decide +kernel
theorem dX7_add_36 : decode cX7_add 36 = .ok (.castore, 1) := by decide +kernel
theorem dX7_add_37 : decode cX7_add 37 = .ok (.aload_n 0, 1) := by decide +kernel
theorem dX7_add_38 : decode cX7_add 38 = .ok (.dup, 1) := by decide +kernel
theorem dX7_add_39 : decode cX7_add 39 = .ok (.getfield 15, 3) := by decide +kernel
theorem dX7_add_42 : decode cX7_add 42 = .ok (.iconst 1, 1) := by decide +kernel
theorem dX7_add_43 : decode cX7_add 43 = .ok (.iadd, 1) := by decide +kernel
theorem dX7_add_44 : decode cX7_add 44 = .ok (.putfield 15, 3) := by decide +kernel
theorem dX7_add_47 : decode cX7_add 47 = .ok (.iinc 2 (-8), 3) := by decide +kernel
theorem dX7_add_50 : decode cX7_add 50 = .ok (.goto (-34), 3) := by decide +kernel
theorem dX7_add_53 : decode cX7_add 53 = .ok (.iconst 1, 1) := by decide +kernel
theorem dX7_add_54 : decode cX7_add 54 = .ok (.ireturn, 1) := by decide +kernel
theorem dX7_cut_0 : decode cX7_cut 0 = .ok (.iload_n 1, 1) := by decide +kernel
theorem dX7_cut_1 : decode cX7_cut 1 = .ok (.iconst 0, 1) := by decide +kernel
theorem dX7_cut_2 : decode cX7_cut 2 = .ok (.aload_n 0, 1) := by decide +kernel
theorem dX7_cut_3 : decode cX7_cut 3 = .ok (.getfield 15, 3) := by decide +kernel
theorem dX7_cut_6 : decode cX7_cut 6 = .ok (.invokestatic 19, 3) := by decide +kernel
theorem dX7_cut_9 : decode cX7_cut 9 = .ok (.ifCond .ne 5, 3) := by decide +kernel
theorem dX7_cut_12 : decode cX7_cut 12 = .ok (.iconst 0, 1) := by decide +kernel
theorem dX7_cut_13 : decode cX7_cut 13 = .ok (.ireturn, 1) := by decide +kernel
theorem dX7_cut_14 : decode cX7_cut 14 = .ok (.aload_n 0, 1) := by decide +kernel
theorem dX7_cut_15 : decode cX7_cut 15 = .ok (.iload_n 1, 1) := by decide +kernel
theorem dX7_cut_16 : decode cX7_cut 16 = .ok (.putfield 15, 3) := by decide +kernel
theorem dX7_cut_19 : decode cX7_cut 19 = .ok (.iconst 1, 1) := by decide +kernel
theorem dX7_cut_20 : decode cX7_cut 20 = .ok (.ireturn, 1) := by decide +kernel
theorem dX7_size_0 : decode cX7_size 0 = .ok (.aload_n 0, 1) := by decide +kernel
theorem dX7_size_1 : decode cX7_size 1 = .ok (.getfield 15, 3) := by decide +kernel
theorem dX7_size_4 : decode cX7_size 4 = .ok (.ireturn, 1) := by decide +kernel
theorem dX7_at_0 : decode cX7_at 0 = .ok (.iload_n 1, 1) := by decide +kernel
theorem dX7_at_1 : decode cX7_at 1 = .ok (.iconst 0, 1) := by decide +kernel
theorem dX7_at_2 : decode cX7_at 2 = .ok (.aload_n 0, 1) := by decide +kernel
theorem dX7_at_3 : decode cX7_at 3 = .ok (.getfield 15, 3) := by decide +kernel
theorem dX7_at_6 : decode cX7_at 6 = .ok (.iconst 1, 1) := by decide +kernel
theorem dX7_at_7 : decode cX7_at 7 = .ok (.isub, 1) := by decide +kernel
theorem dX7_at_8 : decode cX7_at 8 = .ok (.invokestatic 19, 3) := by decide +kernel
theorem dX7_at_11 : decode cX7_at 11 = .ok (.ifCond .eq 12, 3) := by decide +kernel
theorem dX7_at_14 : decode cX7_at 14 = .ok (.aload_n 0, 1) := by decide +kernel
theorem dX7_at_15 : decode cX7_at 15 = .ok (.getfield 9, 3) := by decide +kernel
theorem dX7_at_18 : decode cX7_at 18 = .ok (.iload_n 1, 1) := by decide +kernel
theorem dX7_at_19 : decode cX7_at 19 = .ok (.caload, 1) := by decide +kernel
theorem dX7_at_20 : decode cX7_at 20 = .ok (.goto 4, 3) := by decide +kernel
theorem dX7_at_23 : decode cX7_at 23 = .ok (.iconst (-1), 1) := by decide +kernel
theorem dX7_at_24 : decode cX7_at 24 = .ok (.ireturn, 1) := by decide +kernel
theorem dX7_digitAt_0 : decode cX7_digitAt 0 = .ok (.aload_n 0, 1) := by decide +kernel
theorem dX7_digitAt_1 : decode cX7_digitAt 1 = .ok (.iload_n 1, 1) := by decide +kernel
theorem dX7_digitAt_2 : decode cX7_digitAt 2 = .ok (.invokevirtual 23, 3) := by decide +kernel
theorem dX7_digitAt_5 : decode cX7_digitAt 5 = .ok (.bipush 48, 2) := by decide +kernel
theorem dX7_digitAt_7 : decode cX7_digitAt 7 = .ok (.isub, 1) := by decide +kernel
theorem dX7_digitAt_8 : decode cX7_digitAt 8 = .ok (.ireturn, 1) := by decide +kernel
theorem dX8_init_0 : decode cX8_init 0 = .ok (.aload_n 0, 1) := by decide +kernel
theorem dX8_init_1 : decode cX8_init 1 = .ok (.invokespecial 5, 3) := by decide +kernel
theorem dX8_init_4 : decode cX8_init 4 = .ok (.aload_n 0, 1) := by decide +kernel
theorem dX8_init_5 : decode cX8_init 5 = .ok (.bipush 82, 2) := by decide +kernel
theorem dX8_init_7 : decode cX8_init 7 = .ok (.newarray .int, 2) := by decide +kernel
theorem dX8_init_9 : decode cX8_init 9 = .ok (.putfield 11, 3) := by decide +kernel
theorem dX8_init_12 : decode cX8_init 12 = .ok (.aload_n 0, 1) := by decide +kernel
theorem dX8_init_13 : decode cX8_init 13 = .ok (.bipush 7, 2) := by decide +kernel
theorem dX8_init_15 : decode cX8_init 15 = .ok (.newarray .int, 2) := by decide +kernel
theorem dX8_init_17 : decode cX8_init 17 = .ok (.putfield 17, 3) := by decide +kernel
theorem dX8_init_20 : decode cX8_init 20 = .ok (.aload_n 0, 1) := by decide +kernel
theorem dX8_init_21 : decode cX8_init 21 = .ok (.iconst 4, 1) := by decide +kernel
theorem dX8_init_22 : decode cX8_init 22 = .ok (.newarray .int, 2) := by decide +kernel
theorem dX8_init_24 : decode cX8_init 24 = .ok (.putfield 20, 3) := by decide +kernel
theorem dX8_init_27 : decode cX8_init 27 = .ok (.aload_n 0, 1) := by decide +kernel
theorem dX8_init_28 : decode cX8_init 28 = .ok (.aload_n 1, 1) := by decide +kernel
theorem dX8_init_29 : decode cX8_init 29 = .ok (.putfield 23, 3) := by decide +kernel
theorem dX8_init_32 : decode cX8_init 32 = .ok (.bipush 32, 2) := by decide +kernel
theorem dX8_init_34 : decode cX8_init 34 = .ok (.istore_n 2, 1) := by decide +kernel
theorem dX8_init_35 : decode cX8_init 35 = .ok (.iload_n 2, 1) := by decide +kernel
theorem dX8_init_36 : decode cX8_init 36 = .ok (.bipush 80, 2) := by decide +kernel
theorem dX8_init_38 : decode cX8_init 38 = .ok (.if_icmp .ge 16, 3) := by decide +kernel
theorem dX8_init_41 : decode cX8_init 41 = .ok (.aload_n 0, 1) := by decide +kernel
theorem dX8_init_42 : decode cX8_init 42 = .ok (.getfield 11, 3) := by decide +kernel
theorem dX8_init_45 : decode cX8_init 45 = .ok (.iload_n 2, 1) := by decide +kernel
theorem dX8_init_46 : decode cX8_init 46 = .ok (.iconst (-1), 1) := by decide +kernel
theorem dX8_init_47 : decode cX8_init 47 = .ok (.iastore, 1) := by decide +kernel
theorem dX8_init_48 : decode cX8_init 48 = .ok (.iinc 2 1, 3) := by decide +kernel
theorem dX8_init_51 : decode cX8_init 51 = .ok (.goto (-16), 3) := by decide +kernel
theorem dX8_init_54 : decode cX8_init 54 = .ok (.return_, 1) := by decide +kernel
theorem dX8_copy_0 : decode cX8_copy 0 = .ok (.aload_n 1, 1) := by decide +kernel
theorem dX8_copy_1 : decode cX8_copy 1 = .ok (.getfield 11, 3) := by decide +kernel
theorem dX8_copy_4 : decode cX8_copy 4 = .ok (.iconst 0, 1) := by decide +kernel
theorem dX8_copy_5 : decode cX8_copy 5 = .ok (.aload_n 0, 1) := by decide +kernel
theorem dX8_copy_6 : decode cX8_copy 6 = .ok (.getfield 11, 3) := by decide +kernel
theorem dX8_copy_9 : decode cX8_copy 9 = .ok (.iconst 0, 1) := by decide +kernel
theorem dX8_copy_10 : decode cX8_copy 10 = .ok (.bipush 82, 2) := by decide +kernel
theorem dX8_copy_12 : decode cX8_copy 12 = .ok (.invokestatic 27, 3) := by decide +kernel
theorem dX8_copy_15 : decode cX8_copy 15 = .ok (.return_, 1) := by decide +kernel
theorem dX8_saveTo_0 : decode cX8_saveTo 0 = .ok (.iload_n 2, 1) := by decide +kernel
theorem dX8_saveTo_1 : decode cX8_saveTo 1 = .ok (.iconst 0, 1) := by decide +kernel
theorem dX8_saveTo_2 : decode cX8_saveTo 2 = .ok (.aload_n 1, 1) := by decide +kernel
theorem dX8_saveTo_3 : decode cX8_saveTo 3 = .ok (.arraylength, 1) := by decide +kernel
theorem dX8_saveTo_4 : decode cX8_saveTo 4 = .ok (.bipush 82, 2) := by decide +kernel
theorem dX8_saveTo_6 : decode cX8_saveTo 6 = .ok (.isub, 1) := by decide +kernel
theorem dX8_saveTo_7 : decode cX8_saveTo 7 = .ok (.invokestatic 33, 3) := by decide +kernel
theorem dX8_saveTo_10 : decode cX8_saveTo 10 = .ok (.ifCond .eq 15, 3) := by decide +kernel
theorem dX8_saveTo_13 : decode cX8_saveTo 13 = .ok (.aload_n 0, 1) := by decide +kernel
theorem dX8_saveTo_14 : decode cX8_saveTo 14 = .ok (.getfield 11, 3) := by decide +kernel
theorem dX8_saveTo_17 : decode cX8_saveTo 17 = .ok (.iconst 0, 1) := by decide +kernel
theorem dX8_saveTo_18 : decode cX8_saveTo 18 = .ok (.aload_n 1, 1) := by decide +kernel
theorem dX8_saveTo_19 : decode cX8_saveTo 19 = .ok (.iload_n 2, 1) := by decide +kernel
theorem dX8_saveTo_20 : decode cX8_saveTo 20 = .ok (.bipush 82, 2) := by decide +kernel
theorem dX8_saveTo_22 : decode cX8_saveTo 22 = .ok (.invokestatic 27, 3) := by decide +kernel
theorem dX8_saveTo_25 : decode cX8_saveTo 25 = .ok (.return_, 1) := by decide +kernel
theorem dX8_loadFrom_0 : decode cX8_loadFrom 0 = .ok (.iload_n 2, 1) := by decide +kernel
theorem dX8_loadFrom_1 : decode cX8_loadFrom 1 = .ok (.iconst 0, 1) := by decide +kernel
theorem dX8_loadFrom_2 : decode cX8_loadFrom 2 = .ok (.aload_n 1, 1) := by decide +kernel
theorem dX8_loadFrom_3 : decode cX8_loadFrom 3 = .ok (.arraylength, 1) := by decide +kernel
theorem dX8_loadFrom_4 : decode cX8_loadFrom 4 = .ok (.bipush 82, 2) := by decide +kernel
theorem dX8_loadFrom_6 : decode cX8_loadFrom 6 = .ok (.isub, 1) := by decide +kernel
theorem dX8_loadFrom_7 : decode cX8_loadFrom 7 = .ok (.invokestatic 33, 3) := by decide +kernel
theorem dX8_loadFrom_10 : decode cX8_loadFrom 10 = .ok (.ifCond .eq 15, 3) := by decide +kernel
theorem dX8_loadFrom_13 : decode cX8_loadFrom 13 = .ok (.aload_n 1, 1) := by decide +kernel
theorem dX8_loadFrom_14 : decode cX8_loadFrom 14 = .ok (.iload_n 2, 1) := by decide +kernel
theorem dX8_loadFrom_15 : decode cX8_loadFrom 15 = .ok (.aload_n 0, 1) := by decide +kernel
theorem dX8_loadFrom_16 : decode cX8_loadFrom 16 = .ok (.getfield 11, 3) := by decide +kernel
theorem dX8_loadFrom_19 : decode cX8_loadFrom 19 = .ok (.iconst 0, 1) := by decide +kernel
theorem dX8_loadFrom_20 : decode cX8_loadFrom 20 = .ok (.bipush 82, 2) := by decide +kernel
theorem dX8_loadFrom_22 : decode cX8_loadFrom 22 = .ok (.invokestatic 27, 3) := by decide +kernel
theorem dX8_loadFrom_25 : decode cX8_loadFrom 25 = .ok (.return_, 1) := by decide +kernel
theorem dX8_stockOf_0 : decode cX8_stockOf 0 = .ok (.iload_n 1, 1) := by decide +kernel
theorem dX8_stockOf_1 : decode cX8_stockOf 1 = .ok (.ifCond .lt 18, 3) := by decide +kernel
theorem dX8_stockOf_4 : decode cX8_stockOf 4 = .ok (.iload_n 1, 1) := by decide +kernel
theorem dX8_stockOf_5 : decode cX8_stockOf 5 = .ok (.bipush 8, 2) := by decide +kernel
theorem dX8_stockOf_7 : decode cX8_stockOf 7 = .ok (.if_icmp .ge 12, 3) := by decide +kernel
theorem dX8_stockOf_10 : decode cX8_stockOf 10 = .ok (.aload_n 0, 1) := by decide +kernel
theorem dX8_stockOf_11 : decode cX8_stockOf 11 = .ok (.getfield 11, 3) := by decide +kernel
theorem dX8_stockOf_14 : decode cX8_stockOf 14 = .ok (.iload_n 1, 1) := by decide +kernel
theorem dX8_stockOf_15 : decode cX8_stockOf 15 = .ok (.iaload, 1) := by decide +kernel
theorem dX8_stockOf_16 : decode cX8_stockOf 16 = .ok (.goto 4, 3) := by decide +kernel
theorem dX8_stockOf_19 : decode cX8_stockOf 19 = .ok (.iconst 0, 1) := by decide +kernel
theorem dX8_stockOf_20 : decode cX8_stockOf 20 = .ok (.ireturn, 1) := by decide +kernel
theorem dX8_putStock_0 : decode cX8_putStock 0 = .ok (.iload_n 1, 1) := by decide +kernel
theorem dX8_putStock_1 : decode cX8_putStock 1 = .ok (.ifCond .lt 16, 3) := by decide +kernel
theorem dX8_putStock_4 : decode cX8_putStock 4 = .ok (.iload_n 1, 1) := by decide +kernel
theorem dX8_putStock_5 : decode cX8_putStock 5 = .ok (.bipush 8, 2) := by decide +kernel
theorem dX8_putStock_7 : decode cX8_putStock 7 = .ok (.if_icmp .ge 10, 3) := by decide +kernel
theorem dX8_putStock_10 : decode cX8_putStock 10 = .ok (.aload_n 0, 1) := by decide +kernel
theorem dX8_putStock_11 : decode cX8_putStock 11 = .ok (.getfield 11, 3) := by decide +kernel
theorem dX8_putStock_14 : decode cX8_putStock 14 = .ok (.iload_n 1, 1) := by decide +kernel
theorem dX8_putStock_15 : decode cX8_putStock 15 = .ok (.iload_n 2, 1) := by decide +kernel
theorem dX8_putStock_16 : decode cX8_putStock 16 = .ok (.iastore, 1) := by decide +kernel
theorem dX8_putStock_17 : decode cX8_putStock 17 = .ok (.return_, 1) := by decide +kernel
theorem dX8_humourOf_0 : decode cX8_humourOf 0 = .ok (.iload_n 1, 1) := by decide +kernel
theorem dX8_humourOf_1 : decode cX8_humourOf 1 = .ok (.ifCond .lt 22, 3) := by decide +kernel
theorem dX8_humourOf_4 : decode cX8_humourOf 4 = .ok (.iload_n 1, 1) := by decide +kernel
theorem dX8_humourOf_5 : decode cX8_humourOf 5 = .ok (.bipush 6, 2) := by decide +kernel
theorem dX8_humourOf_7 : decode cX8_humourOf 7 = .ok (.if_icmp .ge 16, 3) := by decide +kernel
theorem dX8_humourOf_10 : decode cX8_humourOf 10 = .ok (.iload_n 2, 1) := by decide +kernel
theorem dX8_humourOf_11 : decode cX8_humourOf 11 = .ok (.ifCond .lt 12, 3) := by decide +kernel
theorem dX8_humourOf_14 : decode cX8_humourOf 14 = .ok (.iload_n 2, 1) := by decide +kernel
theorem dX8_humourOf_15 : decode cX8_humourOf 15 = .ok (.iconst 4, 1) := by decide +kernel
theorem dX8_humourOf_16 : decode cX8_humourOf 16 = .ok (.if_icmp .ge 7, 3) := by decide +kernel
theorem dX8_humourOf_19 : decode cX8_humourOf 19 = .ok (.iconst 1, 1) := by decide +kernel
theorem dX8_humourOf_20 : decode cX8_humourOf 20 = .ok (.goto 4, 3) := by decide +kernel
theorem dX8_humourOf_23 : decode cX8_humourOf 23 = .ok (.iconst 0, 1) := by decide +kernel
theorem dX8_humourOf_24 : decode cX8_humourOf 24 = .ok (.istore_n 3, 1) := by decide +kernel
theorem dX8_humourOf_25 : decode cX8_humourOf 25 = .ok (.iload_n 3, 1) := by decide +kernel
theorem dX8_humourOf_26 : decode cX8_humourOf 26 = .ok (.ifCond .eq 19, 3) := by decide +kernel
theorem dX8_humourOf_29 : decode cX8_humourOf 29 = .ok (.aload_n 0, 1) := by decide +kernel
theorem dX8_humourOf_30 : decode cX8_humourOf 30 = .ok (.getfield 11, 3) := by decide +kernel
theorem dX8_humourOf_33 : decode cX8_humourOf 33 = .ok (.bipush 8, 2) := by decide +kernel
theorem dX8_humourOf_35 : decode cX8_humourOf 35 = .ok (.iload_n 1, 1) := by decide +kernel
theorem dX8_humourOf_36 : decode cX8_humourOf 36 = .ok (.iconst 4, 1) := by decide +kernel
theorem dX8_humourOf_37 : decode cX8_humourOf 37 = .ok (.imul, 1) := by decide +kernel
theorem dX8_humourOf_38 : decode cX8_humourOf 38 = .ok (.iadd, 1) := by decide +kernel
theorem dX8_humourOf_39 : decode cX8_humourOf 39 = .ok (.iload_n 2, 1) := by decide +kernel
theorem dX8_humourOf_40 : decode cX8_humourOf 40 = .ok (.iadd, 1) := by decide +kernel
theorem dX8_humourOf_41 : decode cX8_humourOf 41 = .ok (.iaload, 1) := by decide +kernel
theorem dX8_humourOf_42 : decode cX8_humourOf 42 = .ok (.goto 4, 3) := by decide +kernel
theorem dX8_humourOf_45 : decode cX8_humourOf 45 = .ok (.iconst 0, 1) := by decide +kernel
theorem dX8_humourOf_46 : decode cX8_humourOf 46 = .ok (.ireturn, 1) := by decide +kernel
theorem dX8_putHumour_0 : decode cX8_putHumour 0 = .ok (.iload_n 1, 1) := by decide +kernel
theorem dX8_putHumour_1 : decode cX8_putHumour 1 = .ok (.ifCond .lt 32, 3) := by decide +kernel
theorem dX8_putHumour_4 : decode cX8_putHumour 4 = .ok (.iload_n 1, 1) := by decide +kernel
theorem dX8_putHumour_5 : decode cX8_putHumour 5 = .ok (.bipush 6, 2) := by decide +kernel
theorem dX8_putHumour_7 : decode cX8_putHumour 7 = .ok (.if_icmp .ge 26, 3) := by decide +kernel
theorem dX8_putHumour_10 : decode cX8_putHumour 10 = .ok (.iload_n 2, 1) := by decide +kernel
theorem dX8_putHumour_11 : decode cX8_putHumour 11 = .ok (.ifCond .lt 22, 3) := by decide +kernel
theorem dX8_putHumour_14 : decode cX8_putHumour 14 = .ok (.iload_n 2, 1) := by decide +kernel
theorem dX8_putHumour_15 : decode cX8_putHumour 15 = .ok (.iconst 4, 1) := by decide +kernel
theorem dX8_putHumour_16 : decode cX8_putHumour 16 = .ok (.if_icmp .ge 17, 3) := by decide +kernel
theorem dX8_putHumour_19 : decode cX8_putHumour 19 = .ok (.aload_n 0, 1) := by decide +kernel
theorem dX8_putHumour_20 : decode cX8_putHumour 20 = .ok (.getfield 11, 3) := by decide +kernel
theorem dX8_putHumour_23 : decode cX8_putHumour 23 = .ok (.bipush 8, 2) := by decide +kernel
theorem dX8_putHumour_25 : decode cX8_putHumour 25 = .ok (.iload_n 1, 1) := by decide +kernel
theorem dX8_putHumour_26 : decode cX8_putHumour 26 = .ok (.iconst 4, 1) := by decide +kernel
theorem dX8_putHumour_27 : decode cX8_putHumour 27 = .ok (.imul, 1) := by decide +kernel
theorem dX8_putHumour_28 : decode cX8_putHumour 28 = .ok (.iadd, 1) := by decide +kernel
theorem dX8_putHumour_29 : decode cX8_putHumour 29 = .ok (.iload_n 2, 1) := by decide +kernel
theorem dX8_putHumour_30 : decode cX8_putHumour 30 = .ok (.iadd, 1) := by decide +kernel
theorem dX8_putHumour_31 : decode cX8_putHumour 31 = .ok (.iload_n 3, 1) := by decide +kernel
theorem dX8_putHumour_32 : decode cX8_putHumour 32 = .ok (.iastore, 1) := by decide +kernel
theorem dX8_putHumour_33 : decode cX8_putHumour 33 = .ok (.return_, 1) := by decide +kernel
theorem dX8_daysHeld_0 : decode cX8_daysHeld 0 = .ok (.iload_n 1, 1) := by decide +kernel
theorem dX8_daysHeld_1 : decode cX8_daysHeld 1 = .ok (.ifCond .lt 23, 3) := by decide +kernel
theorem dX8_daysHeld_4 : decode cX8_daysHeld 4 = .ok (.iload_n 1, 1) := by decide +kernel
theorem dX8_daysHeld_5 : decode cX8_daysHeld 5 = .ok (.bipush 6, 2) := by decide +kernel
theorem dX8_daysHeld_7 : decode cX8_daysHeld 7 = .ok (.if_icmp .ge 17, 3) := by decide +kernel
theorem dX8_daysHeld_10 : decode cX8_daysHeld 10 = .ok (.iload_n 2, 1) := by decide +kernel
theorem dX8_daysHeld_11 : decode cX8_daysHeld 11 = .ok (.ifCond .lt 13, 3) := by decide +kernel
theorem dX8_daysHeld_14 : decode cX8_daysHeld 14 = .ok (.iload_n 2, 1) := by decide +kernel
theorem dX8_daysHeld_15 : decode cX8_daysHeld 15 = .ok (.bipush 8, 2) := by decide +kernel
theorem dX8_daysHeld_17 : decode cX8_daysHeld 17 = .ok (.if_icmp .ge 7, 3) := by decide +kernel
theorem dX8_daysHeld_20 : decode cX8_daysHeld 20 = .ok (.iconst 1, 1) := by decide +kernel
theorem dX8_daysHeld_21 : decode cX8_daysHeld 21 = .ok (.goto 4, 3) := by decide +kernel
theorem dX8_daysHeld_24 : decode cX8_daysHeld 24 = .ok (.iconst 0, 1) := by decide +kernel
theorem dX8_daysHeld_25 : decode cX8_daysHeld 25 = .ok (.istore_n 3, 1) := by decide +kernel
theorem dX8_daysHeld_26 : decode cX8_daysHeld 26 = .ok (.iload_n 3, 1) := by decide +kernel
theorem dX8_daysHeld_27 : decode cX8_daysHeld 27 = .ok (.ifCond .eq 20, 3) := by decide +kernel
theorem dX8_daysHeld_30 : decode cX8_daysHeld 30 = .ok (.aload_n 0, 1) := by decide +kernel
theorem dX8_daysHeld_31 : decode cX8_daysHeld 31 = .ok (.getfield 11, 3) := by decide +kernel
theorem dX8_daysHeld_34 : decode cX8_daysHeld 34 = .ok (.bipush 32, 2) := by decide +kernel
theorem dX8_daysHeld_36 : decode cX8_daysHeld 36 = .ok (.iload_n 1, 1) := by decide +kernel
theorem dX8_daysHeld_37 : decode cX8_daysHeld 37 = .ok (.bipush 8, 2) := by decide +kernel
theorem dX8_daysHeld_39 : decode cX8_daysHeld 39 = .ok (.imul, 1) := by decide +kernel
theorem dX8_daysHeld_40 : decode cX8_daysHeld 40 = .ok (.iadd, 1) := by decide +kernel
theorem dX8_daysHeld_41 : decode cX8_daysHeld 41 = .ok (.iload_n 2, 1) := by decide +kernel
theorem dX8_daysHeld_42 : decode cX8_daysHeld 42 = .ok (.iadd, 1) := by decide +kernel
theorem dX8_daysHeld_43 : decode cX8_daysHeld 43 = .ok (.iaload, 1) := by decide +kernel
theorem dX8_daysHeld_44 : decode cX8_daysHeld 44 = .ok (.goto 4, 3) := by decide +kernel
theorem dX8_daysHeld_47 : decode cX8_daysHeld 47 = .ok (.iconst (-1), 1) := by decide +kernel
theorem dX8_daysHeld_48 : decode cX8_daysHeld 48 = .ok (.ireturn, 1) := by decide +kernel
theorem dX8_putDaysHeld_0 : decode cX8_putDaysHeld 0 = .ok (.iload_n 1, 1) := by decide +kernel
theorem dX8_putDaysHeld_1 : decode cX8_putDaysHeld 1 = .ok (.ifCond .lt 34, 3) := by decide +kernel
theorem dX8_putDaysHeld_4 : decode cX8_putDaysHeld 4 = .ok (.iload_n 1, 1) := by decide +kernel
theorem dX8_putDaysHeld_5 : decode cX8_putDaysHeld 5 = .ok (.bipush 6, 2) := by decide +kernel
theorem dX8_putDaysHeld_7 : decode cX8_putDaysHeld 7 = .ok (.if_icmp .ge 28, 3) := by decide +kernel
theorem dX8_putDaysHeld_10 : decode cX8_putDaysHeld 10 = .ok (.iload_n 2, 1) := by decide +kernel
theorem dX8_putDaysHeld_11 : decode cX8_putDaysHeld 11 = .ok (.ifCond .lt 24, 3) := by decide +kernel
theorem dX8_putDaysHeld_14 : decode cX8_putDaysHeld 14 = .ok (.iload_n 2, 1) := by decide +kernel
theorem dX8_putDaysHeld_15 : decode cX8_putDaysHeld 15 = .ok (.bipush 8, 2) := by decide +kernel
theorem dX8_putDaysHeld_17 : decode cX8_putDaysHeld 17 = .ok (.if_icmp .ge 18, 3) := by decide +kernel
theorem dX8_putDaysHeld_20 : decode cX8_putDaysHeld 20 = .ok (.aload_n 0, 1) := by decide +kernel
theorem dX8_putDaysHeld_21 : decode cX8_putDaysHeld 21 = .ok (.getfield 11, 3) := by decide +kernel
theorem dX8_putDaysHeld_24 : decode cX8_putDaysHeld 24 = .ok (.bipush 32, 2) := by decide +kernel
theorem dX8_putDaysHeld_26 : decode cX8_putDaysHeld 26 = .ok (.iload_n 1, 1) := by decide +kernel
theorem dX8_putDaysHeld_27 : decode cX8_putDaysHeld 27 = .ok (.bipush 8, 2) := by decide +kernel
theorem dX8_putDaysHeld_29 : decode cX8_putDaysHeld 29 = .ok (.imul, 1) := by decide +kernel
theorem dX8_putDaysHeld_30 : decode cX8_putDaysHeld 30 = .ok (.iadd, 1) := by decide +kernel
theorem dX8_putDaysHeld_31 : decode cX8_putDaysHeld 31 = .ok (.iload_n 2, 1) := by decide +kernel
theorem dX8_putDaysHeld_32 : decode cX8_putDaysHeld 32 = .ok (.iadd, 1) := by decide +kernel
theorem dX8_putDaysHeld_33 : decode cX8_putDaysHeld 33 = .ok (.iload_n 3, 1) := by decide +kernel
theorem dX8_putDaysHeld_34 : decode cX8_putDaysHeld 34 = .ok (.iastore, 1) := by decide +kernel
theorem dX8_putDaysHeld_35 : decode cX8_putDaysHeld 35 = .ok (.return_, 1) := by decide +kernel
theorem dX8_holds_0 : decode cX8_holds 0 = .ok (.aload_n 0, 1) := by decide +kernel
theorem dX8_holds_1 : decode cX8_holds 1 = .ok (.iload_n 1, 1) := by decide +kernel
theorem dX8_holds_2 : decode cX8_holds 2 = .ok (.iload_n 2, 1) := by decide +kernel
theorem dX8_holds_3 : decode cX8_holds 3 = .ok (.invokevirtual 37, 3) := by decide +kernel
theorem dX8_holds_6 : decode cX8_holds 6 = .ok (.iconst (-1), 1) := by decide +kernel
theorem dX8_holds_7 : decode cX8_holds 7 = .ok (.if_icmp .eq 7, 3) := by decide +kernel
theorem dX8_holds_10 : decode cX8_holds 10 = .ok (.iconst 1, 1) := by decide +kernel
theorem dX8_holds_11 : decode cX8_holds 11 = .ok (.goto 4, 3) := by decide +kernel
theorem dX8_holds_14 : decode cX8_holds 14 = .ok (.iconst 0, 1) := by decide +kernel
theorem dX8_holds_15 : decode cX8_holds 15 = .ok (.ireturn, 1) := by decide +kernel
theorem dX8_lend_0 : decode cX8_lend 0 = .ok (.aload_n 0, 1) := by decide +kernel
theorem dX8_lend_1 : decode cX8_lend 1 = .ok (.iload_n 1, 1) := by decide +kernel
theorem dX8_lend_2 : decode cX8_lend 2 = .ok (.iload_n 2, 1) := by decide +kernel
theorem dX8_lend_3 : decode cX8_lend 3 = .ok (.iconst 0, 1) := by decide +kernel
theorem dX8_lend_4 : decode cX8_lend 4 = .ok (.invokevirtual 41, 3) := by decide +kernel
theorem dX8_lend_7 : decode cX8_lend 7 = .ok (.return_, 1) := by decide +kernel
theorem dX8_strip_0 : decode cX8_strip 0 = .ok (.aload_n 0, 1) := by decide +kernel
theorem dX8_strip_1 : decode cX8_strip 1 = .ok (.iload_n 1, 1) := by decide +kernel
theorem dX8_strip_2 : decode cX8_strip 2 = .ok (.iload_n 2, 1) := by decide +kernel
theorem dX8_strip_3 : decode cX8_strip 3 = .ok (.iconst (-1), 1) := by decide +kernel
theorem dX8_strip_4 : decode cX8_strip 4 = .ok (.invokevirtual 41, 3) := by decide +kernel
theorem dX8_strip_7 : decode cX8_strip 7 = .ok (.return_, 1) := by decide +kernel
theorem dX8_dayNumber_0 : decode cX8_dayNumber 0 = .ok (.aload_n 0, 1) := by decide +kernel
theorem dX8_dayNumber_1 : decode cX8_dayNumber 1 = .ok (.getfield 11, 3) := by decide +kernel
theorem dX8_dayNumber_4 : decode cX8_dayNumber 4 = .ok (.bipush 80, 2) := by decide +kernel
theorem dX8_dayNumber_6 : decode cX8_dayNumber 6 = .ok (.iaload, 1) := by decide +kernel
theorem dX8_dayNumber_7 : decode cX8_dayNumber 7 = .ok (.ireturn, 1) := by decide +kernel
theorem dX8_signedFor_0 : decode cX8_signedFor 0 = .ok (.aload_n 0, 1) := by decide +kernel
theorem dX8_signedFor_1 : decode cX8_signedFor 1 = .ok (.getfield 11, 3) := by decide +kernel
theorem dX8_signedFor_4 : decode cX8_signedFor 4 = .ok (.bipush 81, 2) := by decide +kernel
theorem dX8_signedFor_6 : decode cX8_signedFor 6 = .ok (.iaload, 1) := by decide +kernel
theorem dX8_signedFor_7 : decode cX8_signedFor 7 = .ok (.ireturn, 1) := by decide +kernel
theorem dX8_groundsOf_0 : decode cX8_groundsOf 0 = .ok (.iconst 0, 1) := by decide +kernel
theorem dX8_groundsOf_1 : decode cX8_groundsOf 1 = .ok (.istore_n 2, 1) := by decide +kernel
theorem dX8_groundsOf_2 : decode cX8_groundsOf 2 = .ok (.iconst 0, 1) := by decide +kernel
theorem dX8_groundsOf_3 : decode cX8_groundsOf 3 = .ok (.istore_n 3, 1) := by decide +kernel
theorem dX8_groundsOf_4 : decode cX8_groundsOf 4 = .ok (.iload_n 3, 1) := by decide +kernel
theorem dX8_groundsOf_5 : decode cX8_groundsOf 5 = .ok (.aload_n 0, 1) := by decide +kernel
theorem dX8_groundsOf_6 : decode cX8_groundsOf 6 = .ok (.getfield 23, 3) := by decide +kernel
theorem dX8_groundsOf_9 : decode cX8_groundsOf 9 = .ok (.invokevirtual 45, 3) := by decide +kernel
theorem dX8_groundsOf_12 : decode cX8_groundsOf 12 = .ok (.if_icmp .ge 29, 3) := by decide +kernel
theorem dX8_groundsOf_15 : decode cX8_groundsOf 15 = .ok (.iload_n 2, 1) := by decide +kernel
theorem dX8_groundsOf_16 : decode cX8_groundsOf 16 = .ok (.aload_n 0, 1) := by decide +kernel
theorem dX8_groundsOf_17 : decode cX8_groundsOf 17 = .ok (.iload_n 1, 1) := by decide +kernel
theorem dX8_groundsOf_18 : decode cX8_groundsOf 18 = .ok (.iload_n 3, 1) := by decide +kernel
theorem dX8_groundsOf_19 : decode cX8_groundsOf 19 = .ok (.invokevirtual 37, 3) := by decide +kernel
theorem dX8_groundsOf_22 : decode cX8_groundsOf 22 = .ok (.iconst (-1), 1) := by decide +kernel
theorem dX8_groundsOf_23 : decode cX8_groundsOf 23 = .ok (.if_icmp .eq 9, 3) := by decide +kernel
theorem dX8_groundsOf_26 : decode cX8_groundsOf 26 = .ok (.iconst 1, 1) := by decide +kernel
theorem dX8_groundsOf_27 : decode cX8_groundsOf 27 = .ok (.iload_n 3, 1) := by decide +kernel
theorem dX8_groundsOf_28 : decode cX8_groundsOf 28 = .ok (.ishl, 1) := by decide +kernel
theorem dX8_groundsOf_29 : decode cX8_groundsOf 29 = .ok (.goto 4, 3) := by decide +kernel
theorem dX8_groundsOf_32 : decode cX8_groundsOf 32 = .ok (.iconst 0, 1) := by decide +kernel
theorem dX8_groundsOf_33 : decode cX8_groundsOf 33 = .ok (.ior, 1) := by decide +kernel
theorem dX8_groundsOf_34 : decode cX8_groundsOf 34 = .ok (.istore_n 2, 1) := by decide +kernel
theorem dX8_groundsOf_35 : decode cX8_groundsOf 35 = .ok (.iinc 3 1, 3) := by decide +kernel
theorem dX8_groundsOf_38 : decode cX8_groundsOf 38 = .ok (.goto (-34), 3) := by decide +kernel
theorem dX8_groundsOf_41 : decode cX8_groundsOf 41 = .ok (.iload_n 2, 1) := by decide +kernel
theorem dX8_groundsOf_42 : decode cX8_groundsOf 42 = .ok (.ireturn, 1) := by decide +kernel
theorem dX8_holdersOf_0 : decode cX8_holdersOf 0 = .ok (.iconst 0, 1) := by decide +kernel
theorem dX8_holdersOf_1 : decode cX8_holdersOf 1 = .ok (.istore_n 2, 1) := by decide +kernel
theorem dX8_holdersOf_2 : decode cX8_holdersOf 2 = .ok (.iconst 0, 1) := by decide +kernel
theorem dX8_holdersOf_3 : decode cX8_holdersOf 3 = .ok (.istore_n 3, 1) := by decide +kernel
theorem dX8_holdersOf_4 : decode cX8_holdersOf 4 = .ok (.iload_n 3, 1) := by decide +kernel
theorem dX8_holdersOf_5 : decode cX8_holdersOf 5 = .ok (.aload_n 0, 1) := by decide +kernel
theorem dX8_holdersOf_6 : decode cX8_holdersOf 6 = .ok (.getfield 23, 3) := by decide +kernel
theorem dX8_holdersOf_9 : decode cX8_holdersOf 9 = .ok (.invokevirtual 51, 3) := by decide +kernel
theorem dX8_holdersOf_12 : decode cX8_holdersOf 12 = .ok (.if_icmp .ge 28, 3) := by decide +kernel
theorem dX8_holdersOf_15 : decode cX8_holdersOf 15 = .ok (.iload_n 2, 1) := by decide +kernel
theorem dX8_holdersOf_16 : decode cX8_holdersOf 16 = .ok (.aload_n 0, 1) := by decide +kernel
theorem dX8_holdersOf_17 : decode cX8_holdersOf 17 = .ok (.iload_n 3, 1) := by decide +kernel
theorem dX8_holdersOf_18 : decode cX8_holdersOf 18 = .ok (.iload_n 1, 1) := by decide +kernel
theorem dX8_holdersOf_19 : decode cX8_holdersOf 19 = .ok (.invokevirtual 54, 3) := by decide +kernel
theorem dX8_holdersOf_22 : decode cX8_holdersOf 22 = .ok (.ifCond .eq 9, 3) := by decide +kernel
theorem dX8_holdersOf_25 : decode cX8_holdersOf 25 = .ok (.iconst 1, 1) := by decide +kernel
theorem dX8_holdersOf_26 : decode cX8_holdersOf 26 = .ok (.iload_n 3, 1) := by decide +kernel
theorem dX8_holdersOf_27 : decode cX8_holdersOf 27 = .ok (.ishl, 1) := by decide +kernel
theorem dX8_holdersOf_28 : decode cX8_holdersOf 28 = .ok (.goto 4, 3) := by decide +kernel
theorem dX8_holdersOf_31 : decode cX8_holdersOf 31 = .ok (.iconst 0, 1) := by decide +kernel
theorem dX8_holdersOf_32 : decode cX8_holdersOf 32 = .ok (.ior, 1) := by decide +kernel
theorem dX8_holdersOf_33 : decode cX8_holdersOf 33 = .ok (.istore_n 2, 1) := by decide +kernel
theorem dX8_holdersOf_34 : decode cX8_holdersOf 34 = .ok (.iinc 3 1, 3) := by decide +kernel
theorem dX8_holdersOf_37 : decode cX8_holdersOf 37 = .ok (.goto (-33), 3) := by decide +kernel
theorem dX8_holdersOf_40 : decode cX8_holdersOf 40 = .ok (.iload_n 2, 1) := by decide +kernel
theorem dX8_holdersOf_41 : decode cX8_holdersOf 41 = .ok (.ireturn, 1) := by decide +kernel
theorem dX8_wantsOf_0 : decode cX8_wantsOf 0 = .ok (.iconst 0, 1) := by decide +kernel
theorem dX8_wantsOf_1 : decode cX8_wantsOf 1 = .ok (.istore_n 2, 1) := by decide +kernel
theorem dX8_wantsOf_2 : decode cX8_wantsOf 2 = .ok (.iconst 0, 1) := by decide +kernel
theorem dX8_wantsOf_3 : decode cX8_wantsOf 3 = .ok (.istore_n 3, 1) := by decide +kernel
theorem dX8_wantsOf_4 : decode cX8_wantsOf 4 = .ok (.iload_n 3, 1) := by decide +kernel
theorem dX8_wantsOf_5 : decode cX8_wantsOf 5 = .ok (.aload_n 0, 1) := by decide +kernel
theorem dX8_wantsOf_6 : decode cX8_wantsOf 6 = .ok (.getfield 23, 3) := by decide +kernel
theorem dX8_wantsOf_9 : decode cX8_wantsOf 9 = .ok (.invokevirtual 58, 3) := by decide +kernel
theorem dX8_wantsOf_12 : decode cX8_wantsOf 12 = .ok (.if_icmp .ge 28, 3) := by decide +kernel
theorem dX8_wantsOf_15 : decode cX8_wantsOf 15 = .ok (.iload_n 2, 1) := by decide +kernel
theorem dX8_wantsOf_16 : decode cX8_wantsOf 16 = .ok (.aload_n 0, 1) := by decide +kernel
theorem dX8_wantsOf_17 : decode cX8_wantsOf 17 = .ok (.iload_n 1, 1) := by decide +kernel
theorem dX8_wantsOf_18 : decode cX8_wantsOf 18 = .ok (.iload_n 3, 1) := by decide +kernel
theorem dX8_wantsOf_19 : decode cX8_wantsOf 19 = .ok (.invokevirtual 61, 3) := by decide +kernel
theorem dX8_wantsOf_22 : decode cX8_wantsOf 22 = .ok (.ifCond .eq 9, 3) := by decide +kernel
theorem dX8_wantsOf_25 : decode cX8_wantsOf 25 = .ok (.iconst 1, 1) := by decide +kernel
theorem dX8_wantsOf_26 : decode cX8_wantsOf 26 = .ok (.iload_n 3, 1) := by decide +kernel
theorem dX8_wantsOf_27 : decode cX8_wantsOf 27 = .ok (.ishl, 1) := by decide +kernel
theorem dX8_wantsOf_28 : decode cX8_wantsOf 28 = .ok (.goto 4, 3) := by decide +kernel
theorem dX8_wantsOf_31 : decode cX8_wantsOf 31 = .ok (.iconst 0, 1) := by decide +kernel
theorem dX8_wantsOf_32 : decode cX8_wantsOf 32 = .ok (.ior, 1) := by decide +kernel
theorem dX8_wantsOf_33 : decode cX8_wantsOf 33 = .ok (.istore_n 2, 1) := by decide +kernel
theorem dX8_wantsOf_34 : decode cX8_wantsOf 34 = .ok (.iinc 3 1, 3) := by decide +kernel
theorem dX8_wantsOf_37 : decode cX8_wantsOf 37 = .ok (.goto (-33), 3) := by decide +kernel
theorem dX8_wantsOf_40 : decode cX8_wantsOf 40 = .ok (.iload_n 2, 1) := by decide +kernel
theorem dX8_wantsOf_41 : decode cX8_wantsOf 41 = .ok (.ireturn, 1) := by decide +kernel
theorem dX8_hasWant_0 : decode cX8_hasWant 0 = .ok (.iconst 0, 1) := by decide +kernel
theorem dX8_hasWant_1 : decode cX8_hasWant 1 = .ok (.istore_n 3, 1) := by decide +kernel
theorem dX8_hasWant_2 : decode cX8_hasWant 2 = .ok (.iload_n 3, 1) := by decide +kernel
theorem dX8_hasWant_3 : decode cX8_hasWant 3 = .ok (.aload_n 0, 1) := by decide +kernel
theorem dX8_hasWant_4 : decode cX8_hasWant 4 = .ok (.getfield 23, 3) := by decide +kernel
theorem dX8_hasWant_7 : decode cX8_hasWant 7 = .ok (.iload_n 2, 1) := by decide +kernel
theorem dX8_hasWant_8 : decode cX8_hasWant 8 = .ok (.invokevirtual 64, 3) := by decide +kernel
theorem dX8_hasWant_11 : decode cX8_hasWant 11 = .ok (.if_icmp .ge 37, 3) := by decide +kernel
theorem dX8_hasWant_14 : decode cX8_hasWant 14 = .ok (.aload_n 0, 1) := by decide +kernel
theorem dX8_hasWant_15 : decode cX8_hasWant 15 = .ok (.getfield 23, 3) := by decide +kernel
theorem dX8_hasWant_18 : decode cX8_hasWant 18 = .ok (.iload_n 2, 1) := by decide +kernel
theorem dX8_hasWant_19 : decode cX8_hasWant 19 = .ok (.iload_n 3, 1) := by decide +kernel
theorem dX8_hasWant_20 : decode cX8_hasWant 20 = .ok (.aload_n 0, 1) := by decide +kernel
theorem dX8_hasWant_21 : decode cX8_hasWant 21 = .ok (.iload_n 1, 1) := by decide +kernel
theorem dX8_hasWant_22 : decode cX8_hasWant 22 = .ok (.aload_n 0, 1) := by decide +kernel
theorem dX8_hasWant_23 : decode cX8_hasWant 23 = .ok (.getfield 23, 3) := by decide +kernel
theorem dX8_hasWant_26 : decode cX8_hasWant 26 = .ok (.iload_n 2, 1) := by decide +kernel
theorem dX8_hasWant_27 : decode cX8_hasWant 27 = .ok (.iload_n 3, 1) := by decide +kernel
theorem dX8_hasWant_28 : decode cX8_hasWant 28 = .ok (.invokevirtual 68, 3) := by decide +kernel
theorem dX8_hasWant_31 : decode cX8_hasWant 31 = .ok (.invokevirtual 71, 3) := by decide +kernel
theorem dX8_hasWant_34 : decode cX8_hasWant 34 = .ok (.invokevirtual 74, 3) := by decide +kernel
theorem dX8_hasWant_37 : decode cX8_hasWant 37 = .ok (.ifCond .le 5, 3) := by decide +kernel
theorem dX8_hasWant_40 : decode cX8_hasWant 40 = .ok (.iconst 0, 1) := by decide +kernel
theorem dX8_hasWant_41 : decode cX8_hasWant 41 = .ok (.ireturn, 1) := by decide +kernel
theorem dX8_hasWant_42 : decode cX8_hasWant 42 = .ok (.iinc 3 1, 3) := by decide +kernel
theorem dX8_hasWant_45 : decode cX8_hasWant 45 = .ok (.goto (-43), 3) := by decide +kernel
theorem dX8_hasWant_48 : decode cX8_hasWant 48 = .ok (.iconst 1, 1) := by decide +kernel
theorem dX8_hasWant_49 : decode cX8_hasWant 49 = .ok (.ireturn, 1) := by decide +kernel
theorem dX8_humoursTogether_0 : decode cX8_humoursTogether 0 = .ok (.iconst 0, 1) := by decide +kernel
theorem dX8_humoursTogether_1 : decode cX8_humoursTogether 1 = .ok (.istore_n 2, 1) := by decide +kernel
theorem dX8_humoursTogether_2 : decode cX8_humoursTogether 2 = .ok (.iconst 0, 1) := by decide +kernel
theorem dX8_humoursTogether_3 : decode cX8_humoursTogether 3 = .ok (.istore_n 3, 1) := by decide +kernel
theorem dX8_humoursTogether_4 : decode cX8_humoursTogether 4 = .ok (.iload_n 3, 1) := by decide +kernel
theorem dX8_humoursTogether_5 : decode cX8_humoursTogether 5 = .ok (.iconst 4, 1) := by decide +kernel
theorem dX8_humoursTogether_6 : decode cX8_humoursTogether 6 = .ok (.if_icmp .ge 21, 3) := by decide +kernel
theorem dX8_humoursTogether_9 : decode cX8_humoursTogether 9 = .ok (.iload_n 2, 1) := by decide +kernel
theorem dX8_humoursTogether_10 : decode cX8_humoursTogether 10 = .ok (.bipush 10, 2) := by decide +kernel
theorem dX8_humoursTogether_12 : decode cX8_humoursTogether 12 = .ok (.imul, 1) := by decide +kernel
theorem dX8_humoursTogether_13 : decode cX8_humoursTogether 13 = .ok (.aload_n 0, 1) := by decide +kernel
theorem dX8_humoursTogether_14 : decode cX8_humoursTogether 14 = .ok (.iload_n 1, 1) := by decide +kernel
theorem dX8_humoursTogether_15 : decode cX8_humoursTogether 15 = .ok (.iload_n 3, 1) := by decide +kernel
theorem dX8_humoursTogether_16 : decode cX8_humoursTogether 16 = .ok (.invokevirtual 71, 3) := by decide +kernel
theorem dX8_humoursTogether_19 : decode cX8_humoursTogether 19 = .ok (.iadd, 1) := by decide +kernel
theorem dX8_humoursTogether_20 : decode cX8_humoursTogether 20 = .ok (.istore_n 2, 1) := by decide +kernel
theorem dX8_humoursTogether_21 : decode cX8_humoursTogether 21 = .ok (.iinc 3 1, 3) := by decide +kernel
theorem dX8_humoursTogether_24 : decode cX8_humoursTogether 24 = .ok (.goto (-20), 3) := by decide +kernel
theorem dX8_humoursTogether_27 : decode cX8_humoursTogether 27 = .ok (.iload_n 2, 1) := by decide +kernel
theorem dX8_humoursTogether_28 : decode cX8_humoursTogether 28 = .ok (.ireturn, 1) := by decide +kernel
theorem dX8_stockOfAll_0 : decode cX8_stockOfAll 0 = .ok (.iconst 0, 1) := by decide +kernel
theorem dX8_stockOfAll_1 : decode cX8_stockOfAll 1 = .ok (.istore_n 1, 1) := by decide +kernel
theorem dX8_stockOfAll_2 : decode cX8_stockOfAll 2 = .ok (.iconst 0, 1) := by decide +kernel
theorem dX8_stockOfAll_3 : decode cX8_stockOfAll 3 = .ok (.istore_n 2, 1) := by decide +kernel
theorem dX8_stockOfAll_4 : decode cX8_stockOfAll 4 = .ok (.iload_n 2, 1) := by decide +kernel
theorem dX8_stockOfAll_5 : decode cX8_stockOfAll 5 = .ok (.aload_n 0, 1) := by decide +kernel
theorem dX8_stockOfAll_6 : decode cX8_stockOfAll 6 = .ok (.getfield 23, 3) := by decide +kernel
theorem dX8_stockOfAll_9 : decode cX8_stockOfAll 9 = .ok (.invokevirtual 45, 3) := by decide +kernel
theorem dX8_stockOfAll_12 : decode cX8_stockOfAll 12 = .ok (.if_icmp .ge 17, 3) := by decide +kernel
theorem dX8_stockOfAll_15 : decode cX8_stockOfAll 15 = .ok (.iload_n 1, 1) := by decide +kernel
theorem dX8_stockOfAll_16 : decode cX8_stockOfAll 16 = .ok (.aload_n 0, 1) := by decide +kernel
theorem dX8_stockOfAll_17 : decode cX8_stockOfAll 17 = .ok (.iload_n 2, 1) := by decide +kernel
theorem dX8_stockOfAll_18 : decode cX8_stockOfAll 18 = .ok (.invokevirtual 78, 3) := by decide +kernel
theorem dX8_stockOfAll_21 : decode cX8_stockOfAll 21 = .ok (.iadd, 1) := by decide +kernel
theorem dX8_stockOfAll_22 : decode cX8_stockOfAll 22 = .ok (.istore_n 1, 1) := by decide +kernel
theorem dX8_stockOfAll_23 : decode cX8_stockOfAll 23 = .ok (.iinc 2 1, 3) := by decide +kernel
theorem dX8_stockOfAll_26 : decode cX8_stockOfAll 26 = .ok (.goto (-22), 3) := by decide +kernel
theorem dX8_stockOfAll_29 : decode cX8_stockOfAll 29 = .ok (.iload_n 1, 1) := by decide +kernel
theorem dX8_stockOfAll_30 : decode cX8_stockOfAll 30 = .ok (.ireturn, 1) := by decide +kernel
theorem dX8_groundsOfAll_0 : decode cX8_groundsOfAll 0 = .ok (.iconst 0, 1) := by decide +kernel
theorem dX8_groundsOfAll_1 : decode cX8_groundsOfAll 1 = .ok (.istore_n 1, 1) := by decide +kernel
theorem dX8_groundsOfAll_2 : decode cX8_groundsOfAll 2 = .ok (.iconst 0, 1) := by decide +kernel
theorem dX8_groundsOfAll_3 : decode cX8_groundsOfAll 3 = .ok (.istore_n 2, 1) := by decide +kernel
theorem dX8_groundsOfAll_4 : decode cX8_groundsOfAll 4 = .ok (.iload_n 2, 1) := by decide +kernel
theorem dX8_groundsOfAll_5 : decode cX8_groundsOfAll 5 = .ok (.aload_n 0, 1) := by decide +kernel
theorem dX8_groundsOfAll_6 : decode cX8_groundsOfAll 6 = .ok (.getfield 23, 3) := by decide +kernel
theorem dX8_groundsOfAll_9 : decode cX8_groundsOfAll 9 = .ok (.invokevirtual 51, 3) := by decide +kernel
theorem dX8_groundsOfAll_12 : decode cX8_groundsOfAll 12 = .ok (.if_icmp .ge 20, 3) := by decide +kernel
theorem dX8_groundsOfAll_15 : decode cX8_groundsOfAll 15 = .ok (.iload_n 1, 1) := by decide +kernel
theorem dX8_groundsOfAll_16 : decode cX8_groundsOfAll 16 = .ok (.aload_n 0, 1) := by decide +kernel
theorem dX8_groundsOfAll_17 : decode cX8_groundsOfAll 17 = .ok (.iload_n 2, 1) := by decide +kernel
theorem dX8_groundsOfAll_18 : decode cX8_groundsOfAll 18 = .ok (.invokevirtual 81, 3) := by decide +kernel
theorem dX8_groundsOfAll_21 : decode cX8_groundsOfAll 21 = .ok (.invokestatic 84, 3) := by decide +kernel
theorem dX8_groundsOfAll_24 : decode cX8_groundsOfAll 24 = .ok (.iadd, 1) := by decide +kernel
theorem dX8_groundsOfAll_25 : decode cX8_groundsOfAll 25 = .ok (.istore_n 1, 1) := by decide +kernel
theorem dX8_groundsOfAll_26 : decode cX8_groundsOfAll 26 = .ok (.iinc 2 1, 3) := by decide +kernel
theorem dX8_groundsOfAll_29 : decode cX8_groundsOfAll 29 = .ok (.goto (-25), 3) := by decide +kernel
theorem dX8_groundsOfAll_32 : decode cX8_groundsOfAll 32 = .ok (.iload_n 1, 1) := by decide +kernel
theorem dX8_groundsOfAll_33 : decode cX8_groundsOfAll 33 = .ok (.ireturn, 1) := by decide +kernel
theorem dX8_wantsOfAll_0 : decode cX8_wantsOfAll 0 = .ok (.iconst 0, 1) := by decide +kernel
theorem dX8_wantsOfAll_1 : decode cX8_wantsOfAll 1 = .ok (.istore_n 1, 1) := by decide +kernel
theorem dX8_wantsOfAll_2 : decode cX8_wantsOfAll 2 = .ok (.iconst 0, 1) := by decide +kernel
theorem dX8_wantsOfAll_3 : decode cX8_wantsOfAll 3 = .ok (.istore_n 2, 1) := by decide +kernel
theorem dX8_wantsOfAll_4 : decode cX8_wantsOfAll 4 = .ok (.iload_n 2, 1) := by decide +kernel
theorem dX8_wantsOfAll_5 : decode cX8_wantsOfAll 5 = .ok (.aload_n 0, 1) := by decide +kernel
theorem dX8_wantsOfAll_6 : decode cX8_wantsOfAll 6 = .ok (.getfield 23, 3) := by decide +kernel
theorem dX8_wantsOfAll_9 : decode cX8_wantsOfAll 9 = .ok (.invokevirtual 51, 3) := by decide +kernel
theorem dX8_wantsOfAll_12 : decode cX8_wantsOfAll 12 = .ok (.if_icmp .ge 20, 3) := by decide +kernel
theorem dX8_wantsOfAll_15 : decode cX8_wantsOfAll 15 = .ok (.iload_n 1, 1) := by decide +kernel
theorem dX8_wantsOfAll_16 : decode cX8_wantsOfAll 16 = .ok (.aload_n 0, 1) := by decide +kernel
theorem dX8_wantsOfAll_17 : decode cX8_wantsOfAll 17 = .ok (.iload_n 2, 1) := by decide +kernel
theorem dX8_wantsOfAll_18 : decode cX8_wantsOfAll 18 = .ok (.invokevirtual 89, 3) := by decide +kernel
theorem dX8_wantsOfAll_21 : decode cX8_wantsOfAll 21 = .ok (.invokestatic 84, 3) := by decide +kernel
theorem dX8_wantsOfAll_24 : decode cX8_wantsOfAll 24 = .ok (.iadd, 1) := by decide +kernel
theorem dX8_wantsOfAll_25 : decode cX8_wantsOfAll 25 = .ok (.istore_n 1, 1) := by decide +kernel
theorem dX8_wantsOfAll_26 : decode cX8_wantsOfAll 26 = .ok (.iinc 2 1, 3) := by decide +kernel
theorem dX8_wantsOfAll_29 : decode cX8_wantsOfAll 29 = .ok (.goto (-25), 3) := by decide +kernel
theorem dX8_wantsOfAll_32 : decode cX8_wantsOfAll 32 = .ok (.iload_n 1, 1) := by decide +kernel
theorem dX8_wantsOfAll_33 : decode cX8_wantsOfAll 33 = .ok (.ireturn, 1) := by decide +kernel
theorem dX8_humoursOfAll_0 : decode cX8_humoursOfAll 0 = .ok (.iconst 0, 1) := by decide +kernel
theorem dX8_humoursOfAll_1 : decode cX8_humoursOfAll 1 = .ok (.istore_n 1, 1) := by decide +kernel
theorem dX8_humoursOfAll_2 : decode cX8_humoursOfAll 2 = .ok (.iconst 0, 1) := by decide +kernel
theorem dX8_humoursOfAll_3 : decode cX8_humoursOfAll 3 = .ok (.istore_n 2, 1) := by decide +kernel
theorem dX8_humoursOfAll_4 : decode cX8_humoursOfAll 4 = .ok (.iload_n 2, 1) := by decide +kernel
theorem dX8_humoursOfAll_5 : decode cX8_humoursOfAll 5 = .ok (.aload_n 0, 1) := by decide +kernel
theorem dX8_humoursOfAll_6 : decode cX8_humoursOfAll 6 = .ok (.getfield 23, 3) := by decide +kernel
theorem dX8_humoursOfAll_9 : decode cX8_humoursOfAll 9 = .ok (.invokevirtual 51, 3) := by decide +kernel
theorem dX8_humoursOfAll_12 : decode cX8_humoursOfAll 12 = .ok (.if_icmp .ge 31, 3) := by decide +kernel
theorem dX8_humoursOfAll_15 : decode cX8_humoursOfAll 15 = .ok (.iconst 0, 1) := by decide +kernel
theorem dX8_humoursOfAll_16 : decode cX8_humoursOfAll 16 = .ok (.istore_n 3, 1) := by decide +kernel
theorem dX8_humoursOfAll_17 : decode cX8_humoursOfAll 17 = .ok (.iload_n 3, 1) := by decide +kernel
theorem dX8_humoursOfAll_18 : decode cX8_humoursOfAll 18 = .ok (.iconst 4, 1) := by decide +kernel
theorem dX8_humoursOfAll_19 : decode cX8_humoursOfAll 19 = .ok (.if_icmp .ge 18, 3) := by decide +kernel
theorem dX8_humoursOfAll_22 : decode cX8_humoursOfAll 22 = .ok (.iload_n 1, 1) := by decide +kernel
theorem dX8_humoursOfAll_23 : decode cX8_humoursOfAll 23 = .ok (.aload_n 0, 1) := by decide +kernel
theorem dX8_humoursOfAll_24 : decode cX8_humoursOfAll 24 = .ok (.iload_n 2, 1) := by decide +kernel
theorem dX8_humoursOfAll_25 : decode cX8_humoursOfAll 25 = .ok (.iload_n 3, 1) := by decide +kernel
theorem dX8_humoursOfAll_26 : decode cX8_humoursOfAll 26 = .ok (.invokevirtual 71, 3) := by decide +kernel
theorem dX8_humoursOfAll_29 : decode cX8_humoursOfAll 29 = .ok (.iadd, 1) := by decide +kernel
theorem dX8_humoursOfAll_30 : decode cX8_humoursOfAll 30 = .ok (.istore_n 1, 1) := by decide +kernel
theorem dX8_humoursOfAll_31 : decode cX8_humoursOfAll 31 = .ok (.iinc 3 1, 3) := by decide +kernel
theorem dX8_humoursOfAll_34 : decode cX8_humoursOfAll 34 = .ok (.goto (-17), 3) := by decide +kernel
theorem dX8_humoursOfAll_37 : decode cX8_humoursOfAll 37 = .ok (.iinc 2 1, 3) := by decide +kernel
theorem dX8_humoursOfAll_40 : decode cX8_humoursOfAll 40 = .ok (.goto (-36), 3) := by decide +kernel
theorem dX8_humoursOfAll_43 : decode cX8_humoursOfAll 43 = .ok (.iload_n 1, 1) := by decide +kernel
theorem dX8_humoursOfAll_44 : decode cX8_humoursOfAll 44 = .ok (.ireturn, 1) := by decide +kernel
theorem dX8_give_0 : decode cX8_give 0 = .ok (.aload_n 0, 1) := by decide +kernel
theorem dX8_give_1 : decode cX8_give 1 = .ok (.getfield 23, 3) := by decide +kernel
theorem dX8_give_4 : decode cX8_give 4 = .ok (.iload_n 1, 1) := by decide +kernel
theorem dX8_give_5 : decode cX8_give 5 = .ok (.invokevirtual 92, 3) := by decide +kernel
theorem dX8_give_8 : decode cX8_give 8 = .ok (.ifCond .eq 14, 3) := by decide +kernel
theorem dX8_give_11 : decode cX8_give 11 = .ok (.aload_n 0, 1) := by decide +kernel
theorem dX8_give_12 : decode cX8_give 12 = .ok (.getfield 23, 3) := by decide +kernel
theorem dX8_give_15 : decode cX8_give 15 = .ok (.iload_n 2, 1) := by decide +kernel
theorem dX8_give_16 : decode cX8_give 16 = .ok (.invokevirtual 96, 3) := by decide +kernel
theorem dX8_give_19 : decode cX8_give 19 = .ok (.ifCond .ne 5, 3) := by decide +kernel
theorem dX8_give_22 : decode cX8_give 22 = .ok (.iconst (-1), 1) := by decide +kernel
theorem dX8_give_23 : decode cX8_give 23 = .ok (.ireturn, 1) := by decide +kernel
theorem dX8_give_24 : decode cX8_give 24 = .ok (.aload_n 0, 1) := by decide +kernel
theorem dX8_give_25 : decode cX8_give 25 = .ok (.iload_n 1, 1) := by decide +kernel
theorem dX8_give_26 : decode cX8_give 26 = .ok (.iload_n 2, 1) := by decide +kernel
theorem dX8_give_27 : decode cX8_give 27 = .ok (.invokevirtual 54, 3) := by decide +kernel
theorem dX8_give_30 : decode cX8_give 30 = .ok (.ifCond .eq 6, 3) := by decide +kernel
theorem dX8_give_33 : decode cX8_give 33 = .ok (.bipush (-2), 2) := by decide +kernel
theorem dX8_give_35 : decode cX8_give 35 = .ok (.ireturn, 1) := by decide +kernel
theorem dX8_give_36 : decode cX8_give 36 = .ok (.aload_n 0, 1) := by decide +kernel
theorem dX8_give_37 : decode cX8_give 37 = .ok (.iload_n 2, 1) := by decide +kernel
theorem dX8_give_38 : decode cX8_give 38 = .ok (.invokevirtual 78, 3) := by decide +kernel
theorem dX8_give_41 : decode cX8_give 41 = .ok (.iconst 1, 1) := by decide +kernel
theorem dX8_give_42 : decode cX8_give 42 = .ok (.if_icmp .ge 6, 3) := by decide +kernel
theorem dX8_give_45 : decode cX8_give 45 = .ok (.bipush (-3), 2) := by decide +kernel
theorem dX8_give_47 : decode cX8_give 47 = .ok (.ireturn, 1) := by decide +kernel
theorem dX8_give_48 : decode cX8_give 48 = .ok (.aload_n 0, 1) := by decide +kernel
theorem dX8_give_49 : decode cX8_give 49 = .ok (.iload_n 2, 1) := by decide +kernel
theorem dX8_give_50 : decode cX8_give 50 = .ok (.aload_n 0, 1) := by decide +kernel
theorem dX8_give_51 : decode cX8_give 51 = .ok (.iload_n 2, 1) := by decide +kernel
theorem dX8_give_52 : decode cX8_give 52 = .ok (.invokevirtual 78, 3) := by decide +kernel
theorem dX8_give_55 : decode cX8_give 55 = .ok (.iconst 1, 1) := by decide +kernel
theorem dX8_give_56 : decode cX8_give 56 = .ok (.isub, 1) := by decide +kernel
theorem dX8_give_57 : decode cX8_give 57 = .ok (.invokevirtual 99, 3) := by decide +kernel
theorem dX8_give_60 : decode cX8_give 60 = .ok (.aload_n 0, 1) := by decide +kernel
theorem dX8_give_61 : decode cX8_give 61 = .ok (.iload_n 1, 1) := by decide +kernel
theorem dX8_give_62 : decode cX8_give 62 = .ok (.iload_n 2, 1) := by decide +kernel
theorem dX8_give_63 : decode cX8_give 63 = .ok (.iconst 0, 1) := by decide +kernel
theorem dX8_give_64 : decode cX8_give 64 = .ok (.invokevirtual 41, 3) := by decide +kernel
theorem dX8_give_67 : decode cX8_give 67 = .ok (.aload_n 0, 1) := by decide +kernel
theorem dX8_give_68 : decode cX8_give 68 = .ok (.getfield 11, 3) := by decide +kernel
theorem dX8_give_71 : decode cX8_give 71 = .ok (.bipush 81, 2) := by decide +kernel
theorem dX8_give_73 : decode cX8_give 73 = .ok (.sipush 9999, 3) := by decide +kernel
theorem dX8_give_76 : decode cX8_give 76 = .ok (.aload_n 0, 1) := by decide +kernel
theorem dX8_give_77 : decode cX8_give 77 = .ok (.getfield 11, 3) := by decide +kernel
theorem dX8_give_80 : decode cX8_give 80 = .ok (.bipush 81, 2) := by decide +kernel
theorem dX8_give_82 : decode cX8_give 82 = .ok (.iaload, 1) := by decide +kernel
theorem dX8_give_83 : decode cX8_give 83 = .ok (.iconst 1, 1) := by decide +kernel
theorem dX8_give_84 : decode cX8_give 84 = .ok (.iadd, 1) := by decide +kernel
theorem dX8_give_85 : decode cX8_give 85 = .ok (.invokestatic 103, 3) := by decide +kernel
theorem dX8_give_88 : decode cX8_give 88 = .ok (.iastore, 1) := by decide +kernel
theorem dX8_give_89 : decode cX8_give 89 = .ok (.aload_n 0, 1) := by decide +kernel
theorem dX8_give_90 : decode cX8_give 90 = .ok (.iload_n 1, 1) := by decide +kernel
theorem dX8_give_91 : decode cX8_give 91 = .ok (.invokevirtual 81, 3) := by decide +kernel
theorem dX8_give_94 : decode cX8_give 94 = .ok (.invokestatic 84, 3) := by decide +kernel
theorem dX8_give_97 : decode cX8_give 97 = .ok (.ireturn, 1) := by decide +kernel
theorem dX8_takeBack_0 : decode cX8_takeBack 0 = .ok (.aload_n 0, 1) := by decide +kernel
theorem dX8_takeBack_1 : decode cX8_takeBack 1 = .ok (.getfield 23, 3) := by decide +kernel
theorem dX8_takeBack_4 : decode cX8_takeBack 4 = .ok (.iload_n 1, 1) := by decide +kernel
theorem dX8_takeBack_5 : decode cX8_takeBack 5 = .ok (.invokevirtual 92, 3) := by decide +kernel
theorem dX8_takeBack_8 : decode cX8_takeBack 8 = .ok (.ifCond .eq 14, 3) := by decide +kernel
theorem dX8_takeBack_11 : decode cX8_takeBack 11 = .ok (.aload_n 0, 1) := by decide +kernel
theorem dX8_takeBack_12 : decode cX8_takeBack 12 = .ok (.getfield 23, 3) := by decide +kernel
theorem dX8_takeBack_15 : decode cX8_takeBack 15 = .ok (.iload_n 2, 1) := by decide +kernel
theorem dX8_takeBack_16 : decode cX8_takeBack 16 = .ok (.invokevirtual 96, 3) := by decide +kernel
theorem dX8_takeBack_19 : decode cX8_takeBack 19 = .ok (.ifCond .ne 5, 3) := by decide +kernel
theorem dX8_takeBack_22 : decode cX8_takeBack 22 = .ok (.iconst (-1), 1) := by decide +kernel
theorem dX8_takeBack_23 : decode cX8_takeBack 23 = .ok (.ireturn, 1) := by decide +kernel
theorem dX8_takeBack_24 : decode cX8_takeBack 24 = .ok (.aload_n 0, 1) := by decide +kernel
theorem dX8_takeBack_25 : decode cX8_takeBack 25 = .ok (.iload_n 1, 1) := by decide +kernel
theorem dX8_takeBack_26 : decode cX8_takeBack 26 = .ok (.iload_n 2, 1) := by decide +kernel
theorem dX8_takeBack_27 : decode cX8_takeBack 27 = .ok (.invokevirtual 54, 3) := by decide +kernel
theorem dX8_takeBack_30 : decode cX8_takeBack 30 = .ok (.ifCond .ne 6, 3) := by decide +kernel
theorem dX8_takeBack_33 : decode cX8_takeBack 33 = .ok (.bipush (-2), 2) := by decide +kernel
theorem dX8_takeBack_35 : decode cX8_takeBack 35 = .ok (.ireturn, 1) := by decide +kernel
theorem dX8_takeBack_36 : decode cX8_takeBack 36 = .ok (.aload_n 0, 1) := by decide +kernel
theorem dX8_takeBack_37 : decode cX8_takeBack 37 = .ok (.iload_n 1, 1) := by decide +kernel
theorem dX8_takeBack_38 : decode cX8_takeBack 38 = .ok (.iload_n 2, 1) := by decide +kernel
theorem dX8_takeBack_39 : decode cX8_takeBack 39 = .ok (.invokevirtual 108, 3) := by decide +kernel
theorem dX8_takeBack_42 : decode cX8_takeBack 42 = .ok (.aload_n 0, 1) := by decide +kernel
theorem dX8_takeBack_43 : decode cX8_takeBack 43 = .ok (.iload_n 2, 1) := by decide +kernel
theorem dX8_takeBack_44 : decode cX8_takeBack 44 = .ok (.bipush 99, 2) := by decide +kernel
theorem dX8_takeBack_46 : decode cX8_takeBack 46 = .ok (.aload_n 0, 1) := by decide +kernel
theorem dX8_takeBack_47 : decode cX8_takeBack 47 = .ok (.iload_n 2, 1) := by decide +kernel
theorem dX8_takeBack_48 : decode cX8_takeBack 48 = .ok (.invokevirtual 78, 3) := by decide +kernel
theorem dX8_takeBack_51 : decode cX8_takeBack 51 = .ok (.iconst 1, 1) := by decide +kernel
theorem dX8_takeBack_52 : decode cX8_takeBack 52 = .ok (.iadd, 1) := by decide +kernel
theorem dX8_takeBack_53 : decode cX8_takeBack 53 = .ok (.invokestatic 103, 3) := by decide +kernel
theorem dX8_takeBack_56 : decode cX8_takeBack 56 = .ok (.invokevirtual 99, 3) := by decide +kernel
theorem dX8_takeBack_59 : decode cX8_takeBack 59 = .ok (.aload_n 0, 1) := by decide +kernel
theorem dX8_takeBack_60 : decode cX8_takeBack 60 = .ok (.iload_n 1, 1) := by decide +kernel
theorem dX8_takeBack_61 : decode cX8_takeBack 61 = .ok (.invokevirtual 81, 3) := by decide +kernel
theorem dX8_takeBack_64 : decode cX8_takeBack 64 = .ok (.invokestatic 84, 3) := by decide +kernel
theorem dX8_takeBack_67 : decode cX8_takeBack 67 = .ok (.ireturn, 1) := by decide +kernel
theorem dX8_make_0 : decode cX8_make 0 = .ok (.aload_n 0, 1) := by decide +kernel
theorem dX8_make_1 : decode cX8_make 1 = .ok (.getfield 23, 3) := by decide +kernel
theorem dX8_make_4 : decode cX8_make 4 = .ok (.iload_n 1, 1) := by decide +kernel
theorem dX8_make_5 : decode cX8_make 5 = .ok (.invokevirtual 96, 3) := by decide +kernel
theorem dX8_make_8 : decode cX8_make 8 = .ok (.ifCond .eq 13, 3) := by decide +kernel
theorem dX8_make_11 : decode cX8_make 11 = .ok (.iload_n 2, 1) := by decide +kernel
theorem dX8_make_12 : decode cX8_make 12 = .ok (.iconst 1, 1) := by decide +kernel
theorem dX8_make_13 : decode cX8_make 13 = .ok (.bipush 99, 2) := by decide +kernel
theorem dX8_make_15 : decode cX8_make 15 = .ok (.invokestatic 33, 3) := by decide +kernel
theorem dX8_make_18 : decode cX8_make 18 = .ok (.ifCond .ne 5, 3) := by decide +kernel
theorem dX8_make_21 : decode cX8_make 21 = .ok (.iconst (-1), 1) := by decide +kernel
theorem dX8_make_22 : decode cX8_make 22 = .ok (.ireturn, 1) := by decide +kernel
theorem dX8_make_23 : decode cX8_make 23 = .ok (.aload_n 0, 1) := by decide +kernel
theorem dX8_make_24 : decode cX8_make 24 = .ok (.iload_n 1, 1) := by decide +kernel
theorem dX8_make_25 : decode cX8_make 25 = .ok (.bipush 99, 2) := by decide +kernel
theorem dX8_make_27 : decode cX8_make 27 = .ok (.aload_n 0, 1) := by decide +kernel
theorem dX8_make_28 : decode cX8_make 28 = .ok (.iload_n 1, 1) := by decide +kernel
theorem dX8_make_29 : decode cX8_make 29 = .ok (.invokevirtual 78, 3) := by decide +kernel
theorem dX8_make_32 : decode cX8_make 32 = .ok (.iload_n 2, 1) := by decide +kernel
theorem dX8_make_33 : decode cX8_make 33 = .ok (.iadd, 1) := by decide +kernel
theorem dX8_make_34 : decode cX8_make 34 = .ok (.invokestatic 103, 3) := by decide +kernel
theorem dX8_make_37 : decode cX8_make 37 = .ok (.invokevirtual 99, 3) := by decide +kernel
theorem dX8_make_40 : decode cX8_make 40 = .ok (.aload_n 0, 1) := by decide +kernel
theorem dX8_make_41 : decode cX8_make 41 = .ok (.iload_n 1, 1) := by decide +kernel
theorem dX8_make_42 : decode cX8_make 42 = .ok (.invokevirtual 78, 3) := by decide +kernel
theorem dX8_make_45 : decode cX8_make 45 = .ok (.ireturn, 1) := by decide +kernel
theorem dX8_spend_0 : decode cX8_spend 0 = .ok (.aload_n 0, 1) := by decide +kernel
theorem dX8_spend_1 : decode cX8_spend 1 = .ok (.getfield 11, 3) := by decide +kernel
theorem dX8_spend_4 : decode cX8_spend 4 = .ok (.bipush 80, 2) := by decide +kernel
theorem dX8_spend_6 : decode cX8_spend 6 = .ok (.iaload, 1) := by decide +kernel
theorem dX8_spend_7 : decode cX8_spend 7 = .ok (.istore_n 3, 1) := by decide +kernel
theorem dX8_spend_8 : decode cX8_spend 8 = .ok (.iconst 0, 1) := by decide +kernel
theorem dX8_spend_9 : decode cX8_spend 9 = .ok (.istore 4, 2) := by decide +kernel
theorem dX8_spend_11 : decode cX8_spend 11 = .ok (.iconst 0, 1) := by decide +kernel
theorem dX8_spend_12 : decode cX8_spend 12 = .ok (.istore 5, 2) := by decide +kernel
theorem dX8_spend_14 : decode cX8_spend 14 = .ok (.iload 5, 2) := by decide +kernel
theorem dX8_spend_16 : decode cX8_spend 16 = .ok (.aload_n 0, 1) := by decide +kernel
theorem dX8_spend_17 : decode cX8_spend 17 = .ok (.getfield 23, 3) := by decide +kernel
theorem dX8_spend_20 : decode cX8_spend 20 = .ok (.invokevirtual 51, 3) := by decide +kernel
theorem dX8_spend_23 : decode cX8_spend 23 = .ok (.if_icmp .ge 85, 3) := by decide +kernel
theorem dX8_spend_26 : decode cX8_spend 26 = .ok (.aload_n 0, 1) := by decide +kernel
theorem dX8_spend_27 : decode cX8_spend 27 = .ok (.getfield 11, 3) := by decide +kernel
theorem dX8_spend_30 : decode cX8_spend 30 = .ok (.bipush 80, 2) := by decide +kernel
theorem dX8_spend_32 : decode cX8_spend 32 = .ok (.iload_n 3, 1) := by decide +kernel
theorem dX8_spend_33 : decode cX8_spend 33 = .ok (.iastore, 1) := by decide +kernel
theorem dX8_spend_34 : decode cX8_spend 34 = .ok (.aload_n 0, 1) := by decide +kernel
theorem dX8_spend_35 : decode cX8_spend 35 = .ok (.iload 5, 2) := by decide +kernel
theorem dX8_spend_37 : decode cX8_spend 37 = .ok (.invokevirtual 89, 3) := by decide +kernel
theorem dX8_spend_40 : decode cX8_spend 40 = .ok (.istore 6, 2) := by decide +kernel
theorem dX8_spend_42 : decode cX8_spend 42 = .ok (.iconst 0, 1) := by decide +kernel
theorem dX8_spend_43 : decode cX8_spend 43 = .ok (.istore 7, 2) := by decide +kernel
theorem dX8_spend_45 : decode cX8_spend 45 = .ok (.iload 7, 2) := by decide +kernel
theorem dX8_spend_47 : decode cX8_spend 47 = .ok (.iload_n 1, 1) := by decide +kernel
theorem dX8_spend_48 : decode cX8_spend 48 = .ok (.if_icmp .ge 54, 3) := by decide +kernel
theorem dX8_spend_51 : decode cX8_spend 51 = .ok (.aload_n 0, 1) := by decide +kernel
theorem dX8_spend_52 : decode cX8_spend 52 = .ok (.iload 5, 2) := by decide +kernel
theorem dX8_spend_54 : decode cX8_spend 54 = .ok (.aload_n 2, 1) := by decide +kernel
theorem dX8_spend_55 : decode cX8_spend 55 = .ok (.invokevirtual 111, 3) := by decide +kernel
theorem dX8_spend_58 : decode cX8_spend 58 = .ok (.aload_n 0, 1) := by decide +kernel
theorem dX8_spend_59 : decode cX8_spend 59 = .ok (.getfield 11, 3) := by decide +kernel
theorem dX8_spend_62 : decode cX8_spend 62 = .ok (.bipush 80, 2) := by decide +kernel
theorem dX8_spend_64 : decode cX8_spend 64 = .ok (.dup2, 1) := by decide +kernel
theorem dX8_spend_65 : decode cX8_spend 65 = .ok (.iaload, 1) := by decide +kernel
theorem dX8_spend_66 : decode cX8_spend 66 = .ok (.iconst 1, 1) := by decide +kernel
theorem dX8_spend_67 : decode cX8_spend 67 = .ok (.iadd, 1) := by decide +kernel
theorem dX8_spend_68 : decode cX8_spend 68 = .ok (.iastore, 1) := by decide +kernel
theorem dX8_spend_69 : decode cX8_spend 69 = .ok (.aload_n 0, 1) := by decide +kernel
theorem dX8_spend_70 : decode cX8_spend 70 = .ok (.iload 5, 2) := by decide +kernel
theorem dX8_spend_72 : decode cX8_spend 72 = .ok (.invokevirtual 89, 3) := by decide +kernel
theorem dX8_spend_75 : decode cX8_spend 75 = .ok (.istore 8, 2) := by decide +kernel
theorem dX8_spend_77 : decode cX8_spend 77 = .ok (.iload 4, 2) := by decide +kernel
theorem dX8_spend_79 : decode cX8_spend 79 = .ok (.iload 8, 2) := by decide +kernel
theorem dX8_spend_81 : decode cX8_spend 81 = .ok (.iload 6, 2) := by decide +kernel
theorem dX8_spend_83 : decode cX8_spend 83 = .ok (.iconst (-1), 1) := by decide +kernel
theorem dX8_spend_84 : decode cX8_spend 84 = .ok (.ixor, 1) := by decide +kernel
theorem dX8_spend_85 : decode cX8_spend 85 = .ok (.iand, 1) := by decide +kernel
theorem dX8_spend_86 : decode cX8_spend 86 = .ok (.invokestatic 84, 3) := by decide +kernel
theorem dX8_spend_89 : decode cX8_spend 89 = .ok (.iadd, 1) := by decide +kernel
theorem dX8_spend_90 : decode cX8_spend 90 = .ok (.istore 4, 2) := by decide +kernel
theorem dX8_spend_92 : decode cX8_spend 92 = .ok (.iload 8, 2) := by decide +kernel
theorem dX8_spend_94 : decode cX8_spend 94 = .ok (.istore 6, 2) := by decide +kernel
theorem dX8_spend_96 : decode cX8_spend 96 = .ok (.iinc 7 1, 3) := by decide +kernel
theorem dX8_spend_99 : decode cX8_spend 99 = .ok (.goto (-54), 3) := by decide +kernel
theorem dX8_spend_102 : decode cX8_spend 102 = .ok (.iinc 5 1, 3) := by decide +kernel
theorem dX8_spend_105 : decode cX8_spend 105 = .ok (.goto (-91), 3) := by decide +kernel
theorem dX8_spend_108 : decode cX8_spend 108 = .ok (.aload_n 0, 1) := by decide +kernel
theorem dX8_spend_109 : decode cX8_spend 109 = .ok (.getfield 11, 3) := by decide +kernel
theorem dX8_spend_112 : decode cX8_spend 112 = .ok (.bipush 80, 2) := by decide +kernel
theorem dX8_spend_114 : decode cX8_spend 114 = .ok (.iload_n 3, 1) := by decide +kernel
theorem dX8_spend_115 : decode cX8_spend 115 = .ok (.iload_n 1, 1) := by decide +kernel
theorem dX8_spend_116 : decode cX8_spend 116 = .ok (.iadd, 1) := by decide +kernel
theorem dX8_spend_117 : decode cX8_spend 117 = .ok (.iastore, 1) := by decide +kernel
theorem dX8_spend_118 : decode cX8_spend 118 = .ok (.iload 4, 2) := by decide +kernel
theorem dX8_spend_120 : decode cX8_spend 120 = .ok (.ireturn, 1) := by decide +kernel
theorem dX8_passAll_0 : decode cX8_passAll 0 = .ok (.aload_n 0, 1) := by decide +kernel
theorem dX8_passAll_1 : decode cX8_passAll 1 = .ok (.getfield 11, 3) := by decide +kernel
theorem dX8_passAll_4 : decode cX8_passAll 4 = .ok (.bipush 80, 2) := by decide +kernel
theorem dX8_passAll_6 : decode cX8_passAll 6 = .ok (.iaload, 1) := by decide +kernel
theorem dX8_passAll_7 : decode cX8_passAll 7 = .ok (.istore_n 3, 1) := by decide +kernel
theorem dX8_passAll_8 : decode cX8_passAll 8 = .ok (.iconst 0, 1) := by decide +kernel
theorem dX8_passAll_9 : decode cX8_passAll 9 = .ok (.istore 4, 2) := by decide +kernel
theorem dX8_passAll_11 : decode cX8_passAll 11 = .ok (.iload 4, 2) := by decide +kernel
theorem dX8_passAll_13 : decode cX8_passAll 13 = .ok (.aload_n 0, 1) := by decide +kernel
theorem dX8_passAll_14 : decode cX8_passAll 14 = .ok (.getfield 23, 3) := by decide +kernel
theorem dX8_passAll_17 : decode cX8_passAll 17 = .ok (.invokevirtual 51, 3) := by decide +kernel
theorem dX8_passAll_20 : decode cX8_passAll 20 = .ok (.if_icmp .ge 25, 3) := by decide +kernel
theorem dX8_passAll_23 : decode cX8_passAll 23 = .ok (.aload_n 0, 1) := by decide +kernel
theorem dX8_passAll_24 : decode cX8_passAll 24 = .ok (.getfield 11, 3) := by decide +kernel
theorem dX8_passAll_27 : decode cX8_passAll 27 = .ok (.bipush 80, 2) := by decide +kernel
theorem dX8_passAll_29 : decode cX8_passAll 29 = .ok (.iload_n 3, 1) := by decide +kernel
theorem dX8_passAll_30 : decode cX8_passAll 30 = .ok (.iastore, 1) := by decide +kernel
theorem dX8_passAll_31 : decode cX8_passAll 31 = .ok (.aload_n 0, 1) := by decide +kernel
theorem dX8_passAll_32 : decode cX8_passAll 32 = .ok (.iload 4, 2) := by decide +kernel
theorem dX8_passAll_34 : decode cX8_passAll 34 = .ok (.iload_n 1, 1) := by decide +kernel
theorem dX8_passAll_35 : decode cX8_passAll 35 = .ok (.aload_n 2, 1) := by decide +kernel
theorem dX8_passAll_36 : decode cX8_passAll 36 = .ok (.invokevirtual 115, 3) := by decide +kernel
theorem dX8_passAll_39 : decode cX8_passAll 39 = .ok (.iinc 4 1, 3) := by decide +kernel
theorem dX8_passAll_42 : decode cX8_passAll 42 = .ok (.goto (-31), 3) := by decide +kernel
theorem dX8_passAll_45 : decode cX8_passAll 45 = .ok (.aload_n 0, 1) := by decide +kernel
theorem dX8_passAll_46 : decode cX8_passAll 46 = .ok (.getfield 11, 3) := by decide +kernel
theorem dX8_passAll_49 : decode cX8_passAll 49 = .ok (.bipush 80, 2) := by decide +kernel
theorem dX8_passAll_51 : decode cX8_passAll 51 = .ok (.iload_n 3, 1) := by decide +kernel
theorem dX8_passAll_52 : decode cX8_passAll 52 = .ok (.iload_n 1, 1) := by decide +kernel
theorem dX8_passAll_53 : decode cX8_passAll 53 = .ok (.iadd, 1) := by decide +kernel
theorem dX8_passAll_54 : decode cX8_passAll 54 = .ok (.iastore, 1) := by decide +kernel
theorem dX8_passAll_55 : decode cX8_passAll 55 = .ok (.return_, 1) := by decide +kernel
theorem dX8_pass_0 : decode cX8_pass 0 = .ok (.iconst 0, 1) := by decide +kernel
theorem dX8_pass_1 : decode cX8_pass 1 = .ok (.istore 4, 2) := by decide +kernel
theorem dX8_pass_3 : decode cX8_pass 3 = .ok (.iload 4, 2) := by decide +kernel
theorem dX8_pass_5 : decode cX8_pass 5 = .ok (.iload_n 2, 1) := by decide +kernel
theorem dX8_pass_6 : decode cX8_pass 6 = .ok (.if_icmp .ge 26, 3) := by decide +kernel
theorem dX8_pass_9 : decode cX8_pass 9 = .ok (.aload_n 0, 1) := by decide +kernel
theorem dX8_pass_10 : decode cX8_pass 10 = .ok (.iload_n 1, 1) := by decide +kernel
theorem dX8_pass_11 : decode cX8_pass 11 = .ok (.aload_n 3, 1) := by decide +kernel
theorem dX8_pass_12 : decode cX8_pass 12 = .ok (.invokevirtual 111, 3) := by decide +kernel
theorem dX8_pass_15 : decode cX8_pass 15 = .ok (.aload_n 0, 1) := by decide +kernel
theorem dX8_pass_16 : decode cX8_pass 16 = .ok (.getfield 11, 3) := by decide +kernel
theorem dX8_pass_19 : decode cX8_pass 19 = .ok (.bipush 80, 2) := by decide +kernel
theorem dX8_pass_21 : decode cX8_pass 21 = .ok (.dup2, 1) := by decide +kernel
theorem dX8_pass_22 : decode cX8_pass 22 = .ok (.iaload, 1) := by decide +kernel
theorem dX8_pass_23 : decode cX8_pass 23 = .ok (.iconst 1, 1) := by decide +kernel
theorem dX8_pass_24 : decode cX8_pass 24 = .ok (.iadd, 1) := by decide +kernel
theorem dX8_pass_25 : decode cX8_pass 25 = .ok (.iastore, 1) := by decide +kernel
theorem dX8_pass_26 : decode cX8_pass 26 = .ok (.iinc 4 1, 3) := by decide +kernel
theorem dX8_pass_29 : decode cX8_pass 29 = .ok (.goto (-26), 3) := by decide +kernel
theorem dX8_pass_32 : decode cX8_pass 32 = .ok (.return_, 1) := by decide +kernel
theorem dX8_live_0 : decode cX8_live 0 = .ok (.aload_n 0, 1) := by decide +kernel
theorem dX8_live_1 : decode cX8_live 1 = .ok (.iload_n 1, 1) := by decide +kernel
theorem dX8_live_2 : decode cX8_live 2 = .ok (.invokevirtual 81, 3) := by decide +kernel
theorem dX8_live_5 : decode cX8_live 5 = .ok (.istore_n 3, 1) := by decide +kernel
theorem dX8_live_6 : decode cX8_live 6 = .ok (.iload_n 3, 1) := by decide +kernel
theorem dX8_live_7 : decode cX8_live 7 = .ok (.ifCond .ne 4, 3) := by decide +kernel
theorem dX8_live_10 : decode cX8_live 10 = .ok (.return_, 1) := by decide +kernel
theorem dX8_live_11 : decode cX8_live 11 = .ok (.aload_n 0, 1) := by decide +kernel
theorem dX8_live_12 : decode cX8_live 12 = .ok (.getfield 17, 3) := by decide +kernel
theorem dX8_live_15 : decode cX8_live 15 = .ok (.iconst 3, 1) := by decide +kernel
theorem dX8_live_16 : decode cX8_live 16 = .ok (.iload_n 3, 1) := by decide +kernel
theorem dX8_live_17 : decode cX8_live 17 = .ok (.invokestatic 84, 3) := by decide +kernel
theorem dX8_live_20 : decode cX8_live 20 = .ok (.iastore, 1) := by decide +kernel
theorem dX8_live_21 : decode cX8_live 21 = .ok (.aload_n 0, 1) := by decide +kernel
theorem dX8_live_22 : decode cX8_live 22 = .ok (.getfield 17, 3) := by decide +kernel
theorem dX8_live_25 : decode cX8_live 25 = .ok (.iconst 5, 1) := by decide +kernel
theorem dX8_live_26 : decode cX8_live 26 = .ok (.aload_n 0, 1) := by decide +kernel
theorem dX8_live_27 : decode cX8_live 27 = .ok (.getfield 23, 3) := by decide +kernel
theorem dX8_live_30 : decode cX8_live 30 = .ok (.iload_n 1, 1) := by decide +kernel
theorem dX8_live_31 : decode cX8_live 31 = .ok (.invokevirtual 119, 3) := by decide +kernel
theorem dX8_live_34 : decode cX8_live 34 = .ok (.iastore, 1) := by decide +kernel
theorem dX8_live_35 : decode cX8_live 35 = .ok (.aload_n 0, 1) := by decide +kernel
theorem dX8_live_36 : decode cX8_live 36 = .ok (.getfield 17, 3) := by decide +kernel
theorem dX8_live_39 : decode cX8_live 39 = .ok (.bipush 6, 2) := by decide +kernel
theorem dX8_live_41 : decode cX8_live 41 = .ok (.aload_n 0, 1) := by decide +kernel
theorem dX8_live_42 : decode cX8_live 42 = .ok (.getfield 11, 3) := by decide +kernel
theorem dX8_live_45 : decode cX8_live 45 = .ok (.bipush 80, 2) := by decide +kernel
theorem dX8_live_47 : decode cX8_live 47 = .ok (.iaload, 1) := by decide +kernel
theorem dX8_live_48 : decode cX8_live 48 = .ok (.bipush 7, 2) := by decide +kernel
theorem dX8_live_50 : decode cX8_live 50 = .ok (.irem, 1) := by decide +kernel
theorem dX8_live_51 : decode cX8_live 51 = .ok (.iastore, 1) := by decide +kernel
theorem dX8_live_52 : decode cX8_live 52 = .ok (.aload_n 0, 1) := by decide +kernel
theorem dX8_live_53 : decode cX8_live 53 = .ok (.getfield 20, 3) := by decide +kernel
theorem dX8_live_56 : decode cX8_live 56 = .ok (.iconst 0, 1) := by decide +kernel
theorem dX8_live_57 : decode cX8_live 57 = .ok (.invokestatic 122, 3) := by decide +kernel
theorem dX8_live_60 : decode cX8_live 60 = .ok (.iconst 0, 1) := by decide +kernel
theorem dX8_live_61 : decode cX8_live 61 = .ok (.istore 4, 2) := by decide +kernel
theorem dX8_live_63 : decode cX8_live 63 = .ok (.iload 4, 2) := by decide +kernel
theorem dX8_live_65 : decode cX8_live 65 = .ok (.aload_n 0, 1) := by decide +kernel
theorem dX8_live_66 : decode cX8_live 66 = .ok (.getfield 23, 3) := by decide +kernel
theorem dX8_live_69 : decode cX8_live 69 = .ok (.invokevirtual 45, 3) := by decide +kernel
theorem dX8_live_72 : decode cX8_live 72 = .ok (.if_icmp .ge 47, 3) := by decide +kernel
theorem dX8_live_75 : decode cX8_live 75 = .ok (.iload 4, 2) := by decide +kernel
theorem dX8_live_77 : decode cX8_live 77 = .ok (.iload_n 3, 1) := by decide +kernel
theorem dX8_live_78 : decode cX8_live 78 = .ok (.invokestatic 128, 3) := by decide +kernel
theorem dX8_live_81 : decode cX8_live 81 = .ok (.ifCond .eq 32, 3) := by decide +kernel
theorem dX8_live_84 : decode cX8_live 84 = .ok (.aload_n 0, 1) := by decide +kernel
theorem dX8_live_85 : decode cX8_live 85 = .ok (.iload_n 1, 1) := by decide +kernel
theorem dX8_live_86 : decode cX8_live 86 = .ok (.iload 4, 2) := by decide +kernel
theorem dX8_live_88 : decode cX8_live 88 = .ok (.aload_n 2, 1) := by decide +kernel
theorem dX8_live_89 : decode cX8_live 89 = .ok (.invokevirtual 131, 3) := by decide +kernel
theorem dX8_live_92 : decode cX8_live 92 = .ok (.aload_n 0, 1) := by decide +kernel
theorem dX8_live_93 : decode cX8_live 93 = .ok (.iload_n 1, 1) := by decide +kernel
theorem dX8_live_94 : decode cX8_live 94 = .ok (.iload 4, 2) := by decide +kernel
theorem dX8_live_96 : decode cX8_live 96 = .ok (.bipush 99, 2) := by decide +kernel
theorem dX8_live_98 : decode cX8_live 98 = .ok (.aload_n 0, 1) := by decide +kernel
theorem dX8_live_99 : decode cX8_live 99 = .ok (.iload_n 1, 1) := by decide +kernel
theorem dX8_live_100 : decode cX8_live 100 = .ok (.iload 4, 2) := by decide +kernel
theorem dX8_live_102 : decode cX8_live 102 = .ok (.invokevirtual 37, 3) := by decide +kernel
theorem dX8_live_105 : decode cX8_live 105 = .ok (.iconst 1, 1) := by decide +kernel
theorem dX8_live_106 : decode cX8_live 106 = .ok (.iadd, 1) := by decide +kernel
theorem dX8_live_107 : decode cX8_live 107 = .ok (.invokestatic 103, 3) := by decide +kernel
theorem dX8_live_110 : decode cX8_live 110 = .ok (.invokevirtual 41, 3) := by decide +kernel
theorem dX8_live_113 : decode cX8_live 113 = .ok (.iinc 4 1, 3) := by decide +kernel
theorem dX8_live_116 : decode cX8_live 116 = .ok (.goto (-53), 3) := by decide +kernel
theorem dX8_live_119 : decode cX8_live 119 = .ok (.iconst 0, 1) := by decide +kernel
theorem dX8_live_120 : decode cX8_live 120 = .ok (.istore 4, 2) := by decide +kernel
theorem dX8_live_122 : decode cX8_live 122 = .ok (.iload 4, 2) := by decide +kernel
theorem dX8_live_124 : decode cX8_live 124 = .ok (.iconst 4, 1) := by decide +kernel
theorem dX8_live_125 : decode cX8_live 125 = .ok (.if_icmp .ge 37, 3) := by decide +kernel
theorem dX8_live_128 : decode cX8_live 128 = .ok (.aload_n 0, 1) := by decide +kernel
theorem dX8_live_129 : decode cX8_live 129 = .ok (.iload_n 1, 1) := by decide +kernel
theorem dX8_live_130 : decode cX8_live 130 = .ok (.iload 4, 2) := by decide +kernel
theorem dX8_live_132 : decode cX8_live 132 = .ok (.aload_n 0, 1) := by decide +kernel
theorem dX8_live_133 : decode cX8_live 133 = .ok (.iload_n 1, 1) := by decide +kernel
theorem dX8_live_134 : decode cX8_live 134 = .ok (.iload 4, 2) := by decide +kernel
theorem dX8_live_136 : decode cX8_live 136 = .ok (.invokevirtual 71, 3) := by decide +kernel
theorem dX8_live_139 : decode cX8_live 139 = .ok (.aload_n 0, 1) := by decide +kernel
theorem dX8_live_140 : decode cX8_live 140 = .ok (.getfield 20, 3) := by decide +kernel
theorem dX8_live_143 : decode cX8_live 143 = .ok (.iload 4, 2) := by decide +kernel
theorem dX8_live_145 : decode cX8_live 145 = .ok (.iaload, 1) := by decide +kernel
theorem dX8_live_146 : decode cX8_live 146 = .ok (.iadd, 1) := by decide +kernel
theorem dX8_live_147 : decode cX8_live 147 = .ok (.iconst 0, 1) := by decide +kernel
theorem dX8_live_148 : decode cX8_live 148 = .ok (.bipush 9, 2) := by decide +kernel
theorem dX8_live_150 : decode cX8_live 150 = .ok (.invokestatic 134, 3) := by decide +kernel
theorem dX8_live_153 : decode cX8_live 153 = .ok (.invokevirtual 137, 3) := by decide +kernel
theorem dX8_live_156 : decode cX8_live 156 = .ok (.iinc 4 1, 3) := by decide +kernel
theorem dX8_live_159 : decode cX8_live 159 = .ok (.goto (-37), 3) := by decide +kernel
theorem dX8_live_162 : decode cX8_live 162 = .ok (.return_, 1) := by decide +kernel
theorem dX8_pushBy_0 : decode cX8_pushBy 0 = .ok (.aload_n 0, 1) := by decide +kernel
theorem dX8_pushBy_1 : decode cX8_pushBy 1 = .ok (.getfield 17, 3) := by decide +kernel
theorem dX8_pushBy_4 : decode cX8_pushBy 4 = .ok (.iconst 2, 1) := by decide +kernel
theorem dX8_pushBy_5 : decode cX8_pushBy 5 = .ok (.aload_n 0, 1) := by decide +kernel
theorem dX8_pushBy_6 : decode cX8_pushBy 6 = .ok (.getfield 23, 3) := by decide +kernel
theorem dX8_pushBy_9 : decode cX8_pushBy 9 = .ok (.iload_n 2, 1) := by decide +kernel
theorem dX8_pushBy_10 : decode cX8_pushBy 10 = .ok (.invokevirtual 140, 3) := by decide +kernel
theorem dX8_pushBy_13 : decode cX8_pushBy 13 = .ok (.iastore, 1) := by decide +kernel
theorem dX8_pushBy_14 : decode cX8_pushBy 14 = .ok (.aload_n 0, 1) := by decide +kernel
theorem dX8_pushBy_15 : decode cX8_pushBy 15 = .ok (.getfield 17, 3) := by decide +kernel
theorem dX8_pushBy_18 : decode cX8_pushBy 18 = .ok (.iconst 4, 1) := by decide +kernel
theorem dX8_pushBy_19 : decode cX8_pushBy 19 = .ok (.aload_n 0, 1) := by decide +kernel
theorem dX8_pushBy_20 : decode cX8_pushBy 20 = .ok (.iload_n 1, 1) := by decide +kernel
theorem dX8_pushBy_21 : decode cX8_pushBy 21 = .ok (.iload_n 2, 1) := by decide +kernel
theorem dX8_pushBy_22 : decode cX8_pushBy 22 = .ok (.invokevirtual 37, 3) := by decide +kernel
theorem dX8_pushBy_25 : decode cX8_pushBy 25 = .ok (.iastore, 1) := by decide +kernel
theorem dX8_pushBy_26 : decode cX8_pushBy 26 = .ok (.iconst 0, 1) := by decide +kernel
theorem dX8_pushBy_27 : decode cX8_pushBy 27 = .ok (.istore 4, 2) := by decide +kernel
theorem dX8_pushBy_29 : decode cX8_pushBy 29 = .ok (.iload 4, 2) := by decide +kernel
theorem dX8_pushBy_31 : decode cX8_pushBy 31 = .ok (.iconst 4, 1) := by decide +kernel
theorem dX8_pushBy_32 : decode cX8_pushBy 32 = .ok (.if_icmp .ge 66, 3) := by decide +kernel
theorem dX8_pushBy_35 : decode cX8_pushBy 35 = .ok (.aload_n 0, 1) := by decide +kernel
theorem dX8_pushBy_36 : decode cX8_pushBy 36 = .ok (.getfield 23, 3) := by decide +kernel
theorem dX8_pushBy_39 : decode cX8_pushBy 39 = .ok (.iload_n 2, 1) := by decide +kernel
theorem dX8_pushBy_40 : decode cX8_pushBy 40 = .ok (.iload 4, 2) := by decide +kernel
theorem dX8_pushBy_42 : decode cX8_pushBy 42 = .ok (.invokevirtual 143, 3) := by decide +kernel
theorem dX8_pushBy_45 : decode cX8_pushBy 45 = .ok (.istore 5, 2) := by decide +kernel
theorem dX8_pushBy_47 : decode cX8_pushBy 47 = .ok (.iload 5, 2) := by decide +kernel
theorem dX8_pushBy_49 : decode cX8_pushBy 49 = .ok (.iconst (-1), 1) := by decide +kernel
theorem dX8_pushBy_50 : decode cX8_pushBy 50 = .ok (.if_icmp .eq 42, 3) := by decide +kernel
theorem dX8_pushBy_53 : decode cX8_pushBy 53 = .ok (.aload_n 0, 1) := by decide +kernel
theorem dX8_pushBy_54 : decode cX8_pushBy 54 = .ok (.getfield 17, 3) := by decide +kernel
theorem dX8_pushBy_57 : decode cX8_pushBy 57 = .ok (.iconst 1, 1) := by decide +kernel
theorem dX8_pushBy_58 : decode cX8_pushBy 58 = .ok (.iload 5, 2) := by decide +kernel
theorem dX8_pushBy_60 : decode cX8_pushBy 60 = .ok (.iastore, 1) := by decide +kernel
theorem dX8_pushBy_61 : decode cX8_pushBy 61 = .ok (.aload_n 0, 1) := by decide +kernel
theorem dX8_pushBy_62 : decode cX8_pushBy 62 = .ok (.getfield 17, 3) := by decide +kernel
theorem dX8_pushBy_65 : decode cX8_pushBy 65 = .ok (.iconst 0, 1) := by decide +kernel
theorem dX8_pushBy_66 : decode cX8_pushBy 66 = .ok (.aload_n 0, 1) := by decide +kernel
theorem dX8_pushBy_67 : decode cX8_pushBy 67 = .ok (.iload_n 1, 1) := by decide +kernel
theorem dX8_pushBy_68 : decode cX8_pushBy 68 = .ok (.iload 4, 2) := by decide +kernel
theorem dX8_pushBy_70 : decode cX8_pushBy 70 = .ok (.invokevirtual 71, 3) := by decide +kernel
theorem dX8_pushBy_73 : decode cX8_pushBy 73 = .ok (.iastore, 1) := by decide +kernel
theorem dX8_pushBy_74 : decode cX8_pushBy 74 = .ok (.aload_n 0, 1) := by decide +kernel
theorem dX8_pushBy_75 : decode cX8_pushBy 75 = .ok (.getfield 20, 3) := by decide +kernel
theorem dX8_pushBy_78 : decode cX8_pushBy 78 = .ok (.iload 4, 2) := by decide +kernel
theorem dX8_pushBy_80 : decode cX8_pushBy 80 = .ok (.dup2, 1) := by decide +kernel
theorem dX8_pushBy_81 : decode cX8_pushBy 81 = .ok (.iaload, 1) := by decide +kernel
theorem dX8_pushBy_82 : decode cX8_pushBy 82 = .ok (.aload_n 3, 1) := by decide +kernel
theorem dX8_pushBy_83 : decode cX8_pushBy 83 = .ok (.aload_n 0, 1) := by decide +kernel
theorem dX8_pushBy_84 : decode cX8_pushBy 84 = .ok (.getfield 17, 3) := by decide +kernel
theorem dX8_pushBy_87 : decode cX8_pushBy 87 = .ok (.invokevirtual 146, 3) := by decide +kernel
theorem dX8_pushBy_90 : decode cX8_pushBy 90 = .ok (.iadd, 1) := by decide +kernel
theorem dX8_pushBy_91 : decode cX8_pushBy 91 = .ok (.iastore, 1) := by decide +kernel
theorem dX8_pushBy_92 : decode cX8_pushBy 92 = .ok (.iinc 4 1, 3) := by decide +kernel
theorem dX8_pushBy_95 : decode cX8_pushBy 95 = .ok (.goto (-66), 3) := by decide +kernel
theorem dX8_pushBy_98 : decode cX8_pushBy 98 = .ok (.return_, 1) := by decide +kernel
theorem dX9_init_0 : decode cX9_init 0 = .ok (.aload_n 0, 1) := by decide +kernel
theorem dX9_init_1 : decode cX9_init 1 = .ok (.bipush 59, 2) := by decide +kernel
theorem dX9_init_3 : decode cX9_init 3 = .ok (.invokespecial 3, 3) := by decide +kernel
theorem dX9_init_6 : decode cX9_init 6 = .ok (.return_, 1) := by decide +kernel
theorem dX9_begin_0 : decode cX9_begin 0 = .ok (.aload_n 0, 1) := by decide +kernel
theorem dX9_begin_1 : decode cX9_begin 1 = .ok (.iload_n 1, 1) := by decide +kernel
theorem dX9_begin_2 : decode cX9_begin 2 = .ok (.putfield 9, 3) := by decide +kernel
theorem dX9_begin_5 : decode cX9_begin 5 = .ok (.aload_n 0, 1) := by decide +kernel
theorem dX9_begin_6 : decode cX9_begin 6 = .ok (.iconst 0, 1) := by decide +kernel
theorem dX9_begin_7 : decode cX9_begin 7 = .ok (.putfield 15, 3) := by decide +kernel
theorem dX9_begin_10 : decode cX9_begin 10 = .ok (.aload_n 0, 1) := by decide +kernel
theorem dX9_begin_11 : decode cX9_begin 11 = .ok (.iconst 0, 1) := by decide +kernel
theorem dX9_begin_12 : decode cX9_begin 12 = .ok (.putfield 18, 3) := by decide +kernel
theorem dX9_begin_15 : decode cX9_begin 15 = .ok (.aload_n 0, 1) := by decide +kernel
theorem dX9_begin_16 : decode cX9_begin 16 = .ok (.iconst 0, 1) := by decide +kernel
theorem dX9_begin_17 : decode cX9_begin 17 = .ok (.putfield 21, 3) := by decide +kernel
theorem dX9_begin_20 : decode cX9_begin 20 = .ok (.return_, 1) := by decide +kernel
theorem dX9_takes_0 : decode cX9_takes 0 = .ok (.aload_n 0, 1) := by decide +kernel
theorem dX9_takes_1 : decode cX9_takes 1 = .ok (.getfield 21, 3) := by decide +kernel
theorem dX9_takes_4 : decode cX9_takes 4 = .ok (.ifCond .ne 9, 3) := by decide +kernel
theorem dX9_takes_7 : decode cX9_takes 7 = .ok (.aload_n 0, 1) := by decide +kernel
theorem dX9_takes_8 : decode cX9_takes 8 = .ok (.iload_n 1, 1) := by decide +kernel
theorem dX9_takes_9 : decode cX9_takes 9 = .ok (.invokevirtual 24, 3) := by decide +kernel
theorem dX9_takes_12 : decode cX9_takes 12 = .ok (.ireturn, 1) := by decide +kernel
theorem dX9_takes_13 : decode cX9_takes 13 = .ok (.aload_n 0, 1) := by decide +kernel
theorem dX9_takes_14 : decode cX9_takes 14 = .ok (.getfield 21, 3) := by decide +kernel
theorem dX9_takes_17 : decode cX9_takes 17 = .ok (.iconst 1, 1) := by decide +kernel
theorem dX9_takes_18 : decode cX9_takes 18 = .ok (.if_icmp .ne 26, 3) := by decide +kernel
theorem dX9_takes_21 : decode cX9_takes 21 = .ok (.aload_n 0, 1) := by decide +kernel
theorem dX9_takes_22 : decode cX9_takes 22 = .ok (.iconst 2, 1) := by decide +kernel
theorem dX9_takes_23 : decode cX9_takes 23 = .ok (.putfield 21, 3) := by decide +kernel
theorem dX9_takes_26 : decode cX9_takes 26 = .ok (.iload_n 1, 1) := by decide +kernel
theorem dX9_takes_27 : decode cX9_takes 27 = .ok (.bipush 60, 2) := by decide +kernel
theorem dX9_takes_29 : decode cX9_takes 29 = .ok (.if_icmp .eq 9, 3) := by decide +kernel
theorem dX9_takes_32 : decode cX9_takes 32 = .ok (.iload_n 1, 1) := by decide +kernel
theorem dX9_takes_33 : decode cX9_takes 33 = .ok (.bipush 62, 2) := by decide +kernel
theorem dX9_takes_35 : decode cX9_takes 35 = .ok (.if_icmp .ne 7, 3) := by decide +kernel
theorem dX9_takes_38 : decode cX9_takes 38 = .ok (.iconst 1, 1) := by decide +kernel
theorem dX9_takes_39 : decode cX9_takes 39 = .ok (.goto 4, 3) := by decide +kernel
theorem dX9_takes_42 : decode cX9_takes 42 = .ok (.iconst 0, 1) := by decide +kernel
theorem dX9_takes_43 : decode cX9_takes 43 = .ok (.ireturn, 1) := by decide +kernel
theorem dX9_takes_44 : decode cX9_takes 44 = .ok (.aload_n 0, 1) := by decide +kernel
theorem dX9_takes_45 : decode cX9_takes 45 = .ok (.iconst 0, 1) := by decide +kernel
theorem dX9_takes_46 : decode cX9_takes 46 = .ok (.putfield 21, 3) := by decide +kernel
theorem dX9_takes_49 : decode cX9_takes 49 = .ok (.iload_n 1, 1) := by decide +kernel
theorem dX9_takes_50 : decode cX9_takes 50 = .ok (.invokestatic 28, 3) := by decide +kernel
theorem dX9_takes_53 : decode cX9_takes 53 = .ok (.ireturn, 1) := by decide +kernel
theorem dX9_takesFirst_0 : decode cX9_takesFirst 0 = .ok (.aload_n 0, 1) := by decide +kernel
theorem dX9_takesFirst_1 : decode cX9_takesFirst 1 = .ok (.getfield 18, 3) := by decide +kernel
theorem dX9_takesFirst_4 : decode cX9_takesFirst 4 = .ok (.ifCond .le 16, 3) := by decide +kernel
theorem dX9_takesFirst_7 : decode cX9_takesFirst 7 = .ok (.iload_n 1, 1) := by decide +kernel
theorem dX9_takesFirst_8 : decode cX9_takesFirst 8 = .ok (.bipush 59, 2) := by decide +kernel
theorem dX9_takesFirst_10 : decode cX9_takesFirst 10 = .ok (.if_icmp .ne 10, 3) := by decide +kernel
theorem dX9_takesFirst_13 : decode cX9_takesFirst 13 = .ok (.aload_n 0, 1) := by decide +kernel
theorem dX9_takesFirst_14 : decode cX9_takesFirst 14 = .ok (.iconst 0, 1) := by decide +kernel
theorem dX9_takesFirst_15 : decode cX9_takesFirst 15 = .ok (.putfield 18, 3) := by decide +kernel
theorem dX9_takesFirst_18 : decode cX9_takesFirst 18 = .ok (.iconst 1, 1) := by decide +kernel
theorem dX9_takesFirst_19 : decode cX9_takesFirst 19 = .ok (.ireturn, 1) := by decide +kernel
theorem dX9_takesFirst_20 : decode cX9_takesFirst 20 = .ok (.aload_n 0, 1) := by decide +kernel
theorem dX9_takesFirst_21 : decode cX9_takesFirst 21 = .ok (.dup, 1) := by decide +kernel
theorem dX9_takesFirst_22 : decode cX9_takesFirst 22 = .ok (.getfield 15, 3) := by decide +kernel
theorem dX9_takesFirst_25 : decode cX9_takesFirst 25 = .ok (.aload_n 0, 1) := by decide +kernel
theorem dX9_takesFirst_26 : decode cX9_takesFirst 26 = .ok (.getfield 18, 3) := by decide +kernel
theorem dX9_takesFirst_29 : decode cX9_takesFirst 29 = .ok (.ifCond .ne 7, 3) := by decide +kernel
theorem dX9_takesFirst_32 : decode cX9_takesFirst 32 = .ok (.iconst 1, 1) := by decide +kernel
theorem dX9_takesFirst_33 : decode cX9_takesFirst 33 = .ok (.goto 4, 3) := by decide +kernel
theorem dX9_takesFirst_36 : decode cX9_takesFirst 36 = .ok (.iconst 0, 1) := by decide +kernel
theorem dX9_takesFirst_37 : decode cX9_takesFirst 37 = .ok (.iadd, 1) := by decide +kernel
theorem dX9_takesFirst_38 : decode cX9_takesFirst 38 = .ok (.putfield 15, 3) := by decide +kernel
theorem dX9_takesFirst_41 : decode cX9_takesFirst 41 = .ok (.aload_n 0, 1) := by decide +kernel
theorem dX9_takesFirst_42 : decode cX9_takesFirst 42 = .ok (.dup, 1) := by decide +kernel
theorem dX9_takesFirst_43 : decode cX9_takesFirst 43 = .ok (.getfield 18, 3) := by decide +kernel
theorem dX9_takesFirst_46 : decode cX9_takesFirst 46 = .ok (.iconst 1, 1) := by decide +kernel
theorem dX9_takesFirst_47 : decode cX9_takesFirst 47 = .ok (.iadd, 1) := by decide +kernel
theorem dX9_takesFirst_48 : decode cX9_takesFirst 48 = .ok (.putfield 18, 3) := by decide +kernel
theorem dX9_takesFirst_51 : decode cX9_takesFirst 51 = .ok (.aload_n 0, 1) := by decide +kernel
theorem dX9_takesFirst_52 : decode cX9_takesFirst 52 = .ok (.iconst 1, 1) := by decide +kernel
theorem dX9_takesFirst_53 : decode cX9_takesFirst 53 = .ok (.putfield 21, 3) := by decide +kernel
theorem dX9_takesFirst_56 : decode cX9_takesFirst 56 = .ok (.aload_n 0, 1) := by decide +kernel
theorem dX9_takesFirst_57 : decode cX9_takesFirst 57 = .ok (.getfield 15, 3) := by decide +kernel
theorem dX9_takesFirst_60 : decode cX9_takesFirst 60 = .ok (.aload_n 0, 1) := by decide +kernel
theorem dX9_takesFirst_61 : decode cX9_takesFirst 61 = .ok (.getfield 9, 3) := by decide +kernel
theorem dX9_takesFirst_64 : decode cX9_takesFirst 64 = .ok (.if_icmp .gt 26, 3) := by decide +kernel
theorem dX9_takesFirst_67 : decode cX9_takesFirst 67 = .ok (.aload_n 0, 1) := by decide +kernel
theorem dX9_takesFirst_68 : decode cX9_takesFirst 68 = .ok (.getfield 18, 3) := by decide +kernel
theorem dX9_takesFirst_71 : decode cX9_takesFirst 71 = .ok (.iconst 3, 1) := by decide +kernel
theorem dX9_takesFirst_72 : decode cX9_takesFirst 72 = .ok (.if_icmp .gt 18, 3) := by decide +kernel
theorem dX9_takesFirst_75 : decode cX9_takesFirst 75 = .ok (.iload_n 1, 1) := by decide +kernel
theorem dX9_takesFirst_76 : decode cX9_takesFirst 76 = .ok (.bipush 97, 2) := by decide +kernel
theorem dX9_takesFirst_78 : decode cX9_takesFirst 78 = .ok (.bipush 100, 2) := by decide +kernel
theorem dX9_takesFirst_80 : decode cX9_takesFirst 80 = .ok (.invokestatic 31, 3) := by decide +kernel
theorem dX9_takesFirst_83 : decode cX9_takesFirst 83 = .ok (.ifCond .eq 7, 3) := by decide +kernel
theorem dX9_takesFirst_86 : decode cX9_takesFirst 86 = .ok (.iconst 1, 1) := by decide +kernel
theorem dX9_takesFirst_87 : decode cX9_takesFirst 87 = .ok (.goto 4, 3) := by decide +kernel
theorem dX9_takesFirst_90 : decode cX9_takesFirst 90 = .ok (.iconst 0, 1) := by decide +kernel
theorem dX9_takesFirst_91 : decode cX9_takesFirst 91 = .ok (.ireturn, 1) := by decide +kernel
theorem dX9_mayEnd_0 : decode cX9_mayEnd 0 = .ok (.aload_n 0, 1) := by decide +kernel
theorem dX9_mayEnd_1 : decode cX9_mayEnd 1 = .ok (.getfield 21, 3) := by decide +kernel
theorem dX9_mayEnd_4 : decode cX9_mayEnd 4 = .ok (.ifCond .ne 14, 3) := by decide +kernel
theorem dX9_mayEnd_7 : decode cX9_mayEnd 7 = .ok (.aload_n 0, 1) := by decide +kernel
theorem dX9_mayEnd_8 : decode cX9_mayEnd 8 = .ok (.getfield 18, 3) := by decide +kernel
theorem dX9_mayEnd_11 : decode cX9_mayEnd 11 = .ok (.ifCond .le 7, 3) := by decide +kernel
theorem dX9_mayEnd_14 : decode cX9_mayEnd 14 = .ok (.iconst 1, 1) := by decide +kernel
theorem dX9_mayEnd_15 : decode cX9_mayEnd 15 = .ok (.goto 4, 3) := by decide +kernel
theorem dX9_mayEnd_18 : decode cX9_mayEnd 18 = .ok (.iconst 0, 1) := by decide +kernel
theorem dX9_mayEnd_19 : decode cX9_mayEnd 19 = .ok (.ireturn, 1) := by decide +kernel
theorem dX9_lines_0 : decode cX9_lines 0 = .ok (.aload_n 0, 1) := by decide +kernel
theorem dX9_lines_1 : decode cX9_lines 1 = .ok (.getfield 15, 3) := by decide +kernel
theorem dX9_lines_4 : decode cX9_lines 4 = .ok (.ireturn, 1) := by decide +kernel
theorem dX10_init_0 : decode cX10_init 0 = .ok (.aload_n 0, 1) := by decide +kernel
theorem dX10_init_1 : decode cX10_init 1 = .ok (.bipush 60, 2) := by decide +kernel
theorem dX10_init_3 : decode cX10_init 3 = .ok (.invokespecial 1, 3) := by decide +kernel
theorem dX10_init_6 : decode cX10_init 6 = .ok (.return_, 1) := by decide +kernel
theorem dX10_begin_0 : decode cX10_begin 0 = .ok (.aload_n 0, 1) := by decide +kernel
theorem dX10_begin_1 : decode cX10_begin 1 = .ok (.iconst 0, 1) := by decide +kernel
theorem dX10_begin_2 : decode cX10_begin 2 = .ok (.putfield 7, 3) := by decide +kernel
theorem dX10_begin_5 : decode cX10_begin 5 = .ok (.aload_n 0, 1) := by decide +kernel
theorem dX10_begin_6 : decode cX10_begin 6 = .ok (.iconst 0, 1) := by decide +kernel
theorem dX10_begin_7 : decode cX10_begin 7 = .ok (.putfield 13, 3) := by decide +kernel
theorem dX10_begin_10 : decode cX10_begin 10 = .ok (.return_, 1) := by decide +kernel
theorem dX10_takes_0 : decode cX10_takes 0 = .ok (.aload_n 0, 1) := by decide +kernel
theorem dX10_takes_1 : decode cX10_takes 1 = .ok (.getfield 7, 3) := by decide +kernel
theorem dX10_takes_4 : decode cX10_takes 4 = .ok (.ifCond .ne 39, 3) := by decide +kernel
theorem dX10_takes_7 : decode cX10_takes 7 = .ok (.aload_n 0, 1) := by decide +kernel
theorem dX10_takes_8 : decode cX10_takes 8 = .ok (.iload_n 1, 1) := by decide +kernel
theorem dX10_takes_9 : decode cX10_takes 9 = .ok (.bipush 109, 2) := by decide +kernel
theorem dX10_takes_11 : decode cX10_takes 11 = .ok (.if_icmp .ne 7, 3) := by decide +kernel
theorem dX10_takes_14 : decode cX10_takes 14 = .ok (.iconst 1, 1) := by decide +kernel
theorem dX10_takes_15 : decode cX10_takes 15 = .ok (.goto 4, 3) := by decide +kernel
theorem dX10_takes_18 : decode cX10_takes 18 = .ok (.iconst 0, 1) := by decide +kernel
theorem dX10_takes_19 : decode cX10_takes 19 = .ok (.putfield 13, 3) := by decide +kernel
theorem dX10_takes_22 : decode cX10_takes 22 = .ok (.aload_n 0, 1) := by decide +kernel
theorem dX10_takes_23 : decode cX10_takes 23 = .ok (.iload_n 1, 1) := by decide +kernel
theorem dX10_takes_24 : decode cX10_takes 24 = .ok (.invokestatic 17, 3) := by decide +kernel
theorem dX10_takes_27 : decode cX10_takes 27 = .ok (.putfield 7, 3) := by decide +kernel
theorem dX10_takes_30 : decode cX10_takes 30 = .ok (.aload_n 0, 1) := by decide +kernel
theorem dX10_takes_31 : decode cX10_takes 31 = .ok (.getfield 7, 3) := by decide +kernel
theorem dX10_takes_34 : decode cX10_takes 34 = .ok (.ifCond .le 7, 3) := by decide +kernel
theorem dX10_takes_37 : decode cX10_takes 37 = .ok (.iconst 1, 1) := by decide +kernel
theorem dX10_takes_38 : decode cX10_takes 38 = .ok (.goto 4, 3) := by decide +kernel
theorem dX10_takes_41 : decode cX10_takes 41 = .ok (.iconst 0, 1) := by decide +kernel
theorem dX10_takes_42 : decode cX10_takes 42 = .ok (.ireturn, 1) := by decide +kernel
theorem dX10_takes_43 : decode cX10_takes 43 = .ok (.aload_n 0, 1) := by decide +kernel
theorem dX10_takes_44 : decode cX10_takes 44 = .ok (.dup, 1) := by decide +kernel
theorem dX10_takes_45 : decode cX10_takes 45 = .ok (.getfield 7, 3) := by decide +kernel
theorem dX10_takes_48 : decode cX10_takes 48 = .ok (.iconst 1, 1) := by decide +kernel
theorem dX10_takes_49 : decode cX10_takes 49 = .ok (.isub, 1) := by decide +kernel
theorem dX10_takes_50 : decode cX10_takes 50 = .ok (.putfield 7, 3) := by decide +kernel
theorem dX10_takes_53 : decode cX10_takes 53 = .ok (.iload_n 1, 1) := by decide +kernel
theorem dX10_takes_54 : decode cX10_takes 54 = .ok (.invokestatic 21, 3) := by decide +kernel
theorem dX10_takes_57 : decode cX10_takes 57 = .ok (.ifCond .eq 27, 3) := by decide +kernel
theorem dX10_takes_60 : decode cX10_takes 60 = .ok (.aload_n 0, 1) := by decide +kernel
theorem dX10_takes_61 : decode cX10_takes 61 = .ok (.getfield 13, 3) := by decide +kernel
theorem dX10_takes_64 : decode cX10_takes 64 = .ok (.ifCond .eq 16, 3) := by decide +kernel
theorem dX10_takes_67 : decode cX10_takes 67 = .ok (.aload_n 0, 1) := by decide +kernel
theorem dX10_takes_68 : decode cX10_takes 68 = .ok (.getfield 7, 3) := by decide +kernel
theorem dX10_takes_71 : decode cX10_takes 71 = .ok (.ifCond .ne 9, 3) := by decide +kernel
theorem dX10_takes_74 : decode cX10_takes 74 = .ok (.iload_n 1, 1) := by decide +kernel
theorem dX10_takes_75 : decode cX10_takes 75 = .ok (.bipush 48, 2) := by decide +kernel
theorem dX10_takes_77 : decode cX10_takes 77 = .ok (.if_icmp .eq 7, 3) := by decide +kernel
theorem dX10_takes_80 : decode cX10_takes 80 = .ok (.iconst 1, 1) := by decide +kernel
theorem dX10_takes_81 : decode cX10_takes 81 = .ok (.goto 4, 3) := by decide +kernel
theorem dX10_takes_84 : decode cX10_takes 84 = .ok (.iconst 0, 1) := by decide +kernel
theorem dX10_takes_85 : decode cX10_takes 85 = .ok (.ireturn, 1) := by decide +kernel
theorem dX10_digitsBehind_0 : decode cX10_digitsBehind 0 = .ok (.iload_n 0, 1) := by decide +kernel
theorem dX10_digitsBehind_1 : decode cX10_digitsBehind 1 = .ok (.bipush 100, 2) := by decide +kernel
theorem dX10_digitsBehind_3 : decode cX10_digitsBehind 3 = .ok (.if_icmp .ne 5, 3) := by decide +kernel
theorem dX10_digitsBehind_6 : decode cX10_digitsBehind 6 = .ok (.iconst 1, 1) := by decide +kernel
theorem dX10_digitsBehind_7 : decode cX10_digitsBehind 7 = .ok (.ireturn, 1) := by decide +kernel
theorem dX10_digitsBehind_8 : decode cX10_digitsBehind 8 = .ok (.iload_n 0, 1) := by decide +kernel
theorem dX10_digitsBehind_9 : decode cX10_digitsBehind 9 = .ok (.bipush 103, 2) := by decide +kernel
theorem dX10_digitsBehind_11 : decode cX10_digitsBehind 11 = .ok (.if_icmp .eq 15, 3) := by decide +kernel
theorem dX10_digitsBehind_14 : decode cX10_digitsBehind 14 = .ok (.iload_n 0, 1) := by decide +kernel
theorem dX10_digitsBehind_15 : decode cX10_digitsBehind 15 = .ok (.bipush 116, 2) := by decide +kernel
theorem dX10_digitsBehind_17 : decode cX10_digitsBehind 17 = .ok (.if_icmp .eq 9, 3) := by decide +kernel
theorem dX10_digitsBehind_20 : decode cX10_digitsBehind 20 = .ok (.iload_n 0, 1) := by decide +kernel
theorem dX10_digitsBehind_21 : decode cX10_digitsBehind 21 = .ok (.bipush 109, 2) := by decide +kernel
theorem dX10_digitsBehind_23 : decode cX10_digitsBehind 23 = .ok (.if_icmp .ne 7, 3) := by decide +kernel
theorem dX10_digitsBehind_26 : decode cX10_digitsBehind 26 = .ok (.iconst 2, 1) := by decide +kernel
theorem dX10_digitsBehind_27 : decode cX10_digitsBehind 27 = .ok (.goto 4, 3) := by decide +kernel
theorem dX10_digitsBehind_30 : decode cX10_digitsBehind 30 = .ok (.iconst 0, 1) := by decide +kernel
theorem dX10_digitsBehind_31 : decode cX10_digitsBehind 31 = .ok (.ireturn, 1) := by decide +kernel
theorem dX10_mayEnd_0 : decode cX10_mayEnd 0 = .ok (.aload_n 0, 1) := by decide +kernel
theorem dX10_mayEnd_1 : decode cX10_mayEnd 1 = .ok (.getfield 7, 3) := by decide +kernel
theorem dX10_mayEnd_4 : decode cX10_mayEnd 4 = .ok (.ifCond .ne 7, 3) := by decide +kernel
theorem dX10_mayEnd_7 : decode cX10_mayEnd 7 = .ok (.iconst 1, 1) := by decide +kernel
theorem dX10_mayEnd_8 : decode cX10_mayEnd 8 = .ok (.goto 4, 3) := by decide +kernel
theorem dX10_mayEnd_11 : decode cX10_mayEnd 11 = .ok (.iconst 0, 1) := by decide +kernel
theorem dX10_mayEnd_12 : decode cX10_mayEnd 12 = .ok (.ireturn, 1) := by decide +kernel
theorem dX11_init_0 : decode cX11_init 0 = .ok (.aload_n 0, 1) := by decide +kernel
theorem dX11_init_1 : decode cX11_init 1 = .ok (.invokespecial 1, 3) := by decide +kernel
theorem dX11_init_4 : decode cX11_init 4 = .ok (.aload_n 0, 1) := by decide +kernel
theorem dX11_init_5 : decode cX11_init 5 = .ok (.new 7, 3) := by decide +kernel
theorem dX11_init_8 : decode cX11_init 8 = .ok (.dup, 1) := by decide +kernel
theorem dX11_init_9 : decode cX11_init 9 = .ok (.invokespecial 9, 3) := by decide +kernel
theorem dX11_init_12 : decode cX11_init 12 = .ok (.putfield 10, 3) := by decide +kernel
theorem dX11_init_15 : decode cX11_init 15 = .ok (.aload_n 0, 1) := by decide +kernel
theorem dX11_init_16 : decode cX11_init 16 = .ok (.new 16, 3) := by decide +kernel
theorem dX11_init_19 : decode cX11_init 19 = .ok (.dup, 1) := by decide +kernel
theorem dX11_init_20 : decode cX11_init 20 = .ok (.bipush 6, 2) := by decide +kernel
theorem dX11_init_22 : decode cX11_init 22 = .ok (.iconst 2, 1) := by decide +kernel
theorem dX11_init_23 : decode cX11_init 23 = .ok (.bipush 55, 2) := by decide +kernel
theorem dX11_init_25 : decode cX11_init 25 = .ok (.invokespecial 18, 3) := by decide +kernel
theorem dX11_init_28 : decode cX11_init 28 = .ok (.putfield 21, 3) := by decide +kernel
theorem dX11_init_31 : decode cX11_init 31 = .ok (.aload_n 0, 1) := by decide +kernel
theorem dX11_init_32 : decode cX11_init 32 = .ok (.new 16, 3) := by decide +kernel
theorem dX11_init_35 : decode cX11_init 35 = .ok (.dup, 1) := by decide +kernel
theorem dX11_init_36 : decode cX11_init 36 = .ok (.iconst 5, 1) := by decide +kernel
theorem dX11_init_37 : decode cX11_init 37 = .ok (.iconst 5, 1) := by decide +kernel
theorem dX11_init_38 : decode cX11_init 38 = .ok (.bipush 35, 2) := by decide +kernel
theorem dX11_init_40 : decode cX11_init 40 = .ok (.invokespecial 18, 3) := by decide +kernel
theorem dX11_init_43 : decode cX11_init 43 = .ok (.putfield 25, 3) := by decide +kernel
theorem dX11_init_46 : decode cX11_init 46 = .ok (.aload_n 0, 1) := by decide +kernel
theorem dX11_init_47 : decode cX11_init 47 = .ok (.new 28, 3) := by decide +kernel
theorem dX11_init_50 : decode cX11_init 50 = .ok (.dup, 1) := by decide +kernel
theorem dX11_init_51 : decode cX11_init 51 = .ok (.invokespecial 30, 3) := by decide +kernel
theorem dX11_init_54 : decode cX11_init 54 = .ok (.putfield 31, 3) := by decide +kernel
theorem dX11_init_57 : decode cX11_init 57 = .ok (.aload_n 0, 1) := by decide +kernel
theorem dX11_init_58 : decode cX11_init 58 = .ok (.new 35, 3) := by decide +kernel
theorem dX11_init_61 : decode cX11_init 61 = .ok (.dup, 1) := by decide +kernel
theorem dX11_init_62 : decode cX11_init 62 = .ok (.invokespecial 37, 3) := by decide +kernel
theorem dX11_init_65 : decode cX11_init 65 = .ok (.putfield 38, 3) := by decide +kernel
theorem dX11_init_68 : decode cX11_init 68 = .ok (.aload_n 0, 1) := by decide +kernel
theorem dX11_init_69 : decode cX11_init 69 = .ok (.new 42, 3) := by decide +kernel
theorem dX11_init_72 : decode cX11_init 72 = .ok (.dup, 1) := by decide +kernel
theorem dX11_init_73 : decode cX11_init 73 = .ok (.invokespecial 44, 3) := by decide +kernel
theorem dX11_init_76 : decode cX11_init 76 = .ok (.putfield 45, 3) := by decide +kernel
theorem dX11_init_79 : decode cX11_init 79 = .ok (.new 49, 3) := by decide +kernel
theorem dX11_init_82 : decode cX11_init 82 = .ok (.dup, 1) := by decide +kernel
theorem dX11_init_83 : decode cX11_init 83 = .ok (.invokespecial 51, 3) := by decide +kernel
theorem dX11_init_86 : decode cX11_init 86 = .ok (.astore_n 1, 1) := by decide +kernel
theorem dX11_init_87 : decode cX11_init 87 = .ok (.new 52, 3) := by decide +kernel
theorem dX11_init_90 : decode cX11_init 90 = .ok (.dup, 1) := by decide +kernel
theorem dX11_init_91 : decode cX11_init 91 = .ok (.invokespecial 54, 3) := by decide +kernel
theorem dX11_init_94 : decode cX11_init 94 = .ok (.astore_n 2, 1) := by decide +kernel
theorem dX11_init_95 : decode cX11_init 95 = .ok (.new 55, 3) := by decide +kernel
theorem dX11_init_98 : decode cX11_init 98 = .ok (.dup, 1) := by decide +kernel
theorem dX11_init_99 : decode cX11_init 99 = .ok (.aload_n 2, 1) := by decide +kernel
theorem dX11_init_100 : decode cX11_init 100 = .ok (.invokespecial 57, 3) := by decide +kernel
theorem dX11_init_103 : decode cX11_init 103 = .ok (.astore_n 3, 1) := by decide +kernel
theorem dX11_init_104 : decode cX11_init 104 = .ok (.new 55, 3) := by decide +kernel
theorem dX11_init_107 : decode cX11_init 107 = .ok (.dup, 1) := by decide +kernel
theorem dX11_init_108 : decode cX11_init 108 = .ok (.aload_n 2, 1) := by decide +kernel
theorem dX11_init_109 : decode cX11_init 109 = .ok (.invokespecial 57, 3) := by decide +kernel
theorem dX11_init_112 : decode cX11_init 112 = .ok (.astore 4, 2) := by decide +kernel
theorem dX11_init_114 : decode cX11_init 114 = .ok (.aload_n 0, 1) := by decide +kernel
theorem dX11_init_115 : decode cX11_init 115 = .ok (.new 60, 3) := by decide +kernel
theorem dX11_init_118 : decode cX11_init 118 = .ok (.dup, 1) := by decide +kernel
theorem dX11_init_119 : decode cX11_init 119 = .ok (.aload_n 2, 1) := by decide +kernel
theorem dX11_init_120 : decode cX11_init 120 = .ok (.aload_n 3, 1) := by decide +kernel
theorem dX11_init_121 : decode cX11_init 121 = .ok (.aload 4, 2) := by decide +kernel
theorem dX11_init_123 : decode cX11_init 123 = .ok (.aload_n 1, 1) := by decide +kernel
theorem dX11_init_124 : decode cX11_init 124 = .ok (.invokespecial 62, 3) := by decide +kernel
theorem dX11_init_127 : decode cX11_init 127 = .ok (.putfield 65, 3) := by decide +kernel
theorem dX11_init_130 : decode cX11_init 130 = .ok (.aload_n 0, 1) := by decide +kernel
theorem dX11_init_131 : decode cX11_init 131 = .ok (.aload_n 1, 1) := by decide +kernel
theorem dX11_init_132 : decode cX11_init 132 = .ok (.putfield 69, 3) := by decide +kernel
theorem dX11_init_135 : decode cX11_init 135 = .ok (.aload_n 0, 1) := by decide +kernel
theorem dX11_init_136 : decode cX11_init 136 = .ok (.aload_n 2, 1) := by decide +kernel
theorem dX11_init_137 : decode cX11_init 137 = .ok (.putfield 73, 3) := by decide +kernel
theorem dX11_init_140 : decode cX11_init 140 = .ok (.aload_n 0, 1) := by decide +kernel
theorem dX11_init_141 : decode cX11_init 141 = .ok (.aload_n 3, 1) := by decide +kernel
theorem dX11_init_142 : decode cX11_init 142 = .ok (.putfield 77, 3) := by decide +kernel
theorem dX11_init_145 : decode cX11_init 145 = .ok (.aload_n 0, 1) := by decide +kernel
theorem dX11_init_146 : decode cX11_init 146 = .ok (.aload 4, 2) := by decide +kernel
theorem dX11_init_148 : decode cX11_init 148 = .ok (.putfield 81, 3) := by decide +kernel
theorem dX11_init_151 : decode cX11_init 151 = .ok (.return_, 1) := by decide +kernel
theorem dX11_sign_0 : decode cX11_sign 0 = .ok (.aload_n 0, 1) := by decide +kernel
theorem dX11_sign_1 : decode cX11_sign 1 = .ok (.getfield 10, 3) := by decide +kernel
theorem dX11_sign_4 : decode cX11_sign 4 = .ok (.iload_n 1, 1) := by decide +kernel
theorem dX11_sign_5 : decode cX11_sign 5 = .ok (.invokevirtual 84, 3) := by decide +kernel
theorem dX11_sign_8 : decode cX11_sign 8 = .ok (.ifCond .eq 13, 3) := by decide +kernel
theorem dX11_sign_11 : decode cX11_sign 11 = .ok (.aload_n 0, 1) := by decide +kernel
theorem dX11_sign_12 : decode cX11_sign 12 = .ok (.getfield 10, 3) := by decide +kernel
theorem dX11_sign_15 : decode cX11_sign 15 = .ok (.invokevirtual 88, 3) := by decide +kernel
theorem dX11_sign_18 : decode cX11_sign 18 = .ok (.goto 4, 3) := by decide +kernel
theorem dX11_sign_21 : decode cX11_sign 21 = .ok (.iconst (-1), 1) := by decide +kernel
theorem dX11_sign_22 : decode cX11_sign 22 = .ok (.ireturn, 1) := by decide +kernel
theorem dX11_end_0 : decode cX11_end 0 = .ok (.aload_n 0, 1) := by decide +kernel
theorem dX11_end_1 : decode cX11_end 1 = .ok (.getfield 10, 3) := by decide +kernel
theorem dX11_end_4 : decode cX11_end 4 = .ok (.iload_n 1, 1) := by decide +kernel
theorem dX11_end_5 : decode cX11_end 5 = .ok (.invokevirtual 92, 3) := by decide +kernel
theorem dX11_end_8 : decode cX11_end 8 = .ok (.ireturn, 1) := by decide +kernel
theorem dX11_grounds_0 : decode cX11_grounds 0 = .ok (.aload_n 0, 1) := by decide +kernel
theorem dX11_grounds_1 : decode cX11_grounds 1 = .ok (.invokevirtual 95, 3) := by decide +kernel
theorem dX11_grounds_4 : decode cX11_grounds 4 = .ok (.istore_n 1, 1) := by decide +kernel
theorem dX11_grounds_5 : decode cX11_grounds 5 = .ok (.aload_n 0, 1) := by decide +kernel
theorem dX11_grounds_6 : decode cX11_grounds 6 = .ok (.getfield 10, 3) := by decide +kernel
theorem dX11_grounds_9 : decode cX11_grounds 9 = .ok (.iconst 0, 1) := by decide +kernel
theorem dX11_grounds_10 : decode cX11_grounds 10 = .ok (.invokevirtual 92, 3) := by decide +kernel
theorem dX11_grounds_13 : decode cX11_grounds 13 = .ok (.pop, 1) := by decide +kernel
theorem dX11_grounds_14 : decode cX11_grounds 14 = .ok (.iload_n 1, 1) := by decide +kernel
theorem dX11_grounds_15 : decode cX11_grounds 15 = .ok (.ireturn, 1) := by decide +kernel
theorem dX11_readGrounds_0 : decode cX11_readGrounds 0 = .ok (.aload_n 0, 1) := by decide +kernel
theorem dX11_readGrounds_1 : decode cX11_readGrounds 1 = .ok (.getfield 10, 3) := by decide +kernel
theorem dX11_readGrounds_4 : decode cX11_readGrounds 4 = .ok (.invokevirtual 88, 3) := by decide +kernel
theorem dX11_readGrounds_7 : decode cX11_readGrounds 7 = .ok (.ifCond .ne 5, 3) := by decide +kernel
theorem dX11_readGrounds_10 : decode cX11_readGrounds 10 = .ok (.iconst 0, 1) := by decide +kernel
theorem dX11_readGrounds_11 : decode cX11_readGrounds 11 = .ok (.ireturn, 1) := by decide +kernel
theorem dX11_readGrounds_12 : decode cX11_readGrounds 12 = .ok (.aload_n 0, 1) := by decide +kernel
theorem dX11_readGrounds_13 : decode cX11_readGrounds 13 = .ok (.getfield 21, 3) := by decide +kernel
theorem dX11_readGrounds_16 : decode cX11_readGrounds 16 = .ok (.aload_n 0, 1) := by decide +kernel
theorem dX11_readGrounds_17 : decode cX11_readGrounds 17 = .ok (.getfield 10, 3) := by decide +kernel
theorem dX11_readGrounds_20 : decode cX11_readGrounds 20 = .ok (.bipush 8, 2) := by decide +kernel
theorem dX11_readGrounds_22 : decode cX11_readGrounds 22 = .ok (.aload_n 0, 1) := by decide +kernel
theorem dX11_readGrounds_23 : decode cX11_readGrounds 23 = .ok (.getfield 73, 3) := by decide +kernel
theorem dX11_readGrounds_26 : decode cX11_readGrounds 26 = .ok (.invokevirtual 98, 3) := by decide +kernel
theorem dX11_readGrounds_29 : decode cX11_readGrounds 29 = .ok (.isub, 1) := by decide +kernel
theorem dX11_readGrounds_30 : decode cX11_readGrounds 30 = .ok (.invokevirtual 101, 3) := by decide +kernel
theorem dX11_readGrounds_33 : decode cX11_readGrounds 33 = .ok (.istore_n 1, 1) := by decide +kernel
theorem dX11_readGrounds_34 : decode cX11_readGrounds 34 = .ok (.iload_n 1, 1) := by decide +kernel
theorem dX11_readGrounds_35 : decode cX11_readGrounds 35 = .ok (.iconst (-1), 1) := by decide +kernel
theorem dX11_readGrounds_36 : decode cX11_readGrounds 36 = .ok (.if_icmp .eq 7, 3) := by decide +kernel
theorem dX11_readGrounds_39 : decode cX11_readGrounds 39 = .ok (.iconst (-1), 1) := by decide +kernel
theorem dX11_readGrounds_40 : decode cX11_readGrounds 40 = .ok (.iload_n 1, 1) := by decide +kernel
theorem dX11_readGrounds_41 : decode cX11_readGrounds 41 = .ok (.isub, 1) := by decide +kernel
theorem dX11_readGrounds_42 : decode cX11_readGrounds 42 = .ok (.ireturn, 1) := by decide +kernel
theorem dX11_readGrounds_43 : decode cX11_readGrounds 43 = .ok (.aload_n 0, 1) := by decide +kernel
theorem dX11_readGrounds_44 : decode cX11_readGrounds 44 = .ok (.getfield 21, 3) := by decide +kernel
theorem dX11_readGrounds_47 : decode cX11_readGrounds 47 = .ok (.invokevirtual 105, 3) := by decide +kernel
theorem dX11_readGrounds_50 : decode cX11_readGrounds 50 = .ok (.istore_n 2, 1) := by decide +kernel
theorem dX11_readGrounds_51 : decode cX11_readGrounds 51 = .ok (.iconst 0, 1) := by decide +kernel
theorem dX11_readGrounds_52 : decode cX11_readGrounds 52 = .ok (.istore_n 3, 1) := by decide +kernel
theorem dX11_readGrounds_53 : decode cX11_readGrounds 53 = .ok (.iload_n 3, 1) := by decide +kernel
theorem dX11_readGrounds_54 : decode cX11_readGrounds 54 = .ok (.iload_n 2, 1) := by decide +kernel
theorem dX11_readGrounds_55 : decode cX11_readGrounds 55 = .ok (.if_icmp .ge 53, 3) := by decide +kernel
theorem dX11_readGrounds_58 : decode cX11_readGrounds 58 = .ok (.iload_n 3, 1) := by decide +kernel
theorem dX11_readGrounds_59 : decode cX11_readGrounds 59 = .ok (.bipush 7, 2) := by decide +kernel
theorem dX11_readGrounds_61 : decode cX11_readGrounds 61 = .ok (.imul, 1) := by decide +kernel
theorem dX11_readGrounds_62 : decode cX11_readGrounds 62 = .ok (.istore 4, 2) := by decide +kernel
theorem dX11_readGrounds_64 : decode cX11_readGrounds 64 = .ok (.aload_n 0, 1) := by decide +kernel
theorem dX11_readGrounds_65 : decode cX11_readGrounds 65 = .ok (.getfield 77, 3) := by decide +kernel
theorem dX11_readGrounds_68 : decode cX11_readGrounds 68 = .ok (.aload_n 0, 1) := by decide +kernel
theorem dX11_readGrounds_69 : decode cX11_readGrounds 69 = .ok (.getfield 73, 3) := by decide +kernel
theorem dX11_readGrounds_72 : decode cX11_readGrounds 72 = .ok (.invokevirtual 98, 3) := by decide +kernel
theorem dX11_readGrounds_75 : decode cX11_readGrounds 75 = .ok (.aload_n 0, 1) := by decide +kernel
theorem dX11_readGrounds_76 : decode cX11_readGrounds 76 = .ok (.getfield 10, 3) := by decide +kernel
theorem dX11_readGrounds_79 : decode cX11_readGrounds 79 = .ok (.iload 4, 2) := by decide +kernel
theorem dX11_readGrounds_81 : decode cX11_readGrounds 81 = .ok (.iconst 1, 1) := by decide +kernel
theorem dX11_readGrounds_82 : decode cX11_readGrounds 82 = .ok (.iadd, 1) := by decide +kernel
theorem dX11_readGrounds_83 : decode cX11_readGrounds 83 = .ok (.invokevirtual 108, 3) := by decide +kernel
theorem dX11_readGrounds_86 : decode cX11_readGrounds 86 = .ok (.invokevirtual 112, 3) := by decide +kernel
theorem dX11_readGrounds_89 : decode cX11_readGrounds 89 = .ok (.aload_n 0, 1) := by decide +kernel
theorem dX11_readGrounds_90 : decode cX11_readGrounds 90 = .ok (.getfield 73, 3) := by decide +kernel
theorem dX11_readGrounds_93 : decode cX11_readGrounds 93 = .ok (.aload_n 0, 1) := by decide +kernel
theorem dX11_readGrounds_94 : decode cX11_readGrounds 94 = .ok (.getfield 10, 3) := by decide +kernel
theorem dX11_readGrounds_97 : decode cX11_readGrounds 97 = .ok (.iload 4, 2) := by decide +kernel
theorem dX11_readGrounds_99 : decode cX11_readGrounds 99 = .ok (.invokevirtual 116, 3) := by decide +kernel
theorem dX11_readGrounds_102 : decode cX11_readGrounds 102 = .ok (.iinc 3 1, 3) := by decide +kernel
theorem dX11_readGrounds_105 : decode cX11_readGrounds 105 = .ok (.goto (-52), 3) := by decide +kernel
theorem dX11_readGrounds_108 : decode cX11_readGrounds 108 = .ok (.aload_n 0, 1) := by decide +kernel
theorem dX11_readGrounds_109 : decode cX11_readGrounds 109 = .ok (.getfield 45, 3) := by decide +kernel
theorem dX11_readGrounds_112 : decode cX11_readGrounds 112 = .ok (.invokevirtual 120, 3) := by decide +kernel
theorem dX11_readGrounds_115 : decode cX11_readGrounds 115 = .ok (.iload_n 2, 1) := by decide +kernel
theorem dX11_readGrounds_116 : decode cX11_readGrounds 116 = .ok (.ireturn, 1) := by decide +kernel
theorem dX11_people_0 : decode cX11_people 0 = .ok (.aload_n 0, 1) := by decide +kernel
theorem dX11_people_1 : decode cX11_people 1 = .ok (.invokevirtual 123, 3) := by decide +kernel
theorem dX11_people_4 : decode cX11_people 4 = .ok (.istore_n 1, 1) := by decide +kernel
theorem dX11_people_5 : decode cX11_people 5 = .ok (.aload_n 0, 1) := by decide +kernel
theorem dX11_people_6 : decode cX11_people 6 = .ok (.getfield 10, 3) := by decide +kernel
theorem dX11_people_9 : decode cX11_people 9 = .ok (.iconst 0, 1) := by decide +kernel
theorem dX11_people_10 : decode cX11_people 10 = .ok (.invokevirtual 92, 3) := by decide +kernel
theorem dX11_people_13 : decode cX11_people 13 = .ok (.pop, 1) := by decide +kernel
theorem dX11_people_14 : decode cX11_people 14 = .ok (.iload_n 1, 1) := by decide +kernel
theorem dX11_people_15 : decode cX11_people 15 = .ok (.ireturn, 1) := by decide +kernel
theorem dX11_readPeople_0 : decode cX11_readPeople 0 = .ok (.aload_n 0, 1) := by decide +kernel
theorem dX11_readPeople_1 : decode cX11_readPeople 1 = .ok (.getfield 10, 3) := by decide +kernel
theorem dX11_readPeople_4 : decode cX11_readPeople 4 = .ok (.invokevirtual 88, 3) := by decide +kernel
theorem dX11_readPeople_7 : decode cX11_readPeople 7 = .ok (.ifCond .ne 5, 3) := by decide +kernel
theorem dX11_readPeople_10 : decode cX11_readPeople 10 = .ok (.iconst 0, 1) := by decide +kernel
theorem dX11_readPeople_11 : decode cX11_readPeople 11 = .ok (.ireturn, 1) := by decide +kernel
theorem dX11_readPeople_12 : decode cX11_readPeople 12 = .ok (.aload_n 0, 1) := by decide +kernel
theorem dX11_readPeople_13 : decode cX11_readPeople 13 = .ok (.getfield 25, 3) := by decide +kernel
theorem dX11_readPeople_16 : decode cX11_readPeople 16 = .ok (.aload_n 0, 1) := by decide +kernel
theorem dX11_readPeople_17 : decode cX11_readPeople 17 = .ok (.getfield 10, 3) := by decide +kernel
theorem dX11_readPeople_20 : decode cX11_readPeople 20 = .ok (.bipush 6, 2) := by decide +kernel
theorem dX11_readPeople_22 : decode cX11_readPeople 22 = .ok (.aload_n 0, 1) := by decide +kernel
theorem dX11_readPeople_23 : decode cX11_readPeople 23 = .ok (.getfield 73, 3) := by decide +kernel
theorem dX11_readPeople_26 : decode cX11_readPeople 26 = .ok (.invokevirtual 126, 3) := by decide +kernel
theorem dX11_readPeople_29 : decode cX11_readPeople 29 = .ok (.isub, 1) := by decide +kernel
theorem dX11_readPeople_30 : decode cX11_readPeople 30 = .ok (.invokevirtual 101, 3) := by decide +kernel
theorem dX11_readPeople_33 : decode cX11_readPeople 33 = .ok (.istore_n 1, 1) := by decide +kernel
theorem dX11_readPeople_34 : decode cX11_readPeople 34 = .ok (.iload_n 1, 1) := by decide +kernel
theorem dX11_readPeople_35 : decode cX11_readPeople 35 = .ok (.iconst (-1), 1) := by decide +kernel
theorem dX11_readPeople_36 : decode cX11_readPeople 36 = .ok (.if_icmp .eq 7, 3) := by decide +kernel
theorem dX11_readPeople_39 : decode cX11_readPeople 39 = .ok (.iconst (-1), 1) := by decide +kernel
theorem dX11_readPeople_40 : decode cX11_readPeople 40 = .ok (.iload_n 1, 1) := by decide +kernel
theorem dX11_readPeople_41 : decode cX11_readPeople 41 = .ok (.isub, 1) := by decide +kernel
theorem dX11_readPeople_42 : decode cX11_readPeople 42 = .ok (.ireturn, 1) := by decide +kernel
theorem dX11_readPeople_43 : decode cX11_readPeople 43 = .ok (.aload_n 0, 1) := by decide +kernel
theorem dX11_readPeople_44 : decode cX11_readPeople 44 = .ok (.getfield 25, 3) := by decide +kernel
theorem dX11_readPeople_47 : decode cX11_readPeople 47 = .ok (.invokevirtual 105, 3) := by decide +kernel
theorem dX11_readPeople_50 : decode cX11_readPeople 50 = .ok (.istore_n 2, 1) := by decide +kernel
theorem dX11_readPeople_51 : decode cX11_readPeople 51 = .ok (.iconst 0, 1) := by decide +kernel
theorem dX11_readPeople_52 : decode cX11_readPeople 52 = .ok (.istore_n 3, 1) := by decide +kernel
theorem dX11_readPeople_53 : decode cX11_readPeople 53 = .ok (.iload_n 3, 1) := by decide +kernel
theorem dX11_readPeople_54 : decode cX11_readPeople 54 = .ok (.iload_n 2, 1) := by decide +kernel
theorem dX11_readPeople_55 : decode cX11_readPeople 55 = .ok (.if_icmp .ge 76, 3) := by decide +kernel
theorem dX11_readPeople_58 : decode cX11_readPeople 58 = .ok (.iload_n 3, 1) := by decide +kernel
theorem dX11_readPeople_59 : decode cX11_readPeople 59 = .ok (.bipush 6, 2) := by decide +kernel
theorem dX11_readPeople_61 : decode cX11_readPeople 61 = .ok (.imul, 1) := by decide +kernel
theorem dX11_readPeople_62 : decode cX11_readPeople 62 = .ok (.istore 4, 2) := by decide +kernel
theorem dX11_readPeople_64 : decode cX11_readPeople 64 = .ok (.iconst 0, 1) := by decide +kernel
theorem dX11_readPeople_65 : decode cX11_readPeople 65 = .ok (.istore 5, 2) := by decide +kernel
theorem dX11_readPeople_67 : decode cX11_readPeople 67 = .ok (.iload 5, 2) := by decide +kernel
theorem dX11_readPeople_69 : decode cX11_readPeople 69 = .ok (.iconst 4, 1) := by decide +kernel
theorem dX11_readPeople_70 : decode cX11_readPeople 70 = .ok (.if_icmp .ge 39, 3) := by decide +kernel
theorem dX11_readPeople_73 : decode cX11_readPeople 73 = .ok (.aload_n 0, 1) := by decide +kernel
theorem dX11_readPeople_74 : decode cX11_readPeople 74 = .ok (.getfield 77, 3) := by decide +kernel
theorem dX11_readPeople_77 : decode cX11_readPeople 77 = .ok (.aload_n 0, 1) := by decide +kernel
theorem dX11_readPeople_78 : decode cX11_readPeople 78 = .ok (.getfield 73, 3) := by decide +kernel
theorem dX11_readPeople_81 : decode cX11_readPeople 81 = .ok (.invokevirtual 126, 3) := by decide +kernel
theorem dX11_readPeople_84 : decode cX11_readPeople 84 = .ok (.iload 5, 2) := by decide +kernel
theorem dX11_readPeople_86 : decode cX11_readPeople 86 = .ok (.aload_n 0, 1) := by decide +kernel
theorem dX11_readPeople_87 : decode cX11_readPeople 87 = .ok (.getfield 10, 3) := by decide +kernel
theorem dX11_readPeople_90 : decode cX11_readPeople 90 = .ok (.iload 4, 2) := by decide +kernel
theorem dX11_readPeople_92 : decode cX11_readPeople 92 = .ok (.iconst 1, 1) := by decide +kernel
theorem dX11_readPeople_93 : decode cX11_readPeople 93 = .ok (.iadd, 1) := by decide +kernel
theorem dX11_readPeople_94 : decode cX11_readPeople 94 = .ok (.iload 5, 2) := by decide +kernel
theorem dX11_readPeople_96 : decode cX11_readPeople 96 = .ok (.iadd, 1) := by decide +kernel
theorem dX11_readPeople_97 : decode cX11_readPeople 97 = .ok (.invokevirtual 108, 3) := by decide +kernel
theorem dX11_readPeople_100 : decode cX11_readPeople 100 = .ok (.invokevirtual 129, 3) := by decide +kernel
theorem dX11_readPeople_103 : decode cX11_readPeople 103 = .ok (.iinc 5 1, 3) := by decide +kernel
theorem dX11_readPeople_106 : decode cX11_readPeople 106 = .ok (.goto (-39), 3) := by decide +kernel
theorem dX11_readPeople_109 : decode cX11_readPeople 109 = .ok (.aload_n 0, 1) := by decide +kernel
theorem dX11_readPeople_110 : decode cX11_readPeople 110 = .ok (.getfield 73, 3) := by decide +kernel
theorem dX11_readPeople_113 : decode cX11_readPeople 113 = .ok (.aload_n 0, 1) := by decide +kernel
theorem dX11_readPeople_114 : decode cX11_readPeople 114 = .ok (.getfield 10, 3) := by decide +kernel
theorem dX11_readPeople_117 : decode cX11_readPeople 117 = .ok (.iload 4, 2) := by decide +kernel
theorem dX11_readPeople_119 : decode cX11_readPeople 119 = .ok (.invokevirtual 108, 3) := by decide +kernel
theorem dX11_readPeople_122 : decode cX11_readPeople 122 = .ok (.invokevirtual 132, 3) := by decide +kernel
theorem dX11_readPeople_125 : decode cX11_readPeople 125 = .ok (.iinc 3 1, 3) := by decide +kernel
theorem dX11_readPeople_128 : decode cX11_readPeople 128 = .ok (.goto (-75), 3) := by decide +kernel
theorem dX11_readPeople_131 : decode cX11_readPeople 131 = .ok (.aload_n 0, 1) := by decide +kernel
theorem dX11_readPeople_132 : decode cX11_readPeople 132 = .ok (.getfield 45, 3) := by decide +kernel
theorem dX11_readPeople_135 : decode cX11_readPeople 135 = .ok (.invokevirtual 120, 3) := by decide +kernel
theorem dX11_readPeople_138 : decode cX11_readPeople 138 = .ok (.iload_n 2, 1) := by decide +kernel
theorem dX11_readPeople_139 : decode cX11_readPeople 139 = .ok (.ireturn, 1) := by decide +kernel
theorem dX11_wants_0 : decode cX11_wants 0 = .ok (.aload_n 0, 1) := by decide +kernel
theorem dX11_wants_1 : decode cX11_wants 1 = .ok (.invokevirtual 136, 3) := by decide +kernel
theorem dX11_wants_4 : decode cX11_wants 4 = .ok (.istore_n 1, 1) := by decide +kernel
theorem dX11_wants_5 : decode cX11_wants 5 = .ok (.aload_n 0, 1) := by decide +kernel
theorem dX11_wants_6 : decode cX11_wants 6 = .ok (.getfield 10, 3) := by decide +kernel
theorem dX11_wants_9 : decode cX11_wants 9 = .ok (.iconst 0, 1) := by decide +kernel
theorem dX11_wants_10 : decode cX11_wants 10 = .ok (.invokevirtual 92, 3) := by decide +kernel
theorem dX11_wants_13 : decode cX11_wants 13 = .ok (.pop, 1) := by decide +kernel
theorem dX11_wants_14 : decode cX11_wants 14 = .ok (.iload_n 1, 1) := by decide +kernel
theorem dX11_wants_15 : decode cX11_wants 15 = .ok (.ireturn, 1) := by decide +kernel
theorem dX11_readWants_0 : decode cX11_readWants 0 = .ok (.aload_n 0, 1) := by decide +kernel
theorem dX11_readWants_1 : decode cX11_readWants 1 = .ok (.getfield 10, 3) := by decide +kernel
theorem dX11_readWants_4 : decode cX11_readWants 4 = .ok (.invokevirtual 88, 3) := by decide +kernel
theorem dX11_readWants_7 : decode cX11_readWants 7 = .ok (.ifCond .ne 5, 3) := by decide +kernel
theorem dX11_readWants_10 : decode cX11_readWants 10 = .ok (.iconst 0, 1) := by decide +kernel
theorem dX11_readWants_11 : decode cX11_readWants 11 = .ok (.ireturn, 1) := by decide +kernel
theorem dX11_readWants_12 : decode cX11_readWants 12 = .ok (.aload_n 0, 1) := by decide +kernel
theorem dX11_readWants_13 : decode cX11_readWants 13 = .ok (.getfield 31, 3) := by decide +kernel
theorem dX11_readWants_16 : decode cX11_readWants 16 = .ok (.aload_n 0, 1) := by decide +kernel
theorem dX11_readWants_17 : decode cX11_readWants 17 = .ok (.getfield 10, 3) := by decide +kernel
theorem dX11_readWants_20 : decode cX11_readWants 20 = .ok (.bipush 6, 2) := by decide +kernel
theorem dX11_readWants_22 : decode cX11_readWants 22 = .ok (.aload_n 0, 1) := by decide +kernel
theorem dX11_readWants_23 : decode cX11_readWants 23 = .ok (.getfield 73, 3) := by decide +kernel
theorem dX11_readWants_26 : decode cX11_readWants 26 = .ok (.invokevirtual 139, 3) := by decide +kernel
theorem dX11_readWants_29 : decode cX11_readWants 29 = .ok (.isub, 1) := by decide +kernel
theorem dX11_readWants_30 : decode cX11_readWants 30 = .ok (.invokevirtual 142, 3) := by decide +kernel
theorem dX11_readWants_33 : decode cX11_readWants 33 = .ok (.istore_n 1, 1) := by decide +kernel
theorem dX11_readWants_34 : decode cX11_readWants 34 = .ok (.iload_n 1, 1) := by decide +kernel
theorem dX11_readWants_35 : decode cX11_readWants 35 = .ok (.iconst (-1), 1) := by decide +kernel
theorem dX11_readWants_36 : decode cX11_readWants 36 = .ok (.if_icmp .eq 7, 3) := by decide +kernel
theorem dX11_readWants_39 : decode cX11_readWants 39 = .ok (.iconst (-1), 1) := by decide +kernel
theorem dX11_readWants_40 : decode cX11_readWants 40 = .ok (.iload_n 1, 1) := by decide +kernel
theorem dX11_readWants_41 : decode cX11_readWants 41 = .ok (.isub, 1) := by decide +kernel
theorem dX11_readWants_42 : decode cX11_readWants 42 = .ok (.ireturn, 1) := by decide +kernel
theorem dX11_readWants_43 : decode cX11_readWants 43 = .ok (.aload_n 0, 1) := by decide +kernel
theorem dX11_readWants_44 : decode cX11_readWants 44 = .ok (.getfield 73, 3) := by decide +kernel
theorem dX11_readWants_47 : decode cX11_readWants 47 = .ok (.aload_n 0, 1) := by decide +kernel
theorem dX11_readWants_48 : decode cX11_readWants 48 = .ok (.getfield 10, 3) := by decide +kernel
theorem dX11_readWants_51 : decode cX11_readWants 51 = .ok (.invokevirtual 143, 3) := by decide +kernel
theorem dX11_readWants_54 : decode cX11_readWants 54 = .ok (.aload_n 0, 1) := by decide +kernel
theorem dX11_readWants_55 : decode cX11_readWants 55 = .ok (.getfield 45, 3) := by decide +kernel
theorem dX11_readWants_58 : decode cX11_readWants 58 = .ok (.invokevirtual 120, 3) := by decide +kernel
theorem dX11_readWants_61 : decode cX11_readWants 61 = .ok (.aload_n 0, 1) := by decide +kernel
theorem dX11_readWants_62 : decode cX11_readWants 62 = .ok (.getfield 31, 3) := by decide +kernel
theorem dX11_readWants_65 : decode cX11_readWants 65 = .ok (.invokevirtual 147, 3) := by decide +kernel
theorem dX11_readWants_68 : decode cX11_readWants 68 = .ok (.ireturn, 1) := by decide +kernel
theorem dX11_rule_0 : decode cX11_rule 0 = .ok (.aload_n 0, 1) := by decide +kernel
theorem dX11_rule_1 : decode cX11_rule 1 = .ok (.getfield 73, 3) := by decide +kernel
theorem dX11_rule_4 : decode cX11_rule 4 = .ok (.invokevirtual 148, 3) := by decide +kernel
theorem dX11_rule_7 : decode cX11_rule 7 = .ok (.aload_n 0, 1) := by decide +kernel
theorem dX11_rule_8 : decode cX11_rule 8 = .ok (.getfield 10, 3) := by decide +kernel
theorem dX11_rule_11 : decode cX11_rule 11 = .ok (.invokevirtual 152, 3) := by decide +kernel
theorem dX11_rule_14 : decode cX11_rule 14 = .ok (.istore_n 1, 1) := by decide +kernel
theorem dX11_rule_15 : decode cX11_rule 15 = .ok (.aload_n 0, 1) := by decide +kernel
theorem dX11_rule_16 : decode cX11_rule 16 = .ok (.getfield 10, 3) := by decide +kernel
theorem dX11_rule_19 : decode cX11_rule 19 = .ok (.iconst 0, 1) := by decide +kernel
theorem dX11_rule_20 : decode cX11_rule 20 = .ok (.invokevirtual 92, 3) := by decide +kernel
theorem dX11_rule_23 : decode cX11_rule 23 = .ok (.pop, 1) := by decide +kernel
theorem dX11_rule_24 : decode cX11_rule 24 = .ok (.iload_n 1, 1) := by decide +kernel
theorem dX11_rule_25 : decode cX11_rule 25 = .ok (.iconst (-1), 1) := by decide +kernel
theorem dX11_rule_26 : decode cX11_rule 26 = .ok (.if_icmp .eq 7, 3) := by decide +kernel
theorem dX11_rule_29 : decode cX11_rule 29 = .ok (.iconst (-1), 1) := by decide +kernel
theorem dX11_rule_30 : decode cX11_rule 30 = .ok (.iload_n 1, 1) := by decide +kernel
theorem dX11_rule_31 : decode cX11_rule 31 = .ok (.isub, 1) := by decide +kernel
theorem dX11_rule_32 : decode cX11_rule 32 = .ok (.ireturn, 1) := by decide +kernel
theorem dX11_rule_33 : decode cX11_rule 33 = .ok (.aload_n 0, 1) := by decide +kernel
theorem dX11_rule_34 : decode cX11_rule 34 = .ok (.getfield 73, 3) := by decide +kernel
theorem dX11_rule_37 : decode cX11_rule 37 = .ok (.invokevirtual 158, 3) := by decide +kernel
theorem dX11_rule_40 : decode cX11_rule 40 = .ok (.iconst 0, 1) := by decide +kernel
theorem dX11_rule_41 : decode cX11_rule 41 = .ok (.ireturn, 1) := by decide +kernel
theorem dX11_ground_0 : decode cX11_ground 0 = .ok (.aload_n 0, 1) := by decide +kernel
theorem dX11_ground_1 : decode cX11_ground 1 = .ok (.getfield 73, 3) := by decide +kernel
theorem dX11_ground_4 : decode cX11_ground 4 = .ok (.iload_n 1, 1) := by decide +kernel
theorem dX11_ground_5 : decode cX11_ground 5 = .ok (.invokevirtual 161, 3) := by decide +kernel
theorem dX11_ground_8 : decode cX11_ground 8 = .ok (.ifCond .eq 13, 3) := by decide +kernel
theorem dX11_ground_11 : decode cX11_ground 11 = .ok (.iload_n 2, 1) := by decide +kernel
theorem dX11_ground_12 : decode cX11_ground 12 = .ok (.iconst 0, 1) := by decide +kernel
theorem dX11_ground_13 : decode cX11_ground 13 = .ok (.bipush 6, 2) := by decide +kernel
theorem dX11_ground_15 : decode cX11_ground 15 = .ok (.invokestatic 164, 3) := by decide +kernel
theorem dX11_ground_18 : decode cX11_ground 18 = .ok (.ifCond .ne 11, 3) := by decide +kernel
theorem dX11_ground_21 : decode cX11_ground 21 = .ok (.new 168, 3) := by decide +kernel
theorem dX11_ground_24 : decode cX11_ground 24 = .ok (.dup, 1) := by decide +kernel
theorem dX11_ground_25 : decode cX11_ground 25 = .ok (.invokespecial 170, 3) := by decide +kernel
theorem dX11_ground_28 : decode cX11_ground 28 = .ok (.athrow, 1) := by decide +kernel
theorem dX11_ground_29 : decode cX11_ground 29 = .ok (.iload_n 2, 1) := by decide +kernel
theorem dX11_ground_30 : decode cX11_ground 30 = .ok (.ifCond .ne 12, 3) := by decide +kernel
theorem dX11_ground_33 : decode cX11_ground 33 = .ok (.aload_n 0, 1) := by decide +kernel
theorem dX11_ground_34 : decode cX11_ground 34 = .ok (.getfield 73, 3) := by decide +kernel
theorem dX11_ground_37 : decode cX11_ground 37 = .ok (.iload_n 1, 1) := by decide +kernel
theorem dX11_ground_38 : decode cX11_ground 38 = .ok (.invokevirtual 171, 3) := by decide +kernel
theorem dX11_ground_41 : decode cX11_ground 41 = .ok (.ireturn, 1) := by decide +kernel
theorem dX11_ground_42 : decode cX11_ground 42 = .ok (.iload_n 2, 1) := by decide +kernel
theorem dX11_ground_43 : decode cX11_ground 43 = .ok (.iconst 1, 1) := by decide +kernel
theorem dX11_ground_44 : decode cX11_ground 44 = .ok (.if_icmp .ne 12, 3) := by decide +kernel
theorem dX11_ground_47 : decode cX11_ground 47 = .ok (.aload_n 0, 1) := by decide +kernel
theorem dX11_ground_48 : decode cX11_ground 48 = .ok (.getfield 77, 3) := by decide +kernel
theorem dX11_ground_51 : decode cX11_ground 51 = .ok (.iload_n 1, 1) := by decide +kernel
theorem dX11_ground_52 : decode cX11_ground 52 = .ok (.invokevirtual 174, 3) := by decide +kernel
theorem dX11_ground_55 : decode cX11_ground 55 = .ok (.ireturn, 1) := by decide +kernel
theorem dX11_ground_56 : decode cX11_ground 56 = .ok (.iload_n 2, 1) := by decide +kernel
theorem dX11_ground_57 : decode cX11_ground 57 = .ok (.bipush 6, 2) := by decide +kernel
theorem dX11_ground_59 : decode cX11_ground 59 = .ok (.if_icmp .ne 14, 3) := by decide +kernel
theorem dX11_ground_62 : decode cX11_ground 62 = .ok (.aload_n 0, 1) := by decide +kernel
theorem dX11_ground_63 : decode cX11_ground 63 = .ok (.getfield 77, 3) := by decide +kernel
theorem dX11_ground_66 : decode cX11_ground 66 = .ok (.iload_n 1, 1) := by decide +kernel
theorem dX11_ground_67 : decode cX11_ground 67 = .ok (.invokevirtual 177, 3) := by decide +kernel
theorem dX11_ground_70 : decode cX11_ground 70 = .ok (.goto 14, 3) := by decide +kernel
theorem dX11_ground_73 : decode cX11_ground 73 = .ok (.aload_n 0, 1) := by decide +kernel
theorem dX11_ground_74 : decode cX11_ground 74 = .ok (.getfield 73, 3) := by decide +kernel
theorem dX11_ground_77 : decode cX11_ground 77 = .ok (.iload_n 1, 1) := by decide +kernel
theorem dX11_ground_78 : decode cX11_ground 78 = .ok (.iload_n 2, 1) := by decide +kernel
theorem dX11_ground_79 : decode cX11_ground 79 = .ok (.iconst 2, 1) := by decide +kernel
theorem dX11_ground_80 : decode cX11_ground 80 = .ok (.isub, 1) := by decide +kernel
theorem dX11_ground_81 : decode cX11_ground 81 = .ok (.invokevirtual 180, 3) := by decide +kernel
theorem dX11_ground_84 : decode cX11_ground 84 = .ok (.ireturn, 1) := by decide +kernel
theorem dX11_person_0 : decode cX11_person 0 = .ok (.aload_n 0, 1) := by decide +kernel
theorem dX11_person_1 : decode cX11_person 1 = .ok (.getfield 73, 3) := by decide +kernel
theorem dX11_person_4 : decode cX11_person 4 = .ok (.iload_n 1, 1) := by decide +kernel
theorem dX11_person_5 : decode cX11_person 5 = .ok (.invokevirtual 184, 3) := by decide +kernel
theorem dX11_person_8 : decode cX11_person 8 = .ok (.ifCond .eq 13, 3) := by decide +kernel
theorem dX11_person_11 : decode cX11_person 11 = .ok (.iload_n 2, 1) := by decide +kernel
theorem dX11_person_12 : decode cX11_person 12 = .ok (.iconst 0, 1) := by decide +kernel
theorem dX11_person_13 : decode cX11_person 13 = .ok (.bipush 6, 2) := by decide +kernel
theorem dX11_person_15 : decode cX11_person 15 = .ok (.invokestatic 164, 3) := by decide +kernel
theorem dX11_person_18 : decode cX11_person 18 = .ok (.ifCond .ne 11, 3) := by decide +kernel
theorem dX11_person_21 : decode cX11_person 21 = .ok (.new 168, 3) := by decide +kernel
theorem dX11_person_24 : decode cX11_person 24 = .ok (.dup, 1) := by decide +kernel
theorem dX11_person_25 : decode cX11_person 25 = .ok (.invokespecial 170, 3) := by decide +kernel
theorem dX11_person_28 : decode cX11_person 28 = .ok (.athrow, 1) := by decide +kernel
theorem dX11_person_29 : decode cX11_person 29 = .ok (.iload_n 2, 1) := by decide +kernel
theorem dX11_person_30 : decode cX11_person 30 = .ok (.ifCond .ne 12, 3) := by decide +kernel
theorem dX11_person_33 : decode cX11_person 33 = .ok (.aload_n 0, 1) := by decide +kernel
theorem dX11_person_34 : decode cX11_person 34 = .ok (.getfield 73, 3) := by decide +kernel
theorem dX11_person_37 : decode cX11_person 37 = .ok (.iload_n 1, 1) := by decide +kernel
theorem dX11_person_38 : decode cX11_person 38 = .ok (.invokevirtual 187, 3) := by decide +kernel
theorem dX11_person_41 : decode cX11_person 41 = .ok (.ireturn, 1) := by decide +kernel
theorem dX11_person_42 : decode cX11_person 42 = .ok (.iload_n 2, 1) := by decide +kernel
theorem dX11_person_43 : decode cX11_person 43 = .ok (.iconst 5, 1) := by decide +kernel
theorem dX11_person_44 : decode cX11_person 44 = .ok (.if_icmp .ne 12, 3) := by decide +kernel
theorem dX11_person_47 : decode cX11_person 47 = .ok (.aload_n 0, 1) := by decide +kernel
theorem dX11_person_48 : decode cX11_person 48 = .ok (.getfield 77, 3) := by decide +kernel
theorem dX11_person_51 : decode cX11_person 51 = .ok (.iload_n 1, 1) := by decide +kernel
theorem dX11_person_52 : decode cX11_person 52 = .ok (.invokevirtual 190, 3) := by decide +kernel
theorem dX11_person_55 : decode cX11_person 55 = .ok (.ireturn, 1) := by decide +kernel
theorem dX11_person_56 : decode cX11_person 56 = .ok (.iload_n 2, 1) := by decide +kernel
theorem dX11_person_57 : decode cX11_person 57 = .ok (.bipush 6, 2) := by decide +kernel
theorem dX11_person_59 : decode cX11_person 59 = .ok (.if_icmp .ne 14, 3) := by decide +kernel
theorem dX11_person_62 : decode cX11_person 62 = .ok (.aload_n 0, 1) := by decide +kernel
theorem dX11_person_63 : decode cX11_person 63 = .ok (.getfield 77, 3) := by decide +kernel
theorem dX11_person_66 : decode cX11_person 66 = .ok (.iload_n 1, 1) := by decide +kernel
theorem dX11_person_67 : decode cX11_person 67 = .ok (.invokevirtual 193, 3) := by decide +kernel
theorem dX11_person_70 : decode cX11_person 70 = .ok (.goto 14, 3) := by decide +kernel
theorem dX11_person_73 : decode cX11_person 73 = .ok (.aload_n 0, 1) := by decide +kernel
theorem dX11_person_74 : decode cX11_person 74 = .ok (.getfield 77, 3) := by decide +kernel
theorem dX11_person_77 : decode cX11_person 77 = .ok (.iload_n 1, 1) := by decide +kernel
theorem dX11_person_78 : decode cX11_person 78 = .ok (.iload_n 2, 1) := by decide +kernel
theorem dX11_person_79 : decode cX11_person 79 = .ok (.iconst 1, 1) := by decide +kernel
theorem dX11_person_80 : decode cX11_person 80 = .ok (.isub, 1) := by decide +kernel
theorem dX11_person_81 : decode cX11_person 81 = .ok (.invokevirtual 196, 3) := by decide +kernel
theorem dX11_person_84 : decode cX11_person 84 = .ok (.ireturn, 1) := by decide +kernel
theorem dX11_held_0 : decode cX11_held 0 = .ok (.aload_n 0, 1) := by decide +kernel
theorem dX11_held_1 : decode cX11_held 1 = .ok (.getfield 73, 3) := by decide +kernel
theorem dX11_held_4 : decode cX11_held 4 = .ok (.iload_n 1, 1) := by decide +kernel
theorem dX11_held_5 : decode cX11_held 5 = .ok (.invokevirtual 184, 3) := by decide +kernel
theorem dX11_held_8 : decode cX11_held 8 = .ok (.ifCond .eq 14, 3) := by decide +kernel
theorem dX11_held_11 : decode cX11_held 11 = .ok (.aload_n 0, 1) := by decide +kernel
theorem dX11_held_12 : decode cX11_held 12 = .ok (.getfield 73, 3) := by decide +kernel
theorem dX11_held_15 : decode cX11_held 15 = .ok (.iload_n 2, 1) := by decide +kernel
theorem dX11_held_16 : decode cX11_held 16 = .ok (.invokevirtual 161, 3) := by decide +kernel
theorem dX11_held_19 : decode cX11_held 19 = .ok (.ifCond .ne 5, 3) := by decide +kernel
theorem dX11_held_22 : decode cX11_held 22 = .ok (.iconst (-1), 1) := by decide +kernel
theorem dX11_held_23 : decode cX11_held 23 = .ok (.ireturn, 1) := by decide +kernel
theorem dX11_held_24 : decode cX11_held 24 = .ok (.aload_n 0, 1) := by decide +kernel
theorem dX11_held_25 : decode cX11_held 25 = .ok (.getfield 77, 3) := by decide +kernel
theorem dX11_held_28 : decode cX11_held 28 = .ok (.iload_n 1, 1) := by decide +kernel
theorem dX11_held_29 : decode cX11_held 29 = .ok (.iload_n 2, 1) := by decide +kernel
theorem dX11_held_30 : decode cX11_held 30 = .ok (.invokevirtual 199, 3) := by decide +kernel
theorem dX11_held_33 : decode cX11_held 33 = .ok (.ifCond .eq 15, 3) := by decide +kernel
theorem dX11_held_36 : decode cX11_held 36 = .ok (.aload_n 0, 1) := by decide +kernel
theorem dX11_held_37 : decode cX11_held 37 = .ok (.getfield 77, 3) := by decide +kernel
theorem dX11_held_40 : decode cX11_held 40 = .ok (.iload_n 1, 1) := by decide +kernel
theorem dX11_held_41 : decode cX11_held 41 = .ok (.iload_n 2, 1) := by decide +kernel
theorem dX11_held_42 : decode cX11_held 42 = .ok (.invokevirtual 203, 3) := by decide +kernel
theorem dX11_held_45 : decode cX11_held 45 = .ok (.goto 5, 3) := by decide +kernel
theorem dX11_held_48 : decode cX11_held 48 = .ok (.bipush (-2), 2) := by decide +kernel
theorem dX11_held_50 : decode cX11_held 50 = .ok (.ireturn, 1) := by decide +kernel
theorem dX11_sheet_0 : decode cX11_sheet 0 = .ok (.iload_n 1, 1) := by decide +kernel
theorem dX11_sheet_1 : decode cX11_sheet 1 = .ok (.iconst 0, 1) := by decide +kernel
theorem dX11_sheet_2 : decode cX11_sheet 2 = .ok (.iconst 3, 1) := by decide +kernel
theorem dX11_sheet_3 : decode cX11_sheet 3 = .ok (.invokestatic 164, 3) := by decide +kernel
theorem dX11_sheet_6 : decode cX11_sheet 6 = .ok (.ifCond .eq 9, 3) := by decide +kernel
theorem dX11_sheet_9 : decode cX11_sheet 9 = .ok (.iload_n 2, 1) := by decide +kernel
theorem dX11_sheet_10 : decode cX11_sheet 10 = .ok (.bipush 8, 2) := by decide +kernel
theorem dX11_sheet_12 : decode cX11_sheet 12 = .ok (.if_icmp .le 5, 3) := by decide +kernel
theorem dX11_sheet_15 : decode cX11_sheet 15 = .ok (.iconst (-1), 1) := by decide +kernel
theorem dX11_sheet_16 : decode cX11_sheet 16 = .ok (.ireturn, 1) := by decide +kernel
theorem dX11_sheet_17 : decode cX11_sheet 17 = .ok (.iload_n 1, 1) := by decide +kernel
theorem dX11_sheet_18 : decode cX11_sheet 18 = .ok (.iconst 3, 1) := by decide +kernel
theorem dX11_sheet_19 : decode cX11_sheet 19 = .ok (.if_icmp .eq 10, 3) := by decide +kernel
theorem dX11_sheet_22 : decode cX11_sheet 22 = .ok (.iload_n 2, 1) := by decide +kernel
theorem dX11_sheet_23 : decode cX11_sheet 23 = .ok (.ifCond .ge 6, 3) := by decide +kernel
theorem dX11_sheet_26 : decode cX11_sheet 26 = .ok (.bipush (-2), 2) := by decide +kernel
theorem dX11_sheet_28 : decode cX11_sheet 28 = .ok (.ireturn, 1) := by decide +kernel
theorem dX11_sheet_29 : decode cX11_sheet 29 = .ok (.iconst 0, 1) := by decide +kernel
theorem dX11_sheet_30 : decode cX11_sheet 30 = .ok (.istore 5, 2) := by decide +kernel
theorem dX11_sheet_32 : decode cX11_sheet 32 = .ok (.iload 5, 2) := by decide +kernel
theorem dX11_sheet_34 : decode cX11_sheet 34 = .ok (.aload_n 0, 1) := by decide +kernel
theorem dX11_sheet_35 : decode cX11_sheet 35 = .ok (.getfield 73, 3) := by decide +kernel
theorem dX11_sheet_38 : decode cX11_sheet 38 = .ok (.invokevirtual 98, 3) := by decide +kernel
theorem dX11_sheet_41 : decode cX11_sheet 41 = .ok (.if_icmp .ge 62, 3) := by decide +kernel
theorem dX11_sheet_44 : decode cX11_sheet 44 = .ok (.iload_n 1, 1) := by decide +kernel
theorem dX11_sheet_45 : decode cX11_sheet 45 = .ok (.iconst 3, 1) := by decide +kernel
theorem dX11_sheet_46 : decode cX11_sheet 46 = .ok (.if_icmp .eq 13, 3) := by decide +kernel
theorem dX11_sheet_49 : decode cX11_sheet 49 = .ok (.iload 5, 2) := by decide +kernel
theorem dX11_sheet_51 : decode cX11_sheet 51 = .ok (.iload_n 2, 1) := by decide +kernel
theorem dX11_sheet_52 : decode cX11_sheet 52 = .ok (.if_icmp .ge 7, 3) := by decide +kernel
theorem dX11_sheet_55 : decode cX11_sheet 55 = .ok (.iconst 1, 1) := by decide +kernel
theorem dX11_sheet_56 : decode cX11_sheet 56 = .ok (.goto 4, 3) := by decide +kernel
theorem dX11_sheet_59 : decode cX11_sheet 59 = .ok (.iconst 0, 1) := by decide +kernel
theorem dX11_sheet_60 : decode cX11_sheet 60 = .ok (.istore 6, 2) := by decide +kernel
theorem dX11_sheet_62 : decode cX11_sheet 62 = .ok (.aload_n 0, 1) := by decide +kernel
theorem dX11_sheet_63 : decode cX11_sheet 63 = .ok (.getfield 77, 3) := by decide +kernel
theorem dX11_sheet_66 : decode cX11_sheet 66 = .ok (.iload 5, 2) := by decide +kernel
theorem dX11_sheet_68 : decode cX11_sheet 68 = .ok (.iload 6, 2) := by decide +kernel
theorem dX11_sheet_70 : decode cX11_sheet 70 = .ok (.ifCond .eq 23, 3) := by decide +kernel
theorem dX11_sheet_73 : decode cX11_sheet 73 = .ok (.iload_n 1, 1) := by decide +kernel
theorem dX11_sheet_74 : decode cX11_sheet 74 = .ok (.iload_n 3, 1) := by decide +kernel
theorem dX11_sheet_75 : decode cX11_sheet 75 = .ok (.iload 5, 2) := by decide +kernel
theorem dX11_sheet_77 : decode cX11_sheet 77 = .ok (.iload 4, 2) := by decide +kernel
theorem dX11_sheet_79 : decode cX11_sheet 79 = .ok (.imul, 1) := by decide +kernel
theorem dX11_sheet_80 : decode cX11_sheet 80 = .ok (.iadd, 1) := by decide +kernel
theorem dX11_sheet_81 : decode cX11_sheet 81 = .ok (.invokestatic 206, 3) := by decide +kernel
theorem dX11_sheet_84 : decode cX11_sheet 84 = .ok (.iconst 0, 1) := by decide +kernel
theorem dX11_sheet_85 : decode cX11_sheet 85 = .ok (.bipush 99, 2) := by decide +kernel
theorem dX11_sheet_87 : decode cX11_sheet 87 = .ok (.invokestatic 209, 3) := by decide +kernel
theorem dX11_sheet_90 : decode cX11_sheet 90 = .ok (.goto 4, 3) := by decide +kernel
theorem dX11_sheet_93 : decode cX11_sheet 93 = .ok (.iconst 0, 1) := by decide +kernel
theorem dX11_sheet_94 : decode cX11_sheet 94 = .ok (.invokevirtual 112, 3) := by decide +kernel
theorem dX11_sheet_97 : decode cX11_sheet 97 = .ok (.iinc 5 1, 3) := by decide +kernel
theorem dX11_sheet_100 : decode cX11_sheet 100 = .ok (.goto (-68), 3) := by decide +kernel
theorem dX11_sheet_103 : decode cX11_sheet 103 = .ok (.iload_n 1, 1) := by decide +kernel
theorem dX11_sheet_104 : decode cX11_sheet 104 = .ok (.iconst 3, 1) := by decide +kernel
theorem dX11_sheet_105 : decode cX11_sheet 105 = .ok (.if_icmp .ne 8, 3) := by decide +kernel
theorem dX11_sheet_108 : decode cX11_sheet 108 = .ok (.bipush (-3), 2) := by decide +kernel
theorem dX11_sheet_110 : decode cX11_sheet 110 = .ok (.goto 10, 3) := by decide +kernel
theorem dX11_sheet_113 : decode cX11_sheet 113 = .ok (.aload_n 0, 1) := by decide +kernel
theorem dX11_sheet_114 : decode cX11_sheet 114 = .ok (.getfield 77, 3) := by decide +kernel
theorem dX11_sheet_117 : decode cX11_sheet 117 = .ok (.invokevirtual 213, 3) := by decide +kernel
theorem dX11_sheet_120 : decode cX11_sheet 120 = .ok (.ireturn, 1) := by decide +kernel
theorem dX11_narrowed_0 : decode cX11_narrowed 0 = .ok (.iload_n 0, 1) := by decide +kernel
theorem dX11_narrowed_1 : decode cX11_narrowed 1 = .ok (.ifCond .ne 6, 3) := by decide +kernel
theorem dX11_narrowed_4 : decode cX11_narrowed 4 = .ok (.iload_n 1, 1) := by decide +kernel
theorem dX11_narrowed_5 : decode cX11_narrowed 5 = .ok (.i2b, 1) := by decide +kernel
theorem dX11_narrowed_6 : decode cX11_narrowed 6 = .ok (.ireturn, 1) := by decide +kernel
theorem dX11_narrowed_7 : decode cX11_narrowed 7 = .ok (.iload_n 0, 1) := by decide +kernel
theorem dX11_narrowed_8 : decode cX11_narrowed 8 = .ok (.iconst 1, 1) := by decide +kernel
theorem dX11_narrowed_9 : decode cX11_narrowed 9 = .ok (.if_icmp .ne 8, 3) := by decide +kernel
theorem dX11_narrowed_12 : decode cX11_narrowed 12 = .ok (.iload_n 1, 1) := by decide +kernel
theorem dX11_narrowed_13 : decode cX11_narrowed 13 = .ok (.i2s, 1) := by decide +kernel
theorem dX11_narrowed_14 : decode cX11_narrowed 14 = .ok (.goto 4, 3) := by decide +kernel
theorem dX11_narrowed_17 : decode cX11_narrowed 17 = .ok (.iload_n 1, 1) := by decide +kernel
theorem dX11_narrowed_18 : decode cX11_narrowed 18 = .ok (.ireturn, 1) := by decide +kernel
theorem dX11_gives_0 : decode cX11_gives 0 = .ok (.aload_n 0, 1) := by decide +kernel
theorem dX11_gives_1 : decode cX11_gives 1 = .ok (.getfield 81, 3) := by decide +kernel
theorem dX11_gives_4 : decode cX11_gives 4 = .ok (.aload_n 0, 1) := by decide +kernel
theorem dX11_gives_5 : decode cX11_gives 5 = .ok (.getfield 77, 3) := by decide +kernel
theorem dX11_gives_8 : decode cX11_gives 8 = .ok (.invokevirtual 216, 3) := by decide +kernel
theorem dX11_gives_11 : decode cX11_gives 11 = .ok (.aload_n 0, 1) := by decide +kernel
theorem dX11_gives_12 : decode cX11_gives 12 = .ok (.aload_n 0, 1) := by decide +kernel
theorem dX11_gives_13 : decode cX11_gives 13 = .ok (.getfield 77, 3) := by decide +kernel
theorem dX11_gives_16 : decode cX11_gives 16 = .ok (.iload_n 1, 1) := by decide +kernel
theorem dX11_gives_17 : decode cX11_gives 17 = .ok (.iload_n 2, 1) := by decide +kernel
theorem dX11_gives_18 : decode cX11_gives 18 = .ok (.invokevirtual 220, 3) := by decide +kernel
theorem dX11_gives_21 : decode cX11_gives 21 = .ok (.invokevirtual 223, 3) := by decide +kernel
theorem dX11_gives_24 : decode cX11_gives 24 = .ok (.ireturn, 1) := by decide +kernel
theorem dX11_takesBack_0 : decode cX11_takesBack 0 = .ok (.aload_n 0, 1) := by decide +kernel
theorem dX11_takesBack_1 : decode cX11_takesBack 1 = .ok (.getfield 81, 3) := by decide +kernel
theorem dX11_takesBack_4 : decode cX11_takesBack 4 = .ok (.aload_n 0, 1) := by decide +kernel
theorem dX11_takesBack_5 : decode cX11_takesBack 5 = .ok (.getfield 77, 3) := by decide +kernel
theorem dX11_takesBack_8 : decode cX11_takesBack 8 = .ok (.invokevirtual 216, 3) := by decide +kernel
theorem dX11_takesBack_11 : decode cX11_takesBack 11 = .ok (.aload_n 0, 1) := by decide +kernel
theorem dX11_takesBack_12 : decode cX11_takesBack 12 = .ok (.aload_n 0, 1) := by decide +kernel
theorem dX11_takesBack_13 : decode cX11_takesBack 13 = .ok (.getfield 77, 3) := by decide +kernel
theorem dX11_takesBack_16 : decode cX11_takesBack 16 = .ok (.iload_n 1, 1) := by decide +kernel
theorem dX11_takesBack_17 : decode cX11_takesBack 17 = .ok (.iload_n 2, 1) := by decide +kernel
theorem dX11_takesBack_18 : decode cX11_takesBack 18 = .ok (.invokevirtual 226, 3) := by decide +kernel
theorem dX11_takesBack_21 : decode cX11_takesBack 21 = .ok (.invokevirtual 223, 3) := by decide +kernel
theorem dX11_takesBack_24 : decode cX11_takesBack 24 = .ok (.ireturn, 1) := by decide +kernel
theorem dX11_makes_0 : decode cX11_makes 0 = .ok (.aload_n 0, 1) := by decide +kernel
theorem dX11_makes_1 : decode cX11_makes 1 = .ok (.getfield 81, 3) := by decide +kernel
theorem dX11_makes_4 : decode cX11_makes 4 = .ok (.aload_n 0, 1) := by decide +kernel
theorem dX11_makes_5 : decode cX11_makes 5 = .ok (.getfield 77, 3) := by decide +kernel
theorem dX11_makes_8 : decode cX11_makes 8 = .ok (.invokevirtual 216, 3) := by decide +kernel
theorem dX11_makes_11 : decode cX11_makes 11 = .ok (.aload_n 0, 1) := by decide +kernel
theorem dX11_makes_12 : decode cX11_makes 12 = .ok (.aload_n 0, 1) := by decide +kernel
theorem dX11_makes_13 : decode cX11_makes 13 = .ok (.getfield 77, 3) := by decide +kernel
theorem dX11_makes_16 : decode cX11_makes 16 = .ok (.iload_n 1, 1) := by decide +kernel
theorem dX11_makes_17 : decode cX11_makes 17 = .ok (.iload_n 2, 1) := by decide +kernel
theorem dX11_makes_18 : decode cX11_makes 18 = .ok (.invokevirtual 229, 3) := by decide +kernel
theorem dX11_makes_21 : decode cX11_makes 21 = .ok (.invokevirtual 223, 3) := by decide +kernel
theorem dX11_makes_24 : decode cX11_makes 24 = .ok (.ireturn, 1) := by decide +kernel
theorem dX11_rememberedIfDone_0 : decode cX11_rememberedIfDone 0 = .ok (.iload_n 1, 1) := by decide +kernel
theorem dX11_rememberedIfDone_1 : decode cX11_rememberedIfDone 1 = .ok (.ifCond .lt 14, 3) := by decide +kernel
theorem dX11_rememberedIfDone_4 : decode cX11_rememberedIfDone 4 = .ok (.aload_n 0, 1) := by decide +kernel
theorem dX11_rememberedIfDone_5 : decode cX11_rememberedIfDone 5 = .ok (.getfield 45, 3) := by decide +kernel
theorem dX11_rememberedIfDone_8 : decode cX11_rememberedIfDone 8 = .ok (.aload_n 0, 1) := by decide +kernel
theorem dX11_rememberedIfDone_9 : decode cX11_rememberedIfDone 9 = .ok (.getfield 81, 3) := by decide +kernel
theorem dX11_rememberedIfDone_12 : decode cX11_rememberedIfDone 12 = .ok (.invokevirtual 232, 3) := by decide +kernel
theorem dX11_rememberedIfDone_15 : decode cX11_rememberedIfDone 15 = .ok (.iload_n 1, 1) := by decide +kernel
theorem dX11_rememberedIfDone_16 : decode cX11_rememberedIfDone 16 = .ok (.ireturn, 1) := by decide +kernel
theorem dX11_days_0 : decode cX11_days 0 = .ok (.iload_n 1, 1) := by decide +kernel
theorem dX11_days_1 : decode cX11_days 1 = .ok (.iconst 0, 1) := by decide +kernel
theorem dX11_days_2 : decode cX11_days 2 = .ok (.bipush 60, 2) := by decide +kernel
theorem dX11_days_4 : decode cX11_days 4 = .ok (.invokestatic 164, 3) := by decide +kernel
theorem dX11_days_7 : decode cX11_days 7 = .ok (.ifCond .ne 5, 3) := by decide +kernel
theorem dX11_days_10 : decode cX11_days 10 = .ok (.iconst (-1), 1) := by decide +kernel
theorem dX11_days_11 : decode cX11_days 11 = .ok (.ireturn, 1) := by decide +kernel
theorem dX11_days_12 : decode cX11_days 12 = .ok (.iload_n 1, 1) := by decide +kernel
theorem dX11_days_13 : decode cX11_days 13 = .ok (.ifCond .le 14, 3) := by decide +kernel
theorem dX11_days_16 : decode cX11_days 16 = .ok (.aload_n 0, 1) := by decide +kernel
theorem dX11_days_17 : decode cX11_days 17 = .ok (.getfield 45, 3) := by decide +kernel
theorem dX11_days_20 : decode cX11_days 20 = .ok (.aload_n 0, 1) := by decide +kernel
theorem dX11_days_21 : decode cX11_days 21 = .ok (.getfield 77, 3) := by decide +kernel
theorem dX11_days_24 : decode cX11_days 24 = .ok (.invokevirtual 232, 3) := by decide +kernel
theorem dX11_days_27 : decode cX11_days 27 = .ok (.aload_n 0, 1) := by decide +kernel
theorem dX11_days_28 : decode cX11_days 28 = .ok (.getfield 77, 3) := by decide +kernel
theorem dX11_days_31 : decode cX11_days 31 = .ok (.iload_n 1, 1) := by decide +kernel
theorem dX11_days_32 : decode cX11_days 32 = .ok (.aload_n 0, 1) := by decide +kernel
theorem dX11_days_33 : decode cX11_days 33 = .ok (.getfield 73, 3) := by decide +kernel
theorem dX11_days_36 : decode cX11_days 36 = .ok (.invokevirtual 235, 3) := by decide +kernel
theorem dX11_days_39 : decode cX11_days 39 = .ok (.invokevirtual 238, 3) := by decide +kernel
theorem dX11_days_42 : decode cX11_days 42 = .ok (.istore_n 2, 1) := by decide +kernel
theorem dX11_days_43 : decode cX11_days 43 = .ok (.aload_n 0, 1) := by decide +kernel
theorem dX11_days_44 : decode cX11_days 44 = .ok (.getfield 69, 3) := by decide +kernel
theorem dX11_days_47 : decode cX11_days 47 = .ok (.invokevirtual 242, 3) := by decide +kernel
theorem dX11_days_50 : decode cX11_days 50 = .ok (.aload_n 0, 1) := by decide +kernel
theorem dX11_days_51 : decode cX11_days 51 = .ok (.getfield 69, 3) := by decide +kernel
theorem dX11_days_54 : decode cX11_days 54 = .ok (.aload_n 0, 1) := by decide +kernel
theorem dX11_days_55 : decode cX11_days 55 = .ok (.getfield 77, 3) := by decide +kernel
theorem dX11_days_58 : decode cX11_days 58 = .ok (.invokevirtual 245, 3) := by decide +kernel
theorem dX11_days_61 : decode cX11_days 61 = .ok (.i2l, 1) := by decide +kernel
theorem dX11_days_62 : decode cX11_days 62 = .ok (.invokevirtual 248, 3) := by decide +kernel
theorem dX11_days_65 : decode cX11_days 65 = .ok (.aload_n 0, 1) := by decide +kernel
theorem dX11_days_66 : decode cX11_days 66 = .ok (.getfield 69, 3) := by decide +kernel
theorem dX11_days_69 : decode cX11_days 69 = .ok (.iload_n 2, 1) := by decide +kernel
theorem dX11_days_70 : decode cX11_days 70 = .ok (.i2l, 1) := by decide +kernel
theorem dX11_days_71 : decode cX11_days 71 = .ok (.invokevirtual 248, 3) := by decide +kernel
theorem dX11_days_74 : decode cX11_days 74 = .ok (.aload_n 0, 1) := by decide +kernel
theorem dX11_days_75 : decode cX11_days 75 = .ok (.getfield 77, 3) := by decide +kernel
theorem dX11_days_78 : decode cX11_days 78 = .ok (.invokevirtual 251, 3) := by decide +kernel
theorem dX11_days_81 : decode cX11_days 81 = .ok (.ireturn, 1) := by decide +kernel
theorem dX11_year_0 : decode cX11_year 0 = .ok (.aload_n 0, 1) := by decide +kernel
theorem dX11_year_1 : decode cX11_year 1 = .ok (.invokevirtual 254, 3) := by decide +kernel
theorem dX11_year_4 : decode cX11_year 4 = .ok (.istore_n 1, 1) := by decide +kernel
theorem dX11_year_5 : decode cX11_year 5 = .ok (.aload_n 0, 1) := by decide +kernel
theorem dX11_year_6 : decode cX11_year 6 = .ok (.getfield 10, 3) := by decide +kernel
theorem dX11_year_9 : decode cX11_year 9 = .ok (.iconst 0, 1) := by decide +kernel
theorem dX11_year_10 : decode cX11_year 10 = .ok (.invokevirtual 92, 3) := by decide +kernel
theorem dX11_year_13 : decode cX11_year 13 = .ok (.pop, 1) := by decide +kernel
theorem dX11_year_14 : decode cX11_year 14 = .ok (.iload_n 1, 1) := by decide +kernel
theorem dX11_year_15 : decode cX11_year 15 = .ok (.ireturn, 1) := by decide +kernel
theorem dX11_readYear_0 : decode cX11_readYear 0 = .ok (.aload_n 0, 1) := by decide +kernel
theorem dX11_readYear_1 : decode cX11_readYear 1 = .ok (.getfield 10, 3) := by decide +kernel
theorem dX11_readYear_4 : decode cX11_readYear 4 = .ok (.invokevirtual 88, 3) := by decide +kernel
theorem dX11_readYear_7 : decode cX11_readYear 7 = .ok (.ifCond .ne 7, 3) := by decide +kernel
theorem dX11_readYear_10 : decode cX11_readYear 10 = .ok (.iconst (-1), 1) := by decide +kernel
theorem dX11_readYear_11 : decode cX11_readYear 11 = .ok (.goto 15, 3) := by decide +kernel
theorem dX11_readYear_14 : decode cX11_readYear 14 = .ok (.aload_n 0, 1) := by decide +kernel
theorem dX11_readYear_15 : decode cX11_readYear 15 = .ok (.getfield 38, 3) := by decide +kernel
theorem dX11_readYear_18 : decode cX11_readYear 18 = .ok (.aload_n 0, 1) := by decide +kernel
theorem dX11_readYear_19 : decode cX11_readYear 19 = .ok (.getfield 10, 3) := by decide +kernel
theorem dX11_readYear_22 : decode cX11_readYear 22 = .ok (.iconst 0, 1) := by decide +kernel
theorem dX11_readYear_23 : decode cX11_readYear 23 = .ok (.invokevirtual 257, 3) := by decide +kernel
theorem dX11_readYear_26 : decode cX11_readYear 26 = .ok (.istore_n 1, 1) := by decide +kernel
theorem dX11_readYear_27 : decode cX11_readYear 27 = .ok (.iload_n 1, 1) := by decide +kernel
theorem dX11_readYear_28 : decode cX11_readYear 28 = .ok (.iconst (-1), 1) := by decide +kernel
theorem dX11_readYear_29 : decode cX11_readYear 29 = .ok (.if_icmp .eq 7, 3) := by decide +kernel
theorem dX11_readYear_32 : decode cX11_readYear 32 = .ok (.iconst (-1), 1) := by decide +kernel
theorem dX11_readYear_33 : decode cX11_readYear 33 = .ok (.iload_n 1, 1) := by decide +kernel
theorem dX11_readYear_34 : decode cX11_readYear 34 = .ok (.isub, 1) := by decide +kernel
theorem dX11_readYear_35 : decode cX11_readYear 35 = .ok (.ireturn, 1) := by decide +kernel
theorem dX11_readYear_36 : decode cX11_readYear 36 = .ok (.aload_n 0, 1) := by decide +kernel
theorem dX11_readYear_37 : decode cX11_readYear 37 = .ok (.getfield 81, 3) := by decide +kernel
theorem dX11_readYear_40 : decode cX11_readYear 40 = .ok (.aload_n 0, 1) := by decide +kernel
theorem dX11_readYear_41 : decode cX11_readYear 41 = .ok (.getfield 77, 3) := by decide +kernel
theorem dX11_readYear_44 : decode cX11_readYear 44 = .ok (.invokevirtual 216, 3) := by decide +kernel
theorem dX11_readYear_47 : decode cX11_readYear 47 = .ok (.iconst 0, 1) := by decide +kernel
theorem dX11_readYear_48 : decode cX11_readYear 48 = .ok (.istore_n 2, 1) := by decide +kernel
theorem dX11_readYear_49 : decode cX11_readYear 49 = .ok (.iconst 0, 1) := by decide +kernel
theorem dX11_readYear_50 : decode cX11_readYear 50 = .ok (.istore_n 3, 1) := by decide +kernel
theorem dX11_readYear_51 : decode cX11_readYear 51 = .ok (.iconst 1, 1) := by decide +kernel
theorem dX11_readYear_52 : decode cX11_readYear 52 = .ok (.istore 4, 2) := by decide +kernel
theorem dX11_readYear_54 : decode cX11_readYear 54 = .ok (.iload 4, 2) := by decide +kernel
theorem dX11_readYear_56 : decode cX11_readYear 56 = .ok (.ifCond .eq 66, 3) := by decide +kernel
theorem dX11_readYear_59 : decode cX11_readYear 59 = .ok (.iload_n 3, 1) := by decide +kernel
theorem dX11_readYear_60 : decode cX11_readYear 60 = .ok (.aload_n 0, 1) := by decide +kernel
theorem dX11_readYear_61 : decode cX11_readYear 61 = .ok (.getfield 10, 3) := by decide +kernel
theorem dX11_readYear_64 : decode cX11_readYear 64 = .ok (.invokevirtual 88, 3) := by decide +kernel
theorem dX11_readYear_67 : decode cX11_readYear 67 = .ok (.if_icmp .ge 55, 3) := by decide +kernel
theorem dX11_readYear_70 : decode cX11_readYear 70 = .ok (.aload_n 0, 1) := by decide +kernel
theorem dX11_readYear_71 : decode cX11_readYear 71 = .ok (.iload_n 3, 1) := by decide +kernel
theorem dX11_readYear_72 : decode cX11_readYear 72 = .ok (.invokevirtual 258, 3) := by decide +kernel
theorem dX11_readYear_75 : decode cX11_readYear 75 = .ok (.ifCond .lt 7, 3) := by decide +kernel
theorem dX11_readYear_78 : decode cX11_readYear 78 = .ok (.iconst 1, 1) := by decide +kernel
theorem dX11_readYear_79 : decode cX11_readYear 79 = .ok (.goto 4, 3) := by decide +kernel
theorem dX11_readYear_82 : decode cX11_readYear 82 = .ok (.iconst 0, 1) := by decide +kernel
theorem dX11_readYear_83 : decode cX11_readYear 83 = .ok (.istore 4, 2) := by decide +kernel
theorem dX11_readYear_85 : decode cX11_readYear 85 = .ok (.iload_n 2, 1) := by decide +kernel
theorem dX11_readYear_86 : decode cX11_readYear 86 = .ok (.iload 4, 2) := by decide +kernel
theorem dX11_readYear_88 : decode cX11_readYear 88 = .ok (.ifCond .eq 7, 3) := by decide +kernel
theorem dX11_readYear_91 : decode cX11_readYear 91 = .ok (.iconst 1, 1) := by decide +kernel
theorem dX11_readYear_92 : decode cX11_readYear 92 = .ok (.goto 4, 3) := by decide +kernel
theorem dX11_readYear_95 : decode cX11_readYear 95 = .ok (.iconst 0, 1) := by decide +kernel
theorem dX11_readYear_96 : decode cX11_readYear 96 = .ok (.iadd, 1) := by decide +kernel
theorem dX11_readYear_97 : decode cX11_readYear 97 = .ok (.istore_n 2, 1) := by decide +kernel
theorem dX11_readYear_98 : decode cX11_readYear 98 = .ok (.iload_n 3, 1) := by decide +kernel
theorem dX11_readYear_99 : decode cX11_readYear 99 = .ok (.aload_n 0, 1) := by decide +kernel
theorem dX11_readYear_100 : decode cX11_readYear 100 = .ok (.getfield 10, 3) := by decide +kernel
theorem dX11_readYear_103 : decode cX11_readYear 103 = .ok (.iload_n 3, 1) := by decide +kernel
theorem dX11_readYear_104 : decode cX11_readYear 104 = .ok (.invokevirtual 261, 3) := by decide +kernel
theorem dX11_readYear_107 : decode cX11_readYear 107 = .ok (.bipush 100, 2) := by decide +kernel
theorem dX11_readYear_109 : decode cX11_readYear 109 = .ok (.if_icmp .ne 7, 3) := by decide +kernel
theorem dX11_readYear_112 : decode cX11_readYear 112 = .ok (.iconst 2, 1) := by decide +kernel
theorem dX11_readYear_113 : decode cX11_readYear 113 = .ok (.goto 4, 3) := by decide +kernel
theorem dX11_readYear_116 : decode cX11_readYear 116 = .ok (.iconst 3, 1) := by decide +kernel
theorem dX11_readYear_117 : decode cX11_readYear 117 = .ok (.iadd, 1) := by decide +kernel
theorem dX11_readYear_118 : decode cX11_readYear 118 = .ok (.istore_n 3, 1) := by decide +kernel
theorem dX11_readYear_119 : decode cX11_readYear 119 = .ok (.goto (-65), 3) := by decide +kernel
theorem dX11_readYear_122 : decode cX11_readYear 122 = .ok (.iload_n 2, 1) := by decide +kernel
theorem dX11_readYear_123 : decode cX11_readYear 123 = .ok (.ifCond .le 14, 3) := by decide +kernel
theorem dX11_readYear_126 : decode cX11_readYear 126 = .ok (.aload_n 0, 1) := by decide +kernel
theorem dX11_readYear_127 : decode cX11_readYear 127 = .ok (.getfield 45, 3) := by decide +kernel
theorem dX11_readYear_130 : decode cX11_readYear 130 = .ok (.aload_n 0, 1) := by decide +kernel
theorem dX11_readYear_131 : decode cX11_readYear 131 = .ok (.getfield 81, 3) := by decide +kernel
theorem dX11_readYear_134 : decode cX11_readYear 134 = .ok (.invokevirtual 232, 3) := by decide +kernel
theorem dX11_readYear_137 : decode cX11_readYear 137 = .ok (.aload_n 0, 1) := by decide +kernel
theorem dX11_readYear_138 : decode cX11_readYear 138 = .ok (.getfield 69, 3) := by decide +kernel
theorem dX11_readYear_141 : decode cX11_readYear 141 = .ok (.invokevirtual 242, 3) := by decide +kernel
theorem dX11_readYear_144 : decode cX11_readYear 144 = .ok (.aload_n 0, 1) := by decide +kernel
theorem dX11_readYear_145 : decode cX11_readYear 145 = .ok (.getfield 69, 3) := by decide +kernel
theorem dX11_readYear_148 : decode cX11_readYear 148 = .ok (.iload 4, 2) := by decide +kernel
theorem dX11_readYear_150 : decode cX11_readYear 150 = .ok (.ifCond .eq 7, 3) := by decide +kernel
theorem dX11_readYear_153 : decode cX11_readYear 153 = .ok (.lconst 0, 1) := by decide +kernel
theorem dX11_readYear_154 : decode cX11_readYear 154 = .ok (.goto 4, 3) := by decide +kernel
theorem dX11_readYear_157 : decode cX11_readYear 157 = .ok (.lconst 1, 1) := by decide +kernel
theorem dX11_readYear_158 : decode cX11_readYear 158 = .ok (.invokevirtual 248, 3) := by decide +kernel
theorem dX11_readYear_161 : decode cX11_readYear 161 = .ok (.aload_n 0, 1) := by decide +kernel
theorem dX11_readYear_162 : decode cX11_readYear 162 = .ok (.getfield 69, 3) := by decide +kernel
theorem dX11_readYear_165 : decode cX11_readYear 165 = .ok (.aload_n 0, 1) := by decide +kernel
theorem dX11_readYear_166 : decode cX11_readYear 166 = .ok (.getfield 77, 3) := by decide +kernel
theorem dX11_readYear_169 : decode cX11_readYear 169 = .ok (.invokevirtual 251, 3) := by decide +kernel
theorem dX11_readYear_172 : decode cX11_readYear 172 = .ok (.i2l, 1) := by decide +kernel
theorem dX11_readYear_173 : decode cX11_readYear 173 = .ok (.invokevirtual 248, 3) := by decide +kernel
theorem dX11_readYear_176 : decode cX11_readYear 176 = .ok (.iload_n 2, 1) := by decide +kernel
theorem dX11_readYear_177 : decode cX11_readYear 177 = .ok (.ireturn, 1) := by decide +kernel
theorem dX11_act_0 : decode cX11_act 0 = .ok (.aload_n 0, 1) := by decide +kernel
theorem dX11_act_1 : decode cX11_act 1 = .ok (.getfield 10, 3) := by decide +kernel
theorem dX11_act_4 : decode cX11_act 4 = .ok (.iload_n 1, 1) := by decide +kernel
theorem dX11_act_5 : decode cX11_act 5 = .ok (.iconst 1, 1) := by decide +kernel
theorem dX11_act_6 : decode cX11_act 6 = .ok (.iadd, 1) := by decide +kernel
theorem dX11_act_7 : decode cX11_act 7 = .ok (.invokevirtual 108, 3) := by decide +kernel
theorem dX11_act_10 : decode cX11_act 10 = .ok (.istore_n 2, 1) := by decide +kernel
theorem dX11_act_11 : decode cX11_act 11 = .ok (.aload_n 0, 1) := by decide +kernel
theorem dX11_act_12 : decode cX11_act 12 = .ok (.getfield 10, 3) := by decide +kernel
theorem dX11_act_15 : decode cX11_act 15 = .ok (.iload_n 1, 1) := by decide +kernel
