theorem dX9_init_0 : decode cX9_init 0 = .ok (.aload_n 0, 1) := by decide +kernel
theorem dX9_init_1 : decode cX9_init 1 = .ok (.invokespecial 3, 3) := by decide +kernel
theorem dX9_init_4 : decode cX9_init 4 = .ok (.aload_n 0, 1) := by decide +kernel
theorem dX9_init_5 : decode cX9_init 5 = .ok (.new 9, 3) := by decide +kernel
theorem dX9_init_8 : decode cX9_init 8 = .ok (.dup, 1) := by decide +kernel
theorem dX9_init_9 : decode cX9_init 9 = .ok (.invokespecial 11, 3) := by decide +kernel
theorem dX9_init_12 : decode cX9_init 12 = .ok (.putfield 12, 3) := by decide +kernel
theorem dX9_init_15 : decode cX9_init 15 = .ok (.aload_n 0, 1) := by decide +kernel
theorem dX9_init_16 : decode cX9_init 16 = .ok (.new 9, 3) := by decide +kernel
theorem dX9_init_19 : decode cX9_init 19 = .ok (.dup, 1) := by decide +kernel
theorem dX9_init_20 : decode cX9_init 20 = .ok (.invokespecial 11, 3) := by decide +kernel
theorem dX9_init_23 : decode cX9_init 23 = .ok (.putfield 16, 3) := by decide +kernel
theorem dX9_init_26 : decode cX9_init 26 = .ok (.aload_n 0, 1) := by decide +kernel
theorem dX9_init_27 : decode cX9_init 27 = .ok (.new 9, 3) := by decide +kernel
theorem dX9_init_30 : decode cX9_init 30 = .ok (.dup, 1) := by decide +kernel
theorem dX9_init_31 : decode cX9_init 31 = .ok (.invokespecial 11, 3) := by decide +kernel
theorem dX9_init_34 : decode cX9_init 34 = .ok (.putfield 19, 3) := by decide +kernel
theorem dX9_init_37 : decode cX9_init 37 = .ok (.aload_n 0, 1) := by decide +kernel
theorem dX9_init_38 : decode cX9_init 38 = .ok (.new 9, 3) := by decide +kernel
theorem dX9_init_41 : decode cX9_init 41 = .ok (.dup, 1) := by decide +kernel
theorem dX9_init_42 : decode cX9_init 42 = .ok (.invokespecial 11, 3) := by decide +kernel
theorem dX9_init_45 : decode cX9_init 45 = .ok (.putfield 22, 3) := by decide +kernel
theorem dX9_init_48 : decode cX9_init 48 = .ok (.aload_n 0, 1) := by decide +kernel
theorem dX9_init_49 : decode cX9_init 49 = .ok (.bipush 8, 2) := by decide +kernel
theorem dX9_init_51 : decode cX9_init 51 = .ok (.newarray .boolean, 2) := by decide +kernel
theorem dX9_init_53 : decode cX9_init 53 = .ok (.putfield 25, 3) := by decide +kernel
theorem dX9_init_56 : decode cX9_init 56 = .ok (.aload_n 0, 1) := by decide +kernel
theorem dX9_init_57 : decode cX9_init 57 = .ok (.sipush 400, 3) := by decide +kernel
theorem dX9_init_60 : decode cX9_init 60 = .ok (.newarray .char, 2) := by decide +kernel
theorem dX9_init_62 : decode cX9_init 62 = .ok (.putfield 29, 3) := by decide +kernel
theorem dX9_init_65 : decode cX9_init 65 = .ok (.aload_n 0, 1) := by decide +kernel
theorem dX9_init_66 : decode cX9_init 66 = .ok (.iconst 0, 1) := by decide +kernel
theorem dX9_init_67 : decode cX9_init 67 = .ok (.putfield 33, 3) := by decide +kernel
theorem dX9_init_70 : decode cX9_init 70 = .ok (.aload_n 0, 1) := by decide +kernel
theorem dX9_init_71 : decode cX9_init 71 = .ok (.iconst 0, 1) := by decide +kernel
theorem dX9_init_72 : decode cX9_init 72 = .ok (.putfield 37, 3) := by decide +kernel
theorem dX9_init_75 : decode cX9_init 75 = .ok (.aload_n 0, 1) := by decide +kernel
theorem dX9_init_76 : decode cX9_init 76 = .ok (.iconst (-1), 1) := by decide +kernel
theorem dX9_init_77 : decode cX9_init 77 = .ok (.putfield 40, 3) := by decide +kernel
theorem dX9_init_80 : decode cX9_init 80 = .ok (.aload_n 0, 1) := by decide +kernel
theorem dX9_init_81 : decode cX9_init 81 = .ok (.iconst 0, 1) := by decide +kernel
theorem dX9_init_82 : decode cX9_init 82 = .ok (.putfield 43, 3) := by decide +kernel
theorem dX9_init_85 : decode cX9_init 85 = .ok (.aload_n 0, 1) := by decide +kernel
theorem dX9_init_86 : decode cX9_init 86 = .ok (.iconst 0, 1) := by decide +kernel
theorem dX9_init_87 : decode cX9_init 87 = .ok (.putfield 46, 3) := by decide +kernel
theorem dX9_init_90 : decode cX9_init 90 = .ok (.aload_n 0, 1) := by decide +kernel
theorem dX9_init_91 : decode cX9_init 91 = .ok (.iconst (-1), 1) := by decide +kernel
theorem dX9_init_92 : decode cX9_init 92 = .ok (.putfield 49, 3) := by decide +kernel
theorem dX9_init_95 : decode cX9_init 95 = .ok (.aload_n 0, 1) := by decide +kernel
theorem dX9_init_96 : decode cX9_init 96 = .ok (.new 52, 3) := by decide +kernel
theorem dX9_init_99 : decode cX9_init 99 = .ok (.dup, 1) := by decide +kernel
theorem dX9_init_100 : decode cX9_init 100 = .ok (.invokespecial 54, 3) := by decide +kernel
theorem dX9_init_103 : decode cX9_init 103 = .ok (.putfield 55, 3) := by decide +kernel
theorem dX9_init_106 : decode cX9_init 106 = .ok (.aload_n 0, 1) := by decide +kernel
theorem dX9_init_107 : decode cX9_init 107 = .ok (.new 59, 3) := by decide +kernel
theorem dX9_init_110 : decode cX9_init 110 = .ok (.dup, 1) := by decide +kernel
theorem dX9_init_111 : decode cX9_init 111 = .ok (.invokespecial 61, 3) := by decide +kernel
theorem dX9_init_114 : decode cX9_init 114 = .ok (.putfield 62, 3) := by decide +kernel
theorem dX9_init_117 : decode cX9_init 117 = .ok (.aload_n 0, 1) := by decide +kernel
theorem dX9_init_118 : decode cX9_init 118 = .ok (.bipush 32, 2) := by decide +kernel
theorem dX9_init_120 : decode cX9_init 120 = .ok (.newarray .int, 2) := by decide +kernel
theorem dX9_init_122 : decode cX9_init 122 = .ok (.putfield 66, 3) := by decide +kernel
theorem dX9_init_125 : decode cX9_init 125 = .ok (.aload_n 0, 1) := by decide +kernel
theorem dX9_init_126 : decode cX9_init 126 = .ok (.bipush 32, 2) := by decide +kernel
theorem dX9_init_128 : decode cX9_init 128 = .ok (.newarray .int, 2) := by decide +kernel
theorem dX9_init_130 : decode cX9_init 130 = .ok (.putfield 70, 3) := by decide +kernel
theorem dX9_init_133 : decode cX9_init 133 = .ok (.aload_n 0, 1) := by decide +kernel
theorem dX9_init_134 : decode cX9_init 134 = .ok (.sipush 401, 3) := by decide +kernel
theorem dX9_init_137 : decode cX9_init 137 = .ok (.newarray .int, 2) := by decide +kernel
theorem dX9_init_139 : decode cX9_init 139 = .ok (.putfield 73, 3) := by decide +kernel
theorem dX9_init_142 : decode cX9_init 142 = .ok (.aload_n 0, 1) := by decide +kernel
theorem dX9_init_143 : decode cX9_init 143 = .ok (.aconst_null, 1) := by decide +kernel
theorem dX9_init_144 : decode cX9_init 144 = .ok (.putfield 76, 3) := by decide +kernel
theorem dX9_init_147 : decode cX9_init 147 = .ok (.return_, 1) := by decide +kernel
theorem dX9_person_0 : decode cX9_person 0 = .ok (.iload_n 1, 1) := by decide +kernel
theorem dX9_person_1 : decode cX9_person 1 = .ok (.ifCond .lt 22, 3) := by decide +kernel
theorem dX9_person_4 : decode cX9_person 4 = .ok (.iload_n 1, 1) := by decide +kernel
theorem dX9_person_5 : decode cX9_person 5 = .ok (.iconst 4, 1) := by decide +kernel
theorem dX9_person_6 : decode cX9_person 6 = .ok (.if_icmp .ge 17, 3) := by decide +kernel
theorem dX9_person_9 : decode cX9_person 9 = .ok (.iload_n 2, 1) := by decide +kernel
theorem dX9_person_10 : decode cX9_person 10 = .ok (.ifCond .lt 13, 3) := by decide +kernel
theorem dX9_person_13 : decode cX9_person 13 = .ok (.iload_n 2, 1) := by decide +kernel
theorem dX9_person_14 : decode cX9_person 14 = .ok (.bipush 8, 2) := by decide +kernel
theorem dX9_person_16 : decode cX9_person 16 = .ok (.if_icmp .ge 7, 3) := by decide +kernel
theorem dX9_person_19 : decode cX9_person 19 = .ok (.iconst 1, 1) := by decide +kernel
theorem dX9_person_20 : decode cX9_person 20 = .ok (.goto 4, 3) := by decide +kernel
theorem dX9_person_23 : decode cX9_person 23 = .ok (.iconst 0, 1) := by decide +kernel
theorem dX9_person_24 : decode cX9_person 24 = .ok (.istore 4, 2) := by decide +kernel
theorem dX9_person_26 : decode cX9_person 26 = .ok (.iload 4, 2) := by decide +kernel
theorem dX9_person_28 : decode cX9_person 28 = .ok (.ifCond .eq 29, 3) := by decide +kernel
theorem dX9_person_31 : decode cX9_person 31 = .ok (.iload_n 3, 1) := by decide +kernel
theorem dX9_person_32 : decode cX9_person 32 = .ok (.bipush (-90), 2) := by decide +kernel
theorem dX9_person_34 : decode cX9_person 34 = .ok (.if_icmp .lt 23, 3) := by decide +kernel
theorem dX9_person_37 : decode cX9_person 37 = .ok (.iload_n 3, 1) := by decide +kernel
theorem dX9_person_38 : decode cX9_person 38 = .ok (.aload_n 0, 1) := by decide +kernel
theorem dX9_person_39 : decode cX9_person 39 = .ok (.getfield 37, 3) := by decide +kernel
theorem dX9_person_42 : decode cX9_person 42 = .ok (.if_icmp .gt 15, 3) := by decide +kernel
theorem dX9_person_45 : decode cX9_person 45 = .ok (.aload_n 0, 1) := by decide +kernel
theorem dX9_person_46 : decode cX9_person 46 = .ok (.getfield 12, 3) := by decide +kernel
theorem dX9_person_49 : decode cX9_person 49 = .ok (.invokevirtual 80, 3) := by decide +kernel
theorem dX9_person_52 : decode cX9_person 52 = .ok (.bipush 24, 2) := by decide +kernel
theorem dX9_person_54 : decode cX9_person 54 = .ok (.if_icmp .lt 5, 3) := by decide +kernel
theorem dX9_person_57 : decode cX9_person 57 = .ok (.iconst (-1), 1) := by decide +kernel
theorem dX9_person_58 : decode cX9_person 58 = .ok (.ireturn, 1) := by decide +kernel
theorem dX9_person_59 : decode cX9_person 59 = .ok (.aload_n 0, 1) := by decide +kernel
theorem dX9_person_60 : decode cX9_person 60 = .ok (.getfield 12, 3) := by decide +kernel
theorem dX9_person_63 : decode cX9_person 63 = .ok (.new 84, 3) := by decide +kernel
theorem dX9_person_66 : decode cX9_person 66 = .ok (.dup, 1) := by decide +kernel
theorem dX9_person_67 : decode cX9_person 67 = .ok (.iload_n 1, 1) := by decide +kernel
theorem dX9_person_68 : decode cX9_person 68 = .ok (.iload_n 2, 1) := by decide +kernel
theorem dX9_person_69 : decode cX9_person 69 = .ok (.iload_n 3, 1) := by decide +kernel
theorem dX9_person_70 : decode cX9_person 70 = .ok (.invokespecial 86, 3) := by decide +kernel
theorem dX9_person_73 : decode cX9_person 73 = .ok (.invokevirtual 89, 3) := by decide +kernel
theorem dX9_person_76 : decode cX9_person 76 = .ok (.pop, 1) := by decide +kernel
theorem dX9_person_77 : decode cX9_person 77 = .ok (.aload_n 0, 1) := by decide +kernel
theorem dX9_person_78 : decode cX9_person 78 = .ok (.getfield 12, 3) := by decide +kernel
theorem dX9_person_81 : decode cX9_person 81 = .ok (.invokevirtual 80, 3) := by decide +kernel
theorem dX9_person_84 : decode cX9_person 84 = .ok (.iconst 1, 1) := by decide +kernel
theorem dX9_person_85 : decode cX9_person 85 = .ok (.isub, 1) := by decide +kernel
theorem dX9_person_86 : decode cX9_person 86 = .ok (.ireturn, 1) := by decide +kernel
theorem dX9_dies_0 : decode cX9_dies 0 = .ok (.aload_n 0, 1) := by decide +kernel
theorem dX9_dies_1 : decode cX9_dies 1 = .ok (.iload_n 1, 1) := by decide +kernel
theorem dX9_dies_2 : decode cX9_dies 2 = .ok (.invokevirtual 93, 3) := by decide +kernel
theorem dX9_dies_5 : decode cX9_dies 5 = .ok (.astore_n 2, 1) := by decide +kernel
theorem dX9_dies_6 : decode cX9_dies 6 = .ok (.aload_n 2, 1) := by decide +kernel
theorem dX9_dies_7 : decode cX9_dies 7 = .ok (.ifnonnull 5, 3) := by decide +kernel
theorem dX9_dies_10 : decode cX9_dies 10 = .ok (.iconst 0, 1) := by decide +kernel
theorem dX9_dies_11 : decode cX9_dies 11 = .ok (.ireturn, 1) := by decide +kernel
theorem dX9_dies_12 : decode cX9_dies 12 = .ok (.aload_n 2, 1) := by decide +kernel
theorem dX9_dies_13 : decode cX9_dies 13 = .ok (.aload_n 0, 1) := by decide +kernel
theorem dX9_dies_14 : decode cX9_dies 14 = .ok (.getfield 37, 3) := by decide +kernel
theorem dX9_dies_17 : decode cX9_dies 17 = .ok (.putfield 97, 3) := by decide +kernel
theorem dX9_dies_20 : decode cX9_dies 20 = .ok (.iconst 1, 1) := by decide +kernel
theorem dX9_dies_21 : decode cX9_dies 21 = .ok (.ireturn, 1) := by decide +kernel
theorem dX9_holds_0 : decode cX9_holds 0 = .ok (.iload_n 1, 1) := by decide +kernel
theorem dX9_holds_1 : decode cX9_holds 1 = .ok (.ifCond .lt 12, 3) := by decide +kernel
theorem dX9_holds_4 : decode cX9_holds 4 = .ok (.iload_n 1, 1) := by decide +kernel
theorem dX9_holds_5 : decode cX9_holds 5 = .ok (.aload_n 0, 1) := by decide +kernel
theorem dX9_holds_6 : decode cX9_holds 6 = .ok (.getfield 25, 3) := by decide +kernel
theorem dX9_holds_9 : decode cX9_holds 9 = .ok (.arraylength, 1) := by decide +kernel
theorem dX9_holds_10 : decode cX9_holds 10 = .ok (.if_icmp .lt 5, 3) := by decide +kernel
theorem dX9_holds_13 : decode cX9_holds 13 = .ok (.iconst 0, 1) := by decide +kernel
theorem dX9_holds_14 : decode cX9_holds 14 = .ok (.ireturn, 1) := by decide +kernel
theorem dX9_holds_15 : decode cX9_holds 15 = .ok (.aload_n 0, 1) := by decide +kernel
theorem dX9_holds_16 : decode cX9_holds 16 = .ok (.getfield 25, 3) := by decide +kernel
theorem dX9_holds_19 : decode cX9_holds 19 = .ok (.iload_n 1, 1) := by decide +kernel
theorem dX9_holds_20 : decode cX9_holds 20 = .ok (.iload_n 2, 1) := by decide +kernel
theorem dX9_holds_21 : decode cX9_holds 21 = .ok (.bastore, 1) := by decide +kernel
theorem dX9_holds_22 : decode cX9_holds 22 = .ok (.iconst 1, 1) := by decide +kernel
theorem dX9_holds_23 : decode cX9_holds 23 = .ok (.ireturn, 1) := by decide +kernel
theorem dX9_away_0 : decode cX9_away 0 = .ok (.aload_n 0, 1) := by decide +kernel
theorem dX9_away_1 : decode cX9_away 1 = .ok (.iload_n 1, 1) := by decide +kernel
theorem dX9_away_2 : decode cX9_away 2 = .ok (.invokevirtual 93, 3) := by decide +kernel
theorem dX9_away_5 : decode cX9_away 5 = .ok (.astore_n 2, 1) := by decide +kernel
theorem dX9_away_6 : decode cX9_away 6 = .ok (.aload_n 2, 1) := by decide +kernel
theorem dX9_away_7 : decode cX9_away 7 = .ok (.ifnull 10, 3) := by decide +kernel
theorem dX9_away_10 : decode cX9_away 10 = .ok (.aload_n 2, 1) := by decide +kernel
theorem dX9_away_11 : decode cX9_away 11 = .ok (.getfield 100, 3) := by decide +kernel
theorem dX9_away_14 : decode cX9_away 14 = .ok (.ifCond .eq 5, 3) := by decide +kernel
theorem dX9_away_17 : decode cX9_away 17 = .ok (.iconst 0, 1) := by decide +kernel
theorem dX9_away_18 : decode cX9_away 18 = .ok (.ireturn, 1) := by decide +kernel
theorem dX9_away_19 : decode cX9_away 19 = .ok (.aload_n 2, 1) := by decide +kernel
theorem dX9_away_20 : decode cX9_away 20 = .ok (.iconst 1, 1) := by decide +kernel
theorem dX9_away_21 : decode cX9_away 21 = .ok (.putfield 100, 3) := by decide +kernel
theorem dX9_away_24 : decode cX9_away 24 = .ok (.iconst 1, 1) := by decide +kernel
theorem dX9_away_25 : decode cX9_away 25 = .ok (.ireturn, 1) := by decide +kernel
theorem dX9_speaker_0 : decode cX9_speaker 0 = .ok (.iload_n 1, 1) := by decide +kernel
theorem dX9_speaker_1 : decode cX9_speaker 1 = .ok (.iconst (-1), 1) := by decide +kernel
theorem dX9_speaker_2 : decode cX9_speaker 2 = .ok (.if_icmp .eq 13, 3) := by decide +kernel
theorem dX9_speaker_5 : decode cX9_speaker 5 = .ok (.aload_n 0, 1) := by decide +kernel
theorem dX9_speaker_6 : decode cX9_speaker 6 = .ok (.iload_n 1, 1) := by decide +kernel
theorem dX9_speaker_7 : decode cX9_speaker 7 = .ok (.invokevirtual 93, 3) := by decide +kernel
theorem dX9_speaker_10 : decode cX9_speaker 10 = .ok (.ifnonnull 5, 3) := by decide +kernel
theorem dX9_speaker_13 : decode cX9_speaker 13 = .ok (.iconst 0, 1) := by decide +kernel
theorem dX9_speaker_14 : decode cX9_speaker 14 = .ok (.ireturn, 1) := by decide +kernel
theorem dX9_speaker_15 : decode cX9_speaker 15 = .ok (.aload_n 0, 1) := by decide +kernel
theorem dX9_speaker_16 : decode cX9_speaker 16 = .ok (.iload_n 1, 1) := by decide +kernel
theorem dX9_speaker_17 : decode cX9_speaker 17 = .ok (.putfield 40, 3) := by decide +kernel
theorem dX9_speaker_20 : decode cX9_speaker 20 = .ok (.iconst 1, 1) := by decide +kernel
theorem dX9_speaker_21 : decode cX9_speaker 21 = .ok (.ireturn, 1) := by decide +kernel
theorem dX9_way_0 : decode cX9_way 0 = .ok (.iload_n 1, 1) := by decide +kernel
theorem dX9_way_1 : decode cX9_way 1 = .ok (.ifCond .lt 8, 3) := by decide +kernel
theorem dX9_way_4 : decode cX9_way 4 = .ok (.iload_n 1, 1) := by decide +kernel
theorem dX9_way_5 : decode cX9_way 5 = .ok (.iconst 2, 1) := by decide +kernel
theorem dX9_way_6 : decode cX9_way 6 = .ok (.if_icmp .le 5, 3) := by decide +kernel
theorem dX9_way_9 : decode cX9_way 9 = .ok (.iconst 0, 1) := by decide +kernel
theorem dX9_way_10 : decode cX9_way 10 = .ok (.ireturn, 1) := by decide +kernel
theorem dX9_way_11 : decode cX9_way 11 = .ok (.aload_n 0, 1) := by decide +kernel
theorem dX9_way_12 : decode cX9_way 12 = .ok (.iload_n 1, 1) := by decide +kernel
theorem dX9_way_13 : decode cX9_way 13 = .ok (.putfield 43, 3) := by decide +kernel
theorem dX9_way_16 : decode cX9_way 16 = .ok (.iconst 1, 1) := by decide +kernel
theorem dX9_way_17 : decode cX9_way 17 = .ok (.ireturn, 1) := by decide +kernel
theorem dX9_of_0 : decode cX9_of 0 = .ok (.aload_n 0, 1) := by decide +kernel
theorem dX9_of_1 : decode cX9_of 1 = .ok (.iload_n 1, 1) := by decide +kernel
theorem dX9_of_2 : decode cX9_of 2 = .ok (.invokevirtual 104, 3) := by decide +kernel
theorem dX9_of_5 : decode cX9_of 5 = .ok (.astore_n 3, 1) := by decide +kernel
theorem dX9_of_6 : decode cX9_of 6 = .ok (.aload_n 3, 1) := by decide +kernel
theorem dX9_of_7 : decode cX9_of 7 = .ok (.ifnonnull 6, 3) := by decide +kernel
theorem dX9_of_10 : decode cX9_of 10 = .ok (.bipush (-100), 2) := by decide +kernel
theorem dX9_of_12 : decode cX9_of 12 = .ok (.ireturn, 1) := by decide +kernel
theorem dX9_of_13 : decode cX9_of 13 = .ok (.iload_n 2, 1) := by decide +kernel
theorem dX9_of_14 : decode cX9_of 14 = .ok (.tableswitch 94 0 6 #[42, 47, 52, 57, 62, 76, 81], 42) := by decide +kernel
theorem dX9_of_56 : decode cX9_of 56 = .ok (.aload_n 3, 1) := by decide +kernel
theorem dX9_of_57 : decode cX9_of 57 = .ok (.getfield 107, 3) := by decide +kernel
theorem dX9_of_60 : decode cX9_of 60 = .ok (.ireturn, 1) := by decide +kernel
theorem dX9_of_61 : decode cX9_of 61 = .ok (.aload_n 3, 1) := by decide +kernel
theorem dX9_of_62 : decode cX9_of 62 = .ok (.getfield 110, 3) := by decide +kernel
theorem dX9_of_65 : decode cX9_of 65 = .ok (.ireturn, 1) := by decide +kernel
theorem dX9_of_66 : decode cX9_of 66 = .ok (.aload_n 3, 1) := by decide +kernel
theorem dX9_of_67 : decode cX9_of 67 = .ok (.getfield 113, 3) := by decide +kernel
theorem dX9_of_70 : decode cX9_of 70 = .ok (.ireturn, 1) := by decide +kernel
theorem dX9_of_71 : decode cX9_of 71 = .ok (.aload_n 3, 1) := by decide +kernel
theorem dX9_of_72 : decode cX9_of 72 = .ok (.getfield 97, 3) := by decide +kernel
theorem dX9_of_75 : decode cX9_of 75 = .ok (.ireturn, 1) := by decide +kernel
theorem dX9_of_76 : decode cX9_of 76 = .ok (.aload_n 0, 1) := by decide +kernel
theorem dX9_of_77 : decode cX9_of 77 = .ok (.iload_n 1, 1) := by decide +kernel
theorem dX9_of_78 : decode cX9_of 78 = .ok (.invokevirtual 116, 3) := by decide +kernel
theorem dX9_of_81 : decode cX9_of 81 = .ok (.ifCond .eq 7, 3) := by decide +kernel
theorem dX9_of_84 : decode cX9_of 84 = .ok (.iconst 1, 1) := by decide +kernel
theorem dX9_of_85 : decode cX9_of 85 = .ok (.goto 4, 3) := by decide +kernel
theorem dX9_of_88 : decode cX9_of 88 = .ok (.iconst 0, 1) := by decide +kernel
theorem dX9_of_89 : decode cX9_of 89 = .ok (.ireturn, 1) := by decide +kernel
theorem dX9_of_90 : decode cX9_of 90 = .ok (.aload_n 3, 1) := by decide +kernel
theorem dX9_of_91 : decode cX9_of 91 = .ok (.invokevirtual 120, 3) := by decide +kernel
theorem dX9_of_94 : decode cX9_of 94 = .ok (.ireturn, 1) := by decide +kernel
theorem dX9_of_95 : decode cX9_of 95 = .ok (.aload_n 3, 1) := by decide +kernel
theorem dX9_of_96 : decode cX9_of 96 = .ok (.getfield 100, 3) := by decide +kernel
theorem dX9_of_99 : decode cX9_of 99 = .ok (.ifCond .eq 7, 3) := by decide +kernel
theorem dX9_of_102 : decode cX9_of 102 = .ok (.iconst 1, 1) := by decide +kernel
theorem dX9_of_103 : decode cX9_of 103 = .ok (.goto 4, 3) := by decide +kernel
theorem dX9_of_106 : decode cX9_of 106 = .ok (.iconst 0, 1) := by decide +kernel
theorem dX9_of_107 : decode cX9_of 107 = .ok (.ireturn, 1) := by decide +kernel
theorem dX9_of_108 : decode cX9_of 108 = .ok (.bipush (-100), 2) := by decide +kernel
theorem dX9_of_110 : decode cX9_of 110 = .ok (.ireturn, 1) := by decide +kernel
theorem dX9_personAt_0 : decode cX9_personAt 0 = .ok (.iload_n 1, 1) := by decide +kernel
theorem dX9_personAt_1 : decode cX9_personAt 1 = .ok (.ifCond .lt 28, 3) := by decide +kernel
theorem dX9_personAt_4 : decode cX9_personAt 4 = .ok (.iload_n 1, 1) := by decide +kernel
theorem dX9_personAt_5 : decode cX9_personAt 5 = .ok (.aload_n 0, 1) := by decide +kernel
theorem dX9_personAt_6 : decode cX9_personAt 6 = .ok (.getfield 12, 3) := by decide +kernel
theorem dX9_personAt_9 : decode cX9_personAt 9 = .ok (.invokevirtual 80, 3) := by decide +kernel
theorem dX9_personAt_12 : decode cX9_personAt 12 = .ok (.if_icmp .ge 17, 3) := by decide +kernel
theorem dX9_personAt_15 : decode cX9_personAt 15 = .ok (.aload_n 0, 1) := by decide +kernel
theorem dX9_personAt_16 : decode cX9_personAt 16 = .ok (.getfield 12, 3) := by decide +kernel
theorem dX9_personAt_19 : decode cX9_personAt 19 = .ok (.iload_n 1, 1) := by decide +kernel
theorem dX9_personAt_20 : decode cX9_personAt 20 = .ok (.invokevirtual 123, 3) := by decide +kernel
theorem dX9_personAt_23 : decode cX9_personAt 23 = .ok (.checkcast 84, 3) := by decide +kernel
theorem dX9_personAt_26 : decode cX9_personAt 26 = .ok (.goto 4, 3) := by decide +kernel
theorem dX9_personAt_29 : decode cX9_personAt 29 = .ok (.aconst_null, 1) := by decide +kernel
theorem dX9_personAt_30 : decode cX9_personAt 30 = .ok (.areturn, 1) := by decide +kernel
theorem dX9_livingAt_0 : decode cX9_livingAt 0 = .ok (.aload_n 0, 1) := by decide +kernel
theorem dX9_livingAt_1 : decode cX9_livingAt 1 = .ok (.iload_n 1, 1) := by decide +kernel
theorem dX9_livingAt_2 : decode cX9_livingAt 2 = .ok (.invokevirtual 104, 3) := by decide +kernel
theorem dX9_livingAt_5 : decode cX9_livingAt 5 = .ok (.astore_n 2, 1) := by decide +kernel
theorem dX9_livingAt_6 : decode cX9_livingAt 6 = .ok (.aload_n 2, 1) := by decide +kernel
theorem dX9_livingAt_7 : decode cX9_livingAt 7 = .ok (.ifnull 14, 3) := by decide +kernel
theorem dX9_livingAt_10 : decode cX9_livingAt 10 = .ok (.aload_n 2, 1) := by decide +kernel
theorem dX9_livingAt_11 : decode cX9_livingAt 11 = .ok (.invokevirtual 127, 3) := by decide +kernel
theorem dX9_livingAt_14 : decode cX9_livingAt 14 = .ok (.ifCond .eq 7, 3) := by decide +kernel
theorem dX9_livingAt_17 : decode cX9_livingAt 17 = .ok (.aload_n 2, 1) := by decide +kernel
theorem dX9_livingAt_18 : decode cX9_livingAt 18 = .ok (.goto 4, 3) := by decide +kernel
theorem dX9_livingAt_21 : decode cX9_livingAt 21 = .ok (.aconst_null, 1) := by decide +kernel
theorem dX9_livingAt_22 : decode cX9_livingAt 22 = .ok (.areturn, 1) := by decide +kernel
theorem dX9_countLiving_0 : decode cX9_countLiving 0 = .ok (.iconst 0, 1) := by decide +kernel
theorem dX9_countLiving_1 : decode cX9_countLiving 1 = .ok (.istore_n 1, 1) := by decide +kernel
theorem dX9_countLiving_2 : decode cX9_countLiving 2 = .ok (.iconst 0, 1) := by decide +kernel
theorem dX9_countLiving_3 : decode cX9_countLiving 3 = .ok (.istore_n 2, 1) := by decide +kernel
theorem dX9_countLiving_4 : decode cX9_countLiving 4 = .ok (.iload_n 2, 1) := by decide +kernel
theorem dX9_countLiving_5 : decode cX9_countLiving 5 = .ok (.aload_n 0, 1) := by decide +kernel
theorem dX9_countLiving_6 : decode cX9_countLiving 6 = .ok (.getfield 12, 3) := by decide +kernel
theorem dX9_countLiving_9 : decode cX9_countLiving 9 = .ok (.invokevirtual 80, 3) := by decide +kernel
theorem dX9_countLiving_12 : decode cX9_countLiving 12 = .ok (.if_icmp .ge 34, 3) := by decide +kernel
theorem dX9_countLiving_15 : decode cX9_countLiving 15 = .ok (.iload_n 1, 1) := by decide +kernel
theorem dX9_countLiving_16 : decode cX9_countLiving 16 = .ok (.aload_n 0, 1) := by decide +kernel
theorem dX9_countLiving_17 : decode cX9_countLiving 17 = .ok (.getfield 12, 3) := by decide +kernel
theorem dX9_countLiving_20 : decode cX9_countLiving 20 = .ok (.iload_n 2, 1) := by decide +kernel
theorem dX9_countLiving_21 : decode cX9_countLiving 21 = .ok (.invokevirtual 123, 3) := by decide +kernel
theorem dX9_countLiving_24 : decode cX9_countLiving 24 = .ok (.checkcast 84, 3) := by decide +kernel
theorem dX9_countLiving_27 : decode cX9_countLiving 27 = .ok (.invokevirtual 127, 3) := by decide +kernel
theorem dX9_countLiving_30 : decode cX9_countLiving 30 = .ok (.ifCond .eq 7, 3) := by decide +kernel
theorem dX9_countLiving_33 : decode cX9_countLiving 33 = .ok (.iconst 1, 1) := by decide +kernel
theorem dX9_countLiving_34 : decode cX9_countLiving 34 = .ok (.goto 4, 3) := by decide +kernel
theorem dX9_countLiving_37 : decode cX9_countLiving 37 = .ok (.iconst 0, 1) := by decide +kernel
theorem dX9_countLiving_38 : decode cX9_countLiving 38 = .ok (.iadd, 1) := by decide +kernel
theorem dX9_countLiving_39 : decode cX9_countLiving 39 = .ok (.istore_n 1, 1) := by decide +kernel
theorem dX9_countLiving_40 : decode cX9_countLiving 40 = .ok (.iinc 2 1, 3) := by decide +kernel
theorem dX9_countLiving_43 : decode cX9_countLiving 43 = .ok (.goto (-39), 3) := by decide +kernel
theorem dX9_countLiving_46 : decode cX9_countLiving 46 = .ok (.iload_n 1, 1) := by decide +kernel
theorem dX9_countLiving_47 : decode cX9_countLiving 47 = .ok (.ireturn, 1) := by decide +kernel
theorem dX9_isOutlaw_0 : decode cX9_isOutlaw 0 = .ok (.aload_n 0, 1) := by decide +kernel
theorem dX9_isOutlaw_1 : decode cX9_isOutlaw 1 = .ok (.iload_n 1, 1) := by decide +kernel
theorem dX9_isOutlaw_2 : decode cX9_isOutlaw 2 = .ok (.invokevirtual 93, 3) := by decide +kernel
theorem dX9_isOutlaw_5 : decode cX9_isOutlaw 5 = .ok (.ifnonnull 5, 3) := by decide +kernel
theorem dX9_isOutlaw_8 : decode cX9_isOutlaw 8 = .ok (.iconst 0, 1) := by decide +kernel
theorem dX9_isOutlaw_9 : decode cX9_isOutlaw 9 = .ok (.ireturn, 1) := by decide +kernel
theorem dX9_isOutlaw_10 : decode cX9_isOutlaw 10 = .ok (.iconst 0, 1) := by decide +kernel
theorem dX9_isOutlaw_11 : decode cX9_isOutlaw 11 = .ok (.istore_n 2, 1) := by decide +kernel
theorem dX9_isOutlaw_12 : decode cX9_isOutlaw 12 = .ok (.iload_n 2, 1) := by decide +kernel
theorem dX9_isOutlaw_13 : decode cX9_isOutlaw 13 = .ok (.aload_n 0, 1) := by decide +kernel
theorem dX9_isOutlaw_14 : decode cX9_isOutlaw 14 = .ok (.getfield 22, 3) := by decide +kernel
theorem dX9_isOutlaw_17 : decode cX9_isOutlaw 17 = .ok (.invokevirtual 80, 3) := by decide +kernel
theorem dX9_isOutlaw_20 : decode cX9_isOutlaw 20 = .ok (.if_icmp .ge 51, 3) := by decide +kernel
theorem dX9_isOutlaw_23 : decode cX9_isOutlaw 23 = .ok (.aload_n 0, 1) := by decide +kernel
theorem dX9_isOutlaw_24 : decode cX9_isOutlaw 24 = .ok (.getfield 22, 3) := by decide +kernel
theorem dX9_isOutlaw_27 : decode cX9_isOutlaw 27 = .ok (.iload_n 2, 1) := by decide +kernel
theorem dX9_isOutlaw_28 : decode cX9_isOutlaw 28 = .ok (.invokevirtual 123, 3) := by decide +kernel
theorem dX9_isOutlaw_31 : decode cX9_isOutlaw 31 = .ok (.checkcast 131, 3) := by decide +kernel
theorem dX9_isOutlaw_34 : decode cX9_isOutlaw 34 = .ok (.astore_n 3, 1) := by decide +kernel
theorem dX9_isOutlaw_35 : decode cX9_isOutlaw 35 = .ok (.aload_n 3, 1) := by decide +kernel
theorem dX9_isOutlaw_36 : decode cX9_isOutlaw 36 = .ok (.getfield 133, 3) := by decide +kernel
theorem dX9_isOutlaw_39 : decode cX9_isOutlaw 39 = .ok (.iload_n 1, 1) := by decide +kernel
theorem dX9_isOutlaw_40 : decode cX9_isOutlaw 40 = .ok (.if_icmp .ne 25, 3) := by decide +kernel
theorem dX9_isOutlaw_43 : decode cX9_isOutlaw 43 = .ok (.aload_n 3, 1) := by decide +kernel
theorem dX9_isOutlaw_44 : decode cX9_isOutlaw 44 = .ok (.invokevirtual 136, 3) := by decide +kernel
theorem dX9_isOutlaw_47 : decode cX9_isOutlaw 47 = .ok (.ifCond .eq 18, 3) := by decide +kernel
theorem dX9_isOutlaw_50 : decode cX9_isOutlaw 50 = .ok (.aload_n 0, 1) := by decide +kernel
theorem dX9_isOutlaw_51 : decode cX9_isOutlaw 51 = .ok (.getfield 37, 3) := by decide +kernel
theorem dX9_isOutlaw_54 : decode cX9_isOutlaw 54 = .ok (.aload_n 3, 1) := by decide +kernel
theorem dX9_isOutlaw_55 : decode cX9_isOutlaw 55 = .ok (.getfield 139, 3) := by decide +kernel
theorem dX9_isOutlaw_58 : decode cX9_isOutlaw 58 = .ok (.isub, 1) := by decide +kernel
theorem dX9_isOutlaw_59 : decode cX9_isOutlaw 59 = .ok (.iconst 2, 1) := by decide +kernel
theorem dX9_isOutlaw_60 : decode cX9_isOutlaw 60 = .ok (.if_icmp .lt 5, 3) := by decide +kernel
theorem dX9_isOutlaw_63 : decode cX9_isOutlaw 63 = .ok (.iconst 1, 1) := by decide +kernel
theorem dX9_isOutlaw_64 : decode cX9_isOutlaw 64 = .ok (.ireturn, 1) := by decide +kernel
theorem dX9_isOutlaw_65 : decode cX9_isOutlaw 65 = .ok (.iinc 2 1, 3) := by decide +kernel
theorem dX9_isOutlaw_68 : decode cX9_isOutlaw 68 = .ok (.goto (-56), 3) := by decide +kernel
theorem dX9_isOutlaw_71 : decode cX9_isOutlaw 71 = .ok (.iconst 0, 1) := by decide +kernel
theorem dX9_isOutlaw_72 : decode cX9_isOutlaw 72 = .ok (.ireturn, 1) := by decide +kernel
theorem dX9_countOutlaws_0 : decode cX9_countOutlaws 0 = .ok (.iconst 0, 1) := by decide +kernel
theorem dX9_countOutlaws_1 : decode cX9_countOutlaws 1 = .ok (.istore_n 1, 1) := by decide +kernel
theorem dX9_countOutlaws_2 : decode cX9_countOutlaws 2 = .ok (.iconst 0, 1) := by decide +kernel
theorem dX9_countOutlaws_3 : decode cX9_countOutlaws 3 = .ok (.istore_n 2, 1) := by decide +kernel
theorem dX9_countOutlaws_4 : decode cX9_countOutlaws 4 = .ok (.iload_n 2, 1) := by decide +kernel
theorem dX9_countOutlaws_5 : decode cX9_countOutlaws 5 = .ok (.aload_n 0, 1) := by decide +kernel
theorem dX9_countOutlaws_6 : decode cX9_countOutlaws 6 = .ok (.getfield 12, 3) := by decide +kernel
theorem dX9_countOutlaws_9 : decode cX9_countOutlaws 9 = .ok (.invokevirtual 80, 3) := by decide +kernel
theorem dX9_countOutlaws_12 : decode cX9_countOutlaws 12 = .ok (.if_icmp .ge 25, 3) := by decide +kernel
theorem dX9_countOutlaws_15 : decode cX9_countOutlaws 15 = .ok (.iload_n 1, 1) := by decide +kernel
theorem dX9_countOutlaws_16 : decode cX9_countOutlaws 16 = .ok (.aload_n 0, 1) := by decide +kernel
theorem dX9_countOutlaws_17 : decode cX9_countOutlaws 17 = .ok (.iload_n 2, 1) := by decide +kernel
theorem dX9_countOutlaws_18 : decode cX9_countOutlaws 18 = .ok (.invokevirtual 116, 3) := by decide +kernel
theorem dX9_countOutlaws_21 : decode cX9_countOutlaws 21 = .ok (.ifCond .eq 7, 3) := by decide +kernel
theorem dX9_countOutlaws_24 : decode cX9_countOutlaws 24 = .ok (.iconst 1, 1) := by decide +kernel
theorem dX9_countOutlaws_25 : decode cX9_countOutlaws 25 = .ok (.goto 4, 3) := by decide +kernel
theorem dX9_countOutlaws_28 : decode cX9_countOutlaws 28 = .ok (.iconst 0, 1) := by decide +kernel
theorem dX9_countOutlaws_29 : decode cX9_countOutlaws 29 = .ok (.iadd, 1) := by decide +kernel
theorem dX9_countOutlaws_30 : decode cX9_countOutlaws 30 = .ok (.istore_n 1, 1) := by decide +kernel
theorem dX9_countOutlaws_31 : decode cX9_countOutlaws 31 = .ok (.iinc 2 1, 3) := by decide +kernel
theorem dX9_countOutlaws_34 : decode cX9_countOutlaws 34 = .ok (.goto (-30), 3) := by decide +kernel
theorem dX9_countOutlaws_37 : decode cX9_countOutlaws 37 = .ok (.iload_n 1, 1) := by decide +kernel
theorem dX9_countOutlaws_38 : decode cX9_countOutlaws 38 = .ok (.ireturn, 1) := by decide +kernel
theorem dX9_isHolding_0 : decode cX9_isHolding 0 = .ok (.aload_n 1, 1) := by decide +kernel
theorem dX9_isHolding_1 : decode cX9_isHolding 1 = .ok (.getfield 110, 3) := by decide +kernel
theorem dX9_isHolding_4 : decode cX9_isHolding 4 = .ok (.ifCond .lt 31, 3) := by decide +kernel
theorem dX9_isHolding_7 : decode cX9_isHolding 7 = .ok (.aload_n 1, 1) := by decide +kernel
theorem dX9_isHolding_8 : decode cX9_isHolding 8 = .ok (.getfield 110, 3) := by decide +kernel
theorem dX9_isHolding_11 : decode cX9_isHolding 11 = .ok (.aload_n 0, 1) := by decide +kernel
theorem dX9_isHolding_12 : decode cX9_isHolding 12 = .ok (.getfield 25, 3) := by decide +kernel
theorem dX9_isHolding_15 : decode cX9_isHolding 15 = .ok (.arraylength, 1) := by decide +kernel
theorem dX9_isHolding_16 : decode cX9_isHolding 16 = .ok (.if_icmp .ge 19, 3) := by decide +kernel
theorem dX9_isHolding_19 : decode cX9_isHolding 19 = .ok (.aload_n 0, 1) := by decide +kernel
theorem dX9_isHolding_20 : decode cX9_isHolding 20 = .ok (.getfield 25, 3) := by decide +kernel
theorem dX9_isHolding_23 : decode cX9_isHolding 23 = .ok (.aload_n 1, 1) := by decide +kernel
theorem dX9_isHolding_24 : decode cX9_isHolding 24 = .ok (.getfield 110, 3) := by decide +kernel
theorem dX9_isHolding_27 : decode cX9_isHolding 27 = .ok (.baload, 1) := by decide +kernel
theorem dX9_isHolding_28 : decode cX9_isHolding 28 = .ok (.ifCond .eq 7, 3) := by decide +kernel
theorem dX9_isHolding_31 : decode cX9_isHolding 31 = .ok (.iconst 1, 1) := by decide +kernel
theorem dX9_isHolding_32 : decode cX9_isHolding 32 = .ok (.goto 4, 3) := by decide +kernel
theorem dX9_isHolding_35 : decode cX9_isHolding 35 = .ok (.iconst 0, 1) := by decide +kernel
theorem dX9_isHolding_36 : decode cX9_isHolding 36 = .ok (.ireturn, 1) := by decide +kernel
theorem dX9_feed_0 : decode cX9_feed 0 = .ok (.aload_n 0, 1) := by decide +kernel
theorem dX9_feed_1 : decode cX9_feed 1 = .ok (.getfield 33, 3) := by decide +kernel
theorem dX9_feed_4 : decode cX9_feed 4 = .ok (.sipush 380, 3) := by decide +kernel
theorem dX9_feed_7 : decode cX9_feed 7 = .ok (.if_icmp .le 5, 3) := by decide +kernel
theorem dX9_feed_10 : decode cX9_feed 10 = .ok (.iconst (-1), 1) := by decide +kernel
theorem dX9_feed_11 : decode cX9_feed 11 = .ok (.ireturn, 1) := by decide +kernel
theorem dX9_feed_12 : decode cX9_feed 12 = .ok (.aload_n 0, 1) := by decide +kernel
theorem dX9_feed_13 : decode cX9_feed 13 = .ok (.iload_n 1, 1) := by decide +kernel
theorem dX9_feed_14 : decode cX9_feed 14 = .ok (.invokevirtual 142, 3) := by decide +kernel
theorem dX9_feed_17 : decode cX9_feed 17 = .ok (.aload_n 0, 1) := by decide +kernel
theorem dX9_feed_18 : decode cX9_feed 18 = .ok (.iload_n 2, 1) := by decide +kernel
theorem dX9_feed_19 : decode cX9_feed 19 = .ok (.invokevirtual 142, 3) := by decide +kernel
theorem dX9_feed_22 : decode cX9_feed 22 = .ok (.aload_n 0, 1) := by decide +kernel
theorem dX9_feed_23 : decode cX9_feed 23 = .ok (.iload_n 3, 1) := by decide +kernel
theorem dX9_feed_24 : decode cX9_feed 24 = .ok (.invokevirtual 142, 3) := by decide +kernel
theorem dX9_feed_27 : decode cX9_feed 27 = .ok (.aload_n 0, 1) := by decide +kernel
theorem dX9_feed_28 : decode cX9_feed 28 = .ok (.iload 4, 2) := by decide +kernel
theorem dX9_feed_30 : decode cX9_feed 30 = .ok (.invokevirtual 142, 3) := by decide +kernel
theorem dX9_feed_33 : decode cX9_feed 33 = .ok (.aload_n 0, 1) := by decide +kernel
theorem dX9_feed_34 : decode cX9_feed 34 = .ok (.iload 5, 2) := by decide +kernel
theorem dX9_feed_36 : decode cX9_feed 36 = .ok (.invokevirtual 142, 3) := by decide +kernel
theorem dX9_feed_39 : decode cX9_feed 39 = .ok (.aload_n 0, 1) := by decide +kernel
theorem dX9_feed_40 : decode cX9_feed 40 = .ok (.getfield 33, 3) := by decide +kernel
theorem dX9_feed_43 : decode cX9_feed 43 = .ok (.ireturn, 1) := by decide +kernel
theorem dX9_putBytes_0 : decode cX9_putBytes 0 = .ok (.bipush 24, 2) := by decide +kernel
theorem dX9_putBytes_2 : decode cX9_putBytes 2 = .ok (.istore_n 2, 1) := by decide +kernel
theorem dX9_putBytes_3 : decode cX9_putBytes 3 = .ok (.iload_n 2, 1) := by decide +kernel
theorem dX9_putBytes_4 : decode cX9_putBytes 4 = .ok (.ifCond .lt 55, 3) := by decide +kernel
theorem dX9_putBytes_7 : decode cX9_putBytes 7 = .ok (.aload_n 0, 1) := by decide +kernel
theorem dX9_putBytes_8 : decode cX9_putBytes 8 = .ok (.getfield 33, 3) := by decide +kernel
theorem dX9_putBytes_11 : decode cX9_putBytes 11 = .ok (.ifCond .lt 42, 3) := by decide +kernel
theorem dX9_putBytes_14 : decode cX9_putBytes 14 = .ok (.aload_n 0, 1) := by decide +kernel
theorem dX9_putBytes_15 : decode cX9_putBytes 15 = .ok (.getfield 33, 3) := by decide +kernel
theorem dX9_putBytes_18 : decode cX9_putBytes 18 = .ok (.aload_n 0, 1) := by decide +kernel
theorem dX9_putBytes_19 : decode cX9_putBytes 19 = .ok (.getfield 29, 3) := by decide +kernel
theorem dX9_putBytes_22 : decode cX9_putBytes 22 = .ok (.arraylength, 1) := by decide +kernel
theorem dX9_putBytes_23 : decode cX9_putBytes 23 = .ok (.if_icmp .ge 30, 3) := by decide +kernel
theorem dX9_putBytes_26 : decode cX9_putBytes 26 = .ok (.aload_n 0, 1) := by decide +kernel
theorem dX9_putBytes_27 : decode cX9_putBytes 27 = .ok (.getfield 29, 3) := by decide +kernel
theorem dX9_putBytes_30 : decode cX9_putBytes 30 = .ok (.aload_n 0, 1) := by decide +kernel
theorem dX9_putBytes_31 : decode cX9_putBytes 31 = .ok (.getfield 33, 3) := by decide +kernel
theorem dX9_putBytes_34 : decode cX9_putBytes 34 = .ok (.iload_n 1, 1) := by decide +kernel
theorem dX9_putBytes_35 : decode cX9_putBytes 35 = .ok (.iload_n 2, 1) := by decide +kernel
theorem dX9_putBytes_36 : decode cX9_putBytes 36 = .ok (.iushr, 1) := by decide +kernel
theorem dX9_putBytes_37 : decode cX9_putBytes 37 = .ok (.sipush 255, 3) := by decide +kernel
theorem dX9_putBytes_40 : decode cX9_putBytes 40 = .ok (.iand, 1) := by decide +kernel
theorem dX9_putBytes_41 : decode cX9_putBytes 41 = .ok (.i2c, 1) := by decide +kernel
theorem dX9_putBytes_42 : decode cX9_putBytes 42 = .ok (.castore, 1) := by decide +kernel
theorem dX9_putBytes_43 : decode cX9_putBytes 43 = .ok (.aload_n 0, 1) := by decide +kernel
theorem dX9_putBytes_44 : decode cX9_putBytes 44 = .ok (.dup, 1) := by decide +kernel
theorem dX9_putBytes_45 : decode cX9_putBytes 45 = .ok (.getfield 33, 3) := by decide +kernel
theorem dX9_putBytes_48 : decode cX9_putBytes 48 = .ok (.iconst 1, 1) := by decide +kernel
theorem dX9_putBytes_49 : decode cX9_putBytes 49 = .ok (.iadd, 1) := by decide +kernel
theorem dX9_putBytes_50 : decode cX9_putBytes 50 = .ok (.putfield 33, 3) := by decide +kernel
theorem dX9_putBytes_53 : decode cX9_putBytes 53 = .ok (.iinc 2 (-8), 3) := by decide +kernel
theorem dX9_putBytes_56 : decode cX9_putBytes 56 = .ok (.goto (-53), 3) := by decide +kernel
theorem dX9_putBytes_59 : decode cX9_putBytes 59 = .ok (.return_, 1) := by decide +kernel
theorem dX9_end_0 : decode cX9_end 0 = .ok (.iload_n 1, 1) := by decide +kernel
theorem dX9_end_1 : decode cX9_end 1 = .ok (.ifCond .lt 11, 3) := by decide +kernel
theorem dX9_end_4 : decode cX9_end 4 = .ok (.iload_n 1, 1) := by decide +kernel
theorem dX9_end_5 : decode cX9_end 5 = .ok (.aload_n 0, 1) := by decide +kernel
theorem dX9_end_6 : decode cX9_end 6 = .ok (.getfield 33, 3) := by decide +kernel
theorem dX9_end_9 : decode cX9_end 9 = .ok (.if_icmp .le 5, 3) := by decide +kernel
theorem dX9_end_12 : decode cX9_end 12 = .ok (.iconst 0, 1) := by decide +kernel
theorem dX9_end_13 : decode cX9_end 13 = .ok (.ireturn, 1) := by decide +kernel
theorem dX9_end_14 : decode cX9_end 14 = .ok (.aload_n 0, 1) := by decide +kernel
theorem dX9_end_15 : decode cX9_end 15 = .ok (.iload_n 1, 1) := by decide +kernel
theorem dX9_end_16 : decode cX9_end 16 = .ok (.putfield 33, 3) := by decide +kernel
theorem dX9_end_19 : decode cX9_end 19 = .ok (.iconst 1, 1) := by decide +kernel
theorem dX9_end_20 : decode cX9_end 20 = .ok (.ireturn, 1) := by decide +kernel
theorem dX9_wording_0 : decode cX9_wording 0 = .ok (.aload_n 0, 1) := by decide +kernel
theorem dX9_wording_1 : decode cX9_wording 1 = .ok (.getfield 33, 3) := by decide +kernel
theorem dX9_wording_4 : decode cX9_wording 4 = .ok (.istore_n 1, 1) := by decide +kernel
theorem dX9_wording_5 : decode cX9_wording 5 = .ok (.aload_n 0, 1) := by decide +kernel
theorem dX9_wording_6 : decode cX9_wording 6 = .ok (.iconst 0, 1) := by decide +kernel
theorem dX9_wording_7 : decode cX9_wording 7 = .ok (.putfield 33, 3) := by decide +kernel
theorem dX9_wording_10 : decode cX9_wording 10 = .ok (.aload_n 0, 1) := by decide +kernel
theorem dX9_wording_11 : decode cX9_wording 11 = .ok (.iconst 0, 1) := by decide +kernel
theorem dX9_wording_12 : decode cX9_wording 12 = .ok (.putfield 46, 3) := by decide +kernel
theorem dX9_wording_15 : decode cX9_wording 15 = .ok (.aload_n 0, 1) := by decide +kernel
theorem dX9_wording_16 : decode cX9_wording 16 = .ok (.iconst (-1), 1) := by decide +kernel
theorem dX9_wording_17 : decode cX9_wording 17 = .ok (.putfield 49, 3) := by decide +kernel
theorem dX9_wording_20 : decode cX9_wording 20 = .ok (.aload_n 0, 1) := by decide +kernel
theorem dX9_wording_21 : decode cX9_wording 21 = .ok (.getfield 19, 3) := by decide +kernel
theorem dX9_wording_24 : decode cX9_wording 24 = .ok (.invokevirtual 80, 3) := by decide +kernel
theorem dX9_wording_27 : decode cX9_wording 27 = .ok (.bipush 32, 2) := by decide +kernel
theorem dX9_wording_29 : decode cX9_wording 29 = .ok (.if_icmp .lt 5, 3) := by decide +kernel
theorem dX9_wording_32 : decode cX9_wording 32 = .ok (.iconst (-1), 1) := by decide +kernel
theorem dX9_wording_33 : decode cX9_wording 33 = .ok (.ireturn, 1) := by decide +kernel
theorem dX9_wording_34 : decode cX9_wording 34 = .ok (.aload_n 0, 1) := by decide +kernel
theorem dX9_wording_35 : decode cX9_wording 35 = .ok (.getfield 55, 3) := by decide +kernel
theorem dX9_wording_38 : decode cX9_wording 38 = .ok (.aload_n 0, 1) := by decide +kernel
theorem dX9_wording_39 : decode cX9_wording 39 = .ok (.getfield 29, 3) := by decide +kernel
theorem dX9_wording_42 : decode cX9_wording 42 = .ok (.iload_n 1, 1) := by decide +kernel
theorem dX9_wording_43 : decode cX9_wording 43 = .ok (.invokevirtual 146, 3) := by decide +kernel
theorem dX9_wording_46 : decode cX9_wording 46 = .ok (.ifCond .ne 27, 3) := by decide +kernel
theorem dX9_wording_49 : decode cX9_wording 49 = .ok (.aload_n 0, 1) := by decide +kernel
theorem dX9_wording_50 : decode cX9_wording 50 = .ok (.aload_n 0, 1) := by decide +kernel
theorem dX9_wording_51 : decode cX9_wording 51 = .ok (.getfield 55, 3) := by decide +kernel
theorem dX9_wording_54 : decode cX9_wording 54 = .ok (.getfield 150, 3) := by decide +kernel
theorem dX9_wording_57 : decode cX9_wording 57 = .ok (.putfield 46, 3) := by decide +kernel
theorem dX9_wording_60 : decode cX9_wording 60 = .ok (.aload_n 0, 1) := by decide +kernel
theorem dX9_wording_61 : decode cX9_wording 61 = .ok (.aload_n 0, 1) := by decide +kernel
theorem dX9_wording_62 : decode cX9_wording 62 = .ok (.getfield 55, 3) := by decide +kernel
theorem dX9_wording_65 : decode cX9_wording 65 = .ok (.getfield 151, 3) := by decide +kernel
theorem dX9_wording_68 : decode cX9_wording 68 = .ok (.putfield 49, 3) := by decide +kernel
theorem dX9_wording_71 : decode cX9_wording 71 = .ok (.iconst (-1), 1) := by decide +kernel
theorem dX9_wording_72 : decode cX9_wording 72 = .ok (.ireturn, 1) := by decide +kernel
theorem dX9_wording_73 : decode cX9_wording 73 = .ok (.aload_n 0, 1) := by decide +kernel
theorem dX9_wording_74 : decode cX9_wording 74 = .ok (.getfield 19, 3) := by decide +kernel
theorem dX9_wording_77 : decode cX9_wording 77 = .ok (.new 152, 3) := by decide +kernel
theorem dX9_wording_80 : decode cX9_wording 80 = .ok (.dup, 1) := by decide +kernel
theorem dX9_wording_81 : decode cX9_wording 81 = .ok (.aload_n 0, 1) := by decide +kernel
theorem dX9_wording_82 : decode cX9_wording 82 = .ok (.getfield 19, 3) := by decide +kernel
theorem dX9_wording_85 : decode cX9_wording 85 = .ok (.invokevirtual 80, 3) := by decide +kernel
theorem dX9_wording_88 : decode cX9_wording 88 = .ok (.aload_n 0, 1) := by decide +kernel
theorem dX9_wording_89 : decode cX9_wording 89 = .ok (.getfield 55, 3) := by decide +kernel
theorem dX9_wording_92 : decode cX9_wording 92 = .ok (.invokevirtual 154, 3) := by decide +kernel
theorem dX9_wording_95 : decode cX9_wording 95 = .ok (.aload_n 0, 1) := by decide +kernel
theorem dX9_wording_96 : decode cX9_wording 96 = .ok (.getfield 55, 3) := by decide +kernel
theorem dX9_wording_99 : decode cX9_wording 99 = .ok (.invokevirtual 158, 3) := by decide +kernel
theorem dX9_wording_102 : decode cX9_wording 102 = .ok (.invokespecial 161, 3) := by decide +kernel
theorem dX9_wording_105 : decode cX9_wording 105 = .ok (.invokevirtual 89, 3) := by decide +kernel
theorem dX9_wording_108 : decode cX9_wording 108 = .ok (.pop, 1) := by decide +kernel
theorem dX9_wording_109 : decode cX9_wording 109 = .ok (.aload_n 0, 1) := by decide +kernel
theorem dX9_wording_110 : decode cX9_wording 110 = .ok (.getfield 19, 3) := by decide +kernel
theorem dX9_wording_113 : decode cX9_wording 113 = .ok (.invokevirtual 80, 3) := by decide +kernel
theorem dX9_wording_116 : decode cX9_wording 116 = .ok (.iconst 1, 1) := by decide +kernel
theorem dX9_wording_117 : decode cX9_wording 117 = .ok (.isub, 1) := by decide +kernel
theorem dX9_wording_118 : decode cX9_wording 118 = .ok (.ireturn, 1) := by decide +kernel
theorem dX9_fault_0 : decode cX9_fault 0 = .ok (.iload_n 1, 1) := by decide +kernel
theorem dX9_fault_1 : decode cX9_fault 1 = .ok (.ifCond .ne 8, 3) := by decide +kernel
theorem dX9_fault_4 : decode cX9_fault 4 = .ok (.aload_n 0, 1) := by decide +kernel
theorem dX9_fault_5 : decode cX9_fault 5 = .ok (.getfield 46, 3) := by decide +kernel
theorem dX9_fault_8 : decode cX9_fault 8 = .ok (.ireturn, 1) := by decide +kernel
theorem dX9_fault_9 : decode cX9_fault 9 = .ok (.iload_n 1, 1) := by decide +kernel
theorem dX9_fault_10 : decode cX9_fault 10 = .ok (.iconst 1, 1) := by decide +kernel
theorem dX9_fault_11 : decode cX9_fault 11 = .ok (.if_icmp .ne 10, 3) := by decide +kernel
theorem dX9_fault_14 : decode cX9_fault 14 = .ok (.aload_n 0, 1) := by decide +kernel
theorem dX9_fault_15 : decode cX9_fault 15 = .ok (.getfield 49, 3) := by decide +kernel
theorem dX9_fault_18 : decode cX9_fault 18 = .ok (.goto 4, 3) := by decide +kernel
theorem dX9_fault_21 : decode cX9_fault 21 = .ok (.iconst (-1), 1) := by decide +kernel
theorem dX9_fault_22 : decode cX9_fault 22 = .ok (.ireturn, 1) := by decide +kernel
theorem dX9_isWording_0 : decode cX9_isWording 0 = .ok (.iload_n 1, 1) := by decide +kernel
theorem dX9_isWording_1 : decode cX9_isWording 1 = .ok (.ifCond .lt 18, 3) := by decide +kernel
theorem dX9_isWording_4 : decode cX9_isWording 4 = .ok (.iload_n 1, 1) := by decide +kernel
theorem dX9_isWording_5 : decode cX9_isWording 5 = .ok (.aload_n 0, 1) := by decide +kernel
theorem dX9_isWording_6 : decode cX9_isWording 6 = .ok (.getfield 19, 3) := by decide +kernel
theorem dX9_isWording_9 : decode cX9_isWording 9 = .ok (.invokevirtual 80, 3) := by decide +kernel
theorem dX9_isWording_12 : decode cX9_isWording 12 = .ok (.if_icmp .ge 7, 3) := by decide +kernel
theorem dX9_isWording_15 : decode cX9_isWording 15 = .ok (.iconst 1, 1) := by decide +kernel
theorem dX9_isWording_16 : decode cX9_isWording 16 = .ok (.goto 4, 3) := by decide +kernel
theorem dX9_isWording_19 : decode cX9_isWording 19 = .ok (.iconst 0, 1) := by decide +kernel
theorem dX9_isWording_20 : decode cX9_isWording 20 = .ok (.ireturn, 1) := by decide +kernel
theorem dX9_wordingAt_0 : decode cX9_wordingAt 0 = .ok (.aload_n 0, 1) := by decide +kernel
theorem dX9_wordingAt_1 : decode cX9_wordingAt 1 = .ok (.iload_n 1, 1) := by decide +kernel
theorem dX9_wordingAt_2 : decode cX9_wordingAt 2 = .ok (.invokevirtual 164, 3) := by decide +kernel
theorem dX9_wordingAt_5 : decode cX9_wordingAt 5 = .ok (.ifCond .eq 17, 3) := by decide +kernel
theorem dX9_wordingAt_8 : decode cX9_wordingAt 8 = .ok (.aload_n 0, 1) := by decide +kernel
theorem dX9_wordingAt_9 : decode cX9_wordingAt 9 = .ok (.getfield 19, 3) := by decide +kernel
theorem dX9_wordingAt_12 : decode cX9_wordingAt 12 = .ok (.iload_n 1, 1) := by decide +kernel
theorem dX9_wordingAt_13 : decode cX9_wordingAt 13 = .ok (.invokevirtual 123, 3) := by decide +kernel
theorem dX9_wordingAt_16 : decode cX9_wordingAt 16 = .ok (.checkcast 152, 3) := by decide +kernel
theorem dX9_wordingAt_19 : decode cX9_wordingAt 19 = .ok (.goto 4, 3) := by decide +kernel
theorem dX9_wordingAt_22 : decode cX9_wordingAt 22 = .ok (.aconst_null, 1) := by decide +kernel
theorem dX9_wordingAt_23 : decode cX9_wordingAt 23 = .ok (.areturn, 1) := by decide +kernel
theorem dX9_line_0 : decode cX9_line 0 = .ok (.iload_n 1, 1) := by decide +kernel
theorem dX9_line_1 : decode cX9_line 1 = .ok (.ifCond .lt 20, 3) := by decide +kernel
theorem dX9_line_4 : decode cX9_line 4 = .ok (.iload_n 1, 1) := by decide +kernel
theorem dX9_line_5 : decode cX9_line 5 = .ok (.iconst 3, 1) := by decide +kernel
theorem dX9_line_6 : decode cX9_line 6 = .ok (.if_icmp .ge 15, 3) := by decide +kernel
theorem dX9_line_9 : decode cX9_line 9 = .ok (.aload_n 0, 1) := by decide +kernel
theorem dX9_line_10 : decode cX9_line 10 = .ok (.getfield 16, 3) := by decide +kernel
theorem dX9_line_13 : decode cX9_line 13 = .ok (.invokevirtual 80, 3) := by decide +kernel
theorem dX9_line_16 : decode cX9_line 16 = .ok (.bipush 24, 2) := by decide +kernel
theorem dX9_line_18 : decode cX9_line 18 = .ok (.if_icmp .lt 5, 3) := by decide +kernel
theorem dX9_line_21 : decode cX9_line 21 = .ok (.iconst (-1), 1) := by decide +kernel
theorem dX9_line_22 : decode cX9_line 22 = .ok (.ireturn, 1) := by decide +kernel
theorem dX9_line_23 : decode cX9_line 23 = .ok (.aload_n 0, 1) := by decide +kernel
theorem dX9_line_24 : decode cX9_line 24 = .ok (.getfield 16, 3) := by decide +kernel
theorem dX9_line_27 : decode cX9_line 27 = .ok (.new 167, 3) := by decide +kernel
theorem dX9_line_30 : decode cX9_line 30 = .ok (.dup, 1) := by decide +kernel
theorem dX9_line_31 : decode cX9_line 31 = .ok (.iload_n 1, 1) := by decide +kernel
theorem dX9_line_32 : decode cX9_line 32 = .ok (.iload_n 2, 1) := by decide +kernel
theorem dX9_line_33 : decode cX9_line 33 = .ok (.invokespecial 169, 3) := by decide +kernel
theorem dX9_line_36 : decode cX9_line 36 = .ok (.invokevirtual 89, 3) := by decide +kernel
theorem dX9_line_39 : decode cX9_line 39 = .ok (.pop, 1) := by decide +kernel
theorem dX9_line_40 : decode cX9_line 40 = .ok (.aload_n 0, 1) := by decide +kernel
theorem dX9_line_41 : decode cX9_line 41 = .ok (.getfield 16, 3) := by decide +kernel
theorem dX9_line_44 : decode cX9_line 44 = .ok (.invokevirtual 80, 3) := by decide +kernel
theorem dX9_line_47 : decode cX9_line 47 = .ok (.iconst 1, 1) := by decide +kernel
theorem dX9_line_48 : decode cX9_line 48 = .ok (.isub, 1) := by decide +kernel
theorem dX9_line_49 : decode cX9_line 49 = .ok (.ireturn, 1) := by decide +kernel
theorem dX9_know_0 : decode cX9_know 0 = .ok (.aload_n 0, 1) := by decide +kernel
theorem dX9_know_1 : decode cX9_know 1 = .ok (.iload_n 1, 1) := by decide +kernel
theorem dX9_know_2 : decode cX9_know 2 = .ok (.invokevirtual 93, 3) := by decide +kernel
theorem dX9_know_5 : decode cX9_know 5 = .ok (.astore 5, 2) := by decide +kernel
theorem dX9_know_7 : decode cX9_know 7 = .ok (.aload 5, 2) := by decide +kernel
theorem dX9_know_9 : decode cX9_know 9 = .ok (.ifnull 32, 3) := by decide +kernel
theorem dX9_know_12 : decode cX9_know 12 = .ok (.aload_n 0, 1) := by decide +kernel
theorem dX9_know_13 : decode cX9_know 13 = .ok (.iload_n 2, 1) := by decide +kernel
theorem dX9_know_14 : decode cX9_know 14 = .ok (.invokevirtual 172, 3) := by decide +kernel
theorem dX9_know_17 : decode cX9_know 17 = .ok (.ifCond .eq 24, 3) := by decide +kernel
theorem dX9_know_20 : decode cX9_know 20 = .ok (.aload_n 0, 1) := by decide +kernel
theorem dX9_know_21 : decode cX9_know 21 = .ok (.iload_n 3, 1) := by decide +kernel
theorem dX9_know_22 : decode cX9_know 22 = .ok (.invokevirtual 164, 3) := by decide +kernel
theorem dX9_know_25 : decode cX9_know 25 = .ok (.ifCond .eq 16, 3) := by decide +kernel
theorem dX9_know_28 : decode cX9_know 28 = .ok (.iload 4, 2) := by decide +kernel
theorem dX9_know_30 : decode cX9_know 30 = .ok (.iconst 1, 1) := by decide +kernel
theorem dX9_know_31 : decode cX9_know 31 = .ok (.if_icmp .lt 10, 3) := by decide +kernel
theorem dX9_know_34 : decode cX9_know 34 = .ok (.iload 4, 2) := by decide +kernel
theorem dX9_know_36 : decode cX9_know 36 = .ok (.bipush 9, 2) := by decide +kernel
theorem dX9_know_38 : decode cX9_know 38 = .ok (.if_icmp .le 5, 3) := by decide +kernel
theorem dX9_know_41 : decode cX9_know 41 = .ok (.iconst 0, 1) := by decide +kernel
theorem dX9_know_42 : decode cX9_know 42 = .ok (.ireturn, 1) := by decide +kernel
theorem dX9_know_43 : decode cX9_know 43 = .ok (.aload 5, 2) := by decide +kernel
theorem dX9_know_45 : decode cX9_know 45 = .ok (.iload_n 2, 1) := by decide +kernel
theorem dX9_know_46 : decode cX9_know 46 = .ok (.iload_n 3, 1) := by decide +kernel
theorem dX9_know_47 : decode cX9_know 47 = .ok (.iload 4, 2) := by decide +kernel
theorem dX9_know_49 : decode cX9_know 49 = .ok (.iconst (-1), 1) := by decide +kernel
theorem dX9_know_50 : decode cX9_know 50 = .ok (.invokevirtual 175, 3) := by decide +kernel
theorem dX9_know_53 : decode cX9_know 53 = .ok (.iconst 1, 1) := by decide +kernel
theorem dX9_know_54 : decode cX9_know 54 = .ok (.ireturn, 1) := by decide +kernel
theorem dX9_teach_0 : decode cX9_teach 0 = .ok (.aload_n 0, 1) := by decide +kernel
theorem dX9_teach_1 : decode cX9_teach 1 = .ok (.iload_n 1, 1) := by decide +kernel
theorem dX9_teach_2 : decode cX9_teach 2 = .ok (.invokevirtual 93, 3) := by decide +kernel
theorem dX9_teach_5 : decode cX9_teach 5 = .ok (.astore 4, 2) := by decide +kernel
theorem dX9_teach_7 : decode cX9_teach 7 = .ok (.aload_n 0, 1) := by decide +kernel
theorem dX9_teach_8 : decode cX9_teach 8 = .ok (.iload_n 2, 1) := by decide +kernel
theorem dX9_teach_9 : decode cX9_teach 9 = .ok (.invokevirtual 93, 3) := by decide +kernel
theorem dX9_teach_12 : decode cX9_teach 12 = .ok (.astore 5, 2) := by decide +kernel
theorem dX9_teach_14 : decode cX9_teach 14 = .ok (.aload 4, 2) := by decide +kernel
theorem dX9_teach_16 : decode cX9_teach 16 = .ok (.ifnull 16, 3) := by decide +kernel
theorem dX9_teach_19 : decode cX9_teach 19 = .ok (.aload 5, 2) := by decide +kernel
theorem dX9_teach_21 : decode cX9_teach 21 = .ok (.ifnull 11, 3) := by decide +kernel
theorem dX9_teach_24 : decode cX9_teach 24 = .ok (.aload_n 0, 1) := by decide +kernel
theorem dX9_teach_25 : decode cX9_teach 25 = .ok (.iload_n 3, 1) := by decide +kernel
theorem dX9_teach_26 : decode cX9_teach 26 = .ok (.invokevirtual 172, 3) := by decide +kernel
theorem dX9_teach_29 : decode cX9_teach 29 = .ok (.ifCond .ne 5, 3) := by decide +kernel
theorem dX9_teach_32 : decode cX9_teach 32 = .ok (.iconst 0, 1) := by decide +kernel
theorem dX9_teach_33 : decode cX9_teach 33 = .ok (.ireturn, 1) := by decide +kernel
theorem dX9_teach_34 : decode cX9_teach 34 = .ok (.aload 4, 2) := by decide +kernel
theorem dX9_teach_36 : decode cX9_teach 36 = .ok (.iload_n 3, 1) := by decide +kernel
theorem dX9_teach_37 : decode cX9_teach 37 = .ok (.invokevirtual 179, 3) := by decide +kernel
theorem dX9_teach_40 : decode cX9_teach 40 = .ok (.ifCond .eq 24, 3) := by decide +kernel
theorem dX9_teach_43 : decode cX9_teach 43 = .ok (.aload 5, 2) := by decide +kernel
theorem dX9_teach_45 : decode cX9_teach 45 = .ok (.iload_n 3, 1) := by decide +kernel
theorem dX9_teach_46 : decode cX9_teach 46 = .ok (.invokevirtual 179, 3) := by decide +kernel
theorem dX9_teach_49 : decode cX9_teach 49 = .ok (.ifCond .ne 15, 3) := by decide +kernel
theorem dX9_teach_52 : decode cX9_teach 52 = .ok (.aload 5, 2) := by decide +kernel
theorem dX9_teach_54 : decode cX9_teach 54 = .ok (.getfield 182, 3) := by decide +kernel
theorem dX9_teach_57 : decode cX9_teach 57 = .ok (.aload_n 0, 1) := by decide +kernel
theorem dX9_teach_58 : decode cX9_teach 58 = .ok (.getfield 37, 3) := by decide +kernel
theorem dX9_teach_61 : decode cX9_teach 61 = .ok (.if_icmp .ne 5, 3) := by decide +kernel
theorem dX9_teach_64 : decode cX9_teach 64 = .ok (.iconst 0, 1) := by decide +kernel
theorem dX9_teach_65 : decode cX9_teach 65 = .ok (.ireturn, 1) := by decide +kernel
theorem dX9_teach_66 : decode cX9_teach 66 = .ok (.aload 5, 2) := by decide +kernel
theorem dX9_teach_68 : decode cX9_teach 68 = .ok (.iload_n 3, 1) := by decide +kernel
theorem dX9_teach_69 : decode cX9_teach 69 = .ok (.aload 4, 2) := by decide +kernel
theorem dX9_teach_71 : decode cX9_teach 71 = .ok (.iload_n 3, 1) := by decide +kernel
theorem dX9_teach_72 : decode cX9_teach 72 = .ok (.invokevirtual 185, 3) := by decide +kernel
theorem dX9_teach_75 : decode cX9_teach 75 = .ok (.iconst 4, 1) := by decide +kernel
theorem dX9_teach_76 : decode cX9_teach 76 = .ok (.iload_n 1, 1) := by decide +kernel
theorem dX9_teach_77 : decode cX9_teach 77 = .ok (.invokevirtual 175, 3) := by decide +kernel
theorem dX9_teach_80 : decode cX9_teach 80 = .ok (.aload 5, 2) := by decide +kernel
theorem dX9_teach_82 : decode cX9_teach 82 = .ok (.aload_n 0, 1) := by decide +kernel
theorem dX9_teach_83 : decode cX9_teach 83 = .ok (.getfield 37, 3) := by decide +kernel
theorem dX9_teach_86 : decode cX9_teach 86 = .ok (.putfield 182, 3) := by decide +kernel
theorem dX9_teach_89 : decode cX9_teach 89 = .ok (.iconst 1, 1) := by decide +kernel
theorem dX9_teach_90 : decode cX9_teach 90 = .ok (.ireturn, 1) := by decide +kernel
theorem dX9_has_0 : decode cX9_has 0 = .ok (.aload_n 0, 1) := by decide +kernel
theorem dX9_has_1 : decode cX9_has 1 = .ok (.iload_n 1, 1) := by decide +kernel
theorem dX9_has_2 : decode cX9_has 2 = .ok (.invokevirtual 104, 3) := by decide +kernel
theorem dX9_has_5 : decode cX9_has 5 = .ok (.astore 4, 2) := by decide +kernel
theorem dX9_has_7 : decode cX9_has 7 = .ok (.aload 4, 2) := by decide +kernel
theorem dX9_has_9 : decode cX9_has 9 = .ok (.ifnull 11, 3) := by decide +kernel
theorem dX9_has_12 : decode cX9_has 12 = .ok (.aload_n 0, 1) := by decide +kernel
theorem dX9_has_13 : decode cX9_has 13 = .ok (.iload_n 2, 1) := by decide +kernel
theorem dX9_has_14 : decode cX9_has 14 = .ok (.invokevirtual 172, 3) := by decide +kernel
theorem dX9_has_17 : decode cX9_has 17 = .ok (.ifCond .ne 5, 3) := by decide +kernel
theorem dX9_has_20 : decode cX9_has 20 = .ok (.iconst (-1), 1) := by decide +kernel
theorem dX9_has_21 : decode cX9_has 21 = .ok (.ireturn, 1) := by decide +kernel
theorem dX9_has_22 : decode cX9_has 22 = .ok (.iload_n 3, 1) := by decide +kernel
theorem dX9_has_23 : decode cX9_has 23 = .ok (.tableswitch 46 0 2 #[25, 32, 39], 25) := by decide +kernel
theorem dX9_has_48 : decode cX9_has 48 = .ok (.aload 4, 2) := by decide +kernel
theorem dX9_has_50 : decode cX9_has 50 = .ok (.iload_n 2, 1) := by decide +kernel
theorem dX9_has_51 : decode cX9_has 51 = .ok (.invokevirtual 185, 3) := by decide +kernel
theorem dX9_has_54 : decode cX9_has 54 = .ok (.ireturn, 1) := by decide +kernel
theorem dX9_has_55 : decode cX9_has 55 = .ok (.aload 4, 2) := by decide +kernel
theorem dX9_has_57 : decode cX9_has 57 = .ok (.iload_n 2, 1) := by decide +kernel
theorem dX9_has_58 : decode cX9_has 58 = .ok (.invokevirtual 189, 3) := by decide +kernel
theorem dX9_has_61 : decode cX9_has 61 = .ok (.ireturn, 1) := by decide +kernel
theorem dX9_has_62 : decode cX9_has 62 = .ok (.aload 4, 2) := by decide +kernel
theorem dX9_has_64 : decode cX9_has 64 = .ok (.iload_n 2, 1) := by decide +kernel
theorem dX9_has_65 : decode cX9_has 65 = .ok (.invokevirtual 192, 3) := by decide +kernel
theorem dX9_has_68 : decode cX9_has 68 = .ok (.ireturn, 1) := by decide +kernel
theorem dX9_has_69 : decode cX9_has 69 = .ok (.iconst (-1), 1) := by decide +kernel
theorem dX9_has_70 : decode cX9_has 70 = .ok (.ireturn, 1) := by decide +kernel
theorem dX9_lineOf_0 : decode cX9_lineOf 0 = .ok (.aload_n 0, 1) := by decide +kernel
theorem dX9_lineOf_1 : decode cX9_lineOf 1 = .ok (.iload_n 1, 1) := by decide +kernel
theorem dX9_lineOf_2 : decode cX9_lineOf 2 = .ok (.invokevirtual 195, 3) := by decide +kernel
theorem dX9_lineOf_5 : decode cX9_lineOf 5 = .ok (.astore_n 3, 1) := by decide +kernel
theorem dX9_lineOf_6 : decode cX9_lineOf 6 = .ok (.aload_n 3, 1) := by decide +kernel
theorem dX9_lineOf_7 : decode cX9_lineOf 7 = .ok (.ifnonnull 5, 3) := by decide +kernel
theorem dX9_lineOf_10 : decode cX9_lineOf 10 = .ok (.iconst (-1), 1) := by decide +kernel
theorem dX9_lineOf_11 : decode cX9_lineOf 11 = .ok (.ireturn, 1) := by decide +kernel
theorem dX9_lineOf_12 : decode cX9_lineOf 12 = .ok (.iload_n 2, 1) := by decide +kernel
theorem dX9_lineOf_13 : decode cX9_lineOf 13 = .ok (.tableswitch 88 0 6 #[43, 48, 61, 66, 71, 77, 83], 43) := by decide +kernel
theorem dX9_lineOf_56 : decode cX9_lineOf 56 = .ok (.aload_n 3, 1) := by decide +kernel
theorem dX9_lineOf_57 : decode cX9_lineOf 57 = .ok (.getfield 199, 3) := by decide +kernel
theorem dX9_lineOf_60 : decode cX9_lineOf 60 = .ok (.ireturn, 1) := by decide +kernel
theorem dX9_lineOf_61 : decode cX9_lineOf 61 = .ok (.aload_n 3, 1) := by decide +kernel
theorem dX9_lineOf_62 : decode cX9_lineOf 62 = .ok (.getfield 202, 3) := by decide +kernel
theorem dX9_lineOf_65 : decode cX9_lineOf 65 = .ok (.ifCond .eq 7, 3) := by decide +kernel
theorem dX9_lineOf_68 : decode cX9_lineOf 68 = .ok (.iconst 1, 1) := by decide +kernel
theorem dX9_lineOf_69 : decode cX9_lineOf 69 = .ok (.goto 4, 3) := by decide +kernel
theorem dX9_lineOf_72 : decode cX9_lineOf 72 = .ok (.iconst 0, 1) := by decide +kernel
theorem dX9_lineOf_73 : decode cX9_lineOf 73 = .ok (.ireturn, 1) := by decide +kernel
theorem dX9_lineOf_74 : decode cX9_lineOf 74 = .ok (.aload_n 3, 1) := by decide +kernel
theorem dX9_lineOf_75 : decode cX9_lineOf 75 = .ok (.getfield 205, 3) := by decide +kernel
theorem dX9_lineOf_78 : decode cX9_lineOf 78 = .ok (.ireturn, 1) := by decide +kernel
theorem dX9_lineOf_79 : decode cX9_lineOf 79 = .ok (.aload_n 3, 1) := by decide +kernel
theorem dX9_lineOf_80 : decode cX9_lineOf 80 = .ok (.getfield 208, 3) := by decide +kernel
theorem dX9_lineOf_83 : decode cX9_lineOf 83 = .ok (.ireturn, 1) := by decide +kernel
theorem dX9_lineOf_84 : decode cX9_lineOf 84 = .ok (.aload_n 0, 1) := by decide +kernel
theorem dX9_lineOf_85 : decode cX9_lineOf 85 = .ok (.iload_n 1, 1) := by decide +kernel
theorem dX9_lineOf_86 : decode cX9_lineOf 86 = .ok (.invokevirtual 209, 3) := by decide +kernel
theorem dX9_lineOf_89 : decode cX9_lineOf 89 = .ok (.ireturn, 1) := by decide +kernel
theorem dX9_lineOf_90 : decode cX9_lineOf 90 = .ok (.aload_n 0, 1) := by decide +kernel
theorem dX9_lineOf_91 : decode cX9_lineOf 91 = .ok (.iload_n 1, 1) := by decide +kernel
theorem dX9_lineOf_92 : decode cX9_lineOf 92 = .ok (.invokevirtual 212, 3) := by decide +kernel
theorem dX9_lineOf_95 : decode cX9_lineOf 95 = .ok (.ireturn, 1) := by decide +kernel
theorem dX9_lineOf_96 : decode cX9_lineOf 96 = .ok (.aload_n 3, 1) := by decide +kernel
theorem dX9_lineOf_97 : decode cX9_lineOf 97 = .ok (.getfield 215, 3) := by decide +kernel
theorem dX9_lineOf_100 : decode cX9_lineOf 100 = .ok (.ireturn, 1) := by decide +kernel
theorem dX9_lineOf_101 : decode cX9_lineOf 101 = .ok (.iconst (-1), 1) := by decide +kernel
theorem dX9_lineOf_102 : decode cX9_lineOf 102 = .ok (.ireturn, 1) := by decide +kernel
theorem dX9_isLine_0 : decode cX9_isLine 0 = .ok (.iload_n 1, 1) := by decide +kernel
theorem dX9_isLine_1 : decode cX9_isLine 1 = .ok (.ifCond .lt 18, 3) := by decide +kernel
theorem dX9_isLine_4 : decode cX9_isLine 4 = .ok (.iload_n 1, 1) := by decide +kernel
theorem dX9_isLine_5 : decode cX9_isLine 5 = .ok (.aload_n 0, 1) := by decide +kernel
theorem dX9_isLine_6 : decode cX9_isLine 6 = .ok (.getfield 16, 3) := by decide +kernel
theorem dX9_isLine_9 : decode cX9_isLine 9 = .ok (.invokevirtual 80, 3) := by decide +kernel
theorem dX9_isLine_12 : decode cX9_isLine 12 = .ok (.if_icmp .ge 7, 3) := by decide +kernel
theorem dX9_isLine_15 : decode cX9_isLine 15 = .ok (.iconst 1, 1) := by decide +kernel
theorem dX9_isLine_16 : decode cX9_isLine 16 = .ok (.goto 4, 3) := by decide +kernel
theorem dX9_isLine_19 : decode cX9_isLine 19 = .ok (.iconst 0, 1) := by decide +kernel
theorem dX9_isLine_20 : decode cX9_isLine 20 = .ok (.ireturn, 1) := by decide +kernel
theorem dX9_lineAt_0 : decode cX9_lineAt 0 = .ok (.aload_n 0, 1) := by decide +kernel
theorem dX9_lineAt_1 : decode cX9_lineAt 1 = .ok (.iload_n 1, 1) := by decide +kernel
theorem dX9_lineAt_2 : decode cX9_lineAt 2 = .ok (.invokevirtual 172, 3) := by decide +kernel
theorem dX9_lineAt_5 : decode cX9_lineAt 5 = .ok (.ifCond .eq 17, 3) := by decide +kernel
theorem dX9_lineAt_8 : decode cX9_lineAt 8 = .ok (.aload_n 0, 1) := by decide +kernel
theorem dX9_lineAt_9 : decode cX9_lineAt 9 = .ok (.getfield 16, 3) := by decide +kernel
theorem dX9_lineAt_12 : decode cX9_lineAt 12 = .ok (.iload_n 1, 1) := by decide +kernel
theorem dX9_lineAt_13 : decode cX9_lineAt 13 = .ok (.invokevirtual 123, 3) := by decide +kernel
theorem dX9_lineAt_16 : decode cX9_lineAt 16 = .ok (.checkcast 167, 3) := by decide +kernel
theorem dX9_lineAt_19 : decode cX9_lineAt 19 = .ok (.goto 4, 3) := by decide +kernel
theorem dX9_lineAt_22 : decode cX9_lineAt 22 = .ok (.aconst_null, 1) := by decide +kernel
theorem dX9_lineAt_23 : decode cX9_lineAt 23 = .ok (.areturn, 1) := by decide +kernel
theorem dX9_areLines_0 : decode cX9_areLines 0 = .ok (.iload_n 1, 1) := by decide +kernel
theorem dX9_areLines_1 : decode cX9_areLines 1 = .ok (.aload_n 0, 1) := by decide +kernel
theorem dX9_areLines_2 : decode cX9_areLines 2 = .ok (.getfield 16, 3) := by decide +kernel
theorem dX9_areLines_5 : decode cX9_areLines 5 = .ok (.invokevirtual 80, 3) := by decide +kernel
theorem dX9_areLines_8 : decode cX9_areLines 8 = .ok (.iushr, 1) := by decide +kernel
theorem dX9_areLines_9 : decode cX9_areLines 9 = .ok (.ifCond .ne 7, 3) := by decide +kernel
theorem dX9_areLines_12 : decode cX9_areLines 12 = .ok (.iconst 1, 1) := by decide +kernel
theorem dX9_areLines_13 : decode cX9_areLines 13 = .ok (.goto 4, 3) := by decide +kernel
theorem dX9_areLines_16 : decode cX9_areLines 16 = .ok (.iconst 0, 1) := by decide +kernel
theorem dX9_areLines_17 : decode cX9_areLines 17 = .ok (.ireturn, 1) := by decide +kernel
theorem dX9_countHolders_0 : decode cX9_countHolders 0 = .ok (.iconst 0, 1) := by decide +kernel
theorem dX9_countHolders_1 : decode cX9_countHolders 1 = .ok (.istore_n 2, 1) := by decide +kernel
theorem dX9_countHolders_2 : decode cX9_countHolders 2 = .ok (.iconst 0, 1) := by decide +kernel
theorem dX9_countHolders_3 : decode cX9_countHolders 3 = .ok (.istore_n 3, 1) := by decide +kernel
theorem dX9_countHolders_4 : decode cX9_countHolders 4 = .ok (.iload_n 3, 1) := by decide +kernel
theorem dX9_countHolders_5 : decode cX9_countHolders 5 = .ok (.aload_n 0, 1) := by decide +kernel
theorem dX9_countHolders_6 : decode cX9_countHolders 6 = .ok (.getfield 12, 3) := by decide +kernel
theorem dX9_countHolders_9 : decode cX9_countHolders 9 = .ok (.invokevirtual 80, 3) := by decide +kernel
theorem dX9_countHolders_12 : decode cX9_countHolders 12 = .ok (.if_icmp .ge 47, 3) := by decide +kernel
theorem dX9_countHolders_15 : decode cX9_countHolders 15 = .ok (.aload_n 0, 1) := by decide +kernel
theorem dX9_countHolders_16 : decode cX9_countHolders 16 = .ok (.getfield 12, 3) := by decide +kernel
theorem dX9_countHolders_19 : decode cX9_countHolders 19 = .ok (.iload_n 3, 1) := by decide +kernel
theorem dX9_countHolders_20 : decode cX9_countHolders 20 = .ok (.invokevirtual 123, 3) := by decide +kernel
theorem dX9_countHolders_23 : decode cX9_countHolders 23 = .ok (.checkcast 84, 3) := by decide +kernel
theorem dX9_countHolders_26 : decode cX9_countHolders 26 = .ok (.astore 4, 2) := by decide +kernel
theorem dX9_countHolders_28 : decode cX9_countHolders 28 = .ok (.iload_n 2, 1) := by decide +kernel
theorem dX9_countHolders_29 : decode cX9_countHolders 29 = .ok (.aload 4, 2) := by decide +kernel
theorem dX9_countHolders_31 : decode cX9_countHolders 31 = .ok (.invokevirtual 127, 3) := by decide +kernel
theorem dX9_countHolders_34 : decode cX9_countHolders 34 = .ok (.ifCond .eq 16, 3) := by decide +kernel
theorem dX9_countHolders_37 : decode cX9_countHolders 37 = .ok (.aload 4, 2) := by decide +kernel
theorem dX9_countHolders_39 : decode cX9_countHolders 39 = .ok (.iload_n 1, 1) := by decide +kernel
theorem dX9_countHolders_40 : decode cX9_countHolders 40 = .ok (.invokevirtual 179, 3) := by decide +kernel
theorem dX9_countHolders_43 : decode cX9_countHolders 43 = .ok (.ifCond .eq 7, 3) := by decide +kernel
theorem dX9_countHolders_46 : decode cX9_countHolders 46 = .ok (.iconst 1, 1) := by decide +kernel
theorem dX9_countHolders_47 : decode cX9_countHolders 47 = .ok (.goto 4, 3) := by decide +kernel
theorem dX9_countHolders_50 : decode cX9_countHolders 50 = .ok (.iconst 0, 1) := by decide +kernel
theorem dX9_countHolders_51 : decode cX9_countHolders 51 = .ok (.iadd, 1) := by decide +kernel
theorem dX9_countHolders_52 : decode cX9_countHolders 52 = .ok (.istore_n 2, 1) := by decide +kernel
theorem dX9_countHolders_53 : decode cX9_countHolders 53 = .ok (.iinc 3 1, 3) := by decide +kernel
theorem dX9_countHolders_56 : decode cX9_countHolders 56 = .ok (.goto (-52), 3) := by decide +kernel
theorem dX9_countHolders_59 : decode cX9_countHolders 59 = .ok (.iload_n 2, 1) := by decide +kernel
theorem dX9_countHolders_60 : decode cX9_countHolders 60 = .ok (.ireturn, 1) := by decide +kernel
theorem dX9_countWordings_0 : decode cX9_countWordings 0 = .ok (.iconst 0, 1) := by decide +kernel
theorem dX9_countWordings_1 : decode cX9_countWordings 1 = .ok (.istore_n 2, 1) := by decide +kernel
theorem dX9_countWordings_2 : decode cX9_countWordings 2 = .ok (.iconst 0, 1) := by decide +kernel
theorem dX9_countWordings_3 : decode cX9_countWordings 3 = .ok (.istore_n 3, 1) := by decide +kernel
theorem dX9_countWordings_4 : decode cX9_countWordings 4 = .ok (.iload_n 3, 1) := by decide +kernel
theorem dX9_countWordings_5 : decode cX9_countWordings 5 = .ok (.aload_n 0, 1) := by decide +kernel
theorem dX9_countWordings_6 : decode cX9_countWordings 6 = .ok (.getfield 12, 3) := by decide +kernel
theorem dX9_countWordings_9 : decode cX9_countWordings 9 = .ok (.invokevirtual 80, 3) := by decide +kernel
theorem dX9_countWordings_12 : decode cX9_countWordings 12 = .ok (.if_icmp .ge 50, 3) := by decide +kernel
theorem dX9_countWordings_15 : decode cX9_countWordings 15 = .ok (.aload_n 0, 1) := by decide +kernel
theorem dX9_countWordings_16 : decode cX9_countWordings 16 = .ok (.getfield 12, 3) := by decide +kernel
theorem dX9_countWordings_19 : decode cX9_countWordings 19 = .ok (.iload_n 3, 1) := by decide +kernel
theorem dX9_countWordings_20 : decode cX9_countWordings 20 = .ok (.invokevirtual 123, 3) := by decide +kernel
theorem dX9_countWordings_23 : decode cX9_countWordings 23 = .ok (.checkcast 84, 3) := by decide +kernel
theorem dX9_countWordings_26 : decode cX9_countWordings 26 = .ok (.astore 4, 2) := by decide +kernel
theorem dX9_countWordings_28 : decode cX9_countWordings 28 = .ok (.aload 4, 2) := by decide +kernel
theorem dX9_countWordings_30 : decode cX9_countWordings 30 = .ok (.invokevirtual 127, 3) := by decide +kernel
theorem dX9_countWordings_33 : decode cX9_countWordings 33 = .ok (.ifCond .eq 23, 3) := by decide +kernel
theorem dX9_countWordings_36 : decode cX9_countWordings 36 = .ok (.aload 4, 2) := by decide +kernel
theorem dX9_countWordings_38 : decode cX9_countWordings 38 = .ok (.iload_n 1, 1) := by decide +kernel
theorem dX9_countWordings_39 : decode cX9_countWordings 39 = .ok (.invokevirtual 179, 3) := by decide +kernel
theorem dX9_countWordings_42 : decode cX9_countWordings 42 = .ok (.ifCond .eq 14, 3) := by decide +kernel
theorem dX9_countWordings_45 : decode cX9_countWordings 45 = .ok (.iload_n 2, 1) := by decide +kernel
theorem dX9_countWordings_46 : decode cX9_countWordings 46 = .ok (.iconst 1, 1) := by decide +kernel
theorem dX9_countWordings_47 : decode cX9_countWordings 47 = .ok (.aload 4, 2) := by decide +kernel
theorem dX9_countWordings_49 : decode cX9_countWordings 49 = .ok (.iload_n 1, 1) := by decide +kernel
theorem dX9_countWordings_50 : decode cX9_countWordings 50 = .ok (.invokevirtual 185, 3) := by decide +kernel
theorem dX9_countWordings_53 : decode cX9_countWordings 53 = .ok (.ishl, 1) := by decide +kernel
theorem dX9_countWordings_54 : decode cX9_countWordings 54 = .ok (.ior, 1) := by decide +kernel
theorem dX9_countWordings_55 : decode cX9_countWordings 55 = .ok (.istore_n 2, 1) := by decide +kernel
theorem dX9_countWordings_56 : decode cX9_countWordings 56 = .ok (.iinc 3 1, 3) := by decide +kernel
theorem dX9_countWordings_59 : decode cX9_countWordings 59 = .ok (.goto (-55), 3) := by decide +kernel
theorem dX9_countWordings_62 : decode cX9_countWordings 62 = .ok (.iload_n 2, 1) := by decide +kernel
theorem dX9_countWordings_63 : decode cX9_countWordings 63 = .ok (.invokestatic 218, 3) := by decide +kernel
theorem dX9_countWordings_66 : decode cX9_countWordings 66 = .ok (.ireturn, 1) := by decide +kernel
theorem dX9_countDead_0 : decode cX9_countDead 0 = .ok (.iconst 0, 1) := by decide +kernel
theorem dX9_countDead_1 : decode cX9_countDead 1 = .ok (.istore_n 1, 1) := by decide +kernel
theorem dX9_countDead_2 : decode cX9_countDead 2 = .ok (.iconst 0, 1) := by decide +kernel
theorem dX9_countDead_3 : decode cX9_countDead 3 = .ok (.istore_n 2, 1) := by decide +kernel
theorem dX9_countDead_4 : decode cX9_countDead 4 = .ok (.iload_n 2, 1) := by decide +kernel
theorem dX9_countDead_5 : decode cX9_countDead 5 = .ok (.aload_n 0, 1) := by decide +kernel
theorem dX9_countDead_6 : decode cX9_countDead 6 = .ok (.getfield 16, 3) := by decide +kernel
theorem dX9_countDead_9 : decode cX9_countDead 9 = .ok (.invokevirtual 80, 3) := by decide +kernel
theorem dX9_countDead_12 : decode cX9_countDead 12 = .ok (.if_icmp .ge 34, 3) := by decide +kernel
theorem dX9_countDead_15 : decode cX9_countDead 15 = .ok (.iload_n 1, 1) := by decide +kernel
theorem dX9_countDead_16 : decode cX9_countDead 16 = .ok (.aload_n 0, 1) := by decide +kernel
theorem dX9_countDead_17 : decode cX9_countDead 17 = .ok (.getfield 16, 3) := by decide +kernel
theorem dX9_countDead_20 : decode cX9_countDead 20 = .ok (.iload_n 2, 1) := by decide +kernel
theorem dX9_countDead_21 : decode cX9_countDead 21 = .ok (.invokevirtual 123, 3) := by decide +kernel
theorem dX9_countDead_24 : decode cX9_countDead 24 = .ok (.checkcast 167, 3) := by decide +kernel
theorem dX9_countDead_27 : decode cX9_countDead 27 = .ok (.invokevirtual 223, 3) := by decide +kernel
theorem dX9_countDead_30 : decode cX9_countDead 30 = .ok (.ifCond .eq 7, 3) := by decide +kernel
theorem dX9_countDead_33 : decode cX9_countDead 33 = .ok (.iconst 1, 1) := by decide +kernel
theorem dX9_countDead_34 : decode cX9_countDead 34 = .ok (.goto 4, 3) := by decide +kernel
theorem dX9_countDead_37 : decode cX9_countDead 37 = .ok (.iconst 0, 1) := by decide +kernel
theorem dX9_countDead_38 : decode cX9_countDead 38 = .ok (.iadd, 1) := by decide +kernel
theorem dX9_countDead_39 : decode cX9_countDead 39 = .ok (.istore_n 1, 1) := by decide +kernel
theorem dX9_countDead_40 : decode cX9_countDead 40 = .ok (.iinc 2 1, 3) := by decide +kernel
theorem dX9_countDead_43 : decode cX9_countDead 43 = .ok (.goto (-39), 3) := by decide +kernel
theorem dX9_countDead_46 : decode cX9_countDead 46 = .ok (.iload_n 1, 1) := by decide +kernel
theorem dX9_countDead_47 : decode cX9_countDead 47 = .ok (.ireturn, 1) := by decide +kernel
theorem dX9_summers_0 : decode cX9_summers 0 = .ok (.iload_n 1, 1) := by decide +kernel
theorem dX9_summers_1 : decode cX9_summers 1 = .ok (.iconst 1, 1) := by decide +kernel
theorem dX9_summers_2 : decode cX9_summers 2 = .ok (.if_icmp .lt 21, 3) := by decide +kernel
theorem dX9_summers_5 : decode cX9_summers 5 = .ok (.iload_n 1, 1) := by decide +kernel
theorem dX9_summers_6 : decode cX9_summers 6 = .ok (.bipush 20, 2) := by decide +kernel
theorem dX9_summers_8 : decode cX9_summers 8 = .ok (.if_icmp .gt 15, 3) := by decide +kernel
theorem dX9_summers_11 : decode cX9_summers 11 = .ok (.aload_n 0, 1) := by decide +kernel
theorem dX9_summers_12 : decode cX9_summers 12 = .ok (.getfield 37, 3) := by decide +kernel
theorem dX9_summers_15 : decode cX9_summers 15 = .ok (.iload_n 1, 1) := by decide +kernel
theorem dX9_summers_16 : decode cX9_summers 16 = .ok (.iadd, 1) := by decide +kernel
theorem dX9_summers_17 : decode cX9_summers 17 = .ok (.sipush 199, 3) := by decide +kernel
theorem dX9_summers_20 : decode cX9_summers 20 = .ok (.if_icmp .le 5, 3) := by decide +kernel
theorem dX9_summers_23 : decode cX9_summers 23 = .ok (.iconst (-1), 1) := by decide +kernel
theorem dX9_summers_24 : decode cX9_summers 24 = .ok (.ireturn, 1) := by decide +kernel
theorem dX9_summers_25 : decode cX9_summers 25 = .ok (.iconst 0, 1) := by decide +kernel
theorem dX9_summers_26 : decode cX9_summers 26 = .ok (.istore_n 2, 1) := by decide +kernel
theorem dX9_summers_27 : decode cX9_summers 27 = .ok (.iload_n 2, 1) := by decide +kernel
theorem dX9_summers_28 : decode cX9_summers 28 = .ok (.iload_n 1, 1) := by decide +kernel
theorem dX9_summers_29 : decode cX9_summers 29 = .ok (.if_icmp .ge 13, 3) := by decide +kernel
theorem dX9_summers_32 : decode cX9_summers 32 = .ok (.aload_n 0, 1) := by decide +kernel
theorem dX9_summers_33 : decode cX9_summers 33 = .ok (.invokevirtual 226, 3) := by decide +kernel
theorem dX9_summers_36 : decode cX9_summers 36 = .ok (.iinc 2 1, 3) := by decide +kernel
theorem dX9_summers_39 : decode cX9_summers 39 = .ok (.goto (-12), 3) := by decide +kernel
theorem dX9_summers_42 : decode cX9_summers 42 = .ok (.aload_n 0, 1) := by decide +kernel
theorem dX9_summers_43 : decode cX9_summers 43 = .ok (.getfield 37, 3) := by decide +kernel
theorem dX9_summers_46 : decode cX9_summers 46 = .ok (.ireturn, 1) := by decide +kernel
theorem dX9_passSummer_0 : decode cX9_passSummer 0 = .ok (.aload_n 0, 1) := by decide +kernel
theorem dX9_passSummer_1 : decode cX9_passSummer 1 = .ok (.invokevirtual 229, 3) := by decide +kernel
theorem dX9_passSummer_4 : decode cX9_passSummer 4 = .ok (.istore_n 1, 1) := by decide +kernel
theorem dX9_passSummer_5 : decode cX9_passSummer 5 = .ok (.iconst 0, 1) := by decide +kernel
theorem dX9_passSummer_6 : decode cX9_passSummer 6 = .ok (.istore_n 2, 1) := by decide +kernel
theorem dX9_passSummer_7 : decode cX9_passSummer 7 = .ok (.iconst 0, 1) := by decide +kernel
theorem dX9_passSummer_8 : decode cX9_passSummer 8 = .ok (.istore_n 3, 1) := by decide +kernel
theorem dX9_passSummer_9 : decode cX9_passSummer 9 = .ok (.iload_n 3, 1) := by decide +kernel
theorem dX9_passSummer_10 : decode cX9_passSummer 10 = .ok (.aload_n 0, 1) := by decide +kernel
theorem dX9_passSummer_11 : decode cX9_passSummer 11 = .ok (.getfield 16, 3) := by decide +kernel
theorem dX9_passSummer_14 : decode cX9_passSummer 14 = .ok (.invokevirtual 80, 3) := by decide +kernel
theorem dX9_passSummer_17 : decode cX9_passSummer 17 = .ok (.if_icmp .ge 61, 3) := by decide +kernel
theorem dX9_passSummer_20 : decode cX9_passSummer 20 = .ok (.aload_n 0, 1) := by decide +kernel
theorem dX9_passSummer_21 : decode cX9_passSummer 21 = .ok (.getfield 16, 3) := by decide +kernel
theorem dX9_passSummer_24 : decode cX9_passSummer 24 = .ok (.iload_n 3, 1) := by decide +kernel
theorem dX9_passSummer_25 : decode cX9_passSummer 25 = .ok (.invokevirtual 123, 3) := by decide +kernel
theorem dX9_passSummer_28 : decode cX9_passSummer 28 = .ok (.checkcast 167, 3) := by decide +kernel
theorem dX9_passSummer_31 : decode cX9_passSummer 31 = .ok (.astore 4, 2) := by decide +kernel
theorem dX9_passSummer_33 : decode cX9_passSummer 33 = .ok (.aload 4, 2) := by decide +kernel
theorem dX9_passSummer_35 : decode cX9_passSummer 35 = .ok (.getfield 199, 3) := by decide +kernel
theorem dX9_passSummer_38 : decode cX9_passSummer 38 = .ok (.aload_n 0, 1) := by decide +kernel
theorem dX9_passSummer_39 : decode cX9_passSummer 39 = .ok (.getfield 37, 3) := by decide +kernel
theorem dX9_passSummer_42 : decode cX9_passSummer 42 = .ok (.iconst 3, 1) := by decide +kernel
theorem dX9_passSummer_43 : decode cX9_passSummer 43 = .ok (.irem, 1) := by decide +kernel
theorem dX9_passSummer_44 : decode cX9_passSummer 44 = .ok (.if_icmp .ne 28, 3) := by decide +kernel
theorem dX9_passSummer_47 : decode cX9_passSummer 47 = .ok (.aload 4, 2) := by decide +kernel
theorem dX9_passSummer_49 : decode cX9_passSummer 49 = .ok (.invokevirtual 223, 3) := by decide +kernel
theorem dX9_passSummer_52 : decode cX9_passSummer 52 = .ok (.ifCond .ne 20, 3) := by decide +kernel
theorem dX9_passSummer_55 : decode cX9_passSummer 55 = .ok (.aload_n 0, 1) := by decide +kernel
theorem dX9_passSummer_56 : decode cX9_passSummer 56 = .ok (.iload_n 3, 1) := by decide +kernel
theorem dX9_passSummer_57 : decode cX9_passSummer 57 = .ok (.aload 4, 2) := by decide +kernel
theorem dX9_passSummer_59 : decode cX9_passSummer 59 = .ok (.iload_n 1, 1) := by decide +kernel
theorem dX9_passSummer_60 : decode cX9_passSummer 60 = .ok (.invokevirtual 232, 3) := by decide +kernel
theorem dX9_passSummer_63 : decode cX9_passSummer 63 = .ok (.ifCond .eq 9, 3) := by decide +kernel
theorem dX9_passSummer_66 : decode cX9_passSummer 66 = .ok (.iload_n 2, 1) := by decide +kernel
theorem dX9_passSummer_67 : decode cX9_passSummer 67 = .ok (.iconst 1, 1) := by decide +kernel
theorem dX9_passSummer_68 : decode cX9_passSummer 68 = .ok (.iload_n 3, 1) := by decide +kernel
theorem dX9_passSummer_69 : decode cX9_passSummer 69 = .ok (.ishl, 1) := by decide +kernel
theorem dX9_passSummer_70 : decode cX9_passSummer 70 = .ok (.ior, 1) := by decide +kernel
theorem dX9_passSummer_71 : decode cX9_passSummer 71 = .ok (.istore_n 2, 1) := by decide +kernel
theorem dX9_passSummer_72 : decode cX9_passSummer 72 = .ok (.iinc 3 1, 3) := by decide +kernel
theorem dX9_passSummer_75 : decode cX9_passSummer 75 = .ok (.goto (-66), 3) := by decide +kernel
theorem dX9_passSummer_78 : decode cX9_passSummer 78 = .ok (.iconst 0, 1) := by decide +kernel
theorem dX9_passSummer_79 : decode cX9_passSummer 79 = .ok (.istore_n 3, 1) := by decide +kernel
theorem dX9_passSummer_80 : decode cX9_passSummer 80 = .ok (.iload_n 3, 1) := by decide +kernel
theorem dX9_passSummer_81 : decode cX9_passSummer 81 = .ok (.aload_n 0, 1) := by decide +kernel
theorem dX9_passSummer_82 : decode cX9_passSummer 82 = .ok (.getfield 16, 3) := by decide +kernel
theorem dX9_passSummer_85 : decode cX9_passSummer 85 = .ok (.invokevirtual 80, 3) := by decide +kernel
theorem dX9_passSummer_88 : decode cX9_passSummer 88 = .ok (.if_icmp .ge 61, 3) := by decide +kernel
theorem dX9_passSummer_91 : decode cX9_passSummer 91 = .ok (.aload_n 0, 1) := by decide +kernel
theorem dX9_passSummer_92 : decode cX9_passSummer 92 = .ok (.getfield 16, 3) := by decide +kernel
theorem dX9_passSummer_95 : decode cX9_passSummer 95 = .ok (.iload_n 3, 1) := by decide +kernel
theorem dX9_passSummer_96 : decode cX9_passSummer 96 = .ok (.invokevirtual 123, 3) := by decide +kernel
theorem dX9_passSummer_99 : decode cX9_passSummer 99 = .ok (.checkcast 167, 3) := by decide +kernel
theorem dX9_passSummer_102 : decode cX9_passSummer 102 = .ok (.getfield 202, 3) := by decide +kernel
theorem dX9_passSummer_105 : decode cX9_passSummer 105 = .ok (.ifCond .eq 17, 3) := by decide +kernel
theorem dX9_passSummer_108 : decode cX9_passSummer 108 = .ok (.aload_n 0, 1) := by decide +kernel
theorem dX9_passSummer_109 : decode cX9_passSummer 109 = .ok (.getfield 37, 3) := by decide +kernel
theorem dX9_passSummer_112 : decode cX9_passSummer 112 = .ok (.iconst 3, 1) := by decide +kernel
theorem dX9_passSummer_113 : decode cX9_passSummer 113 = .ok (.irem, 1) := by decide +kernel
theorem dX9_passSummer_114 : decode cX9_passSummer 114 = .ok (.iconst 2, 1) := by decide +kernel
theorem dX9_passSummer_115 : decode cX9_passSummer 115 = .ok (.if_icmp .eq 7, 3) := by decide +kernel
theorem dX9_passSummer_118 : decode cX9_passSummer 118 = .ok (.iconst 1, 1) := by decide +kernel
theorem dX9_passSummer_119 : decode cX9_passSummer 119 = .ok (.goto 4, 3) := by decide +kernel
theorem dX9_passSummer_122 : decode cX9_passSummer 122 = .ok (.iconst 0, 1) := by decide +kernel
theorem dX9_passSummer_123 : decode cX9_passSummer 123 = .ok (.istore 4, 2) := by decide +kernel
theorem dX9_passSummer_125 : decode cX9_passSummer 125 = .ok (.iload_n 2, 1) := by decide +kernel
theorem dX9_passSummer_126 : decode cX9_passSummer 126 = .ok (.iload_n 3, 1) := by decide +kernel
theorem dX9_passSummer_127 : decode cX9_passSummer 127 = .ok (.iushr, 1) := by decide +kernel
theorem dX9_passSummer_128 : decode cX9_passSummer 128 = .ok (.iconst 1, 1) := by decide +kernel
theorem dX9_passSummer_129 : decode cX9_passSummer 129 = .ok (.iand, 1) := by decide +kernel
theorem dX9_passSummer_130 : decode cX9_passSummer 130 = .ok (.ifCond .ne 13, 3) := by decide +kernel
theorem dX9_passSummer_133 : decode cX9_passSummer 133 = .ok (.iload 4, 2) := by decide +kernel
theorem dX9_passSummer_135 : decode cX9_passSummer 135 = .ok (.ifCond .ne 8, 3) := by decide +kernel
theorem dX9_passSummer_138 : decode cX9_passSummer 138 = .ok (.aload_n 0, 1) := by decide +kernel
theorem dX9_passSummer_139 : decode cX9_passSummer 139 = .ok (.iload_n 3, 1) := by decide +kernel
theorem dX9_passSummer_140 : decode cX9_passSummer 140 = .ok (.invokevirtual 236, 3) := by decide +kernel
theorem dX9_passSummer_143 : decode cX9_passSummer 143 = .ok (.iinc 3 1, 3) := by decide +kernel
theorem dX9_passSummer_146 : decode cX9_passSummer 146 = .ok (.goto (-66), 3) := by decide +kernel
theorem dX9_passSummer_149 : decode cX9_passSummer 149 = .ok (.iconst 0, 1) := by decide +kernel
theorem dX9_passSummer_150 : decode cX9_passSummer 150 = .ok (.istore_n 3, 1) := by decide +kernel
theorem dX9_passSummer_151 : decode cX9_passSummer 151 = .ok (.iload_n 3, 1) := by decide +kernel
theorem dX9_passSummer_152 : decode cX9_passSummer 152 = .ok (.aload_n 0, 1) := by decide +kernel
theorem dX9_passSummer_153 : decode cX9_passSummer 153 = .ok (.getfield 12, 3) := by decide +kernel
theorem dX9_passSummer_156 : decode cX9_passSummer 156 = .ok (.invokevirtual 80, 3) := by decide +kernel
theorem dX9_passSummer_159 : decode cX9_passSummer 159 = .ok (.if_icmp .ge 24, 3) := by decide +kernel
theorem dX9_passSummer_162 : decode cX9_passSummer 162 = .ok (.aload_n 0, 1) := by decide +kernel
theorem dX9_passSummer_163 : decode cX9_passSummer 163 = .ok (.getfield 12, 3) := by decide +kernel
theorem dX9_passSummer_166 : decode cX9_passSummer 166 = .ok (.iload_n 3, 1) := by decide +kernel
theorem dX9_passSummer_167 : decode cX9_passSummer 167 = .ok (.invokevirtual 123, 3) := by decide +kernel
theorem dX9_passSummer_170 : decode cX9_passSummer 170 = .ok (.checkcast 84, 3) := by decide +kernel
theorem dX9_passSummer_173 : decode cX9_passSummer 173 = .ok (.iconst 0, 1) := by decide +kernel
theorem dX9_passSummer_174 : decode cX9_passSummer 174 = .ok (.putfield 100, 3) := by decide +kernel
theorem dX9_passSummer_177 : decode cX9_passSummer 177 = .ok (.iinc 3 1, 3) := by decide +kernel
theorem dX9_passSummer_180 : decode cX9_passSummer 180 = .ok (.goto (-29), 3) := by decide +kernel
theorem dX9_passSummer_183 : decode cX9_passSummer 183 = .ok (.aload_n 0, 1) := by decide +kernel
theorem dX9_passSummer_184 : decode cX9_passSummer 184 = .ok (.dup, 1) := by decide +kernel
theorem dX9_passSummer_185 : decode cX9_passSummer 185 = .ok (.getfield 37, 3) := by decide +kernel
theorem dX9_passSummer_188 : decode cX9_passSummer 188 = .ok (.iconst 1, 1) := by decide +kernel
theorem dX9_passSummer_189 : decode cX9_passSummer 189 = .ok (.iadd, 1) := by decide +kernel
theorem dX9_passSummer_190 : decode cX9_passSummer 190 = .ok (.putfield 37, 3) := by decide +kernel
theorem dX9_passSummer_193 : decode cX9_passSummer 193 = .ok (.return_, 1) := by decide +kernel
theorem dX9_presentOnes_0 : decode cX9_presentOnes 0 = .ok (.iconst 0, 1) := by decide +kernel
theorem dX9_presentOnes_1 : decode cX9_presentOnes 1 = .ok (.istore_n 1, 1) := by decide +kernel
theorem dX9_presentOnes_2 : decode cX9_presentOnes 2 = .ok (.iconst 0, 1) := by decide +kernel
theorem dX9_presentOnes_3 : decode cX9_presentOnes 3 = .ok (.istore_n 2, 1) := by decide +kernel
theorem dX9_presentOnes_4 : decode cX9_presentOnes 4 = .ok (.iload_n 2, 1) := by decide +kernel
theorem dX9_presentOnes_5 : decode cX9_presentOnes 5 = .ok (.aload_n 0, 1) := by decide +kernel
theorem dX9_presentOnes_6 : decode cX9_presentOnes 6 = .ok (.getfield 12, 3) := by decide +kernel
theorem dX9_presentOnes_9 : decode cX9_presentOnes 9 = .ok (.invokevirtual 80, 3) := by decide +kernel
theorem dX9_presentOnes_12 : decode cX9_presentOnes 12 = .ok (.if_icmp .ge 49, 3) := by decide +kernel
theorem dX9_presentOnes_15 : decode cX9_presentOnes 15 = .ok (.aload_n 0, 1) := by decide +kernel
theorem dX9_presentOnes_16 : decode cX9_presentOnes 16 = .ok (.getfield 12, 3) := by decide +kernel
theorem dX9_presentOnes_19 : decode cX9_presentOnes 19 = .ok (.iload_n 2, 1) := by decide +kernel
theorem dX9_presentOnes_20 : decode cX9_presentOnes 20 = .ok (.invokevirtual 123, 3) := by decide +kernel
theorem dX9_presentOnes_23 : decode cX9_presentOnes 23 = .ok (.checkcast 84, 3) := by decide +kernel
theorem dX9_presentOnes_26 : decode cX9_presentOnes 26 = .ok (.astore_n 3, 1) := by decide +kernel
theorem dX9_presentOnes_27 : decode cX9_presentOnes 27 = .ok (.aload_n 3, 1) := by decide +kernel
theorem dX9_presentOnes_28 : decode cX9_presentOnes 28 = .ok (.invokevirtual 127, 3) := by decide +kernel
theorem dX9_presentOnes_31 : decode cX9_presentOnes 31 = .ok (.ifCond .eq 24, 3) := by decide +kernel
theorem dX9_presentOnes_34 : decode cX9_presentOnes 34 = .ok (.aload_n 3, 1) := by decide +kernel
theorem dX9_presentOnes_35 : decode cX9_presentOnes 35 = .ok (.getfield 100, 3) := by decide +kernel
theorem dX9_presentOnes_38 : decode cX9_presentOnes 38 = .ok (.ifCond .ne 17, 3) := by decide +kernel
theorem dX9_presentOnes_41 : decode cX9_presentOnes 41 = .ok (.aload_n 0, 1) := by decide +kernel
theorem dX9_presentOnes_42 : decode cX9_presentOnes 42 = .ok (.iload_n 2, 1) := by decide +kernel
theorem dX9_presentOnes_43 : decode cX9_presentOnes 43 = .ok (.invokevirtual 116, 3) := by decide +kernel
theorem dX9_presentOnes_46 : decode cX9_presentOnes 46 = .ok (.ifCond .ne 9, 3) := by decide +kernel
theorem dX9_presentOnes_49 : decode cX9_presentOnes 49 = .ok (.iload_n 1, 1) := by decide +kernel
theorem dX9_presentOnes_50 : decode cX9_presentOnes 50 = .ok (.iconst 1, 1) := by decide +kernel
theorem dX9_presentOnes_51 : decode cX9_presentOnes 51 = .ok (.iload_n 2, 1) := by decide +kernel
theorem dX9_presentOnes_52 : decode cX9_presentOnes 52 = .ok (.ishl, 1) := by decide +kernel
theorem dX9_presentOnes_53 : decode cX9_presentOnes 53 = .ok (.ior, 1) := by decide +kernel
theorem dX9_presentOnes_54 : decode cX9_presentOnes 54 = .ok (.istore_n 1, 1) := by decide +kernel
theorem dX9_presentOnes_55 : decode cX9_presentOnes 55 = .ok (.iinc 2 1, 3) := by decide +kernel
theorem dX9_presentOnes_58 : decode cX9_presentOnes 58 = .ok (.goto (-54), 3) := by decide +kernel
theorem dX9_presentOnes_61 : decode cX9_presentOnes 61 = .ok (.iload_n 1, 1) := by decide +kernel
theorem dX9_presentOnes_62 : decode cX9_presentOnes 62 = .ok (.ireturn, 1) := by decide +kernel
theorem dX9_callLine_0 : decode cX9_callLine 0 = .ok (.aload_n 0, 1) := by decide +kernel
theorem dX9_callLine_1 : decode cX9_callLine 1 = .ok (.iload_n 1, 1) := by decide +kernel
theorem dX9_callLine_2 : decode cX9_callLine 2 = .ok (.iload_n 3, 1) := by decide +kernel
theorem dX9_callLine_3 : decode cX9_callLine 3 = .ok (.invokevirtual 239, 3) := by decide +kernel
theorem dX9_callLine_6 : decode cX9_callLine 6 = .ok (.istore 4, 2) := by decide +kernel
theorem dX9_callLine_8 : decode cX9_callLine 8 = .ok (.iload 4, 2) := by decide +kernel
theorem dX9_callLine_10 : decode cX9_callLine 10 = .ok (.iconst (-1), 1) := by decide +kernel
theorem dX9_callLine_11 : decode cX9_callLine 11 = .ok (.if_icmp .ne 13, 3) := by decide +kernel
theorem dX9_callLine_14 : decode cX9_callLine 14 = .ok (.aload_n 2, 1) := by decide +kernel
theorem dX9_callLine_15 : decode cX9_callLine 15 = .ok (.aload_n 0, 1) := by decide +kernel
theorem dX9_callLine_16 : decode cX9_callLine 16 = .ok (.getfield 37, 3) := by decide +kernel
theorem dX9_callLine_19 : decode cX9_callLine 19 = .ok (.invokevirtual 243, 3) := by decide +kernel
theorem dX9_callLine_22 : decode cX9_callLine 22 = .ok (.iconst 0, 1) := by decide +kernel
theorem dX9_callLine_23 : decode cX9_callLine 23 = .ok (.ireturn, 1) := by decide +kernel
theorem dX9_callLine_24 : decode cX9_callLine 24 = .ok (.aload_n 2, 1) := by decide +kernel
theorem dX9_callLine_25 : decode cX9_callLine 25 = .ok (.aload_n 0, 1) := by decide +kernel
theorem dX9_callLine_26 : decode cX9_callLine 26 = .ok (.getfield 37, 3) := by decide +kernel
theorem dX9_callLine_29 : decode cX9_callLine 29 = .ok (.iload 4, 2) := by decide +kernel
theorem dX9_callLine_31 : decode cX9_callLine 31 = .ok (.invokevirtual 246, 3) := by decide +kernel
theorem dX9_callLine_34 : decode cX9_callLine 34 = .ok (.iconst 0, 1) := by decide +kernel
theorem dX9_callLine_35 : decode cX9_callLine 35 = .ok (.istore 5, 2) := by decide +kernel
theorem dX9_callLine_37 : decode cX9_callLine 37 = .ok (.iload 5, 2) := by decide +kernel
theorem dX9_callLine_39 : decode cX9_callLine 39 = .ok (.aload_n 0, 1) := by decide +kernel
theorem dX9_callLine_40 : decode cX9_callLine 40 = .ok (.getfield 12, 3) := by decide +kernel
theorem dX9_callLine_43 : decode cX9_callLine 43 = .ok (.invokevirtual 80, 3) := by decide +kernel
theorem dX9_callLine_46 : decode cX9_callLine 46 = .ok (.if_icmp .ge 37, 3) := by decide +kernel
theorem dX9_callLine_49 : decode cX9_callLine 49 = .ok (.iload_n 3, 1) := by decide +kernel
theorem dX9_callLine_50 : decode cX9_callLine 50 = .ok (.iload 5, 2) := by decide +kernel
theorem dX9_callLine_52 : decode cX9_callLine 52 = .ok (.iushr, 1) := by decide +kernel
theorem dX9_callLine_53 : decode cX9_callLine 53 = .ok (.iconst 1, 1) := by decide +kernel
theorem dX9_callLine_54 : decode cX9_callLine 54 = .ok (.iand, 1) := by decide +kernel
theorem dX9_callLine_55 : decode cX9_callLine 55 = .ok (.ifCond .eq 22, 3) := by decide +kernel
theorem dX9_callLine_58 : decode cX9_callLine 58 = .ok (.aload_n 0, 1) := by decide +kernel
theorem dX9_callLine_59 : decode cX9_callLine 59 = .ok (.aload_n 0, 1) := by decide +kernel
theorem dX9_callLine_60 : decode cX9_callLine 60 = .ok (.getfield 12, 3) := by decide +kernel
theorem dX9_callLine_63 : decode cX9_callLine 63 = .ok (.iload 5, 2) := by decide +kernel
theorem dX9_callLine_65 : decode cX9_callLine 65 = .ok (.invokevirtual 123, 3) := by decide +kernel
theorem dX9_callLine_68 : decode cX9_callLine 68 = .ok (.checkcast 84, 3) := by decide +kernel
theorem dX9_callLine_71 : decode cX9_callLine 71 = .ok (.iload_n 1, 1) := by decide +kernel
theorem dX9_callLine_72 : decode cX9_callLine 72 = .ok (.iload 4, 2) := by decide +kernel
theorem dX9_callLine_74 : decode cX9_callLine 74 = .ok (.invokevirtual 250, 3) := by decide +kernel
theorem dX9_callLine_77 : decode cX9_callLine 77 = .ok (.iinc 5 1, 3) := by decide +kernel
theorem dX9_callLine_80 : decode cX9_callLine 80 = .ok (.goto (-43), 3) := by decide +kernel
theorem dX9_callLine_83 : decode cX9_callLine 83 = .ok (.iconst 1, 1) := by decide +kernel
theorem dX9_callLine_84 : decode cX9_callLine 84 = .ok (.ireturn, 1) := by decide +kernel
theorem dX9_hear_0 : decode cX9_hear 0 = .ok (.aload_n 0, 1) := by decide +kernel
theorem dX9_hear_1 : decode cX9_hear 1 = .ok (.getfield 37, 3) := by decide +kernel
theorem dX9_hear_4 : decode cX9_hear 4 = .ok (.aload_n 1, 1) := by decide +kernel
theorem dX9_hear_5 : decode cX9_hear 5 = .ok (.getfield 113, 3) := by decide +kernel
theorem dX9_hear_8 : decode cX9_hear 8 = .ok (.isub, 1) := by decide +kernel
theorem dX9_hear_9 : decode cX9_hear 9 = .ok (.istore 4, 2) := by decide +kernel
theorem dX9_hear_11 : decode cX9_hear 11 = .ok (.aload_n 1, 1) := by decide +kernel
theorem dX9_hear_12 : decode cX9_hear 12 = .ok (.iload_n 2, 1) := by decide +kernel
theorem dX9_hear_13 : decode cX9_hear 13 = .ok (.invokevirtual 179, 3) := by decide +kernel
theorem dX9_hear_16 : decode cX9_hear 16 = .ok (.ifCond .eq 41, 3) := by decide +kernel
theorem dX9_hear_19 : decode cX9_hear 19 = .ok (.aload_n 1, 1) := by decide +kernel
theorem dX9_hear_20 : decode cX9_hear 20 = .ok (.iload_n 2, 1) := by decide +kernel
theorem dX9_hear_21 : decode cX9_hear 21 = .ok (.invokevirtual 254, 3) := by decide +kernel
theorem dX9_hear_24 : decode cX9_hear 24 = .ok (.aload_n 0, 1) := by decide +kernel
theorem dX9_hear_25 : decode cX9_hear 25 = .ok (.aload_n 1, 1) := by decide +kernel
theorem dX9_hear_26 : decode cX9_hear 26 = .ok (.invokevirtual 257, 3) := by decide +kernel
theorem dX9_hear_29 : decode cX9_hear 29 = .ok (.ifCond .ne 51, 3) := by decide +kernel
theorem dX9_hear_32 : decode cX9_hear 32 = .ok (.aload_n 1, 1) := by decide +kernel
theorem dX9_hear_33 : decode cX9_hear 33 = .ok (.iload_n 2, 1) := by decide +kernel
theorem dX9_hear_34 : decode cX9_hear 34 = .ok (.invokevirtual 185, 3) := by decide +kernel
theorem dX9_hear_37 : decode cX9_hear 37 = .ok (.iload_n 3, 1) := by decide +kernel
theorem dX9_hear_38 : decode cX9_hear 38 = .ok (.if_icmp .eq 42, 3) := by decide +kernel
theorem dX9_hear_41 : decode cX9_hear 41 = .ok (.aload_n 1, 1) := by decide +kernel
theorem dX9_hear_42 : decode cX9_hear 42 = .ok (.iload_n 2, 1) := by decide +kernel
theorem dX9_hear_43 : decode cX9_hear 43 = .ok (.iload_n 3, 1) := by decide +kernel
theorem dX9_hear_44 : decode cX9_hear 44 = .ok (.aload_n 1, 1) := by decide +kernel
theorem dX9_hear_45 : decode cX9_hear 45 = .ok (.iload_n 2, 1) := by decide +kernel
theorem dX9_hear_46 : decode cX9_hear 46 = .ok (.invokevirtual 189, 3) := by decide +kernel
theorem dX9_hear_49 : decode cX9_hear 49 = .ok (.bipush 100, 2) := by decide +kernel
theorem dX9_hear_51 : decode cX9_hear 51 = .ok (.invokevirtual 175, 3) := by decide +kernel
theorem dX9_hear_54 : decode cX9_hear 54 = .ok (.goto 26, 3) := by decide +kernel
theorem dX9_hear_57 : decode cX9_hear 57 = .ok (.iload 4, 2) := by decide +kernel
theorem dX9_hear_59 : decode cX9_hear 59 = .ok (.bipush 12, 2) := by decide +kernel
theorem dX9_hear_61 : decode cX9_hear 61 = .ok (.if_icmp .lt 19, 3) := by decide +kernel
theorem dX9_hear_64 : decode cX9_hear 64 = .ok (.iload 4, 2) := by decide +kernel
theorem dX9_hear_66 : decode cX9_hear 66 = .ok (.bipush 40, 2) := by decide +kernel
theorem dX9_hear_68 : decode cX9_hear 68 = .ok (.if_icmp .gt 12, 3) := by decide +kernel
theorem dX9_hear_71 : decode cX9_hear 71 = .ok (.aload_n 1, 1) := by decide +kernel
theorem dX9_hear_72 : decode cX9_hear 72 = .ok (.iload_n 2, 1) := by decide +kernel
theorem dX9_hear_73 : decode cX9_hear 73 = .ok (.iload_n 3, 1) := by decide +kernel
theorem dX9_hear_74 : decode cX9_hear 74 = .ok (.iconst 3, 1) := by decide +kernel
theorem dX9_hear_75 : decode cX9_hear 75 = .ok (.bipush 100, 2) := by decide +kernel
theorem dX9_hear_77 : decode cX9_hear 77 = .ok (.invokevirtual 175, 3) := by decide +kernel
theorem dX9_hear_80 : decode cX9_hear 80 = .ok (.return_, 1) := by decide +kernel
theorem dX9_fade_0 : decode cX9_fade 0 = .ok (.iconst 0, 1) := by decide +kernel
theorem dX9_fade_1 : decode cX9_fade 1 = .ok (.istore_n 2, 1) := by decide +kernel
theorem dX9_fade_2 : decode cX9_fade 2 = .ok (.iload_n 2, 1) := by decide +kernel
theorem dX9_fade_3 : decode cX9_fade 3 = .ok (.aload_n 0, 1) := by decide +kernel
theorem dX9_fade_4 : decode cX9_fade 4 = .ok (.getfield 12, 3) := by decide +kernel
theorem dX9_fade_7 : decode cX9_fade 7 = .ok (.invokevirtual 80, 3) := by decide +kernel
theorem dX9_fade_10 : decode cX9_fade 10 = .ok (.if_icmp .ge 33, 3) := by decide +kernel
theorem dX9_fade_13 : decode cX9_fade 13 = .ok (.aload_n 0, 1) := by decide +kernel
theorem dX9_fade_14 : decode cX9_fade 14 = .ok (.getfield 12, 3) := by decide +kernel
theorem dX9_fade_17 : decode cX9_fade 17 = .ok (.iload_n 2, 1) := by decide +kernel
theorem dX9_fade_18 : decode cX9_fade 18 = .ok (.invokevirtual 123, 3) := by decide +kernel
theorem dX9_fade_21 : decode cX9_fade 21 = .ok (.checkcast 84, 3) := by decide +kernel
theorem dX9_fade_24 : decode cX9_fade 24 = .ok (.astore_n 3, 1) := by decide +kernel
theorem dX9_fade_25 : decode cX9_fade 25 = .ok (.aload_n 3, 1) := by decide +kernel
theorem dX9_fade_26 : decode cX9_fade 26 = .ok (.invokevirtual 127, 3) := by decide +kernel
theorem dX9_fade_29 : decode cX9_fade 29 = .ok (.ifCond .eq 8, 3) := by decide +kernel
theorem dX9_fade_32 : decode cX9_fade 32 = .ok (.aload_n 3, 1) := by decide +kernel
theorem dX9_fade_33 : decode cX9_fade 33 = .ok (.iload_n 1, 1) := by decide +kernel
theorem dX9_fade_34 : decode cX9_fade 34 = .ok (.invokevirtual 261, 3) := by decide +kernel
theorem dX9_fade_37 : decode cX9_fade 37 = .ok (.iinc 2 1, 3) := by decide +kernel
theorem dX9_fade_40 : decode cX9_fade 40 = .ok (.goto (-38), 3) := by decide +kernel
theorem dX9_fade_43 : decode cX9_fade 43 = .ok (.return_, 1) := by decide +kernel
theorem dX9_standingWording_0 : decode cX9_standingWording 0 = .ok (.aload_n 0, 1) := by decide +kernel
theorem dX9_standingWording_1 : decode cX9_standingWording 1 = .ok (.iload_n 1, 1) := by decide +kernel
theorem dX9_standingWording_2 : decode cX9_standingWording 2 = .ok (.iload_n 2, 1) := by decide +kernel
theorem dX9_standingWording_3 : decode cX9_standingWording 3 = .ok (.invokevirtual 264, 3) := by decide +kernel
theorem dX9_standingWording_6 : decode cX9_standingWording 6 = .ok (.istore_n 3, 1) := by decide +kernel
theorem dX9_standingWording_7 : decode cX9_standingWording 7 = .ok (.aload_n 0, 1) := by decide +kernel
theorem dX9_standingWording_8 : decode cX9_standingWording 8 = .ok (.getfield 43, 3) := by decide +kernel
theorem dX9_standingWording_11 : decode cX9_standingWording 11 = .ok (.ifCond .ne 10, 3) := by decide +kernel
theorem dX9_standingWording_14 : decode cX9_standingWording 14 = .ok (.iload_n 3, 1) := by decide +kernel
theorem dX9_standingWording_15 : decode cX9_standingWording 15 = .ok (.iconst (-1), 1) := by decide +kernel
theorem dX9_standingWording_16 : decode cX9_standingWording 16 = .ok (.if_icmp .eq 5, 3) := by decide +kernel
theorem dX9_standingWording_19 : decode cX9_standingWording 19 = .ok (.iload_n 3, 1) := by decide +kernel
theorem dX9_standingWording_20 : decode cX9_standingWording 20 = .ok (.ireturn, 1) := by decide +kernel
theorem dX9_standingWording_21 : decode cX9_standingWording 21 = .ok (.aload_n 0, 1) := by decide +kernel
theorem dX9_standingWording_22 : decode cX9_standingWording 22 = .ok (.getfield 43, 3) := by decide +kernel
theorem dX9_standingWording_25 : decode cX9_standingWording 25 = .ok (.iconst 2, 1) := by decide +kernel
theorem dX9_standingWording_26 : decode cX9_standingWording 26 = .ok (.if_icmp .eq 18, 3) := by decide +kernel
theorem dX9_standingWording_29 : decode cX9_standingWording 29 = .ok (.aload_n 0, 1) := by decide +kernel
theorem dX9_standingWording_30 : decode cX9_standingWording 30 = .ok (.iload_n 1, 1) := by decide +kernel
theorem dX9_standingWording_31 : decode cX9_standingWording 31 = .ok (.iload_n 2, 1) := by decide +kernel
theorem dX9_standingWording_32 : decode cX9_standingWording 32 = .ok (.invokevirtual 267, 3) := by decide +kernel
theorem dX9_standingWording_35 : decode cX9_standingWording 35 = .ok (.aload_n 0, 1) := by decide +kernel
theorem dX9_standingWording_36 : decode cX9_standingWording 36 = .ok (.getfield 66, 3) := by decide +kernel
theorem dX9_standingWording_39 : decode cX9_standingWording 39 = .ok (.iload_n 3, 1) := by decide +kernel
theorem dX9_standingWording_40 : decode cX9_standingWording 40 = .ok (.invokestatic 270, 3) := by decide +kernel
theorem dX9_standingWording_43 : decode cX9_standingWording 43 = .ok (.ireturn, 1) := by decide +kernel
theorem dX9_standingWording_44 : decode cX9_standingWording 44 = .ok (.aload_n 0, 1) := by decide +kernel
theorem dX9_standingWording_45 : decode cX9_standingWording 45 = .ok (.getfield 70, 3) := by decide +kernel
theorem dX9_standingWording_48 : decode cX9_standingWording 48 = .ok (.iconst 0, 1) := by decide +kernel
theorem dX9_standingWording_49 : decode cX9_standingWording 49 = .ok (.invokestatic 274, 3) := by decide +kernel
theorem dX9_standingWording_52 : decode cX9_standingWording 52 = .ok (.iconst 0, 1) := by decide +kernel
theorem dX9_standingWording_53 : decode cX9_standingWording 53 = .ok (.istore 4, 2) := by decide +kernel
theorem dX9_standingWording_55 : decode cX9_standingWording 55 = .ok (.iload 4, 2) := by decide +kernel
theorem dX9_standingWording_57 : decode cX9_standingWording 57 = .ok (.iconst 4, 1) := by decide +kernel
theorem dX9_standingWording_58 : decode cX9_standingWording 58 = .ok (.if_icmp .ge 58, 3) := by decide +kernel
theorem dX9_standingWording_61 : decode cX9_standingWording 61 = .ok (.aload_n 0, 1) := by decide +kernel
theorem dX9_standingWording_62 : decode cX9_standingWording 62 = .ok (.iload_n 1, 1) := by decide +kernel
theorem dX9_standingWording_63 : decode cX9_standingWording 63 = .ok (.iload_n 2, 1) := by decide +kernel
theorem dX9_standingWording_64 : decode cX9_standingWording 64 = .ok (.aload_n 0, 1) := by decide +kernel
theorem dX9_standingWording_65 : decode cX9_standingWording 65 = .ok (.iload 4, 2) := by decide +kernel
theorem dX9_standingWording_67 : decode cX9_standingWording 67 = .ok (.invokevirtual 280, 3) := by decide +kernel
theorem dX9_standingWording_70 : decode cX9_standingWording 70 = .ok (.iand, 1) := by decide +kernel
theorem dX9_standingWording_71 : decode cX9_standingWording 71 = .ok (.invokevirtual 267, 3) := by decide +kernel
theorem dX9_standingWording_74 : decode cX9_standingWording 74 = .ok (.aload_n 0, 1) := by decide +kernel
theorem dX9_standingWording_75 : decode cX9_standingWording 75 = .ok (.getfield 66, 3) := by decide +kernel
theorem dX9_standingWording_78 : decode cX9_standingWording 78 = .ok (.iconst (-1), 1) := by decide +kernel
theorem dX9_standingWording_79 : decode cX9_standingWording 79 = .ok (.invokestatic 270, 3) := by decide +kernel
theorem dX9_standingWording_82 : decode cX9_standingWording 82 = .ok (.istore 5, 2) := by decide +kernel
theorem dX9_standingWording_84 : decode cX9_standingWording 84 = .ok (.iload 5, 2) := by decide +kernel
theorem dX9_standingWording_86 : decode cX9_standingWording 86 = .ok (.ifCond .lt 24, 3) := by decide +kernel
theorem dX9_standingWording_89 : decode cX9_standingWording 89 = .ok (.iload 5, 2) := by decide +kernel
theorem dX9_standingWording_91 : decode cX9_standingWording 91 = .ok (.aload_n 0, 1) := by decide +kernel
theorem dX9_standingWording_92 : decode cX9_standingWording 92 = .ok (.getfield 70, 3) := by decide +kernel
theorem dX9_standingWording_95 : decode cX9_standingWording 95 = .ok (.arraylength, 1) := by decide +kernel
theorem dX9_standingWording_96 : decode cX9_standingWording 96 = .ok (.if_icmp .ge 14, 3) := by decide +kernel
theorem dX9_standingWording_99 : decode cX9_standingWording 99 = .ok (.aload_n 0, 1) := by decide +kernel
theorem dX9_standingWording_100 : decode cX9_standingWording 100 = .ok (.getfield 70, 3) := by decide +kernel
theorem dX9_standingWording_103 : decode cX9_standingWording 103 = .ok (.iload 5, 2) := by decide +kernel
theorem dX9_standingWording_105 : decode cX9_standingWording 105 = .ok (.dup2, 1) := by decide +kernel
theorem dX9_standingWording_106 : decode cX9_standingWording 106 = .ok (.iaload, 1) := by decide +kernel
theorem dX9_standingWording_107 : decode cX9_standingWording 107 = .ok (.iconst 1, 1) := by decide +kernel
theorem dX9_standingWording_108 : decode cX9_standingWording 108 = .ok (.iadd, 1) := by decide +kernel
theorem dX9_standingWording_109 : decode cX9_standingWording 109 = .ok (.iastore, 1) := by decide +kernel
theorem dX9_standingWording_110 : decode cX9_standingWording 110 = .ok (.iinc 4 1, 3) := by decide +kernel
theorem dX9_standingWording_113 : decode cX9_standingWording 113 = .ok (.goto (-58), 3) := by decide +kernel
theorem dX9_standingWording_116 : decode cX9_standingWording 116 = .ok (.aload_n 0, 1) := by decide +kernel
theorem dX9_standingWording_117 : decode cX9_standingWording 117 = .ok (.getfield 70, 3) := by decide +kernel
theorem dX9_standingWording_120 : decode cX9_standingWording 120 = .ok (.iload_n 3, 1) := by decide +kernel
theorem dX9_standingWording_121 : decode cX9_standingWording 121 = .ok (.invokestatic 270, 3) := by decide +kernel
theorem dX9_standingWording_124 : decode cX9_standingWording 124 = .ok (.ireturn, 1) := by decide +kernel
theorem dX9_speakersWording_0 : decode cX9_speakersWording 0 = .ok (.aload_n 0, 1) := by decide +kernel
theorem dX9_speakersWording_1 : decode cX9_speakersWording 1 = .ok (.aload_n 0, 1) := by decide +kernel
theorem dX9_speakersWording_2 : decode cX9_speakersWording 2 = .ok (.getfield 40, 3) := by decide +kernel
theorem dX9_speakersWording_5 : decode cX9_speakersWording 5 = .ok (.invokevirtual 104, 3) := by decide +kernel
theorem dX9_speakersWording_8 : decode cX9_speakersWording 8 = .ok (.astore_n 3, 1) := by decide +kernel
theorem dX9_speakersWording_9 : decode cX9_speakersWording 9 = .ok (.aload_n 3, 1) := by decide +kernel
theorem dX9_speakersWording_10 : decode cX9_speakersWording 10 = .ok (.ifnull 18, 3) := by decide +kernel
theorem dX9_speakersWording_13 : decode cX9_speakersWording 13 = .ok (.iload_n 2, 1) := by decide +kernel
theorem dX9_speakersWording_14 : decode cX9_speakersWording 14 = .ok (.aload_n 0, 1) := by decide +kernel
theorem dX9_speakersWording_15 : decode cX9_speakersWording 15 = .ok (.getfield 40, 3) := by decide +kernel
theorem dX9_speakersWording_18 : decode cX9_speakersWording 18 = .ok (.iushr, 1) := by decide +kernel
theorem dX9_speakersWording_19 : decode cX9_speakersWording 19 = .ok (.iconst 1, 1) := by decide +kernel
theorem dX9_speakersWording_20 : decode cX9_speakersWording 20 = .ok (.iand, 1) := by decide +kernel
theorem dX9_speakersWording_21 : decode cX9_speakersWording 21 = .ok (.ifCond .eq 7, 3) := by decide +kernel
theorem dX9_speakersWording_24 : decode cX9_speakersWording 24 = .ok (.iconst 1, 1) := by decide +kernel
theorem dX9_speakersWording_25 : decode cX9_speakersWording 25 = .ok (.goto 4, 3) := by decide +kernel
theorem dX9_speakersWording_28 : decode cX9_speakersWording 28 = .ok (.iconst 0, 1) := by decide +kernel
theorem dX9_speakersWording_29 : decode cX9_speakersWording 29 = .ok (.istore 4, 2) := by decide +kernel
theorem dX9_speakersWording_31 : decode cX9_speakersWording 31 = .ok (.iload 4, 2) := by decide +kernel
theorem dX9_speakersWording_33 : decode cX9_speakersWording 33 = .ok (.ifCond .eq 11, 3) := by decide +kernel
theorem dX9_speakersWording_36 : decode cX9_speakersWording 36 = .ok (.aload_n 3, 1) := by decide +kernel
theorem dX9_speakersWording_37 : decode cX9_speakersWording 37 = .ok (.iload_n 1, 1) := by decide +kernel
theorem dX9_speakersWording_38 : decode cX9_speakersWording 38 = .ok (.invokevirtual 185, 3) := by decide +kernel
theorem dX9_speakersWording_41 : decode cX9_speakersWording 41 = .ok (.goto 4, 3) := by decide +kernel
theorem dX9_speakersWording_44 : decode cX9_speakersWording 44 = .ok (.iconst (-1), 1) := by decide +kernel
theorem dX9_speakersWording_45 : decode cX9_speakersWording 45 = .ok (.ireturn, 1) := by decide +kernel
theorem dX9_personsOf_0 : decode cX9_personsOf 0 = .ok (.iconst 0, 1) := by decide +kernel
theorem dX9_personsOf_1 : decode cX9_personsOf 1 = .ok (.istore_n 2, 1) := by decide +kernel
theorem dX9_personsOf_2 : decode cX9_personsOf 2 = .ok (.iconst 0, 1) := by decide +kernel
theorem dX9_personsOf_3 : decode cX9_personsOf 3 = .ok (.istore_n 3, 1) := by decide +kernel
theorem dX9_personsOf_4 : decode cX9_personsOf 4 = .ok (.iload_n 3, 1) := by decide +kernel
theorem dX9_personsOf_5 : decode cX9_personsOf 5 = .ok (.aload_n 0, 1) := by decide +kernel
theorem dX9_personsOf_6 : decode cX9_personsOf 6 = .ok (.getfield 12, 3) := by decide +kernel
theorem dX9_personsOf_9 : decode cX9_personsOf 9 = .ok (.invokevirtual 80, 3) := by decide +kernel
theorem dX9_personsOf_12 : decode cX9_personsOf 12 = .ok (.if_icmp .ge 33, 3) := by decide +kernel
theorem dX9_personsOf_15 : decode cX9_personsOf 15 = .ok (.aload_n 0, 1) := by decide +kernel
theorem dX9_personsOf_16 : decode cX9_personsOf 16 = .ok (.getfield 12, 3) := by decide +kernel
theorem dX9_personsOf_19 : decode cX9_personsOf 19 = .ok (.iload_n 3, 1) := by decide +kernel
theorem dX9_personsOf_20 : decode cX9_personsOf 20 = .ok (.invokevirtual 123, 3) := by decide +kernel
theorem dX9_personsOf_23 : decode cX9_personsOf 23 = .ok (.checkcast 84, 3) := by decide +kernel
theorem dX9_personsOf_26 : decode cX9_personsOf 26 = .ok (.getfield 107, 3) := by decide +kernel
theorem dX9_personsOf_29 : decode cX9_personsOf 29 = .ok (.iload_n 1, 1) := by decide +kernel
theorem dX9_personsOf_30 : decode cX9_personsOf 30 = .ok (.if_icmp .ne 9, 3) := by decide +kernel
theorem dX9_personsOf_33 : decode cX9_personsOf 33 = .ok (.iload_n 2, 1) := by decide +kernel
theorem dX9_personsOf_34 : decode cX9_personsOf 34 = .ok (.iconst 1, 1) := by decide +kernel
theorem dX9_personsOf_35 : decode cX9_personsOf 35 = .ok (.iload_n 3, 1) := by decide +kernel
theorem dX9_personsOf_36 : decode cX9_personsOf 36 = .ok (.ishl, 1) := by decide +kernel
theorem dX9_personsOf_37 : decode cX9_personsOf 37 = .ok (.ior, 1) := by decide +kernel
theorem dX9_personsOf_38 : decode cX9_personsOf 38 = .ok (.istore_n 2, 1) := by decide +kernel
theorem dX9_personsOf_39 : decode cX9_personsOf 39 = .ok (.iinc 3 1, 3) := by decide +kernel
theorem dX9_personsOf_42 : decode cX9_personsOf 42 = .ok (.goto (-38), 3) := by decide +kernel
theorem dX9_personsOf_45 : decode cX9_personsOf 45 = .ok (.iload_n 2, 1) := by decide +kernel
theorem dX9_personsOf_46 : decode cX9_personsOf 46 = .ok (.ireturn, 1) := by decide +kernel
theorem dX9_countHeads_0 : decode cX9_countHeads 0 = .ok (.aload_n 0, 1) := by decide +kernel
theorem dX9_countHeads_1 : decode cX9_countHeads 1 = .ok (.getfield 66, 3) := by decide +kernel
theorem dX9_countHeads_4 : decode cX9_countHeads 4 = .ok (.iconst 0, 1) := by decide +kernel
theorem dX9_countHeads_5 : decode cX9_countHeads 5 = .ok (.invokestatic 274, 3) := by decide +kernel
theorem dX9_countHeads_8 : decode cX9_countHeads 8 = .ok (.iconst 0, 1) := by decide +kernel
theorem dX9_countHeads_9 : decode cX9_countHeads 9 = .ok (.istore_n 3, 1) := by decide +kernel
theorem dX9_countHeads_10 : decode cX9_countHeads 10 = .ok (.iload_n 3, 1) := by decide +kernel
theorem dX9_countHeads_11 : decode cX9_countHeads 11 = .ok (.aload_n 0, 1) := by decide +kernel
theorem dX9_countHeads_12 : decode cX9_countHeads 12 = .ok (.getfield 12, 3) := by decide +kernel
theorem dX9_countHeads_15 : decode cX9_countHeads 15 = .ok (.invokevirtual 80, 3) := by decide +kernel
theorem dX9_countHeads_18 : decode cX9_countHeads 18 = .ok (.if_icmp .ge 64, 3) := by decide +kernel
theorem dX9_countHeads_21 : decode cX9_countHeads 21 = .ok (.iload_n 2, 1) := by decide +kernel
theorem dX9_countHeads_22 : decode cX9_countHeads 22 = .ok (.iload_n 3, 1) := by decide +kernel
theorem dX9_countHeads_23 : decode cX9_countHeads 23 = .ok (.iushr, 1) := by decide +kernel
theorem dX9_countHeads_24 : decode cX9_countHeads 24 = .ok (.iconst 1, 1) := by decide +kernel
theorem dX9_countHeads_25 : decode cX9_countHeads 25 = .ok (.iand, 1) := by decide +kernel
theorem dX9_countHeads_26 : decode cX9_countHeads 26 = .ok (.ifCond .eq 21, 3) := by decide +kernel
theorem dX9_countHeads_29 : decode cX9_countHeads 29 = .ok (.aload_n 0, 1) := by decide +kernel
theorem dX9_countHeads_30 : decode cX9_countHeads 30 = .ok (.getfield 12, 3) := by decide +kernel
theorem dX9_countHeads_33 : decode cX9_countHeads 33 = .ok (.iload_n 3, 1) := by decide +kernel
theorem dX9_countHeads_34 : decode cX9_countHeads 34 = .ok (.invokevirtual 123, 3) := by decide +kernel
theorem dX9_countHeads_37 : decode cX9_countHeads 37 = .ok (.checkcast 84, 3) := by decide +kernel
theorem dX9_countHeads_40 : decode cX9_countHeads 40 = .ok (.iload_n 1, 1) := by decide +kernel
theorem dX9_countHeads_41 : decode cX9_countHeads 41 = .ok (.invokevirtual 185, 3) := by decide +kernel
theorem dX9_countHeads_44 : decode cX9_countHeads 44 = .ok (.goto 4, 3) := by decide +kernel
theorem dX9_countHeads_47 : decode cX9_countHeads 47 = .ok (.iconst (-1), 1) := by decide +kernel
theorem dX9_countHeads_48 : decode cX9_countHeads 48 = .ok (.istore 4, 2) := by decide +kernel
theorem dX9_countHeads_50 : decode cX9_countHeads 50 = .ok (.iload 4, 2) := by decide +kernel
theorem dX9_countHeads_52 : decode cX9_countHeads 52 = .ok (.ifCond .lt 24, 3) := by decide +kernel
theorem dX9_countHeads_55 : decode cX9_countHeads 55 = .ok (.iload 4, 2) := by decide +kernel
theorem dX9_countHeads_57 : decode cX9_countHeads 57 = .ok (.aload_n 0, 1) := by decide +kernel
theorem dX9_countHeads_58 : decode cX9_countHeads 58 = .ok (.getfield 66, 3) := by decide +kernel
theorem dX9_countHeads_61 : decode cX9_countHeads 61 = .ok (.arraylength, 1) := by decide +kernel
theorem dX9_countHeads_62 : decode cX9_countHeads 62 = .ok (.if_icmp .ge 14, 3) := by decide +kernel
theorem dX9_countHeads_65 : decode cX9_countHeads 65 = .ok (.aload_n 0, 1) := by decide +kernel
theorem dX9_countHeads_66 : decode cX9_countHeads 66 = .ok (.getfield 66, 3) := by decide +kernel
theorem dX9_countHeads_69 : decode cX9_countHeads 69 = .ok (.iload 4, 2) := by decide +kernel
theorem dX9_countHeads_71 : decode cX9_countHeads 71 = .ok (.dup2, 1) := by decide +kernel
theorem dX9_countHeads_72 : decode cX9_countHeads 72 = .ok (.iaload, 1) := by decide +kernel
theorem dX9_countHeads_73 : decode cX9_countHeads 73 = .ok (.iconst 1, 1) := by decide +kernel
theorem dX9_countHeads_74 : decode cX9_countHeads 74 = .ok (.iadd, 1) := by decide +kernel
theorem dX9_countHeads_75 : decode cX9_countHeads 75 = .ok (.iastore, 1) := by decide +kernel
theorem dX9_countHeads_76 : decode cX9_countHeads 76 = .ok (.iinc 3 1, 3) := by decide +kernel
theorem dX9_countHeads_79 : decode cX9_countHeads 79 = .ok (.goto (-69), 3) := by decide +kernel
theorem dX9_countHeads_82 : decode cX9_countHeads 82 = .ok (.return_, 1) := by decide +kernel
theorem dX9_mostOf_0 : decode cX9_mostOf 0 = .ok (.iconst (-1), 1) := by decide +kernel
theorem dX9_mostOf_1 : decode cX9_mostOf 1 = .ok (.istore_n 2, 1) := by decide +kernel
theorem dX9_mostOf_2 : decode cX9_mostOf 2 = .ok (.iconst 0, 1) := by decide +kernel
theorem dX9_mostOf_3 : decode cX9_mostOf 3 = .ok (.istore_n 3, 1) := by decide +kernel
theorem dX9_mostOf_4 : decode cX9_mostOf 4 = .ok (.iconst 0, 1) := by decide +kernel
theorem dX9_mostOf_5 : decode cX9_mostOf 5 = .ok (.istore 4, 2) := by decide +kernel
theorem dX9_mostOf_7 : decode cX9_mostOf 7 = .ok (.iload 4, 2) := by decide +kernel
theorem dX9_mostOf_9 : decode cX9_mostOf 9 = .ok (.aload_n 0, 1) := by decide +kernel
theorem dX9_mostOf_10 : decode cX9_mostOf 10 = .ok (.arraylength, 1) := by decide +kernel
theorem dX9_mostOf_11 : decode cX9_mostOf 11 = .ok (.if_icmp .ge 25, 3) := by decide +kernel
theorem dX9_mostOf_14 : decode cX9_mostOf 14 = .ok (.aload_n 0, 1) := by decide +kernel
theorem dX9_mostOf_15 : decode cX9_mostOf 15 = .ok (.iload 4, 2) := by decide +kernel
theorem dX9_mostOf_17 : decode cX9_mostOf 17 = .ok (.iaload, 1) := by decide +kernel
theorem dX9_mostOf_18 : decode cX9_mostOf 18 = .ok (.iload_n 3, 1) := by decide +kernel
theorem dX9_mostOf_19 : decode cX9_mostOf 19 = .ok (.if_icmp .le 11, 3) := by decide +kernel
theorem dX9_mostOf_22 : decode cX9_mostOf 22 = .ok (.aload_n 0, 1) := by decide +kernel
theorem dX9_mostOf_23 : decode cX9_mostOf 23 = .ok (.iload 4, 2) := by decide +kernel
theorem dX9_mostOf_25 : decode cX9_mostOf 25 = .ok (.iaload, 1) := by decide +kernel
theorem dX9_mostOf_26 : decode cX9_mostOf 26 = .ok (.istore_n 3, 1) := by decide +kernel
theorem dX9_mostOf_27 : decode cX9_mostOf 27 = .ok (.iload 4, 2) := by decide +kernel
theorem dX9_mostOf_29 : decode cX9_mostOf 29 = .ok (.istore_n 2, 1) := by decide +kernel
theorem dX9_mostOf_30 : decode cX9_mostOf 30 = .ok (.iinc 4 1, 3) := by decide +kernel
theorem dX9_mostOf_33 : decode cX9_mostOf 33 = .ok (.goto (-26), 3) := by decide +kernel
theorem dX9_mostOf_36 : decode cX9_mostOf 36 = .ok (.iload_n 1, 1) := by decide +kernel
theorem dX9_mostOf_37 : decode cX9_mostOf 37 = .ok (.ifCond .lt 24, 3) := by decide +kernel
theorem dX9_mostOf_40 : decode cX9_mostOf 40 = .ok (.iload_n 1, 1) := by decide +kernel
theorem dX9_mostOf_41 : decode cX9_mostOf 41 = .ok (.aload_n 0, 1) := by decide +kernel
theorem dX9_mostOf_42 : decode cX9_mostOf 42 = .ok (.arraylength, 1) := by decide +kernel
theorem dX9_mostOf_43 : decode cX9_mostOf 43 = .ok (.if_icmp .ge 18, 3) := by decide +kernel
theorem dX9_mostOf_46 : decode cX9_mostOf 46 = .ok (.iload_n 3, 1) := by decide +kernel
theorem dX9_mostOf_47 : decode cX9_mostOf 47 = .ok (.ifCond .le 14, 3) := by decide +kernel
theorem dX9_mostOf_50 : decode cX9_mostOf 50 = .ok (.aload_n 0, 1) := by decide +kernel
theorem dX9_mostOf_51 : decode cX9_mostOf 51 = .ok (.iload_n 1, 1) := by decide +kernel
theorem dX9_mostOf_52 : decode cX9_mostOf 52 = .ok (.iaload, 1) := by decide +kernel
theorem dX9_mostOf_53 : decode cX9_mostOf 53 = .ok (.iload_n 3, 1) := by decide +kernel
theorem dX9_mostOf_54 : decode cX9_mostOf 54 = .ok (.if_icmp .ne 7, 3) := by decide +kernel
theorem dX9_mostOf_57 : decode cX9_mostOf 57 = .ok (.iconst 1, 1) := by decide +kernel
theorem dX9_mostOf_58 : decode cX9_mostOf 58 = .ok (.goto 4, 3) := by decide +kernel
theorem dX9_mostOf_61 : decode cX9_mostOf 61 = .ok (.iconst 0, 1) := by decide +kernel
theorem dX9_mostOf_62 : decode cX9_mostOf 62 = .ok (.istore 4, 2) := by decide +kernel
theorem dX9_mostOf_64 : decode cX9_mostOf 64 = .ok (.iload 4, 2) := by decide +kernel
theorem dX9_mostOf_66 : decode cX9_mostOf 66 = .ok (.ifCond .eq 7, 3) := by decide +kernel
theorem dX9_mostOf_69 : decode cX9_mostOf 69 = .ok (.iload_n 1, 1) := by decide +kernel
theorem dX9_mostOf_70 : decode cX9_mostOf 70 = .ok (.goto 4, 3) := by decide +kernel
theorem dX9_mostOf_73 : decode cX9_mostOf 73 = .ok (.iload_n 2, 1) := by decide +kernel
theorem dX9_mostOf_74 : decode cX9_mostOf 74 = .ok (.ireturn, 1) := by decide +kernel
theorem dX9_said_0 : decode cX9_said 0 = .ok (.aload_n 0, 1) := by decide +kernel
theorem dX9_said_1 : decode cX9_said 1 = .ok (.iload_n 1, 1) := by decide +kernel
theorem dX9_said_2 : decode cX9_said 2 = .ok (.invokevirtual 195, 3) := by decide +kernel
theorem dX9_said_5 : decode cX9_said 5 = .ok (.astore_n 3, 1) := by decide +kernel
theorem dX9_said_6 : decode cX9_said 6 = .ok (.aload_n 3, 1) := by decide +kernel
theorem dX9_said_7 : decode cX9_said 7 = .ok (.ifnull 11, 3) := by decide +kernel
theorem dX9_said_10 : decode cX9_said 10 = .ok (.aload_n 0, 1) := by decide +kernel
theorem dX9_said_11 : decode cX9_said 11 = .ok (.iload_n 2, 1) := by decide +kernel
theorem dX9_said_12 : decode cX9_said 12 = .ok (.invokevirtual 283, 3) := by decide +kernel
theorem dX9_said_15 : decode cX9_said 15 = .ok (.ifCond .ne 8, 3) := by decide +kernel
theorem dX9_said_18 : decode cX9_said 18 = .ok (.bipush (-2), 2) := by decide +kernel
theorem dX9_said_20 : decode cX9_said 20 = .ok (.goto 8, 3) := by decide +kernel
theorem dX9_said_23 : decode cX9_said 23 = .ok (.aload_n 3, 1) := by decide +kernel
theorem dX9_said_24 : decode cX9_said 24 = .ok (.iload_n 2, 1) := by decide +kernel
theorem dX9_said_25 : decode cX9_said 25 = .ok (.invokevirtual 286, 3) := by decide +kernel
theorem dX9_said_28 : decode cX9_said 28 = .ok (.ireturn, 1) := by decide +kernel
theorem dX9_stood_0 : decode cX9_stood 0 = .ok (.aload_n 0, 1) := by decide +kernel
theorem dX9_stood_1 : decode cX9_stood 1 = .ok (.iload_n 1, 1) := by decide +kernel
theorem dX9_stood_2 : decode cX9_stood 2 = .ok (.invokevirtual 195, 3) := by decide +kernel
theorem dX9_stood_5 : decode cX9_stood 5 = .ok (.astore_n 3, 1) := by decide +kernel
theorem dX9_stood_6 : decode cX9_stood 6 = .ok (.aload_n 3, 1) := by decide +kernel
theorem dX9_stood_7 : decode cX9_stood 7 = .ok (.ifnull 11, 3) := by decide +kernel
theorem dX9_stood_10 : decode cX9_stood 10 = .ok (.aload_n 0, 1) := by decide +kernel
theorem dX9_stood_11 : decode cX9_stood 11 = .ok (.iload_n 2, 1) := by decide +kernel
theorem dX9_stood_12 : decode cX9_stood 12 = .ok (.invokevirtual 283, 3) := by decide +kernel
theorem dX9_stood_15 : decode cX9_stood 15 = .ok (.ifCond .ne 7, 3) := by decide +kernel
theorem dX9_stood_18 : decode cX9_stood 18 = .ok (.iconst (-1), 1) := by decide +kernel
theorem dX9_stood_19 : decode cX9_stood 19 = .ok (.goto 8, 3) := by decide +kernel
theorem dX9_stood_22 : decode cX9_stood 22 = .ok (.aload_n 3, 1) := by decide +kernel
theorem dX9_stood_23 : decode cX9_stood 23 = .ok (.iload_n 2, 1) := by decide +kernel
theorem dX9_stood_24 : decode cX9_stood 24 = .ok (.invokevirtual 289, 3) := by decide +kernel
theorem dX9_stood_27 : decode cX9_stood 27 = .ok (.ireturn, 1) := by decide +kernel
theorem dX9_owed_0 : decode cX9_owed 0 = .ok (.aload_n 0, 1) := by decide +kernel
theorem dX9_owed_1 : decode cX9_owed 1 = .ok (.iload_n 1, 1) := by decide +kernel
theorem dX9_owed_2 : decode cX9_owed 2 = .ok (.invokevirtual 172, 3) := by decide +kernel
theorem dX9_owed_5 : decode cX9_owed 5 = .ok (.ifCond .eq 30, 3) := by decide +kernel
theorem dX9_owed_8 : decode cX9_owed 8 = .ok (.aload_n 0, 1) := by decide +kernel
theorem dX9_owed_9 : decode cX9_owed 9 = .ok (.iload_n 2, 1) := by decide +kernel
theorem dX9_owed_10 : decode cX9_owed 10 = .ok (.invokevirtual 283, 3) := by decide +kernel
theorem dX9_owed_13 : decode cX9_owed 13 = .ok (.ifCond .eq 22, 3) := by decide +kernel
theorem dX9_owed_16 : decode cX9_owed 16 = .ok (.aload_n 0, 1) := by decide +kernel
theorem dX9_owed_17 : decode cX9_owed 17 = .ok (.getfield 62, 3) := by decide +kernel
theorem dX9_owed_20 : decode cX9_owed 20 = .ok (.iload_n 3, 1) := by decide +kernel
theorem dX9_owed_21 : decode cX9_owed 21 = .ok (.iload 4, 2) := by decide +kernel
theorem dX9_owed_23 : decode cX9_owed 23 = .ok (.iload 5, 2) := by decide +kernel
theorem dX9_owed_25 : decode cX9_owed 25 = .ok (.iload 6, 2) := by decide +kernel
theorem dX9_owed_27 : decode cX9_owed 27 = .ok (.iload 7, 2) := by decide +kernel
theorem dX9_owed_29 : decode cX9_owed 29 = .ok (.invokevirtual 292, 3) := by decide +kernel
theorem dX9_owed_32 : decode cX9_owed 32 = .ok (.ifCond .ne 5, 3) := by decide +kernel
theorem dX9_owed_35 : decode cX9_owed 35 = .ok (.iconst (-1), 1) := by decide +kernel
theorem dX9_owed_36 : decode cX9_owed 36 = .ok (.ireturn, 1) := by decide +kernel
theorem dX9_owed_37 : decode cX9_owed 37 = .ok (.aload_n 0, 1) := by decide +kernel
theorem dX9_owed_38 : decode cX9_owed 38 = .ok (.iload_n 1, 1) := by decide +kernel
theorem dX9_owed_39 : decode cX9_owed 39 = .ok (.iload_n 2, 1) := by decide +kernel
theorem dX9_owed_40 : decode cX9_owed 40 = .ok (.invokevirtual 296, 3) := by decide +kernel
theorem dX9_owed_43 : decode cX9_owed 43 = .ok (.ireturn, 1) := by decide +kernel
theorem dX9_byBook_0 : decode cX9_byBook 0 = .ok (.aload_n 0, 1) := by decide +kernel
theorem dX9_byBook_1 : decode cX9_byBook 1 = .ok (.iload_n 1, 1) := by decide +kernel
theorem dX9_byBook_2 : decode cX9_byBook 2 = .ok (.invokevirtual 172, 3) := by decide +kernel
theorem dX9_byBook_5 : decode cX9_byBook 5 = .ok (.ifCond .eq 21, 3) := by decide +kernel
theorem dX9_byBook_8 : decode cX9_byBook 8 = .ok (.aload_n 0, 1) := by decide +kernel
theorem dX9_byBook_9 : decode cX9_byBook 9 = .ok (.getfield 62, 3) := by decide +kernel
theorem dX9_byBook_12 : decode cX9_byBook 12 = .ok (.iload_n 2, 1) := by decide +kernel
theorem dX9_byBook_13 : decode cX9_byBook 13 = .ok (.iload_n 3, 1) := by decide +kernel
theorem dX9_byBook_14 : decode cX9_byBook 14 = .ok (.iload 4, 2) := by decide +kernel
theorem dX9_byBook_16 : decode cX9_byBook 16 = .ok (.iload 5, 2) := by decide +kernel
theorem dX9_byBook_18 : decode cX9_byBook 18 = .ok (.iload 6, 2) := by decide +kernel
theorem dX9_byBook_20 : decode cX9_byBook 20 = .ok (.invokevirtual 292, 3) := by decide +kernel
theorem dX9_byBook_23 : decode cX9_byBook 23 = .ok (.ifCond .ne 5, 3) := by decide +kernel
theorem dX9_byBook_26 : decode cX9_byBook 26 = .ok (.iconst (-1), 1) := by decide +kernel
theorem dX9_byBook_27 : decode cX9_byBook 27 = .ok (.ireturn, 1) := by decide +kernel
theorem dX9_byBook_28 : decode cX9_byBook 28 = .ok (.iconst 0, 1) := by decide +kernel
theorem dX9_byBook_29 : decode cX9_byBook 29 = .ok (.istore 7, 2) := by decide +kernel
theorem dX9_byBook_31 : decode cX9_byBook 31 = .ok (.iload 7, 2) := by decide +kernel
theorem dX9_byBook_33 : decode cX9_byBook 33 = .ok (.iload_n 1, 1) := by decide +kernel
theorem dX9_byBook_34 : decode cX9_byBook 34 = .ok (.if_icmp .gt 49, 3) := by decide +kernel
theorem dX9_byBook_37 : decode cX9_byBook 37 = .ok (.iload 7, 2) := by decide +kernel
theorem dX9_byBook_39 : decode cX9_byBook 39 = .ok (.aload_n 0, 1) := by decide +kernel
theorem dX9_byBook_40 : decode cX9_byBook 40 = .ok (.getfield 16, 3) := by decide +kernel
theorem dX9_byBook_43 : decode cX9_byBook 43 = .ok (.invokevirtual 80, 3) := by decide +kernel
theorem dX9_byBook_46 : decode cX9_byBook 46 = .ok (.if_icmp .ge 37, 3) := by decide +kernel
theorem dX9_byBook_49 : decode cX9_byBook 49 = .ok (.aload_n 0, 1) := by decide +kernel
theorem dX9_byBook_50 : decode cX9_byBook 50 = .ok (.getfield 62, 3) := by decide +kernel
theorem dX9_byBook_53 : decode cX9_byBook 53 = .ok (.iload 7, 2) := by decide +kernel
theorem dX9_byBook_55 : decode cX9_byBook 55 = .ok (.aload_n 0, 1) := by decide +kernel
theorem dX9_byBook_56 : decode cX9_byBook 56 = .ok (.aload_n 0, 1) := by decide +kernel
theorem dX9_byBook_57 : decode cX9_byBook 57 = .ok (.getfield 16, 3) := by decide +kernel
theorem dX9_byBook_60 : decode cX9_byBook 60 = .ok (.iload 7, 2) := by decide +kernel
theorem dX9_byBook_62 : decode cX9_byBook 62 = .ok (.invokevirtual 123, 3) := by decide +kernel
theorem dX9_byBook_65 : decode cX9_byBook 65 = .ok (.checkcast 167, 3) := by decide +kernel
theorem dX9_byBook_68 : decode cX9_byBook 68 = .ok (.getfield 299, 3) := by decide +kernel
theorem dX9_byBook_71 : decode cX9_byBook 71 = .ok (.invokevirtual 302, 3) := by decide +kernel
theorem dX9_byBook_74 : decode cX9_byBook 74 = .ok (.invokevirtual 306, 3) := by decide +kernel
theorem dX9_byBook_77 : decode cX9_byBook 77 = .ok (.iinc 7 1, 3) := by decide +kernel
theorem dX9_byBook_80 : decode cX9_byBook 80 = .ok (.goto (-49), 3) := by decide +kernel
theorem dX9_byBook_83 : decode cX9_byBook 83 = .ok (.aload_n 0, 1) := by decide +kernel
theorem dX9_byBook_84 : decode cX9_byBook 84 = .ok (.getfield 62, 3) := by decide +kernel
theorem dX9_byBook_87 : decode cX9_byBook 87 = .ok (.iload_n 1, 1) := by decide +kernel
theorem dX9_byBook_88 : decode cX9_byBook 88 = .ok (.invokevirtual 310, 3) := by decide +kernel
theorem dX9_byBook_91 : decode cX9_byBook 91 = .ok (.ireturn, 1) := by decide +kernel
theorem dX9_isPast_0 : decode cX9_isPast 0 = .ok (.iload_n 1, 1) := by decide +kernel
theorem dX9_isPast_1 : decode cX9_isPast 1 = .ok (.ifCond .lt 15, 3) := by decide +kernel
theorem dX9_isPast_4 : decode cX9_isPast 4 = .ok (.iload_n 1, 1) := by decide +kernel
theorem dX9_isPast_5 : decode cX9_isPast 5 = .ok (.aload_n 0, 1) := by decide +kernel
theorem dX9_isPast_6 : decode cX9_isPast 6 = .ok (.getfield 37, 3) := by decide +kernel
theorem dX9_isPast_9 : decode cX9_isPast 9 = .ok (.if_icmp .ge 7, 3) := by decide +kernel
theorem dX9_isPast_12 : decode cX9_isPast 12 = .ok (.iconst 1, 1) := by decide +kernel
theorem dX9_isPast_13 : decode cX9_isPast 13 = .ok (.goto 4, 3) := by decide +kernel
theorem dX9_isPast_16 : decode cX9_isPast 16 = .ok (.iconst 0, 1) := by decide +kernel
theorem dX9_isPast_17 : decode cX9_isPast 17 = .ok (.ireturn, 1) := by decide +kernel
theorem dX9_reckonByLaw_0 : decode cX9_reckonByLaw 0 = .ok (.iconst 0, 1) := by decide +kernel
theorem dX9_reckonByLaw_1 : decode cX9_reckonByLaw 1 = .ok (.istore_n 3, 1) := by decide +kernel
theorem dX9_reckonByLaw_2 : decode cX9_reckonByLaw 2 = .ok (.iload_n 3, 1) := by decide +kernel
theorem dX9_reckonByLaw_3 : decode cX9_reckonByLaw 3 = .ok (.iload_n 1, 1) := by decide +kernel
theorem dX9_reckonByLaw_4 : decode cX9_reckonByLaw 4 = .ok (.if_icmp .gt 47, 3) := by decide +kernel
theorem dX9_reckonByLaw_7 : decode cX9_reckonByLaw 7 = .ok (.iload_n 3, 1) := by decide +kernel
theorem dX9_reckonByLaw_8 : decode cX9_reckonByLaw 8 = .ok (.aload_n 0, 1) := by decide +kernel
theorem dX9_reckonByLaw_9 : decode cX9_reckonByLaw 9 = .ok (.getfield 16, 3) := by decide +kernel
theorem dX9_reckonByLaw_12 : decode cX9_reckonByLaw 12 = .ok (.invokevirtual 80, 3) := by decide +kernel
theorem dX9_reckonByLaw_15 : decode cX9_reckonByLaw 15 = .ok (.if_icmp .ge 36, 3) := by decide +kernel
theorem dX9_reckonByLaw_18 : decode cX9_reckonByLaw 18 = .ok (.aload_n 0, 1) := by decide +kernel
theorem dX9_reckonByLaw_19 : decode cX9_reckonByLaw 19 = .ok (.getfield 62, 3) := by decide +kernel
theorem dX9_reckonByLaw_22 : decode cX9_reckonByLaw 22 = .ok (.iload_n 3, 1) := by decide +kernel
theorem dX9_reckonByLaw_23 : decode cX9_reckonByLaw 23 = .ok (.aload_n 0, 1) := by decide +kernel
theorem dX9_reckonByLaw_24 : decode cX9_reckonByLaw 24 = .ok (.aload_n 0, 1) := by decide +kernel
theorem dX9_reckonByLaw_25 : decode cX9_reckonByLaw 25 = .ok (.getfield 16, 3) := by decide +kernel
theorem dX9_reckonByLaw_28 : decode cX9_reckonByLaw 28 = .ok (.iload_n 3, 1) := by decide +kernel
theorem dX9_reckonByLaw_29 : decode cX9_reckonByLaw 29 = .ok (.invokevirtual 123, 3) := by decide +kernel
theorem dX9_reckonByLaw_32 : decode cX9_reckonByLaw 32 = .ok (.checkcast 167, 3) := by decide +kernel
theorem dX9_reckonByLaw_35 : decode cX9_reckonByLaw 35 = .ok (.iload_n 2, 1) := by decide +kernel
theorem dX9_reckonByLaw_36 : decode cX9_reckonByLaw 36 = .ok (.invokevirtual 289, 3) := by decide +kernel
theorem dX9_reckonByLaw_39 : decode cX9_reckonByLaw 39 = .ok (.invokevirtual 302, 3) := by decide +kernel
theorem dX9_reckonByLaw_42 : decode cX9_reckonByLaw 42 = .ok (.invokevirtual 306, 3) := by decide +kernel
theorem dX9_reckonByLaw_45 : decode cX9_reckonByLaw 45 = .ok (.iinc 3 1, 3) := by decide +kernel
theorem dX9_reckonByLaw_48 : decode cX9_reckonByLaw 48 = .ok (.goto (-46), 3) := by decide +kernel
theorem dX9_reckonByLaw_51 : decode cX9_reckonByLaw 51 = .ok (.aload_n 0, 1) := by decide +kernel
theorem dX9_reckonByLaw_52 : decode cX9_reckonByLaw 52 = .ok (.getfield 62, 3) := by decide +kernel
theorem dX9_reckonByLaw_55 : decode cX9_reckonByLaw 55 = .ok (.iload_n 1, 1) := by decide +kernel
theorem dX9_reckonByLaw_56 : decode cX9_reckonByLaw 56 = .ok (.invokevirtual 310, 3) := by decide +kernel
theorem dX9_reckonByLaw_59 : decode cX9_reckonByLaw 59 = .ok (.ireturn, 1) := by decide +kernel
theorem dX9_suit_0 : decode cX9_suit 0 = .ok (.aload_n 0, 1) := by decide +kernel
theorem dX9_suit_1 : decode cX9_suit 1 = .ok (.iload_n 1, 1) := by decide +kernel
theorem dX9_suit_2 : decode cX9_suit 2 = .ok (.invokevirtual 93, 3) := by decide +kernel
theorem dX9_suit_5 : decode cX9_suit 5 = .ok (.astore 7, 2) := by decide +kernel
theorem dX9_suit_7 : decode cX9_suit 7 = .ok (.aload_n 0, 1) := by decide +kernel
theorem dX9_suit_8 : decode cX9_suit 8 = .ok (.iload_n 2, 1) := by decide +kernel
theorem dX9_suit_9 : decode cX9_suit 9 = .ok (.invokevirtual 93, 3) := by decide +kernel
theorem dX9_suit_12 : decode cX9_suit 12 = .ok (.astore 8, 2) := by decide +kernel
theorem dX9_suit_14 : decode cX9_suit 14 = .ok (.aload 7, 2) := by decide +kernel
theorem dX9_suit_16 : decode cX9_suit 16 = .ok (.ifnull 33, 3) := by decide +kernel
theorem dX9_suit_19 : decode cX9_suit 19 = .ok (.aload 8, 2) := by decide +kernel
theorem dX9_suit_21 : decode cX9_suit 21 = .ok (.ifnull 28, 3) := by decide +kernel
theorem dX9_suit_24 : decode cX9_suit 24 = .ok (.iload_n 1, 1) := by decide +kernel
theorem dX9_suit_25 : decode cX9_suit 25 = .ok (.iload_n 2, 1) := by decide +kernel
theorem dX9_suit_26 : decode cX9_suit 26 = .ok (.if_icmp .eq 23, 3) := by decide +kernel
theorem dX9_suit_29 : decode cX9_suit 29 = .ok (.aload_n 0, 1) := by decide +kernel
theorem dX9_suit_30 : decode cX9_suit 30 = .ok (.iload_n 3, 1) := by decide +kernel
theorem dX9_suit_31 : decode cX9_suit 31 = .ok (.invokevirtual 172, 3) := by decide +kernel
theorem dX9_suit_34 : decode cX9_suit 34 = .ok (.ifCond .eq 15, 3) := by decide +kernel
theorem dX9_suit_37 : decode cX9_suit 37 = .ok (.aload_n 0, 1) := by decide +kernel
theorem dX9_suit_38 : decode cX9_suit 38 = .ok (.getfield 22, 3) := by decide +kernel
theorem dX9_suit_41 : decode cX9_suit 41 = .ok (.invokevirtual 80, 3) := by decide +kernel
theorem dX9_suit_44 : decode cX9_suit 44 = .ok (.bipush 100, 2) := by decide +kernel
theorem dX9_suit_46 : decode cX9_suit 46 = .ok (.if_icmp .lt 5, 3) := by decide +kernel
theorem dX9_suit_49 : decode cX9_suit 49 = .ok (.iconst (-1), 1) := by decide +kernel
theorem dX9_suit_50 : decode cX9_suit 50 = .ok (.ireturn, 1) := by decide +kernel
theorem dX9_suit_51 : decode cX9_suit 51 = .ok (.iload 6, 2) := by decide +kernel
theorem dX9_suit_53 : decode cX9_suit 53 = .ok (.ifCond .lt 32, 3) := by decide +kernel
theorem dX9_suit_56 : decode cX9_suit 56 = .ok (.iload 6, 2) := by decide +kernel
theorem dX9_suit_58 : decode cX9_suit 58 = .ok (.aload_n 0, 1) := by decide +kernel
theorem dX9_suit_59 : decode cX9_suit 59 = .ok (.getfield 37, 3) := by decide +kernel
theorem dX9_suit_62 : decode cX9_suit 62 = .ok (.if_icmp .gt 23, 3) := by decide +kernel
theorem dX9_suit_65 : decode cX9_suit 65 = .ok (.iload 6, 2) := by decide +kernel
theorem dX9_suit_67 : decode cX9_suit 67 = .ok (.aload 7, 2) := by decide +kernel
theorem dX9_suit_69 : decode cX9_suit 69 = .ok (.getfield 113, 3) := by decide +kernel
theorem dX9_suit_72 : decode cX9_suit 72 = .ok (.if_icmp .lt 13, 3) := by decide +kernel
theorem dX9_suit_75 : decode cX9_suit 75 = .ok (.iload 6, 2) := by decide +kernel
theorem dX9_suit_77 : decode cX9_suit 77 = .ok (.aload 8, 2) := by decide +kernel
theorem dX9_suit_79 : decode cX9_suit 79 = .ok (.getfield 113, 3) := by decide +kernel
theorem dX9_suit_82 : decode cX9_suit 82 = .ok (.if_icmp .ge 5, 3) := by decide +kernel
theorem dX9_suit_85 : decode cX9_suit 85 = .ok (.iconst (-1), 1) := by decide +kernel
theorem dX9_suit_86 : decode cX9_suit 86 = .ok (.ireturn, 1) := by decide +kernel
theorem dX9_suit_87 : decode cX9_suit 87 = .ok (.aload 7, 2) := by decide +kernel
theorem dX9_suit_89 : decode cX9_suit 89 = .ok (.getfield 110, 3) := by decide +kernel
theorem dX9_suit_92 : decode cX9_suit 92 = .ok (.aload 8, 2) := by decide +kernel
theorem dX9_suit_94 : decode cX9_suit 94 = .ok (.getfield 110, 3) := by decide +kernel
theorem dX9_suit_97 : decode cX9_suit 97 = .ok (.if_icmp .ne 7, 3) := by decide +kernel
theorem dX9_suit_100 : decode cX9_suit 100 = .ok (.iconst 1, 1) := by decide +kernel
theorem dX9_suit_101 : decode cX9_suit 101 = .ok (.goto 4, 3) := by decide +kernel
theorem dX9_suit_104 : decode cX9_suit 104 = .ok (.iconst 0, 1) := by decide +kernel
theorem dX9_suit_105 : decode cX9_suit 105 = .ok (.istore 9, 2) := by decide +kernel
theorem dX9_suit_107 : decode cX9_suit 107 = .ok (.aload_n 0, 1) := by decide +kernel
theorem dX9_suit_108 : decode cX9_suit 108 = .ok (.getfield 62, 3) := by decide +kernel
theorem dX9_suit_111 : decode cX9_suit 111 = .ok (.iload 4, 2) := by decide +kernel
theorem dX9_suit_113 : decode cX9_suit 113 = .ok (.iload 5, 2) := by decide +kernel
theorem dX9_suit_115 : decode cX9_suit 115 = .ok (.aload_n 0, 1) := by decide +kernel
theorem dX9_suit_116 : decode cX9_suit 116 = .ok (.getfield 37, 3) := by decide +kernel
theorem dX9_suit_119 : decode cX9_suit 119 = .ok (.iload 6, 2) := by decide +kernel
theorem dX9_suit_121 : decode cX9_suit 121 = .ok (.isub, 1) := by decide +kernel
theorem dX9_suit_122 : decode cX9_suit 122 = .ok (.iload 9, 2) := by decide +kernel
theorem dX9_suit_124 : decode cX9_suit 124 = .ok (.iload 6, 2) := by decide +kernel
theorem dX9_suit_126 : decode cX9_suit 126 = .ok (.aload 8, 2) := by decide +kernel
theorem dX9_suit_128 : decode cX9_suit 128 = .ok (.getfield 113, 3) := by decide +kernel
theorem dX9_suit_131 : decode cX9_suit 131 = .ok (.isub, 1) := by decide +kernel
theorem dX9_suit_132 : decode cX9_suit 132 = .ok (.invokevirtual 292, 3) := by decide +kernel
theorem dX9_suit_135 : decode cX9_suit 135 = .ok (.ifCond .ne 5, 3) := by decide +kernel
theorem dX9_suit_138 : decode cX9_suit 138 = .ok (.iconst (-1), 1) := by decide +kernel
theorem dX9_suit_139 : decode cX9_suit 139 = .ok (.ireturn, 1) := by decide +kernel
theorem dX9_suit_140 : decode cX9_suit 140 = .ok (.aload_n 0, 1) := by decide +kernel
theorem dX9_suit_141 : decode cX9_suit 141 = .ok (.getfield 22, 3) := by decide +kernel
theorem dX9_suit_144 : decode cX9_suit 144 = .ok (.new 131, 3) := by decide +kernel
theorem dX9_suit_147 : decode cX9_suit 147 = .ok (.dup, 1) := by decide +kernel
theorem dX9_suit_148 : decode cX9_suit 148 = .ok (.iload_n 1, 1) := by decide +kernel
theorem dX9_suit_149 : decode cX9_suit 149 = .ok (.iload_n 2, 1) := by decide +kernel
theorem dX9_suit_150 : decode cX9_suit 150 = .ok (.iload_n 3, 1) := by decide +kernel
theorem dX9_suit_151 : decode cX9_suit 151 = .ok (.aload_n 0, 1) := by decide +kernel
theorem dX9_suit_152 : decode cX9_suit 152 = .ok (.iload_n 3, 1) := by decide +kernel
theorem dX9_suit_153 : decode cX9_suit 153 = .ok (.aload_n 0, 1) := by decide +kernel
theorem dX9_suit_154 : decode cX9_suit 154 = .ok (.getfield 37, 3) := by decide +kernel
theorem dX9_suit_157 : decode cX9_suit 157 = .ok (.iconst 1, 1) := by decide +kernel
theorem dX9_suit_158 : decode cX9_suit 158 = .ok (.isub, 1) := by decide +kernel
theorem dX9_suit_159 : decode cX9_suit 159 = .ok (.invokevirtual 296, 3) := by decide +kernel
theorem dX9_suit_162 : decode cX9_suit 162 = .ok (.aload_n 0, 1) := by decide +kernel
theorem dX9_suit_163 : decode cX9_suit 163 = .ok (.getfield 37, 3) := by decide +kernel
theorem dX9_suit_166 : decode cX9_suit 166 = .ok (.aload_n 0, 1) := by decide +kernel
theorem dX9_suit_167 : decode cX9_suit 167 = .ok (.iload_n 1, 1) := by decide +kernel
theorem dX9_suit_168 : decode cX9_suit 168 = .ok (.aload 7, 2) := by decide +kernel
theorem dX9_suit_170 : decode cX9_suit 170 = .ok (.getfield 110, 3) := by decide +kernel
theorem dX9_suit_173 : decode cX9_suit 173 = .ok (.invokevirtual 313, 3) := by decide +kernel
theorem dX9_suit_176 : decode cX9_suit 176 = .ok (.invokespecial 316, 3) := by decide +kernel
theorem dX9_suit_179 : decode cX9_suit 179 = .ok (.invokevirtual 89, 3) := by decide +kernel
theorem dX9_suit_182 : decode cX9_suit 182 = .ok (.pop, 1) := by decide +kernel
theorem dX9_suit_183 : decode cX9_suit 183 = .ok (.aload_n 0, 1) := by decide +kernel
theorem dX9_suit_184 : decode cX9_suit 184 = .ok (.getfield 22, 3) := by decide +kernel
theorem dX9_suit_187 : decode cX9_suit 187 = .ok (.invokevirtual 80, 3) := by decide +kernel
theorem dX9_suit_190 : decode cX9_suit 190 = .ok (.iconst 1, 1) := by decide +kernel
theorem dX9_suit_191 : decode cX9_suit 191 = .ok (.isub, 1) := by decide +kernel
theorem dX9_suit_192 : decode cX9_suit 192 = .ok (.ireturn, 1) := by decide +kernel
theorem dX9_suitOf_0 : decode cX9_suitOf 0 = .ok (.aload_n 0, 1) := by decide +kernel
theorem dX9_suitOf_1 : decode cX9_suitOf 1 = .ok (.iload_n 1, 1) := by decide +kernel
theorem dX9_suitOf_2 : decode cX9_suitOf 2 = .ok (.invokevirtual 319, 3) := by decide +kernel
theorem dX9_suitOf_5 : decode cX9_suitOf 5 = .ok (.astore_n 3, 1) := by decide +kernel
theorem dX9_suitOf_6 : decode cX9_suitOf 6 = .ok (.aload_n 3, 1) := by decide +kernel
theorem dX9_suitOf_7 : decode cX9_suitOf 7 = .ok (.ifnonnull 5, 3) := by decide +kernel
theorem dX9_suitOf_10 : decode cX9_suitOf 10 = .ok (.iconst (-1), 1) := by decide +kernel
theorem dX9_suitOf_11 : decode cX9_suitOf 11 = .ok (.ireturn, 1) := by decide +kernel
theorem dX9_suitOf_12 : decode cX9_suitOf 12 = .ok (.iload_n 2, 1) := by decide +kernel
theorem dX9_suitOf_13 : decode cX9_suitOf 13 = .ok (.tableswitch 77 0 5 #[39, 44, 49, 54, 59, 64], 39) := by decide +kernel
theorem dX9_suitOf_52 : decode cX9_suitOf 52 = .ok (.aload_n 3, 1) := by decide +kernel
theorem dX9_suitOf_53 : decode cX9_suitOf 53 = .ok (.getfield 323, 3) := by decide +kernel
theorem dX9_suitOf_56 : decode cX9_suitOf 56 = .ok (.ireturn, 1) := by decide +kernel
theorem dX9_suitOf_57 : decode cX9_suitOf 57 = .ok (.aload_n 3, 1) := by decide +kernel
theorem dX9_suitOf_58 : decode cX9_suitOf 58 = .ok (.getfield 133, 3) := by decide +kernel
theorem dX9_suitOf_61 : decode cX9_suitOf 61 = .ok (.ireturn, 1) := by decide +kernel
theorem dX9_suitOf_62 : decode cX9_suitOf 62 = .ok (.aload_n 3, 1) := by decide +kernel
theorem dX9_suitOf_63 : decode cX9_suitOf 63 = .ok (.getfield 326, 3) := by decide +kernel
theorem dX9_suitOf_66 : decode cX9_suitOf 66 = .ok (.ireturn, 1) := by decide +kernel
theorem dX9_suitOf_67 : decode cX9_suitOf 67 = .ok (.aload_n 3, 1) := by decide +kernel
theorem dX9_suitOf_68 : decode cX9_suitOf 68 = .ok (.getfield 329, 3) := by decide +kernel
theorem dX9_suitOf_71 : decode cX9_suitOf 71 = .ok (.ireturn, 1) := by decide +kernel
theorem dX9_suitOf_72 : decode cX9_suitOf 72 = .ok (.aload_n 3, 1) := by decide +kernel
theorem dX9_suitOf_73 : decode cX9_suitOf 73 = .ok (.getfield 139, 3) := by decide +kernel
theorem dX9_suitOf_76 : decode cX9_suitOf 76 = .ok (.ireturn, 1) := by decide +kernel
theorem dX9_suitOf_77 : decode cX9_suitOf 77 = .ok (.aload_n 3, 1) := by decide +kernel
theorem dX9_suitOf_78 : decode cX9_suitOf 78 = .ok (.getfield 332, 3) := by decide +kernel
theorem dX9_suitOf_81 : decode cX9_suitOf 81 = .ok (.ifCond .eq 7, 3) := by decide +kernel
theorem dX9_suitOf_84 : decode cX9_suitOf 84 = .ok (.iconst 1, 1) := by decide +kernel
theorem dX9_suitOf_85 : decode cX9_suitOf 85 = .ok (.goto 4, 3) := by decide +kernel
theorem dX9_suitOf_88 : decode cX9_suitOf 88 = .ok (.iconst 0, 1) := by decide +kernel
theorem dX9_suitOf_89 : decode cX9_suitOf 89 = .ok (.ireturn, 1) := by decide +kernel
theorem dX9_suitOf_90 : decode cX9_suitOf 90 = .ok (.iload_n 2, 1) := by decide +kernel
theorem dX9_suitOf_91 : decode cX9_suitOf 91 = .ok (.bipush 10, 2) := by decide +kernel
theorem dX9_suitOf_93 : decode cX9_suitOf 93 = .ok (.if_icmp .lt 28, 3) := by decide +kernel
theorem dX9_suitOf_96 : decode cX9_suitOf 96 = .ok (.iload_n 2, 1) := by decide +kernel
theorem dX9_suitOf_97 : decode cX9_suitOf 97 = .ok (.bipush 10, 2) := by decide +kernel
theorem dX9_suitOf_99 : decode cX9_suitOf 99 = .ok (.isub, 1) := by decide +kernel
theorem dX9_suitOf_100 : decode cX9_suitOf 100 = .ok (.aload_n 0, 1) := by decide +kernel
theorem dX9_suitOf_101 : decode cX9_suitOf 101 = .ok (.getfield 12, 3) := by decide +kernel
theorem dX9_suitOf_104 : decode cX9_suitOf 104 = .ok (.invokevirtual 80, 3) := by decide +kernel
theorem dX9_suitOf_107 : decode cX9_suitOf 107 = .ok (.if_icmp .ge 14, 3) := by decide +kernel
theorem dX9_suitOf_110 : decode cX9_suitOf 110 = .ok (.aload_n 3, 1) := by decide +kernel
theorem dX9_suitOf_111 : decode cX9_suitOf 111 = .ok (.iload_n 2, 1) := by decide +kernel
theorem dX9_suitOf_112 : decode cX9_suitOf 112 = .ok (.bipush 10, 2) := by decide +kernel
theorem dX9_suitOf_114 : decode cX9_suitOf 114 = .ok (.isub, 1) := by decide +kernel
theorem dX9_suitOf_115 : decode cX9_suitOf 115 = .ok (.invokevirtual 335, 3) := by decide +kernel
theorem dX9_suitOf_118 : decode cX9_suitOf 118 = .ok (.goto 4, 3) := by decide +kernel
theorem dX9_suitOf_121 : decode cX9_suitOf 121 = .ok (.iconst (-1), 1) := by decide +kernel
theorem dX9_suitOf_122 : decode cX9_suitOf 122 = .ok (.ireturn, 1) := by decide +kernel
theorem dX9_pay_0 : decode cX9_pay 0 = .ok (.aload_n 0, 1) := by decide +kernel
theorem dX9_pay_1 : decode cX9_pay 1 = .ok (.iload_n 1, 1) := by decide +kernel
theorem dX9_pay_2 : decode cX9_pay 2 = .ok (.invokevirtual 319, 3) := by decide +kernel
theorem dX9_pay_5 : decode cX9_pay 5 = .ok (.astore_n 2, 1) := by decide +kernel
theorem dX9_pay_6 : decode cX9_pay 6 = .ok (.aload_n 2, 1) := by decide +kernel
theorem dX9_pay_7 : decode cX9_pay 7 = .ok (.ifnull 10, 3) := by decide +kernel
theorem dX9_pay_10 : decode cX9_pay 10 = .ok (.aload_n 2, 1) := by decide +kernel
theorem dX9_pay_11 : decode cX9_pay 11 = .ok (.getfield 332, 3) := by decide +kernel
theorem dX9_pay_14 : decode cX9_pay 14 = .ok (.ifCond .eq 5, 3) := by decide +kernel
theorem dX9_pay_17 : decode cX9_pay 17 = .ok (.iconst 0, 1) := by decide +kernel
theorem dX9_pay_18 : decode cX9_pay 18 = .ok (.ireturn, 1) := by decide +kernel
theorem dX9_pay_19 : decode cX9_pay 19 = .ok (.aload_n 2, 1) := by decide +kernel
theorem dX9_pay_20 : decode cX9_pay 20 = .ok (.iconst 1, 1) := by decide +kernel
theorem dX9_pay_21 : decode cX9_pay 21 = .ok (.putfield 332, 3) := by decide +kernel
theorem dX9_pay_24 : decode cX9_pay 24 = .ok (.iconst 1, 1) := by decide +kernel
theorem dX9_pay_25 : decode cX9_pay 25 = .ok (.ireturn, 1) := by decide +kernel
theorem dX9_suitAt_0 : decode cX9_suitAt 0 = .ok (.iload_n 1, 1) := by decide +kernel
theorem dX9_suitAt_1 : decode cX9_suitAt 1 = .ok (.ifCond .lt 28, 3) := by decide +kernel
theorem dX9_suitAt_4 : decode cX9_suitAt 4 = .ok (.iload_n 1, 1) := by decide +kernel
theorem dX9_suitAt_5 : decode cX9_suitAt 5 = .ok (.aload_n 0, 1) := by decide +kernel
theorem dX9_suitAt_6 : decode cX9_suitAt 6 = .ok (.getfield 22, 3) := by decide +kernel
theorem dX9_suitAt_9 : decode cX9_suitAt 9 = .ok (.invokevirtual 80, 3) := by decide +kernel
theorem dX9_suitAt_12 : decode cX9_suitAt 12 = .ok (.if_icmp .ge 17, 3) := by decide +kernel
theorem dX9_suitAt_15 : decode cX9_suitAt 15 = .ok (.aload_n 0, 1) := by decide +kernel
theorem dX9_suitAt_16 : decode cX9_suitAt 16 = .ok (.getfield 22, 3) := by decide +kernel
theorem dX9_suitAt_19 : decode cX9_suitAt 19 = .ok (.iload_n 1, 1) := by decide +kernel
theorem dX9_suitAt_20 : decode cX9_suitAt 20 = .ok (.invokevirtual 123, 3) := by decide +kernel
theorem dX9_suitAt_23 : decode cX9_suitAt 23 = .ok (.checkcast 131, 3) := by decide +kernel
theorem dX9_suitAt_26 : decode cX9_suitAt 26 = .ok (.goto 4, 3) := by decide +kernel
theorem dX9_suitAt_29 : decode cX9_suitAt 29 = .ok (.aconst_null, 1) := by decide +kernel
theorem dX9_suitAt_30 : decode cX9_suitAt 30 = .ok (.areturn, 1) := by decide +kernel
theorem dX9_livingKinOf_0 : decode cX9_livingKinOf 0 = .ok (.iconst 0, 1) := by decide +kernel
theorem dX9_livingKinOf_1 : decode cX9_livingKinOf 1 = .ok (.istore_n 3, 1) := by decide +kernel
theorem dX9_livingKinOf_2 : decode cX9_livingKinOf 2 = .ok (.iconst 0, 1) := by decide +kernel
theorem dX9_livingKinOf_3 : decode cX9_livingKinOf 3 = .ok (.istore 4, 2) := by decide +kernel
theorem dX9_livingKinOf_5 : decode cX9_livingKinOf 5 = .ok (.iload 4, 2) := by decide +kernel
theorem dX9_livingKinOf_7 : decode cX9_livingKinOf 7 = .ok (.aload_n 0, 1) := by decide +kernel
theorem dX9_livingKinOf_8 : decode cX9_livingKinOf 8 = .ok (.getfield 12, 3) := by decide +kernel
theorem dX9_livingKinOf_11 : decode cX9_livingKinOf 11 = .ok (.invokevirtual 80, 3) := by decide +kernel
theorem dX9_livingKinOf_14 : decode cX9_livingKinOf 14 = .ok (.if_icmp .ge 53, 3) := by decide +kernel
theorem dX9_livingKinOf_17 : decode cX9_livingKinOf 17 = .ok (.aload_n 0, 1) := by decide +kernel
theorem dX9_livingKinOf_18 : decode cX9_livingKinOf 18 = .ok (.getfield 12, 3) := by decide +kernel
theorem dX9_livingKinOf_21 : decode cX9_livingKinOf 21 = .ok (.iload 4, 2) := by decide +kernel
theorem dX9_livingKinOf_23 : decode cX9_livingKinOf 23 = .ok (.invokevirtual 123, 3) := by decide +kernel
theorem dX9_livingKinOf_26 : decode cX9_livingKinOf 26 = .ok (.checkcast 84, 3) := by decide +kernel
theorem dX9_livingKinOf_29 : decode cX9_livingKinOf 29 = .ok (.astore 5, 2) := by decide +kernel
theorem dX9_livingKinOf_31 : decode cX9_livingKinOf 31 = .ok (.iload 4, 2) := by decide +kernel
theorem dX9_livingKinOf_33 : decode cX9_livingKinOf 33 = .ok (.iload_n 1, 1) := by decide +kernel
theorem dX9_livingKinOf_34 : decode cX9_livingKinOf 34 = .ok (.if_icmp .eq 27, 3) := by decide +kernel
theorem dX9_livingKinOf_37 : decode cX9_livingKinOf 37 = .ok (.aload 5, 2) := by decide +kernel
theorem dX9_livingKinOf_39 : decode cX9_livingKinOf 39 = .ok (.invokevirtual 127, 3) := by decide +kernel
theorem dX9_livingKinOf_42 : decode cX9_livingKinOf 42 = .ok (.ifCond .eq 19, 3) := by decide +kernel
theorem dX9_livingKinOf_45 : decode cX9_livingKinOf 45 = .ok (.aload 5, 2) := by decide +kernel
theorem dX9_livingKinOf_47 : decode cX9_livingKinOf 47 = .ok (.getfield 110, 3) := by decide +kernel
theorem dX9_livingKinOf_50 : decode cX9_livingKinOf 50 = .ok (.iload_n 2, 1) := by decide +kernel
theorem dX9_livingKinOf_51 : decode cX9_livingKinOf 51 = .ok (.if_icmp .ne 10, 3) := by decide +kernel
theorem dX9_livingKinOf_54 : decode cX9_livingKinOf 54 = .ok (.iload_n 3, 1) := by decide +kernel
theorem dX9_livingKinOf_55 : decode cX9_livingKinOf 55 = .ok (.iconst 1, 1) := by decide +kernel
theorem dX9_livingKinOf_56 : decode cX9_livingKinOf 56 = .ok (.iload 4, 2) := by decide +kernel
theorem dX9_livingKinOf_58 : decode cX9_livingKinOf 58 = .ok (.ishl, 1) := by decide +kernel
theorem dX9_livingKinOf_59 : decode cX9_livingKinOf 59 = .ok (.ior, 1) := by decide +kernel
theorem dX9_livingKinOf_60 : decode cX9_livingKinOf 60 = .ok (.istore_n 3, 1) := by decide +kernel
theorem dX9_livingKinOf_61 : decode cX9_livingKinOf 61 = .ok (.iinc 4 1, 3) := by decide +kernel
theorem dX9_livingKinOf_64 : decode cX9_livingKinOf 64 = .ok (.goto (-59), 3) := by decide +kernel
theorem dX9_livingKinOf_67 : decode cX9_livingKinOf 67 = .ok (.iload_n 3, 1) := by decide +kernel
theorem dX9_livingKinOf_68 : decode cX9_livingKinOf 68 = .ok (.ireturn, 1) := by decide +kernel
theorem dX9_far_0 : decode cX9_far 0 = .ok (.aload_n 0, 1) := by decide +kernel
theorem dX9_far_1 : decode cX9_far 1 = .ok (.iload_n 1, 1) := by decide +kernel
theorem dX9_far_2 : decode cX9_far 2 = .ok (.invokevirtual 164, 3) := by decide +kernel
theorem dX9_far_5 : decode cX9_far 5 = .ok (.ifCond .eq 20, 3) := by decide +kernel
theorem dX9_far_8 : decode cX9_far 8 = .ok (.aload_n 0, 1) := by decide +kernel
theorem dX9_far_9 : decode cX9_far 9 = .ok (.iload_n 2, 1) := by decide +kernel
theorem dX9_far_10 : decode cX9_far 10 = .ok (.invokevirtual 164, 3) := by decide +kernel
theorem dX9_far_13 : decode cX9_far 13 = .ok (.ifCond .eq 12, 3) := by decide +kernel
theorem dX9_far_16 : decode cX9_far 16 = .ok (.aload_n 0, 1) := by decide +kernel
theorem dX9_far_17 : decode cX9_far 17 = .ok (.iload_n 1, 1) := by decide +kernel
theorem dX9_far_18 : decode cX9_far 18 = .ok (.iload_n 2, 1) := by decide +kernel
theorem dX9_far_19 : decode cX9_far 19 = .ok (.invokevirtual 338, 3) := by decide +kernel
theorem dX9_far_22 : decode cX9_far 22 = .ok (.goto 4, 3) := by decide +kernel
theorem dX9_far_25 : decode cX9_far 25 = .ok (.iconst (-1), 1) := by decide +kernel
theorem dX9_far_26 : decode cX9_far 26 = .ok (.ireturn, 1) := by decide +kernel
theorem dX9_tree_0 : decode cX9_tree 0 = .ok (.iload_n 1, 1) := by decide +kernel
theorem dX9_tree_1 : decode cX9_tree 1 = .ok (.invokestatic 218, 3) := by decide +kernel
theorem dX9_tree_4 : decode cX9_tree 4 = .ok (.istore_n 3, 1) := by decide +kernel
theorem dX9_tree_5 : decode cX9_tree 5 = .ok (.iload_n 2, 1) := by decide +kernel
theorem dX9_tree_6 : decode cX9_tree 6 = .ok (.bipush 10, 2) := by decide +kernel
theorem dX9_tree_8 : decode cX9_tree 8 = .ok (.if_icmp .lt 27, 3) := by decide +kernel
theorem dX9_tree_11 : decode cX9_tree 11 = .ok (.iload_n 2, 1) := by decide +kernel
theorem dX9_tree_12 : decode cX9_tree 12 = .ok (.bipush 10, 2) := by decide +kernel
theorem dX9_tree_14 : decode cX9_tree 14 = .ok (.isub, 1) := by decide +kernel
theorem dX9_tree_15 : decode cX9_tree 15 = .ok (.bipush 32, 2) := by decide +kernel
theorem dX9_tree_17 : decode cX9_tree 17 = .ok (.if_icmp .ge 18, 3) := by decide +kernel
theorem dX9_tree_20 : decode cX9_tree 20 = .ok (.iload_n 1, 1) := by decide +kernel
theorem dX9_tree_21 : decode cX9_tree 21 = .ok (.iload_n 2, 1) := by decide +kernel
theorem dX9_tree_22 : decode cX9_tree 22 = .ok (.bipush 10, 2) := by decide +kernel
theorem dX9_tree_24 : decode cX9_tree 24 = .ok (.isub, 1) := by decide +kernel
theorem dX9_tree_25 : decode cX9_tree 25 = .ok (.iushr, 1) := by decide +kernel
theorem dX9_tree_26 : decode cX9_tree 26 = .ok (.iconst 1, 1) := by decide +kernel
theorem dX9_tree_27 : decode cX9_tree 27 = .ok (.iand, 1) := by decide +kernel
theorem dX9_tree_28 : decode cX9_tree 28 = .ok (.ifCond .eq 7, 3) := by decide +kernel
theorem dX9_tree_31 : decode cX9_tree 31 = .ok (.iconst 1, 1) := by decide +kernel
theorem dX9_tree_32 : decode cX9_tree 32 = .ok (.goto 4, 3) := by decide +kernel
theorem dX9_tree_35 : decode cX9_tree 35 = .ok (.iconst 0, 1) := by decide +kernel
theorem dX9_tree_36 : decode cX9_tree 36 = .ok (.istore 4, 2) := by decide +kernel
theorem dX9_tree_38 : decode cX9_tree 38 = .ok (.aload_n 0, 1) := by decide +kernel
theorem dX9_tree_39 : decode cX9_tree 39 = .ok (.iload_n 1, 1) := by decide +kernel
theorem dX9_tree_40 : decode cX9_tree 40 = .ok (.invokevirtual 341, 3) := by decide +kernel
theorem dX9_tree_43 : decode cX9_tree 43 = .ok (.ifCond .eq 23, 3) := by decide +kernel
theorem dX9_tree_46 : decode cX9_tree 46 = .ok (.iload_n 3, 1) := by decide +kernel
theorem dX9_tree_47 : decode cX9_tree 47 = .ok (.iconst 2, 1) := by decide +kernel
theorem dX9_tree_48 : decode cX9_tree 48 = .ok (.if_icmp .lt 18, 3) := by decide +kernel
theorem dX9_tree_51 : decode cX9_tree 51 = .ok (.iload_n 3, 1) := by decide +kernel
theorem dX9_tree_52 : decode cX9_tree 52 = .ok (.bipush 8, 2) := by decide +kernel
theorem dX9_tree_54 : decode cX9_tree 54 = .ok (.if_icmp .gt 12, 3) := by decide +kernel
theorem dX9_tree_57 : decode cX9_tree 57 = .ok (.iload_n 2, 1) := by decide +kernel
theorem dX9_tree_58 : decode cX9_tree 58 = .ok (.ifCond .eq 10, 3) := by decide +kernel
theorem dX9_tree_61 : decode cX9_tree 61 = .ok (.iload 4, 2) := by decide +kernel
theorem dX9_tree_63 : decode cX9_tree 63 = .ok (.ifCond .ne 5, 3) := by decide +kernel
theorem dX9_tree_66 : decode cX9_tree 66 = .ok (.iconst (-1), 1) := by decide +kernel
theorem dX9_tree_67 : decode cX9_tree 67 = .ok (.ireturn, 1) := by decide +kernel
theorem dX9_tree_68 : decode cX9_tree 68 = .ok (.iload_n 1, 1) := by decide +kernel
theorem dX9_tree_69 : decode cX9_tree 69 = .ok (.invokestatic 344, 3) := by decide +kernel
theorem dX9_tree_72 : decode cX9_tree 72 = .ok (.istore 5, 2) := by decide +kernel
theorem dX9_tree_74 : decode cX9_tree 74 = .ok (.iconst 0, 1) := by decide +kernel
theorem dX9_tree_75 : decode cX9_tree 75 = .ok (.istore 6, 2) := by decide +kernel
theorem dX9_tree_77 : decode cX9_tree 77 = .ok (.iconst 1, 1) := by decide +kernel
theorem dX9_tree_78 : decode cX9_tree 78 = .ok (.istore 7, 2) := by decide +kernel
theorem dX9_tree_80 : decode cX9_tree 80 = .ok (.iload 7, 2) := by decide +kernel
theorem dX9_tree_82 : decode cX9_tree 82 = .ok (.iload_n 3, 1) := by decide +kernel
theorem dX9_tree_83 : decode cX9_tree 83 = .ok (.if_icmp .ge 71, 3) := by decide +kernel
theorem dX9_tree_86 : decode cX9_tree 86 = .ok (.aload_n 0, 1) := by decide +kernel
theorem dX9_tree_87 : decode cX9_tree 87 = .ok (.iload_n 1, 1) := by decide +kernel
theorem dX9_tree_88 : decode cX9_tree 88 = .ok (.iload 5, 2) := by decide +kernel
theorem dX9_tree_90 : decode cX9_tree 90 = .ok (.iconst (-1), 1) := by decide +kernel
theorem dX9_tree_91 : decode cX9_tree 91 = .ok (.ixor, 1) := by decide +kernel
theorem dX9_tree_92 : decode cX9_tree 92 = .ok (.iand, 1) := by decide +kernel
theorem dX9_tree_93 : decode cX9_tree 93 = .ok (.iload 5, 2) := by decide +kernel
theorem dX9_tree_95 : decode cX9_tree 95 = .ok (.invokevirtual 347, 3) := by decide +kernel
theorem dX9_tree_98 : decode cX9_tree 98 = .ok (.istore 8, 2) := by decide +kernel
theorem dX9_tree_100 : decode cX9_tree 100 = .ok (.iload 8, 2) := by decide +kernel
theorem dX9_tree_102 : decode cX9_tree 102 = .ok (.bipush 32, 2) := by decide +kernel
theorem dX9_tree_104 : decode cX9_tree 104 = .ok (.idiv, 1) := by decide +kernel
theorem dX9_tree_105 : decode cX9_tree 105 = .ok (.istore 9, 2) := by decide +kernel
theorem dX9_tree_107 : decode cX9_tree 107 = .ok (.iload 8, 2) := by decide +kernel
theorem dX9_tree_109 : decode cX9_tree 109 = .ok (.bipush 32, 2) := by decide +kernel
theorem dX9_tree_111 : decode cX9_tree 111 = .ok (.irem, 1) := by decide +kernel
theorem dX9_tree_112 : decode cX9_tree 112 = .ok (.istore 10, 2) := by decide +kernel
theorem dX9_tree_114 : decode cX9_tree 114 = .ok (.iload_n 2, 1) := by decide +kernel
theorem dX9_tree_115 : decode cX9_tree 115 = .ok (.bipush 10, 2) := by decide +kernel
theorem dX9_tree_117 : decode cX9_tree 117 = .ok (.iload 9, 2) := by decide +kernel
theorem dX9_tree_119 : decode cX9_tree 119 = .ok (.iadd, 1) := by decide +kernel
theorem dX9_tree_120 : decode cX9_tree 120 = .ok (.if_icmp .ne 6, 3) := by decide +kernel
theorem dX9_tree_123 : decode cX9_tree 123 = .ok (.iload 10, 2) := by decide +kernel
theorem dX9_tree_125 : decode cX9_tree 125 = .ok (.ireturn, 1) := by decide +kernel
theorem dX9_tree_126 : decode cX9_tree 126 = .ok (.iload 6, 2) := by decide +kernel
theorem dX9_tree_128 : decode cX9_tree 128 = .ok (.aload_n 0, 1) := by decide +kernel
theorem dX9_tree_129 : decode cX9_tree 129 = .ok (.iload 9, 2) := by decide +kernel
theorem dX9_tree_131 : decode cX9_tree 131 = .ok (.iload 10, 2) := by decide +kernel
theorem dX9_tree_133 : decode cX9_tree 133 = .ok (.invokevirtual 338, 3) := by decide +kernel
theorem dX9_tree_136 : decode cX9_tree 136 = .ok (.iadd, 1) := by decide +kernel
theorem dX9_tree_137 : decode cX9_tree 137 = .ok (.istore 6, 2) := by decide +kernel
theorem dX9_tree_139 : decode cX9_tree 139 = .ok (.iload 5, 2) := by decide +kernel
theorem dX9_tree_141 : decode cX9_tree 141 = .ok (.iconst 1, 1) := by decide +kernel
theorem dX9_tree_142 : decode cX9_tree 142 = .ok (.iload 9, 2) := by decide +kernel
theorem dX9_tree_144 : decode cX9_tree 144 = .ok (.ishl, 1) := by decide +kernel
theorem dX9_tree_145 : decode cX9_tree 145 = .ok (.ior, 1) := by decide +kernel
theorem dX9_tree_146 : decode cX9_tree 146 = .ok (.istore 5, 2) := by decide +kernel
theorem dX9_tree_148 : decode cX9_tree 148 = .ok (.iinc 7 1, 3) := by decide +kernel
theorem dX9_tree_151 : decode cX9_tree 151 = .ok (.goto (-71), 3) := by decide +kernel
theorem dX9_tree_154 : decode cX9_tree 154 = .ok (.iload_n 2, 1) := by decide +kernel
theorem dX9_tree_155 : decode cX9_tree 155 = .ok (.ifCond .ne 8, 3) := by decide +kernel
theorem dX9_tree_158 : decode cX9_tree 158 = .ok (.iload 6, 2) := by decide +kernel
theorem dX9_tree_160 : decode cX9_tree 160 = .ok (.goto 4, 3) := by decide +kernel
theorem dX9_tree_163 : decode cX9_tree 163 = .ok (.iconst (-1), 1) := by decide +kernel
theorem dX9_tree_164 : decode cX9_tree 164 = .ok (.ireturn, 1) := by decide +kernel
theorem dX9_nearestBranch_0 : decode cX9_nearestBranch 0 = .ok (.sipush 401, 3) := by decide +kernel
theorem dX9_nearestBranch_3 : decode cX9_nearestBranch 3 = .ok (.istore_n 3, 1) := by decide +kernel
theorem dX9_nearestBranch_4 : decode cX9_nearestBranch 4 = .ok (.iconst 0, 1) := by decide +kernel
theorem dX9_nearestBranch_5 : decode cX9_nearestBranch 5 = .ok (.istore 4, 2) := by decide +kernel
theorem dX9_nearestBranch_7 : decode cX9_nearestBranch 7 = .ok (.iconst 0, 1) := by decide +kernel
theorem dX9_nearestBranch_8 : decode cX9_nearestBranch 8 = .ok (.istore 5, 2) := by decide +kernel
theorem dX9_nearestBranch_10 : decode cX9_nearestBranch 10 = .ok (.iload 5, 2) := by decide +kernel
theorem dX9_nearestBranch_12 : decode cX9_nearestBranch 12 = .ok (.aload_n 0, 1) := by decide +kernel
theorem dX9_nearestBranch_13 : decode cX9_nearestBranch 13 = .ok (.getfield 19, 3) := by decide +kernel
theorem dX9_nearestBranch_16 : decode cX9_nearestBranch 16 = .ok (.invokevirtual 80, 3) := by decide +kernel
theorem dX9_nearestBranch_19 : decode cX9_nearestBranch 19 = .ok (.if_icmp .ge 79, 3) := by decide +kernel
theorem dX9_nearestBranch_22 : decode cX9_nearestBranch 22 = .ok (.iconst 0, 1) := by decide +kernel
theorem dX9_nearestBranch_23 : decode cX9_nearestBranch 23 = .ok (.istore 6, 2) := by decide +kernel
theorem dX9_nearestBranch_25 : decode cX9_nearestBranch 25 = .ok (.iload 6, 2) := by decide +kernel
theorem dX9_nearestBranch_27 : decode cX9_nearestBranch 27 = .ok (.aload_n 0, 1) := by decide +kernel
theorem dX9_nearestBranch_28 : decode cX9_nearestBranch 28 = .ok (.getfield 19, 3) := by decide +kernel
theorem dX9_nearestBranch_31 : decode cX9_nearestBranch 31 = .ok (.invokevirtual 80, 3) := by decide +kernel
theorem dX9_nearestBranch_34 : decode cX9_nearestBranch 34 = .ok (.if_icmp .ge 58, 3) := by decide +kernel
theorem dX9_nearestBranch_37 : decode cX9_nearestBranch 37 = .ok (.iload_n 1, 1) := by decide +kernel
theorem dX9_nearestBranch_38 : decode cX9_nearestBranch 38 = .ok (.iload 5, 2) := by decide +kernel
theorem dX9_nearestBranch_40 : decode cX9_nearestBranch 40 = .ok (.iushr, 1) := by decide +kernel
theorem dX9_nearestBranch_41 : decode cX9_nearestBranch 41 = .ok (.iconst 1, 1) := by decide +kernel
theorem dX9_nearestBranch_42 : decode cX9_nearestBranch 42 = .ok (.iand, 1) := by decide +kernel
theorem dX9_nearestBranch_43 : decode cX9_nearestBranch 43 = .ok (.ifCond .eq 43, 3) := by decide +kernel
theorem dX9_nearestBranch_46 : decode cX9_nearestBranch 46 = .ok (.iload_n 2, 1) := by decide +kernel
theorem dX9_nearestBranch_47 : decode cX9_nearestBranch 47 = .ok (.iload 6, 2) := by decide +kernel
theorem dX9_nearestBranch_49 : decode cX9_nearestBranch 49 = .ok (.iushr, 1) := by decide +kernel
theorem dX9_nearestBranch_50 : decode cX9_nearestBranch 50 = .ok (.iconst 1, 1) := by decide +kernel
theorem dX9_nearestBranch_51 : decode cX9_nearestBranch 51 = .ok (.iand, 1) := by decide +kernel
theorem dX9_nearestBranch_52 : decode cX9_nearestBranch 52 = .ok (.ifCond .eq 34, 3) := by decide +kernel
theorem dX9_nearestBranch_55 : decode cX9_nearestBranch 55 = .ok (.aload_n 0, 1) := by decide +kernel
theorem dX9_nearestBranch_56 : decode cX9_nearestBranch 56 = .ok (.iload 5, 2) := by decide +kernel
theorem dX9_nearestBranch_58 : decode cX9_nearestBranch 58 = .ok (.iload 6, 2) := by decide +kernel
theorem dX9_nearestBranch_60 : decode cX9_nearestBranch 60 = .ok (.invokevirtual 338, 3) := by decide +kernel
theorem dX9_nearestBranch_63 : decode cX9_nearestBranch 63 = .ok (.iload_n 3, 1) := by decide +kernel
theorem dX9_nearestBranch_64 : decode cX9_nearestBranch 64 = .ok (.if_icmp .ge 22, 3) := by decide +kernel
theorem dX9_nearestBranch_67 : decode cX9_nearestBranch 67 = .ok (.aload_n 0, 1) := by decide +kernel
theorem dX9_nearestBranch_68 : decode cX9_nearestBranch 68 = .ok (.iload 5, 2) := by decide +kernel
theorem dX9_nearestBranch_70 : decode cX9_nearestBranch 70 = .ok (.iload 6, 2) := by decide +kernel
theorem dX9_nearestBranch_72 : decode cX9_nearestBranch 72 = .ok (.invokevirtual 338, 3) := by decide +kernel
theorem dX9_nearestBranch_75 : decode cX9_nearestBranch 75 = .ok (.istore_n 3, 1) := by decide +kernel
theorem dX9_nearestBranch_76 : decode cX9_nearestBranch 76 = .ok (.iload 5, 2) := by decide +kernel
theorem dX9_nearestBranch_78 : decode cX9_nearestBranch 78 = .ok (.bipush 32, 2) := by decide +kernel
theorem dX9_nearestBranch_80 : decode cX9_nearestBranch 80 = .ok (.imul, 1) := by decide +kernel
theorem dX9_nearestBranch_81 : decode cX9_nearestBranch 81 = .ok (.iload 6, 2) := by decide +kernel
theorem dX9_nearestBranch_83 : decode cX9_nearestBranch 83 = .ok (.iadd, 1) := by decide +kernel
theorem dX9_nearestBranch_84 : decode cX9_nearestBranch 84 = .ok (.istore 4, 2) := by decide +kernel
theorem dX9_nearestBranch_86 : decode cX9_nearestBranch 86 = .ok (.iinc 6 1, 3) := by decide +kernel
theorem dX9_nearestBranch_89 : decode cX9_nearestBranch 89 = .ok (.goto (-64), 3) := by decide +kernel
theorem dX9_nearestBranch_92 : decode cX9_nearestBranch 92 = .ok (.iinc 5 1, 3) := by decide +kernel
theorem dX9_nearestBranch_95 : decode cX9_nearestBranch 95 = .ok (.goto (-85), 3) := by decide +kernel
theorem dX9_nearestBranch_98 : decode cX9_nearestBranch 98 = .ok (.iload 4, 2) := by decide +kernel
theorem dX9_nearestBranch_100 : decode cX9_nearestBranch 100 = .ok (.ireturn, 1) := by decide +kernel
theorem dX9_areWordings_0 : decode cX9_areWordings 0 = .ok (.aload_n 0, 1) := by decide +kernel
theorem dX9_areWordings_1 : decode cX9_areWordings 1 = .ok (.getfield 19, 3) := by decide +kernel
theorem dX9_areWordings_4 : decode cX9_areWordings 4 = .ok (.invokevirtual 80, 3) := by decide +kernel
theorem dX9_areWordings_7 : decode cX9_areWordings 7 = .ok (.bipush 32, 2) := by decide +kernel
theorem dX9_areWordings_9 : decode cX9_areWordings 9 = .ok (.if_icmp .ge 15, 3) := by decide +kernel
theorem dX9_areWordings_12 : decode cX9_areWordings 12 = .ok (.iload_n 1, 1) := by decide +kernel
theorem dX9_areWordings_13 : decode cX9_areWordings 13 = .ok (.aload_n 0, 1) := by decide +kernel
theorem dX9_areWordings_14 : decode cX9_areWordings 14 = .ok (.getfield 19, 3) := by decide +kernel
theorem dX9_areWordings_17 : decode cX9_areWordings 17 = .ok (.invokevirtual 80, 3) := by decide +kernel
theorem dX9_areWordings_20 : decode cX9_areWordings 20 = .ok (.iushr, 1) := by decide +kernel
theorem dX9_areWordings_21 : decode cX9_areWordings 21 = .ok (.ifCond .ne 7, 3) := by decide +kernel
theorem dX9_areWordings_24 : decode cX9_areWordings 24 = .ok (.iconst 1, 1) := by decide +kernel
theorem dX9_areWordings_25 : decode cX9_areWordings 25 = .ok (.goto 4, 3) := by decide +kernel
theorem dX9_areWordings_28 : decode cX9_areWordings 28 = .ok (.iconst 0, 1) := by decide +kernel
theorem dX9_areWordings_29 : decode cX9_areWordings 29 = .ok (.ireturn, 1) := by decide +kernel
theorem dX9_distance_0 : decode cX9_distance 0 = .ok (.aload_n 0, 1) := by decide +kernel
theorem dX9_distance_1 : decode cX9_distance 1 = .ok (.iload_n 1, 1) := by decide +kernel
theorem dX9_distance_2 : decode cX9_distance 2 = .ok (.iload_n 2, 1) := by decide +kernel
theorem dX9_distance_3 : decode cX9_distance 3 = .ok (.invokestatic 350, 3) := by decide +kernel
theorem dX9_distance_6 : decode cX9_distance 6 = .ok (.invokevirtual 302, 3) := by decide +kernel
theorem dX9_distance_9 : decode cX9_distance 9 = .ok (.astore_n 3, 1) := by decide +kernel
theorem dX9_distance_10 : decode cX9_distance 10 = .ok (.aload_n 0, 1) := by decide +kernel
theorem dX9_distance_11 : decode cX9_distance 11 = .ok (.iload_n 1, 1) := by decide +kernel
theorem dX9_distance_12 : decode cX9_distance 12 = .ok (.iload_n 2, 1) := by decide +kernel
theorem dX9_distance_13 : decode cX9_distance 13 = .ok (.invokestatic 355, 3) := by decide +kernel
theorem dX9_distance_16 : decode cX9_distance 16 = .ok (.invokevirtual 302, 3) := by decide +kernel
theorem dX9_distance_19 : decode cX9_distance 19 = .ok (.astore 4, 2) := by decide +kernel
theorem dX9_distance_21 : decode cX9_distance 21 = .ok (.aload_n 3, 1) := by decide +kernel
theorem dX9_distance_22 : decode cX9_distance 22 = .ok (.ifnull 13, 3) := by decide +kernel
theorem dX9_distance_25 : decode cX9_distance 25 = .ok (.aload 4, 2) := by decide +kernel
theorem dX9_distance_27 : decode cX9_distance 27 = .ok (.ifnull 8, 3) := by decide +kernel
theorem dX9_distance_30 : decode cX9_distance 30 = .ok (.iload_n 1, 1) := by decide +kernel
theorem dX9_distance_31 : decode cX9_distance 31 = .ok (.iload_n 2, 1) := by decide +kernel
theorem dX9_distance_32 : decode cX9_distance 32 = .ok (.if_icmp .ne 5, 3) := by decide +kernel
theorem dX9_distance_35 : decode cX9_distance 35 = .ok (.iconst 0, 1) := by decide +kernel
theorem dX9_distance_36 : decode cX9_distance 36 = .ok (.ireturn, 1) := by decide +kernel
theorem dX9_distance_37 : decode cX9_distance 37 = .ok (.aload_n 3, 1) := by decide +kernel
theorem dX9_distance_38 : decode cX9_distance 38 = .ok (.aload 4, 2) := by decide +kernel
theorem dX9_distance_40 : decode cX9_distance 40 = .ok (.getfield 358, 3) := by decide +kernel
theorem dX9_distance_43 : decode cX9_distance 43 = .ok (.invokevirtual 361, 3) := by decide +kernel
theorem dX9_distance_46 : decode cX9_distance 46 = .ok (.istore 5, 2) := by decide +kernel
theorem dX9_distance_48 : decode cX9_distance 48 = .ok (.iload 5, 2) := by decide +kernel
theorem dX9_distance_50 : decode cX9_distance 50 = .ok (.iconst (-1), 1) := by decide +kernel
theorem dX9_distance_51 : decode cX9_distance 51 = .ok (.if_icmp .ne 26, 3) := by decide +kernel
theorem dX9_distance_54 : decode cX9_distance 54 = .ok (.aload_n 3, 1) := by decide +kernel
theorem dX9_distance_55 : decode cX9_distance 55 = .ok (.aload 4, 2) := by decide +kernel
theorem dX9_distance_57 : decode cX9_distance 57 = .ok (.aload_n 0, 1) := by decide +kernel
theorem dX9_distance_58 : decode cX9_distance 58 = .ok (.getfield 73, 3) := by decide +kernel
theorem dX9_distance_61 : decode cX9_distance 61 = .ok (.invokevirtual 364, 3) := by decide +kernel
theorem dX9_distance_64 : decode cX9_distance 64 = .ok (.istore 5, 2) := by decide +kernel
theorem dX9_distance_66 : decode cX9_distance 66 = .ok (.aload_n 3, 1) := by decide +kernel
theorem dX9_distance_67 : decode cX9_distance 67 = .ok (.aload 4, 2) := by decide +kernel
theorem dX9_distance_69 : decode cX9_distance 69 = .ok (.getfield 358, 3) := by decide +kernel
theorem dX9_distance_72 : decode cX9_distance 72 = .ok (.iload 5, 2) := by decide +kernel
theorem dX9_distance_74 : decode cX9_distance 74 = .ok (.invokevirtual 368, 3) := by decide +kernel
theorem dX9_distance_77 : decode cX9_distance 77 = .ok (.iload 5, 2) := by decide +kernel
theorem dX9_distance_79 : decode cX9_distance 79 = .ok (.ireturn, 1) := by decide +kernel
theorem dX9_loss_0 : decode cX9_loss 0 = .ok (.iload_n 1, 1) := by decide +kernel
theorem dX9_loss_1 : decode cX9_loss 1 = .ok (.ifCond .eq 11, 3) := by decide +kernel
theorem dX9_loss_4 : decode cX9_loss 4 = .ok (.aload_n 0, 1) := by decide +kernel
theorem dX9_loss_5 : decode cX9_loss 5 = .ok (.iload_n 1, 1) := by decide +kernel
theorem dX9_loss_6 : decode cX9_loss 6 = .ok (.invokevirtual 371, 3) := by decide +kernel
theorem dX9_loss_9 : decode cX9_loss 9 = .ok (.ifCond .ne 5, 3) := by decide +kernel
theorem dX9_loss_12 : decode cX9_loss 12 = .ok (.iconst (-1), 1) := by decide +kernel
theorem dX9_loss_13 : decode cX9_loss 13 = .ok (.ireturn, 1) := by decide +kernel
theorem dX9_loss_14 : decode cX9_loss 14 = .ok (.bipush 24, 2) := by decide +kernel
theorem dX9_loss_16 : decode cX9_loss 16 = .ok (.istore_n 2, 1) := by decide +kernel
theorem dX9_loss_17 : decode cX9_loss 17 = .ok (.iconst 0, 1) := by decide +kernel
theorem dX9_loss_18 : decode cX9_loss 18 = .ok (.istore_n 3, 1) := by decide +kernel
theorem dX9_loss_19 : decode cX9_loss 19 = .ok (.iload_n 3, 1) := by decide +kernel
theorem dX9_loss_20 : decode cX9_loss 20 = .ok (.aload_n 0, 1) := by decide +kernel
theorem dX9_loss_21 : decode cX9_loss 21 = .ok (.getfield 16, 3) := by decide +kernel
theorem dX9_loss_24 : decode cX9_loss 24 = .ok (.invokevirtual 80, 3) := by decide +kernel
theorem dX9_loss_27 : decode cX9_loss 27 = .ok (.if_icmp .ge 27, 3) := by decide +kernel
theorem dX9_loss_30 : decode cX9_loss 30 = .ok (.iload_n 1, 1) := by decide +kernel
theorem dX9_loss_31 : decode cX9_loss 31 = .ok (.iload_n 3, 1) := by decide +kernel
theorem dX9_loss_32 : decode cX9_loss 32 = .ok (.iushr, 1) := by decide +kernel
theorem dX9_loss_33 : decode cX9_loss 33 = .ok (.iconst 1, 1) := by decide +kernel
theorem dX9_loss_34 : decode cX9_loss 34 = .ok (.iand, 1) := by decide +kernel
theorem dX9_loss_35 : decode cX9_loss 35 = .ok (.ifCond .eq 13, 3) := by decide +kernel
theorem dX9_loss_38 : decode cX9_loss 38 = .ok (.iload_n 2, 1) := by decide +kernel
theorem dX9_loss_39 : decode cX9_loss 39 = .ok (.aload_n 0, 1) := by decide +kernel
theorem dX9_loss_40 : decode cX9_loss 40 = .ok (.iload_n 3, 1) := by decide +kernel
theorem dX9_loss_41 : decode cX9_loss 41 = .ok (.invokevirtual 209, 3) := by decide +kernel
theorem dX9_loss_44 : decode cX9_loss 44 = .ok (.invokestatic 355, 3) := by decide +kernel
theorem dX9_loss_47 : decode cX9_loss 47 = .ok (.istore_n 2, 1) := by decide +kernel
theorem dX9_loss_48 : decode cX9_loss 48 = .ok (.iinc 3 1, 3) := by decide +kernel
theorem dX9_loss_51 : decode cX9_loss 51 = .ok (.goto (-32), 3) := by decide +kernel
theorem dX9_loss_54 : decode cX9_loss 54 = .ok (.iload_n 2, 1) := by decide +kernel
theorem dX9_loss_55 : decode cX9_loss 55 = .ok (.ireturn, 1) := by decide +kernel
theorem dX9_plan_0 : decode cX9_plan 0 = .ok (.aload_n 0, 1) := by decide +kernel
theorem dX9_plan_1 : decode cX9_plan 1 = .ok (.iload_n 1, 1) := by decide +kernel
theorem dX9_plan_2 : decode cX9_plan 2 = .ok (.invokevirtual 371, 3) := by decide +kernel
theorem dX9_plan_5 : decode cX9_plan 5 = .ok (.ifCond .eq 21, 3) := by decide +kernel
theorem dX9_plan_8 : decode cX9_plan 8 = .ok (.iload_n 1, 1) := by decide +kernel
theorem dX9_plan_9 : decode cX9_plan 9 = .ok (.invokestatic 218, 3) := by decide +kernel
theorem dX9_plan_12 : decode cX9_plan 12 = .ok (.iconst 4, 1) := by decide +kernel
theorem dX9_plan_13 : decode cX9_plan 13 = .ok (.if_icmp .gt 13, 3) := by decide +kernel
theorem dX9_plan_16 : decode cX9_plan 16 = .ok (.iload_n 2, 1) := by decide +kernel
theorem dX9_plan_17 : decode cX9_plan 17 = .ok (.iconst 1, 1) := by decide +kernel
theorem dX9_plan_18 : decode cX9_plan 18 = .ok (.if_icmp .lt 8, 3) := by decide +kernel
theorem dX9_plan_21 : decode cX9_plan 21 = .ok (.iload_n 2, 1) := by decide +kernel
theorem dX9_plan_22 : decode cX9_plan 22 = .ok (.iconst 3, 1) := by decide +kernel
theorem dX9_plan_23 : decode cX9_plan 23 = .ok (.if_icmp .le 5, 3) := by decide +kernel
theorem dX9_plan_26 : decode cX9_plan 26 = .ok (.iconst (-1), 1) := by decide +kernel
theorem dX9_plan_27 : decode cX9_plan 27 = .ok (.ireturn, 1) := by decide +kernel
theorem dX9_plan_28 : decode cX9_plan 28 = .ok (.iload_n 3, 1) := by decide +kernel
theorem dX9_plan_29 : decode cX9_plan 29 = .ok (.bipush 10, 2) := by decide +kernel
theorem dX9_plan_31 : decode cX9_plan 31 = .ok (.if_icmp .lt 21, 3) := by decide +kernel
theorem dX9_plan_34 : decode cX9_plan 34 = .ok (.iload_n 3, 1) := by decide +kernel
theorem dX9_plan_35 : decode cX9_plan 35 = .ok (.bipush 10, 2) := by decide +kernel
theorem dX9_plan_37 : decode cX9_plan 37 = .ok (.isub, 1) := by decide +kernel
theorem dX9_plan_38 : decode cX9_plan 38 = .ok (.aload_n 0, 1) := by decide +kernel
theorem dX9_plan_39 : decode cX9_plan 39 = .ok (.getfield 12, 3) := by decide +kernel
theorem dX9_plan_42 : decode cX9_plan 42 = .ok (.invokevirtual 80, 3) := by decide +kernel
theorem dX9_plan_45 : decode cX9_plan 45 = .ok (.if_icmp .ge 7, 3) := by decide +kernel
theorem dX9_plan_48 : decode cX9_plan 48 = .ok (.iconst 1, 1) := by decide +kernel
theorem dX9_plan_49 : decode cX9_plan 49 = .ok (.goto 4, 3) := by decide +kernel
theorem dX9_plan_52 : decode cX9_plan 52 = .ok (.iconst 0, 1) := by decide +kernel
theorem dX9_plan_53 : decode cX9_plan 53 = .ok (.istore 4, 2) := by decide +kernel
theorem dX9_plan_55 : decode cX9_plan 55 = .ok (.iload_n 3, 1) := by decide +kernel
theorem dX9_plan_56 : decode cX9_plan 56 = .ok (.ifCond .eq 15, 3) := by decide +kernel
theorem dX9_plan_59 : decode cX9_plan 59 = .ok (.iload_n 3, 1) := by decide +kernel
theorem dX9_plan_60 : decode cX9_plan 60 = .ok (.iconst 1, 1) := by decide +kernel
theorem dX9_plan_61 : decode cX9_plan 61 = .ok (.if_icmp .eq 10, 3) := by decide +kernel
theorem dX9_plan_64 : decode cX9_plan 64 = .ok (.iload 4, 2) := by decide +kernel
theorem dX9_plan_66 : decode cX9_plan 66 = .ok (.ifCond .ne 5, 3) := by decide +kernel
theorem dX9_plan_69 : decode cX9_plan 69 = .ok (.iconst (-1), 1) := by decide +kernel
theorem dX9_plan_70 : decode cX9_plan 70 = .ok (.ireturn, 1) := by decide +kernel
theorem dX9_plan_71 : decode cX9_plan 71 = .ok (.aload_n 0, 1) := by decide +kernel
theorem dX9_plan_72 : decode cX9_plan 72 = .ok (.getfield 76, 3) := by decide +kernel
theorem dX9_plan_75 : decode cX9_plan 75 = .ok (.ifnonnull 13, 3) := by decide +kernel
theorem dX9_plan_78 : decode cX9_plan 78 = .ok (.new 374, 3) := by decide +kernel
theorem dX9_plan_81 : decode cX9_plan 81 = .ok (.dup, 1) := by decide +kernel
theorem dX9_plan_82 : decode cX9_plan 82 = .ok (.invokespecial 376, 3) := by decide +kernel
theorem dX9_plan_85 : decode cX9_plan 85 = .ok (.goto 7, 3) := by decide +kernel
theorem dX9_plan_88 : decode cX9_plan 88 = .ok (.aload_n 0, 1) := by decide +kernel
theorem dX9_plan_89 : decode cX9_plan 89 = .ok (.getfield 76, 3) := by decide +kernel
theorem dX9_plan_92 : decode cX9_plan 92 = .ok (.astore 5, 2) := by decide +kernel
theorem dX9_plan_94 : decode cX9_plan 94 = .ok (.aload_n 0, 1) := by decide +kernel
theorem dX9_plan_95 : decode cX9_plan 95 = .ok (.aload 5, 2) := by decide +kernel
theorem dX9_plan_97 : decode cX9_plan 97 = .ok (.putfield 76, 3) := by decide +kernel
theorem dX9_plan_100 : decode cX9_plan 100 = .ok (.aload 5, 2) := by decide +kernel
theorem dX9_plan_102 : decode cX9_plan 102 = .ok (.aload_n 0, 1) := by decide +kernel
theorem dX9_plan_103 : decode cX9_plan 103 = .ok (.getfield 12, 3) := by decide +kernel
theorem dX9_plan_106 : decode cX9_plan 106 = .ok (.invokevirtual 80, 3) := by decide +kernel
theorem dX9_plan_109 : decode cX9_plan 109 = .ok (.invokevirtual 377, 3) := by decide +kernel
theorem dX9_plan_112 : decode cX9_plan 112 = .ok (.iconst 0, 1) := by decide +kernel
theorem dX9_plan_113 : decode cX9_plan 113 = .ok (.istore 6, 2) := by decide +kernel
theorem dX9_plan_115 : decode cX9_plan 115 = .ok (.iload 6, 2) := by decide +kernel
theorem dX9_plan_117 : decode cX9_plan 117 = .ok (.aload_n 0, 1) := by decide +kernel
theorem dX9_plan_118 : decode cX9_plan 118 = .ok (.getfield 16, 3) := by decide +kernel
theorem dX9_plan_121 : decode cX9_plan 121 = .ok (.invokevirtual 80, 3) := by decide +kernel
theorem dX9_plan_124 : decode cX9_plan 124 = .ok (.if_icmp .ge 45, 3) := by decide +kernel
theorem dX9_plan_127 : decode cX9_plan 127 = .ok (.iload_n 1, 1) := by decide +kernel
theorem dX9_plan_128 : decode cX9_plan 128 = .ok (.iload 6, 2) := by decide +kernel
theorem dX9_plan_130 : decode cX9_plan 130 = .ok (.iushr, 1) := by decide +kernel
theorem dX9_plan_131 : decode cX9_plan 131 = .ok (.iconst 1, 1) := by decide +kernel
theorem dX9_plan_132 : decode cX9_plan 132 = .ok (.iand, 1) := by decide +kernel
theorem dX9_plan_133 : decode cX9_plan 133 = .ok (.ifCond .eq 30, 3) := by decide +kernel
theorem dX9_plan_136 : decode cX9_plan 136 = .ok (.aload 5, 2) := by decide +kernel
theorem dX9_plan_138 : decode cX9_plan 138 = .ok (.iload 6, 2) := by decide +kernel
theorem dX9_plan_140 : decode cX9_plan 140 = .ok (.iconst 0, 1) := by decide +kernel
theorem dX9_plan_141 : decode cX9_plan 141 = .ok (.iload_n 2, 1) := by decide +kernel
theorem dX9_plan_142 : decode cX9_plan 142 = .ok (.aload_n 0, 1) := by decide +kernel
theorem dX9_plan_143 : decode cX9_plan 143 = .ok (.iload 6, 2) := by decide +kernel
theorem dX9_plan_145 : decode cX9_plan 145 = .ok (.invokevirtual 209, 3) := by decide +kernel
theorem dX9_plan_148 : decode cX9_plan 148 = .ok (.isub, 1) := by decide +kernel
theorem dX9_plan_149 : decode cX9_plan 149 = .ok (.invokestatic 350, 3) := by decide +kernel
theorem dX9_plan_152 : decode cX9_plan 152 = .ok (.invokevirtual 380, 3) := by decide +kernel
theorem dX9_plan_155 : decode cX9_plan 155 = .ok (.aload_n 0, 1) := by decide +kernel
theorem dX9_plan_156 : decode cX9_plan 156 = .ok (.aload 5, 2) := by decide +kernel
theorem dX9_plan_158 : decode cX9_plan 158 = .ok (.iload 6, 2) := by decide +kernel
theorem dX9_plan_160 : decode cX9_plan 160 = .ok (.invokevirtual 383, 3) := by decide +kernel
theorem dX9_plan_163 : decode cX9_plan 163 = .ok (.iinc 6 1, 3) := by decide +kernel
theorem dX9_plan_166 : decode cX9_plan 166 = .ok (.goto (-51), 3) := by decide +kernel
theorem dX9_plan_169 : decode cX9_plan 169 = .ok (.aload 5, 2) := by decide +kernel
theorem dX9_plan_171 : decode cX9_plan 171 = .ok (.invokevirtual 387, 3) := by decide +kernel
theorem dX9_plan_174 : decode cX9_plan 174 = .ok (.iload 4, 2) := by decide +kernel
theorem dX9_plan_176 : decode cX9_plan 176 = .ok (.ifCond .eq 15, 3) := by decide +kernel
theorem dX9_plan_179 : decode cX9_plan 179 = .ok (.aload 5, 2) := by decide +kernel
theorem dX9_plan_181 : decode cX9_plan 181 = .ok (.iload_n 3, 1) := by decide +kernel
theorem dX9_plan_182 : decode cX9_plan 182 = .ok (.bipush 10, 2) := by decide +kernel
theorem dX9_plan_184 : decode cX9_plan 184 = .ok (.isub, 1) := by decide +kernel
theorem dX9_plan_185 : decode cX9_plan 185 = .ok (.invokevirtual 390, 3) := by decide +kernel
theorem dX9_plan_188 : decode cX9_plan 188 = .ok (.goto 20, 3) := by decide +kernel
theorem dX9_plan_191 : decode cX9_plan 191 = .ok (.iload_n 3, 1) := by decide +kernel
theorem dX9_plan_192 : decode cX9_plan 192 = .ok (.ifCond .ne 11, 3) := by decide +kernel
theorem dX9_plan_195 : decode cX9_plan 195 = .ok (.aload 5, 2) := by decide +kernel
theorem dX9_plan_197 : decode cX9_plan 197 = .ok (.invokevirtual 393, 3) := by decide +kernel
theorem dX9_plan_200 : decode cX9_plan 200 = .ok (.goto 8, 3) := by decide +kernel
theorem dX9_plan_203 : decode cX9_plan 203 = .ok (.aload 5, 2) := by decide +kernel
theorem dX9_plan_205 : decode cX9_plan 205 = .ok (.invokevirtual 396, 3) := by decide +kernel
theorem dX9_plan_208 : decode cX9_plan 208 = .ok (.ireturn, 1) := by decide +kernel
theorem dX9_putPrices_0 : decode cX9_putPrices 0 = .ok (.iconst 0, 1) := by decide +kernel
theorem dX9_putPrices_1 : decode cX9_putPrices 1 = .ok (.istore_n 3, 1) := by decide +kernel
theorem dX9_putPrices_2 : decode cX9_putPrices 2 = .ok (.iconst 0, 1) := by decide +kernel
theorem dX9_putPrices_3 : decode cX9_putPrices 3 = .ok (.istore 4, 2) := by decide +kernel
theorem dX9_putPrices_5 : decode cX9_putPrices 5 = .ok (.iload 4, 2) := by decide +kernel
theorem dX9_putPrices_7 : decode cX9_putPrices 7 = .ok (.aload_n 0, 1) := by decide +kernel
theorem dX9_putPrices_8 : decode cX9_putPrices 8 = .ok (.getfield 12, 3) := by decide +kernel
theorem dX9_putPrices_11 : decode cX9_putPrices 11 = .ok (.invokevirtual 80, 3) := by decide +kernel
theorem dX9_putPrices_14 : decode cX9_putPrices 14 = .ok (.if_icmp .ge 50, 3) := by decide +kernel
theorem dX9_putPrices_17 : decode cX9_putPrices 17 = .ok (.aload_n 0, 1) := by decide +kernel
theorem dX9_putPrices_18 : decode cX9_putPrices 18 = .ok (.getfield 12, 3) := by decide +kernel
theorem dX9_putPrices_21 : decode cX9_putPrices 21 = .ok (.iload 4, 2) := by decide +kernel
theorem dX9_putPrices_23 : decode cX9_putPrices 23 = .ok (.invokevirtual 123, 3) := by decide +kernel
theorem dX9_putPrices_26 : decode cX9_putPrices 26 = .ok (.checkcast 84, 3) := by decide +kernel
theorem dX9_putPrices_29 : decode cX9_putPrices 29 = .ok (.astore 5, 2) := by decide +kernel
theorem dX9_putPrices_31 : decode cX9_putPrices 31 = .ok (.aload 5, 2) := by decide +kernel
theorem dX9_putPrices_33 : decode cX9_putPrices 33 = .ok (.invokevirtual 127, 3) := by decide +kernel
theorem dX9_putPrices_36 : decode cX9_putPrices 36 = .ok (.ifCond .eq 22, 3) := by decide +kernel
theorem dX9_putPrices_39 : decode cX9_putPrices 39 = .ok (.aload 5, 2) := by decide +kernel
theorem dX9_putPrices_41 : decode cX9_putPrices 41 = .ok (.iload_n 2, 1) := by decide +kernel
theorem dX9_putPrices_42 : decode cX9_putPrices 42 = .ok (.invokevirtual 179, 3) := by decide +kernel
theorem dX9_putPrices_45 : decode cX9_putPrices 45 = .ok (.ifCond .eq 13, 3) := by decide +kernel
theorem dX9_putPrices_48 : decode cX9_putPrices 48 = .ok (.iload_n 3, 1) := by decide +kernel
theorem dX9_putPrices_49 : decode cX9_putPrices 49 = .ok (.iconst 1, 1) := by decide +kernel
theorem dX9_putPrices_50 : decode cX9_putPrices 50 = .ok (.aload 5, 2) := by decide +kernel
theorem dX9_putPrices_52 : decode cX9_putPrices 52 = .ok (.getfield 107, 3) := by decide +kernel
theorem dX9_putPrices_55 : decode cX9_putPrices 55 = .ok (.ishl, 1) := by decide +kernel
theorem dX9_putPrices_56 : decode cX9_putPrices 56 = .ok (.ior, 1) := by decide +kernel
theorem dX9_putPrices_57 : decode cX9_putPrices 57 = .ok (.istore_n 3, 1) := by decide +kernel
theorem dX9_putPrices_58 : decode cX9_putPrices 58 = .ok (.iinc 4 1, 3) := by decide +kernel
theorem dX9_putPrices_61 : decode cX9_putPrices 61 = .ok (.goto (-56), 3) := by decide +kernel
theorem dX9_putPrices_64 : decode cX9_putPrices 64 = .ok (.iconst 0, 1) := by decide +kernel
theorem dX9_putPrices_65 : decode cX9_putPrices 65 = .ok (.istore 4, 2) := by decide +kernel
theorem dX9_putPrices_67 : decode cX9_putPrices 67 = .ok (.iload 4, 2) := by decide +kernel
theorem dX9_putPrices_69 : decode cX9_putPrices 69 = .ok (.aload_n 0, 1) := by decide +kernel
theorem dX9_putPrices_70 : decode cX9_putPrices 70 = .ok (.getfield 12, 3) := by decide +kernel
theorem dX9_putPrices_73 : decode cX9_putPrices 73 = .ok (.invokevirtual 80, 3) := by decide +kernel
theorem dX9_putPrices_76 : decode cX9_putPrices 76 = .ok (.if_icmp .ge 67, 3) := by decide +kernel
theorem dX9_putPrices_79 : decode cX9_putPrices 79 = .ok (.aload_n 0, 1) := by decide +kernel
theorem dX9_putPrices_80 : decode cX9_putPrices 80 = .ok (.getfield 12, 3) := by decide +kernel
theorem dX9_putPrices_83 : decode cX9_putPrices 83 = .ok (.iload 4, 2) := by decide +kernel
theorem dX9_putPrices_85 : decode cX9_putPrices 85 = .ok (.invokevirtual 123, 3) := by decide +kernel
theorem dX9_putPrices_88 : decode cX9_putPrices 88 = .ok (.checkcast 84, 3) := by decide +kernel
theorem dX9_putPrices_91 : decode cX9_putPrices 91 = .ok (.astore 5, 2) := by decide +kernel
theorem dX9_putPrices_93 : decode cX9_putPrices 93 = .ok (.aload 5, 2) := by decide +kernel
theorem dX9_putPrices_95 : decode cX9_putPrices 95 = .ok (.invokevirtual 127, 3) := by decide +kernel
theorem dX9_putPrices_98 : decode cX9_putPrices 98 = .ok (.ifCond .eq 39, 3) := by decide +kernel
theorem dX9_putPrices_101 : decode cX9_putPrices 101 = .ok (.aload 5, 2) := by decide +kernel
theorem dX9_putPrices_103 : decode cX9_putPrices 103 = .ok (.iload_n 2, 1) := by decide +kernel
theorem dX9_putPrices_104 : decode cX9_putPrices 104 = .ok (.invokevirtual 179, 3) := by decide +kernel
theorem dX9_putPrices_107 : decode cX9_putPrices 107 = .ok (.ifCond .ne 30, 3) := by decide +kernel
theorem dX9_putPrices_110 : decode cX9_putPrices 110 = .ok (.iload_n 3, 1) := by decide +kernel
theorem dX9_putPrices_111 : decode cX9_putPrices 111 = .ok (.ifCond .eq 26, 3) := by decide +kernel
theorem dX9_putPrices_114 : decode cX9_putPrices 114 = .ok (.aload_n 1, 1) := by decide +kernel
theorem dX9_putPrices_115 : decode cX9_putPrices 115 = .ok (.iload 4, 2) := by decide +kernel
theorem dX9_putPrices_117 : decode cX9_putPrices 117 = .ok (.iload_n 3, 1) := by decide +kernel
theorem dX9_putPrices_118 : decode cX9_putPrices 118 = .ok (.aload 5, 2) := by decide +kernel
theorem dX9_putPrices_120 : decode cX9_putPrices 120 = .ok (.getfield 107, 3) := by decide +kernel
theorem dX9_putPrices_123 : decode cX9_putPrices 123 = .ok (.iushr, 1) := by decide +kernel
theorem dX9_putPrices_124 : decode cX9_putPrices 124 = .ok (.iconst 1, 1) := by decide +kernel
theorem dX9_putPrices_125 : decode cX9_putPrices 125 = .ok (.iand, 1) := by decide +kernel
theorem dX9_putPrices_126 : decode cX9_putPrices 126 = .ok (.ifCond .eq 7, 3) := by decide +kernel
theorem dX9_putPrices_129 : decode cX9_putPrices 129 = .ok (.iconst 1, 1) := by decide +kernel
theorem dX9_putPrices_130 : decode cX9_putPrices 130 = .ok (.goto 4, 3) := by decide +kernel
theorem dX9_putPrices_133 : decode cX9_putPrices 133 = .ok (.iconst 3, 1) := by decide +kernel
theorem dX9_putPrices_134 : decode cX9_putPrices 134 = .ok (.invokevirtual 399, 3) := by decide +kernel
theorem dX9_putPrices_137 : decode cX9_putPrices 137 = .ok (.iinc 4 1, 3) := by decide +kernel
theorem dX9_putPrices_140 : decode cX9_putPrices 140 = .ok (.goto (-73), 3) := by decide +kernel
theorem dX9_putPrices_143 : decode cX9_putPrices 143 = .ok (.return_, 1) := by decide +kernel
theorem dX9_book_0 : decode cX9_book 0 = .ok (.aload_n 0, 1) := by decide +kernel
theorem dX9_book_1 : decode cX9_book 1 = .ok (.iload_n 1, 1) := by decide +kernel
theorem dX9_book_2 : decode cX9_book 2 = .ok (.invokevirtual 195, 3) := by decide +kernel
theorem dX9_book_5 : decode cX9_book 5 = .ok (.astore_n 3, 1) := by decide +kernel
theorem dX9_book_6 : decode cX9_book 6 = .ok (.aload_n 3, 1) := by decide +kernel
theorem dX9_book_7 : decode cX9_book 7 = .ok (.ifnull 16, 3) := by decide +kernel
theorem dX9_book_10 : decode cX9_book 10 = .ok (.iload_n 2, 1) := by decide +kernel
theorem dX9_book_11 : decode cX9_book 11 = .ok (.iconst (-1), 1) := by decide +kernel
theorem dX9_book_12 : decode cX9_book 12 = .ok (.if_icmp .eq 13, 3) := by decide +kernel
theorem dX9_book_15 : decode cX9_book 15 = .ok (.aload_n 0, 1) := by decide +kernel
theorem dX9_book_16 : decode cX9_book 16 = .ok (.iload_n 2, 1) := by decide +kernel
theorem dX9_book_17 : decode cX9_book 17 = .ok (.invokevirtual 164, 3) := by decide +kernel
theorem dX9_book_20 : decode cX9_book 20 = .ok (.ifCond .ne 5, 3) := by decide +kernel
theorem dX9_book_23 : decode cX9_book 23 = .ok (.iconst 0, 1) := by decide +kernel
theorem dX9_book_24 : decode cX9_book 24 = .ok (.ireturn, 1) := by decide +kernel
theorem dX9_book_25 : decode cX9_book 25 = .ok (.aload_n 3, 1) := by decide +kernel
theorem dX9_book_26 : decode cX9_book 26 = .ok (.iload_n 2, 1) := by decide +kernel
theorem dX9_book_27 : decode cX9_book 27 = .ok (.putfield 299, 3) := by decide +kernel
theorem dX9_book_30 : decode cX9_book 30 = .ok (.iconst 1, 1) := by decide +kernel
theorem dX9_book_31 : decode cX9_book 31 = .ok (.ireturn, 1) := by decide +kernel
theorem dX9_wrong_0 : decode cX9_wrong 0 = .ok (.iconst 0, 1) := by decide +kernel
theorem dX9_wrong_1 : decode cX9_wrong 1 = .ok (.istore_n 1, 1) := by decide +kernel
theorem dX9_wrong_2 : decode cX9_wrong 2 = .ok (.iconst 0, 1) := by decide +kernel
theorem dX9_wrong_3 : decode cX9_wrong 3 = .ok (.istore_n 2, 1) := by decide +kernel
theorem dX9_wrong_4 : decode cX9_wrong 4 = .ok (.iload_n 2, 1) := by decide +kernel
theorem dX9_wrong_5 : decode cX9_wrong 5 = .ok (.aload_n 0, 1) := by decide +kernel
theorem dX9_wrong_6 : decode cX9_wrong 6 = .ok (.getfield 16, 3) := by decide +kernel
theorem dX9_wrong_9 : decode cX9_wrong 9 = .ok (.invokevirtual 80, 3) := by decide +kernel
theorem dX9_wrong_12 : decode cX9_wrong 12 = .ok (.if_icmp .ge 52, 3) := by decide +kernel
theorem dX9_wrong_15 : decode cX9_wrong 15 = .ok (.aload_n 0, 1) := by decide +kernel
theorem dX9_wrong_16 : decode cX9_wrong 16 = .ok (.getfield 16, 3) := by decide +kernel
theorem dX9_wrong_19 : decode cX9_wrong 19 = .ok (.iload_n 2, 1) := by decide +kernel
theorem dX9_wrong_20 : decode cX9_wrong 20 = .ok (.invokevirtual 123, 3) := by decide +kernel
theorem dX9_wrong_23 : decode cX9_wrong 23 = .ok (.checkcast 167, 3) := by decide +kernel
theorem dX9_wrong_26 : decode cX9_wrong 26 = .ok (.astore_n 3, 1) := by decide +kernel
theorem dX9_wrong_27 : decode cX9_wrong 27 = .ok (.aload_n 3, 1) := by decide +kernel
theorem dX9_wrong_28 : decode cX9_wrong 28 = .ok (.getfield 299, 3) := by decide +kernel
theorem dX9_wrong_31 : decode cX9_wrong 31 = .ok (.iconst (-1), 1) := by decide +kernel
theorem dX9_wrong_32 : decode cX9_wrong 32 = .ok (.if_icmp .eq 26, 3) := by decide +kernel
theorem dX9_wrong_35 : decode cX9_wrong 35 = .ok (.aload_n 3, 1) := by decide +kernel
theorem dX9_wrong_36 : decode cX9_wrong 36 = .ok (.getfield 299, 3) := by decide +kernel
theorem dX9_wrong_39 : decode cX9_wrong 39 = .ok (.aload_n 3, 1) := by decide +kernel
theorem dX9_wrong_40 : decode cX9_wrong 40 = .ok (.aload_n 0, 1) := by decide +kernel
theorem dX9_wrong_41 : decode cX9_wrong 41 = .ok (.getfield 37, 3) := by decide +kernel
theorem dX9_wrong_44 : decode cX9_wrong 44 = .ok (.iconst 1, 1) := by decide +kernel
theorem dX9_wrong_45 : decode cX9_wrong 45 = .ok (.isub, 1) := by decide +kernel
theorem dX9_wrong_46 : decode cX9_wrong 46 = .ok (.invokevirtual 289, 3) := by decide +kernel
theorem dX9_wrong_49 : decode cX9_wrong 49 = .ok (.if_icmp .eq 9, 3) := by decide +kernel
theorem dX9_wrong_52 : decode cX9_wrong 52 = .ok (.iload_n 1, 1) := by decide +kernel
theorem dX9_wrong_53 : decode cX9_wrong 53 = .ok (.iconst 1, 1) := by decide +kernel
theorem dX9_wrong_54 : decode cX9_wrong 54 = .ok (.iload_n 2, 1) := by decide +kernel
theorem dX9_wrong_55 : decode cX9_wrong 55 = .ok (.ishl, 1) := by decide +kernel
theorem dX9_wrong_56 : decode cX9_wrong 56 = .ok (.ior, 1) := by decide +kernel
theorem dX9_wrong_57 : decode cX9_wrong 57 = .ok (.istore_n 1, 1) := by decide +kernel
theorem dX9_wrong_58 : decode cX9_wrong 58 = .ok (.iinc 2 1, 3) := by decide +kernel
theorem dX9_wrong_61 : decode cX9_wrong 61 = .ok (.goto (-57), 3) := by decide +kernel
theorem dX9_wrong_64 : decode cX9_wrong 64 = .ok (.iload_n 1, 1) := by decide +kernel
theorem dX9_wrong_65 : decode cX9_wrong 65 = .ok (.ireturn, 1) := by decide +kernel
theorem dX9_countBooked_0 : decode cX9_countBooked 0 = .ok (.iconst 0, 1) := by decide +kernel
theorem dX9_countBooked_1 : decode cX9_countBooked 1 = .ok (.istore_n 1, 1) := by decide +kernel
theorem dX9_countBooked_2 : decode cX9_countBooked 2 = .ok (.iconst 0, 1) := by decide +kernel
theorem dX9_countBooked_3 : decode cX9_countBooked 3 = .ok (.istore_n 2, 1) := by decide +kernel
theorem dX9_countBooked_4 : decode cX9_countBooked 4 = .ok (.iload_n 2, 1) := by decide +kernel
theorem dX9_countBooked_5 : decode cX9_countBooked 5 = .ok (.aload_n 0, 1) := by decide +kernel
theorem dX9_countBooked_6 : decode cX9_countBooked 6 = .ok (.getfield 16, 3) := by decide +kernel
theorem dX9_countBooked_9 : decode cX9_countBooked 9 = .ok (.invokevirtual 80, 3) := by decide +kernel
theorem dX9_countBooked_12 : decode cX9_countBooked 12 = .ok (.if_icmp .ge 35, 3) := by decide +kernel
theorem dX9_countBooked_15 : decode cX9_countBooked 15 = .ok (.iload_n 1, 1) := by decide +kernel
theorem dX9_countBooked_16 : decode cX9_countBooked 16 = .ok (.aload_n 0, 1) := by decide +kernel
theorem dX9_countBooked_17 : decode cX9_countBooked 17 = .ok (.getfield 16, 3) := by decide +kernel
theorem dX9_countBooked_20 : decode cX9_countBooked 20 = .ok (.iload_n 2, 1) := by decide +kernel
theorem dX9_countBooked_21 : decode cX9_countBooked 21 = .ok (.invokevirtual 123, 3) := by decide +kernel
theorem dX9_countBooked_24 : decode cX9_countBooked 24 = .ok (.checkcast 167, 3) := by decide +kernel
theorem dX9_countBooked_27 : decode cX9_countBooked 27 = .ok (.getfield 299, 3) := by decide +kernel
theorem dX9_countBooked_30 : decode cX9_countBooked 30 = .ok (.iconst (-1), 1) := by decide +kernel
theorem dX9_countBooked_31 : decode cX9_countBooked 31 = .ok (.if_icmp .eq 7, 3) := by decide +kernel
theorem dX9_countBooked_34 : decode cX9_countBooked 34 = .ok (.iconst 1, 1) := by decide +kernel
theorem dX9_countBooked_35 : decode cX9_countBooked 35 = .ok (.goto 4, 3) := by decide +kernel
theorem dX9_countBooked_38 : decode cX9_countBooked 38 = .ok (.iconst 0, 1) := by decide +kernel
theorem dX9_countBooked_39 : decode cX9_countBooked 39 = .ok (.iadd, 1) := by decide +kernel
theorem dX9_countBooked_40 : decode cX9_countBooked 40 = .ok (.istore_n 1, 1) := by decide +kernel
theorem dX9_countBooked_41 : decode cX9_countBooked 41 = .ok (.iinc 2 1, 3) := by decide +kernel
theorem dX9_countBooked_44 : decode cX9_countBooked 44 = .ok (.goto (-40), 3) := by decide +kernel
theorem dX9_countBooked_47 : decode cX9_countBooked 47 = .ok (.iload_n 1, 1) := by decide +kernel
theorem dX9_countBooked_48 : decode cX9_countBooked 48 = .ok (.ireturn, 1) := by decide +kernel
theorem dX9_look_0 : decode cX9_look 0 = .ok (.iload_n 1, 1) := by decide +kernel
theorem dX9_look_1 : decode cX9_look 1 = .ok (.tableswitch 126 0 10 #[59, 64, 72, 77, 85, 90, 98, 106, 111, 116, 121], 59) := by decide +kernel
theorem dX9_look_60 : decode cX9_look 60 = .ok (.aload_n 0, 1) := by decide +kernel
theorem dX9_look_61 : decode cX9_look 61 = .ok (.getfield 37, 3) := by decide +kernel
theorem dX9_look_64 : decode cX9_look 64 = .ok (.ireturn, 1) := by decide +kernel
theorem dX9_look_65 : decode cX9_look 65 = .ok (.aload_n 0, 1) := by decide +kernel
theorem dX9_look_66 : decode cX9_look 66 = .ok (.getfield 12, 3) := by decide +kernel
theorem dX9_look_69 : decode cX9_look 69 = .ok (.invokevirtual 80, 3) := by decide +kernel
theorem dX9_look_72 : decode cX9_look 72 = .ok (.ireturn, 1) := by decide +kernel
theorem dX9_look_73 : decode cX9_look 73 = .ok (.aload_n 0, 1) := by decide +kernel
theorem dX9_look_74 : decode cX9_look 74 = .ok (.invokevirtual 402, 3) := by decide +kernel
theorem dX9_look_77 : decode cX9_look 77 = .ok (.ireturn, 1) := by decide +kernel
theorem dX9_look_78 : decode cX9_look 78 = .ok (.aload_n 0, 1) := by decide +kernel
theorem dX9_look_79 : decode cX9_look 79 = .ok (.getfield 16, 3) := by decide +kernel
theorem dX9_look_82 : decode cX9_look 82 = .ok (.invokevirtual 80, 3) := by decide +kernel
theorem dX9_look_85 : decode cX9_look 85 = .ok (.ireturn, 1) := by decide +kernel
theorem dX9_look_86 : decode cX9_look 86 = .ok (.aload_n 0, 1) := by decide +kernel
theorem dX9_look_87 : decode cX9_look 87 = .ok (.invokevirtual 405, 3) := by decide +kernel
theorem dX9_look_90 : decode cX9_look 90 = .ok (.ireturn, 1) := by decide +kernel
theorem dX9_look_91 : decode cX9_look 91 = .ok (.aload_n 0, 1) := by decide +kernel
theorem dX9_look_92 : decode cX9_look 92 = .ok (.getfield 19, 3) := by decide +kernel
theorem dX9_look_95 : decode cX9_look 95 = .ok (.invokevirtual 80, 3) := by decide +kernel
theorem dX9_look_98 : decode cX9_look 98 = .ok (.ireturn, 1) := by decide +kernel
theorem dX9_look_99 : decode cX9_look 99 = .ok (.aload_n 0, 1) := by decide +kernel
theorem dX9_look_100 : decode cX9_look 100 = .ok (.getfield 22, 3) := by decide +kernel
theorem dX9_look_103 : decode cX9_look 103 = .ok (.invokevirtual 80, 3) := by decide +kernel
theorem dX9_look_106 : decode cX9_look 106 = .ok (.ireturn, 1) := by decide +kernel
theorem dX9_look_107 : decode cX9_look 107 = .ok (.aload_n 0, 1) := by decide +kernel
theorem dX9_look_108 : decode cX9_look 108 = .ok (.getfield 40, 3) := by decide +kernel
theorem dX9_look_111 : decode cX9_look 111 = .ok (.ireturn, 1) := by decide +kernel
theorem dX9_look_112 : decode cX9_look 112 = .ok (.aload_n 0, 1) := by decide +kernel
theorem dX9_look_113 : decode cX9_look 113 = .ok (.getfield 43, 3) := by decide +kernel
theorem dX9_look_116 : decode cX9_look 116 = .ok (.ireturn, 1) := by decide +kernel
theorem dX9_look_117 : decode cX9_look 117 = .ok (.aload_n 0, 1) := by decide +kernel
theorem dX9_look_118 : decode cX9_look 118 = .ok (.invokevirtual 408, 3) := by decide +kernel
theorem dX9_look_121 : decode cX9_look 121 = .ok (.ireturn, 1) := by decide +kernel
theorem dX9_look_122 : decode cX9_look 122 = .ok (.aload_n 0, 1) := by decide +kernel
theorem dX9_look_123 : decode cX9_look 123 = .ok (.invokevirtual 411, 3) := by decide +kernel
theorem dX9_look_126 : decode cX9_look 126 = .ok (.ireturn, 1) := by decide +kernel
theorem dX9_look_127 : decode cX9_look 127 = .ok (.bipush (-2), 2) := by decide +kernel
theorem dX9_look_129 : decode cX9_look 129 = .ok (.ireturn, 1) := by decide +kernel
