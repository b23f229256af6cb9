theorem dX0_init_0 : decode cX0_init 0 = .ok (.aload_n 0, 1) := by decide +kernel
theorem dX0_init_1 : decode cX0_init 1 = .ok (.invokespecial 3, 3) := by decide +kernel
theorem dX0_init_4 : decode cX0_init 4 = .ok (.aload_n 0, 1) := by decide +kernel
theorem dX0_init_5 : decode cX0_init 5 = .ok (.iconst 0, 1) := by decide +kernel
theorem dX0_init_6 : decode cX0_init 6 = .ok (.putfield 9, 3) := by decide +kernel
theorem dX0_init_9 : decode cX0_init 9 = .ok (.aload_n 0, 1) := by decide +kernel
theorem dX0_init_10 : decode cX0_init 10 = .ok (.iconst (-1), 1) := by decide +kernel
theorem dX0_init_11 : decode cX0_init 11 = .ok (.putfield 15, 3) := by decide +kernel
theorem dX0_init_14 : decode cX0_init 14 = .ok (.aload_n 0, 1) := by decide +kernel
theorem dX0_init_15 : decode cX0_init 15 = .ok (.iconst 0, 1) := by decide +kernel
theorem dX0_init_16 : decode cX0_init 16 = .ok (.putfield 18, 3) := by decide +kernel
theorem dX0_init_19 : decode cX0_init 19 = .ok (.aload_n 0, 1) := by decide +kernel
theorem dX0_init_20 : decode cX0_init 20 = .ok (.iconst (-1), 1) := by decide +kernel
theorem dX0_init_21 : decode cX0_init 21 = .ok (.putfield 21, 3) := by decide +kernel
theorem dX0_init_24 : decode cX0_init 24 = .ok (.aload_n 0, 1) := by decide +kernel
theorem dX0_init_25 : decode cX0_init 25 = .ok (.sipush 200, 3) := by decide +kernel
theorem dX0_init_28 : decode cX0_init 28 = .ok (.newarray .byte, 2) := by decide +kernel
theorem dX0_init_30 : decode cX0_init 30 = .ok (.putfield 24, 3) := by decide +kernel
theorem dX0_init_33 : decode cX0_init 33 = .ok (.aload_n 0, 1) := by decide +kernel
theorem dX0_init_34 : decode cX0_init 34 = .ok (.iload_n 1, 1) := by decide +kernel
theorem dX0_init_35 : decode cX0_init 35 = .ok (.putfield 28, 3) := by decide +kernel
theorem dX0_init_38 : decode cX0_init 38 = .ok (.aload_n 0, 1) := by decide +kernel
theorem dX0_init_39 : decode cX0_init 39 = .ok (.iload_n 2, 1) := by decide +kernel
theorem dX0_init_40 : decode cX0_init 40 = .ok (.putfield 31, 3) := by decide +kernel
theorem dX0_init_43 : decode cX0_init 43 = .ok (.aload_n 0, 1) := by decide +kernel
theorem dX0_init_44 : decode cX0_init 44 = .ok (.getfield 24, 3) := by decide +kernel
theorem dX0_init_47 : decode cX0_init 47 = .ok (.bipush (-2), 2) := by decide +kernel
theorem dX0_init_49 : decode cX0_init 49 = .ok (.invokestatic 35, 3) := by decide +kernel
theorem dX0_init_52 : decode cX0_init 52 = .ok (.return_, 1) := by decide +kernel
theorem dX0_isDead_0 : decode cX0_isDead 0 = .ok (.aload_n 0, 1) := by decide +kernel
theorem dX0_isDead_1 : decode cX0_isDead 1 = .ok (.getfield 15, 3) := by decide +kernel
theorem dX0_isDead_4 : decode cX0_isDead 4 = .ok (.iconst (-1), 1) := by decide +kernel
theorem dX0_isDead_5 : decode cX0_isDead 5 = .ok (.if_icmp .eq 7, 3) := by decide +kernel
theorem dX0_isDead_8 : decode cX0_isDead 8 = .ok (.iconst 1, 1) := by decide +kernel
theorem dX0_isDead_9 : decode cX0_isDead 9 = .ok (.goto 4, 3) := by decide +kernel
theorem dX0_isDead_12 : decode cX0_isDead 12 = .ok (.iconst 0, 1) := by decide +kernel
theorem dX0_isDead_13 : decode cX0_isDead 13 = .ok (.ireturn, 1) := by decide +kernel
theorem dX0_fallSilent_0 : decode cX0_fallSilent 0 = .ok (.aload_n 0, 1) := by decide +kernel
theorem dX0_fallSilent_1 : decode cX0_fallSilent 1 = .ok (.iload_n 1, 1) := by decide +kernel
theorem dX0_fallSilent_2 : decode cX0_fallSilent 2 = .ok (.iconst (-1), 1) := by decide +kernel
theorem dX0_fallSilent_3 : decode cX0_fallSilent 3 = .ok (.invokevirtual 41, 3) := by decide +kernel
theorem dX0_fallSilent_6 : decode cX0_fallSilent 6 = .ok (.aload_n 0, 1) := by decide +kernel
theorem dX0_fallSilent_7 : decode cX0_fallSilent 7 = .ok (.dup, 1) := by decide +kernel
theorem dX0_fallSilent_8 : decode cX0_fallSilent 8 = .ok (.getfield 9, 3) := by decide +kernel
theorem dX0_fallSilent_11 : decode cX0_fallSilent 11 = .ok (.iconst 1, 1) := by decide +kernel
theorem dX0_fallSilent_12 : decode cX0_fallSilent 12 = .ok (.iadd, 1) := by decide +kernel
theorem dX0_fallSilent_13 : decode cX0_fallSilent 13 = .ok (.putfield 9, 3) := by decide +kernel
theorem dX0_fallSilent_16 : decode cX0_fallSilent 16 = .ok (.aload_n 0, 1) := by decide +kernel
theorem dX0_fallSilent_17 : decode cX0_fallSilent 17 = .ok (.getfield 9, 3) := by decide +kernel
theorem dX0_fallSilent_20 : decode cX0_fallSilent 20 = .ok (.iconst 3, 1) := by decide +kernel
theorem dX0_fallSilent_21 : decode cX0_fallSilent 21 = .ok (.if_icmp .lt 8, 3) := by decide +kernel
theorem dX0_fallSilent_24 : decode cX0_fallSilent 24 = .ok (.aload_n 0, 1) := by decide +kernel
theorem dX0_fallSilent_25 : decode cX0_fallSilent 25 = .ok (.iload_n 1, 1) := by decide +kernel
theorem dX0_fallSilent_26 : decode cX0_fallSilent 26 = .ok (.putfield 15, 3) := by decide +kernel
theorem dX0_fallSilent_29 : decode cX0_fallSilent 29 = .ok (.return_, 1) := by decide +kernel
theorem dX0_sayAloud_0 : decode cX0_sayAloud 0 = .ok (.aload_n 0, 1) := by decide +kernel
theorem dX0_sayAloud_1 : decode cX0_sayAloud 1 = .ok (.iload_n 1, 1) := by decide +kernel
theorem dX0_sayAloud_2 : decode cX0_sayAloud 2 = .ok (.iload_n 2, 1) := by decide +kernel
theorem dX0_sayAloud_3 : decode cX0_sayAloud 3 = .ok (.invokevirtual 41, 3) := by decide +kernel
theorem dX0_sayAloud_6 : decode cX0_sayAloud 6 = .ok (.aload_n 0, 1) := by decide +kernel
theorem dX0_sayAloud_7 : decode cX0_sayAloud 7 = .ok (.iconst 0, 1) := by decide +kernel
theorem dX0_sayAloud_8 : decode cX0_sayAloud 8 = .ok (.putfield 9, 3) := by decide +kernel
theorem dX0_sayAloud_11 : decode cX0_sayAloud 11 = .ok (.aload_n 0, 1) := by decide +kernel
theorem dX0_sayAloud_12 : decode cX0_sayAloud 12 = .ok (.dup, 1) := by decide +kernel
theorem dX0_sayAloud_13 : decode cX0_sayAloud 13 = .ok (.getfield 18, 3) := by decide +kernel
theorem dX0_sayAloud_16 : decode cX0_sayAloud 16 = .ok (.iconst 1, 1) := by decide +kernel
theorem dX0_sayAloud_17 : decode cX0_sayAloud 17 = .ok (.iadd, 1) := by decide +kernel
theorem dX0_sayAloud_18 : decode cX0_sayAloud 18 = .ok (.putfield 18, 3) := by decide +kernel
theorem dX0_sayAloud_21 : decode cX0_sayAloud 21 = .ok (.return_, 1) := by decide +kernel
theorem dX0_setVoice_0 : decode cX0_setVoice 0 = .ok (.iload_n 1, 1) := by decide +kernel
theorem dX0_setVoice_1 : decode cX0_setVoice 1 = .ok (.ifCond .lt 20, 3) := by decide +kernel
theorem dX0_setVoice_4 : decode cX0_setVoice 4 = .ok (.iload_n 1, 1) := by decide +kernel
theorem dX0_setVoice_5 : decode cX0_setVoice 5 = .ok (.aload_n 0, 1) := by decide +kernel
theorem dX0_setVoice_6 : decode cX0_setVoice 6 = .ok (.getfield 24, 3) := by decide +kernel
theorem dX0_setVoice_9 : decode cX0_setVoice 9 = .ok (.arraylength, 1) := by decide +kernel
theorem dX0_setVoice_10 : decode cX0_setVoice 10 = .ok (.if_icmp .ge 11, 3) := by decide +kernel
theorem dX0_setVoice_13 : decode cX0_setVoice 13 = .ok (.aload_n 0, 1) := by decide +kernel
theorem dX0_setVoice_14 : decode cX0_setVoice 14 = .ok (.getfield 24, 3) := by decide +kernel
theorem dX0_setVoice_17 : decode cX0_setVoice 17 = .ok (.iload_n 1, 1) := by decide +kernel
theorem dX0_setVoice_18 : decode cX0_setVoice 18 = .ok (.iload_n 2, 1) := by decide +kernel
theorem dX0_setVoice_19 : decode cX0_setVoice 19 = .ok (.i2b, 1) := by decide +kernel
theorem dX0_setVoice_20 : decode cX0_setVoice 20 = .ok (.bastore, 1) := by decide +kernel
theorem dX0_setVoice_21 : decode cX0_setVoice 21 = .ok (.return_, 1) := by decide +kernel
theorem dX0_voiceIn_0 : decode cX0_voiceIn 0 = .ok (.iload_n 1, 1) := by decide +kernel
theorem dX0_voiceIn_1 : decode cX0_voiceIn 1 = .ok (.ifCond .lt 21, 3) := by decide +kernel
theorem dX0_voiceIn_4 : decode cX0_voiceIn 4 = .ok (.iload_n 1, 1) := by decide +kernel
theorem dX0_voiceIn_5 : decode cX0_voiceIn 5 = .ok (.aload_n 0, 1) := by decide +kernel
theorem dX0_voiceIn_6 : decode cX0_voiceIn 6 = .ok (.getfield 24, 3) := by decide +kernel
theorem dX0_voiceIn_9 : decode cX0_voiceIn 9 = .ok (.arraylength, 1) := by decide +kernel
theorem dX0_voiceIn_10 : decode cX0_voiceIn 10 = .ok (.if_icmp .ge 12, 3) := by decide +kernel
theorem dX0_voiceIn_13 : decode cX0_voiceIn 13 = .ok (.aload_n 0, 1) := by decide +kernel
theorem dX0_voiceIn_14 : decode cX0_voiceIn 14 = .ok (.getfield 24, 3) := by decide +kernel
theorem dX0_voiceIn_17 : decode cX0_voiceIn 17 = .ok (.iload_n 1, 1) := by decide +kernel
theorem dX0_voiceIn_18 : decode cX0_voiceIn 18 = .ok (.baload, 1) := by decide +kernel
theorem dX0_voiceIn_19 : decode cX0_voiceIn 19 = .ok (.goto 5, 3) := by decide +kernel
theorem dX0_voiceIn_22 : decode cX0_voiceIn 22 = .ok (.bipush (-2), 2) := by decide +kernel
theorem dX0_voiceIn_24 : decode cX0_voiceIn 24 = .ok (.ireturn, 1) := by decide +kernel
theorem dX0_lawAt_0 : decode cX0_lawAt 0 = .ok (.aload_n 0, 1) := by decide +kernel
theorem dX0_lawAt_1 : decode cX0_lawAt 1 = .ok (.invokevirtual 45, 3) := by decide +kernel
theorem dX0_lawAt_4 : decode cX0_lawAt 4 = .ok (.ifCond .eq 13, 3) := by decide +kernel
theorem dX0_lawAt_7 : decode cX0_lawAt 7 = .ok (.aload_n 0, 1) := by decide +kernel
theorem dX0_lawAt_8 : decode cX0_lawAt 8 = .ok (.getfield 15, 3) := by decide +kernel
theorem dX0_lawAt_11 : decode cX0_lawAt 11 = .ok (.iload_n 1, 1) := by decide +kernel
theorem dX0_lawAt_12 : decode cX0_lawAt 12 = .ok (.if_icmp .gt 5, 3) := by decide +kernel
theorem dX0_lawAt_15 : decode cX0_lawAt 15 = .ok (.iconst (-1), 1) := by decide +kernel
theorem dX0_lawAt_16 : decode cX0_lawAt 16 = .ok (.ireturn, 1) := by decide +kernel
theorem dX0_lawAt_17 : decode cX0_lawAt 17 = .ok (.iload_n 1, 1) := by decide +kernel
theorem dX0_lawAt_18 : decode cX0_lawAt 18 = .ok (.aload_n 0, 1) := by decide +kernel
theorem dX0_lawAt_19 : decode cX0_lawAt 19 = .ok (.getfield 24, 3) := by decide +kernel
theorem dX0_lawAt_22 : decode cX0_lawAt 22 = .ok (.arraylength, 1) := by decide +kernel
theorem dX0_lawAt_23 : decode cX0_lawAt 23 = .ok (.iconst 1, 1) := by decide +kernel
theorem dX0_lawAt_24 : decode cX0_lawAt 24 = .ok (.isub, 1) := by decide +kernel
theorem dX0_lawAt_25 : decode cX0_lawAt 25 = .ok (.invokestatic 49, 3) := by decide +kernel
theorem dX0_lawAt_28 : decode cX0_lawAt 28 = .ok (.istore_n 2, 1) := by decide +kernel
theorem dX0_lawAt_29 : decode cX0_lawAt 29 = .ok (.iload_n 2, 1) := by decide +kernel
theorem dX0_lawAt_30 : decode cX0_lawAt 30 = .ok (.ifCond .lt 25, 3) := by decide +kernel
theorem dX0_lawAt_33 : decode cX0_lawAt 33 = .ok (.aload_n 0, 1) := by decide +kernel
theorem dX0_lawAt_34 : decode cX0_lawAt 34 = .ok (.getfield 24, 3) := by decide +kernel
theorem dX0_lawAt_37 : decode cX0_lawAt 37 = .ok (.iload_n 2, 1) := by decide +kernel
theorem dX0_lawAt_38 : decode cX0_lawAt 38 = .ok (.baload, 1) := by decide +kernel
theorem dX0_lawAt_39 : decode cX0_lawAt 39 = .ok (.ifCond .lt 10, 3) := by decide +kernel
theorem dX0_lawAt_42 : decode cX0_lawAt 42 = .ok (.aload_n 0, 1) := by decide +kernel
theorem dX0_lawAt_43 : decode cX0_lawAt 43 = .ok (.getfield 24, 3) := by decide +kernel
theorem dX0_lawAt_46 : decode cX0_lawAt 46 = .ok (.iload_n 2, 1) := by decide +kernel
theorem dX0_lawAt_47 : decode cX0_lawAt 47 = .ok (.baload, 1) := by decide +kernel
theorem dX0_lawAt_48 : decode cX0_lawAt 48 = .ok (.ireturn, 1) := by decide +kernel
theorem dX0_lawAt_49 : decode cX0_lawAt 49 = .ok (.iinc 2 (-1), 3) := by decide +kernel
theorem dX0_lawAt_52 : decode cX0_lawAt 52 = .ok (.goto (-23), 3) := by decide +kernel
theorem dX0_lawAt_55 : decode cX0_lawAt 55 = .ok (.iconst (-1), 1) := by decide +kernel
theorem dX0_lawAt_56 : decode cX0_lawAt 56 = .ok (.ireturn, 1) := by decide +kernel
theorem dX1_init_0 : decode cX1_init 0 = .ok (.aload_n 0, 1) := by decide +kernel
theorem dX1_init_1 : decode cX1_init 1 = .ok (.invokespecial 3, 3) := by decide +kernel
theorem dX1_init_4 : decode cX1_init 4 = .ok (.aload_n 0, 1) := by decide +kernel
theorem dX1_init_5 : decode cX1_init 5 = .ok (.iconst (-1), 1) := by decide +kernel
theorem dX1_init_6 : decode cX1_init 6 = .ok (.putfield 9, 3) := by decide +kernel
theorem dX1_init_9 : decode cX1_init 9 = .ok (.aload_n 0, 1) := by decide +kernel
theorem dX1_init_10 : decode cX1_init 10 = .ok (.iconst 0, 1) := by decide +kernel
theorem dX1_init_11 : decode cX1_init 11 = .ok (.putfield 15, 3) := by decide +kernel
theorem dX1_init_14 : decode cX1_init 14 = .ok (.aload_n 0, 1) := by decide +kernel
theorem dX1_init_15 : decode cX1_init 15 = .ok (.iconst (-1), 1) := by decide +kernel
theorem dX1_init_16 : decode cX1_init 16 = .ok (.putfield 19, 3) := by decide +kernel
theorem dX1_init_19 : decode cX1_init 19 = .ok (.aload_n 0, 1) := by decide +kernel
theorem dX1_init_20 : decode cX1_init 20 = .ok (.bipush 24, 2) := by decide +kernel
theorem dX1_init_22 : decode cX1_init 22 = .ok (.newarray .int, 2) := by decide +kernel
theorem dX1_init_24 : decode cX1_init 24 = .ok (.putfield 22, 3) := by decide +kernel
theorem dX1_init_27 : decode cX1_init 27 = .ok (.aload_n 0, 1) := by decide +kernel
theorem dX1_init_28 : decode cX1_init 28 = .ok (.bipush 24, 2) := by decide +kernel
theorem dX1_init_30 : decode cX1_init 30 = .ok (.newarray .int, 2) := by decide +kernel
theorem dX1_init_32 : decode cX1_init 32 = .ok (.putfield 26, 3) := by decide +kernel
theorem dX1_init_35 : decode cX1_init 35 = .ok (.aload_n 0, 1) := by decide +kernel
theorem dX1_init_36 : decode cX1_init 36 = .ok (.bipush 24, 2) := by decide +kernel
theorem dX1_init_38 : decode cX1_init 38 = .ok (.newarray .int, 2) := by decide +kernel
theorem dX1_init_40 : decode cX1_init 40 = .ok (.putfield 29, 3) := by decide +kernel
theorem dX1_init_43 : decode cX1_init 43 = .ok (.aload_n 0, 1) := by decide +kernel
theorem dX1_init_44 : decode cX1_init 44 = .ok (.iload_n 1, 1) := by decide +kernel
theorem dX1_init_45 : decode cX1_init 45 = .ok (.putfield 32, 3) := by decide +kernel
theorem dX1_init_48 : decode cX1_init 48 = .ok (.aload_n 0, 1) := by decide +kernel
theorem dX1_init_49 : decode cX1_init 49 = .ok (.iload_n 2, 1) := by decide +kernel
theorem dX1_init_50 : decode cX1_init 50 = .ok (.putfield 35, 3) := by decide +kernel
theorem dX1_init_53 : decode cX1_init 53 = .ok (.aload_n 0, 1) := by decide +kernel
theorem dX1_init_54 : decode cX1_init 54 = .ok (.iload_n 3, 1) := by decide +kernel
theorem dX1_init_55 : decode cX1_init 55 = .ok (.putfield 38, 3) := by decide +kernel
theorem dX1_init_58 : decode cX1_init 58 = .ok (.aload_n 0, 1) := by decide +kernel
theorem dX1_init_59 : decode cX1_init 59 = .ok (.getfield 22, 3) := by decide +kernel
theorem dX1_init_62 : decode cX1_init 62 = .ok (.iconst (-1), 1) := by decide +kernel
theorem dX1_init_63 : decode cX1_init 63 = .ok (.invokestatic 41, 3) := by decide +kernel
theorem dX1_init_66 : decode cX1_init 66 = .ok (.aload_n 0, 1) := by decide +kernel
theorem dX1_init_67 : decode cX1_init 67 = .ok (.getfield 29, 3) := by decide +kernel
theorem dX1_init_70 : decode cX1_init 70 = .ok (.iconst (-1), 1) := by decide +kernel
theorem dX1_init_71 : decode cX1_init 71 = .ok (.invokestatic 41, 3) := by decide +kernel
theorem dX1_init_74 : decode cX1_init 74 = .ok (.return_, 1) := by decide +kernel
theorem dX1_lives_0 : decode cX1_lives 0 = .ok (.aload_n 0, 1) := by decide +kernel
theorem dX1_lives_1 : decode cX1_lives 1 = .ok (.getfield 9, 3) := by decide +kernel
theorem dX1_lives_4 : decode cX1_lives 4 = .ok (.iconst (-1), 1) := by decide +kernel
theorem dX1_lives_5 : decode cX1_lives 5 = .ok (.if_icmp .ne 7, 3) := by decide +kernel
theorem dX1_lives_8 : decode cX1_lives 8 = .ok (.iconst 1, 1) := by decide +kernel
theorem dX1_lives_9 : decode cX1_lives 9 = .ok (.goto 4, 3) := by decide +kernel
theorem dX1_lives_12 : decode cX1_lives 12 = .ok (.iconst 0, 1) := by decide +kernel
theorem dX1_lives_13 : decode cX1_lives 13 = .ok (.ireturn, 1) := by decide +kernel
theorem dX1_knows_0 : decode cX1_knows 0 = .ok (.aload_n 0, 1) := by decide +kernel
theorem dX1_knows_1 : decode cX1_knows 1 = .ok (.iload_n 1, 1) := by decide +kernel
theorem dX1_knows_2 : decode cX1_knows 2 = .ok (.invokevirtual 47, 3) := by decide +kernel
theorem dX1_knows_5 : decode cX1_knows 5 = .ok (.ifCond .le 7, 3) := by decide +kernel
theorem dX1_knows_8 : decode cX1_knows 8 = .ok (.iconst 1, 1) := by decide +kernel
theorem dX1_knows_9 : decode cX1_knows 9 = .ok (.goto 4, 3) := by decide +kernel
theorem dX1_knows_12 : decode cX1_knows 12 = .ok (.iconst 0, 1) := by decide +kernel
theorem dX1_knows_13 : decode cX1_knows 13 = .ok (.ireturn, 1) := by decide +kernel
theorem dX1_strengthOf_0 : decode cX1_strengthOf 0 = .ok (.iload_n 1, 1) := by decide +kernel
theorem dX1_strengthOf_1 : decode cX1_strengthOf 1 = .ok (.ifCond .lt 21, 3) := by decide +kernel
theorem dX1_strengthOf_4 : decode cX1_strengthOf 4 = .ok (.iload_n 1, 1) := by decide +kernel
theorem dX1_strengthOf_5 : decode cX1_strengthOf 5 = .ok (.aload_n 0, 1) := by decide +kernel
theorem dX1_strengthOf_6 : decode cX1_strengthOf 6 = .ok (.getfield 26, 3) := by decide +kernel
theorem dX1_strengthOf_9 : decode cX1_strengthOf 9 = .ok (.arraylength, 1) := by decide +kernel
theorem dX1_strengthOf_10 : decode cX1_strengthOf 10 = .ok (.if_icmp .ge 12, 3) := by decide +kernel
theorem dX1_strengthOf_13 : decode cX1_strengthOf 13 = .ok (.aload_n 0, 1) := by decide +kernel
theorem dX1_strengthOf_14 : decode cX1_strengthOf 14 = .ok (.getfield 26, 3) := by decide +kernel
theorem dX1_strengthOf_17 : decode cX1_strengthOf 17 = .ok (.iload_n 1, 1) := by decide +kernel
theorem dX1_strengthOf_18 : decode cX1_strengthOf 18 = .ok (.iaload, 1) := by decide +kernel
theorem dX1_strengthOf_19 : decode cX1_strengthOf 19 = .ok (.goto 4, 3) := by decide +kernel
theorem dX1_strengthOf_22 : decode cX1_strengthOf 22 = .ok (.iconst 0, 1) := by decide +kernel
theorem dX1_strengthOf_23 : decode cX1_strengthOf 23 = .ok (.ireturn, 1) := by decide +kernel
theorem dX1_wordingOf_0 : decode cX1_wordingOf 0 = .ok (.iload_n 1, 1) := by decide +kernel
theorem dX1_wordingOf_1 : decode cX1_wordingOf 1 = .ok (.ifCond .lt 21, 3) := by decide +kernel
theorem dX1_wordingOf_4 : decode cX1_wordingOf 4 = .ok (.iload_n 1, 1) := by decide +kernel
theorem dX1_wordingOf_5 : decode cX1_wordingOf 5 = .ok (.aload_n 0, 1) := by decide +kernel
theorem dX1_wordingOf_6 : decode cX1_wordingOf 6 = .ok (.getfield 22, 3) := by decide +kernel
theorem dX1_wordingOf_9 : decode cX1_wordingOf 9 = .ok (.arraylength, 1) := by decide +kernel
theorem dX1_wordingOf_10 : decode cX1_wordingOf 10 = .ok (.if_icmp .ge 12, 3) := by decide +kernel
theorem dX1_wordingOf_13 : decode cX1_wordingOf 13 = .ok (.aload_n 0, 1) := by decide +kernel
theorem dX1_wordingOf_14 : decode cX1_wordingOf 14 = .ok (.getfield 22, 3) := by decide +kernel
theorem dX1_wordingOf_17 : decode cX1_wordingOf 17 = .ok (.iload_n 1, 1) := by decide +kernel
theorem dX1_wordingOf_18 : decode cX1_wordingOf 18 = .ok (.iaload, 1) := by decide +kernel
theorem dX1_wordingOf_19 : decode cX1_wordingOf 19 = .ok (.goto 4, 3) := by decide +kernel
theorem dX1_wordingOf_22 : decode cX1_wordingOf 22 = .ok (.iconst (-1), 1) := by decide +kernel
theorem dX1_wordingOf_23 : decode cX1_wordingOf 23 = .ok (.ireturn, 1) := by decide +kernel
theorem dX1_sourceOf_0 : decode cX1_sourceOf 0 = .ok (.iload_n 1, 1) := by decide +kernel
theorem dX1_sourceOf_1 : decode cX1_sourceOf 1 = .ok (.ifCond .lt 21, 3) := by decide +kernel
theorem dX1_sourceOf_4 : decode cX1_sourceOf 4 = .ok (.iload_n 1, 1) := by decide +kernel
theorem dX1_sourceOf_5 : decode cX1_sourceOf 5 = .ok (.aload_n 0, 1) := by decide +kernel
theorem dX1_sourceOf_6 : decode cX1_sourceOf 6 = .ok (.getfield 29, 3) := by decide +kernel
theorem dX1_sourceOf_9 : decode cX1_sourceOf 9 = .ok (.arraylength, 1) := by decide +kernel
theorem dX1_sourceOf_10 : decode cX1_sourceOf 10 = .ok (.if_icmp .ge 12, 3) := by decide +kernel
theorem dX1_sourceOf_13 : decode cX1_sourceOf 13 = .ok (.aload_n 0, 1) := by decide +kernel
theorem dX1_sourceOf_14 : decode cX1_sourceOf 14 = .ok (.getfield 29, 3) := by decide +kernel
theorem dX1_sourceOf_17 : decode cX1_sourceOf 17 = .ok (.iload_n 1, 1) := by decide +kernel
theorem dX1_sourceOf_18 : decode cX1_sourceOf 18 = .ok (.iaload, 1) := by decide +kernel
theorem dX1_sourceOf_19 : decode cX1_sourceOf 19 = .ok (.goto 4, 3) := by decide +kernel
theorem dX1_sourceOf_22 : decode cX1_sourceOf 22 = .ok (.iconst (-1), 1) := by decide +kernel
theorem dX1_sourceOf_23 : decode cX1_sourceOf 23 = .ok (.ireturn, 1) := by decide +kernel
theorem dX1_countLines_0 : decode cX1_countLines 0 = .ok (.iconst 0, 1) := by decide +kernel
theorem dX1_countLines_1 : decode cX1_countLines 1 = .ok (.istore_n 1, 1) := by decide +kernel
theorem dX1_countLines_2 : decode cX1_countLines 2 = .ok (.iconst 0, 1) := by decide +kernel
theorem dX1_countLines_3 : decode cX1_countLines 3 = .ok (.istore_n 2, 1) := by decide +kernel
theorem dX1_countLines_4 : decode cX1_countLines 4 = .ok (.iload_n 2, 1) := by decide +kernel
theorem dX1_countLines_5 : decode cX1_countLines 5 = .ok (.aload_n 0, 1) := by decide +kernel
theorem dX1_countLines_6 : decode cX1_countLines 6 = .ok (.getfield 26, 3) := by decide +kernel
theorem dX1_countLines_9 : decode cX1_countLines 9 = .ok (.arraylength, 1) := by decide +kernel
theorem dX1_countLines_10 : decode cX1_countLines 10 = .ok (.if_icmp .ge 26, 3) := by decide +kernel
theorem dX1_countLines_13 : decode cX1_countLines 13 = .ok (.iload_n 1, 1) := by decide +kernel
theorem dX1_countLines_14 : decode cX1_countLines 14 = .ok (.aload_n 0, 1) := by decide +kernel
theorem dX1_countLines_15 : decode cX1_countLines 15 = .ok (.getfield 26, 3) := by decide +kernel
theorem dX1_countLines_18 : decode cX1_countLines 18 = .ok (.iload_n 2, 1) := by decide +kernel
theorem dX1_countLines_19 : decode cX1_countLines 19 = .ok (.iaload, 1) := by decide +kernel
theorem dX1_countLines_20 : decode cX1_countLines 20 = .ok (.ifCond .le 7, 3) := by decide +kernel
theorem dX1_countLines_23 : decode cX1_countLines 23 = .ok (.iconst 1, 1) := by decide +kernel
theorem dX1_countLines_24 : decode cX1_countLines 24 = .ok (.goto 4, 3) := by decide +kernel
theorem dX1_countLines_27 : decode cX1_countLines 27 = .ok (.iconst 0, 1) := by decide +kernel
theorem dX1_countLines_28 : decode cX1_countLines 28 = .ok (.iadd, 1) := by decide +kernel
theorem dX1_countLines_29 : decode cX1_countLines 29 = .ok (.istore_n 1, 1) := by decide +kernel
theorem dX1_countLines_30 : decode cX1_countLines 30 = .ok (.iinc 2 1, 3) := by decide +kernel
theorem dX1_countLines_33 : decode cX1_countLines 33 = .ok (.goto (-29), 3) := by decide +kernel
theorem dX1_countLines_36 : decode cX1_countLines 36 = .ok (.iload_n 1, 1) := by decide +kernel
theorem dX1_countLines_37 : decode cX1_countLines 37 = .ok (.ireturn, 1) := by decide +kernel
theorem dX1_learn_0 : decode cX1_learn 0 = .ok (.iload_n 1, 1) := by decide +kernel
theorem dX1_learn_1 : decode cX1_learn 1 = .ok (.ifCond .lt 52, 3) := by decide +kernel
theorem dX1_learn_4 : decode cX1_learn 4 = .ok (.iload_n 1, 1) := by decide +kernel
theorem dX1_learn_5 : decode cX1_learn 5 = .ok (.aload_n 0, 1) := by decide +kernel
theorem dX1_learn_6 : decode cX1_learn 6 = .ok (.getfield 22, 3) := by decide +kernel
theorem dX1_learn_9 : decode cX1_learn 9 = .ok (.arraylength, 1) := by decide +kernel
theorem dX1_learn_10 : decode cX1_learn 10 = .ok (.if_icmp .ge 43, 3) := by decide +kernel
theorem dX1_learn_13 : decode cX1_learn 13 = .ok (.iload_n 1, 1) := by decide +kernel
theorem dX1_learn_14 : decode cX1_learn 14 = .ok (.aload_n 0, 1) := by decide +kernel
theorem dX1_learn_15 : decode cX1_learn 15 = .ok (.getfield 26, 3) := by decide +kernel
theorem dX1_learn_18 : decode cX1_learn 18 = .ok (.arraylength, 1) := by decide +kernel
theorem dX1_learn_19 : decode cX1_learn 19 = .ok (.if_icmp .ge 34, 3) := by decide +kernel
theorem dX1_learn_22 : decode cX1_learn 22 = .ok (.iload_n 1, 1) := by decide +kernel
theorem dX1_learn_23 : decode cX1_learn 23 = .ok (.aload_n 0, 1) := by decide +kernel
theorem dX1_learn_24 : decode cX1_learn 24 = .ok (.getfield 29, 3) := by decide +kernel
theorem dX1_learn_27 : decode cX1_learn 27 = .ok (.arraylength, 1) := by decide +kernel
theorem dX1_learn_28 : decode cX1_learn 28 = .ok (.if_icmp .ge 25, 3) := by decide +kernel
theorem dX1_learn_31 : decode cX1_learn 31 = .ok (.aload_n 0, 1) := by decide +kernel
theorem dX1_learn_32 : decode cX1_learn 32 = .ok (.getfield 22, 3) := by decide +kernel
theorem dX1_learn_35 : decode cX1_learn 35 = .ok (.iload_n 1, 1) := by decide +kernel
theorem dX1_learn_36 : decode cX1_learn 36 = .ok (.iload_n 2, 1) := by decide +kernel
theorem dX1_learn_37 : decode cX1_learn 37 = .ok (.iastore, 1) := by decide +kernel
theorem dX1_learn_38 : decode cX1_learn 38 = .ok (.aload_n 0, 1) := by decide +kernel
theorem dX1_learn_39 : decode cX1_learn 39 = .ok (.getfield 26, 3) := by decide +kernel
theorem dX1_learn_42 : decode cX1_learn 42 = .ok (.iload_n 1, 1) := by decide +kernel
theorem dX1_learn_43 : decode cX1_learn 43 = .ok (.iload_n 3, 1) := by decide +kernel
theorem dX1_learn_44 : decode cX1_learn 44 = .ok (.iastore, 1) := by decide +kernel
theorem dX1_learn_45 : decode cX1_learn 45 = .ok (.aload_n 0, 1) := by decide +kernel
theorem dX1_learn_46 : decode cX1_learn 46 = .ok (.getfield 29, 3) := by decide +kernel
theorem dX1_learn_49 : decode cX1_learn 49 = .ok (.iload_n 1, 1) := by decide +kernel
theorem dX1_learn_50 : decode cX1_learn 50 = .ok (.iload 4, 2) := by decide +kernel
theorem dX1_learn_52 : decode cX1_learn 52 = .ok (.iastore, 1) := by decide +kernel
theorem dX1_learn_53 : decode cX1_learn 53 = .ok (.return_, 1) := by decide +kernel
theorem dX1_strengthen_0 : decode cX1_strengthen 0 = .ok (.iload_n 1, 1) := by decide +kernel
theorem dX1_strengthen_1 : decode cX1_strengthen 1 = .ok (.ifCond .lt 31, 3) := by decide +kernel
theorem dX1_strengthen_4 : decode cX1_strengthen 4 = .ok (.iload_n 1, 1) := by decide +kernel
theorem dX1_strengthen_5 : decode cX1_strengthen 5 = .ok (.aload_n 0, 1) := by decide +kernel
theorem dX1_strengthen_6 : decode cX1_strengthen 6 = .ok (.getfield 26, 3) := by decide +kernel
theorem dX1_strengthen_9 : decode cX1_strengthen 9 = .ok (.arraylength, 1) := by decide +kernel
theorem dX1_strengthen_10 : decode cX1_strengthen 10 = .ok (.if_icmp .ge 22, 3) := by decide +kernel
theorem dX1_strengthen_13 : decode cX1_strengthen 13 = .ok (.aload_n 0, 1) := by decide +kernel
theorem dX1_strengthen_14 : decode cX1_strengthen 14 = .ok (.getfield 26, 3) := by decide +kernel
theorem dX1_strengthen_17 : decode cX1_strengthen 17 = .ok (.iload_n 1, 1) := by decide +kernel
theorem dX1_strengthen_18 : decode cX1_strengthen 18 = .ok (.bipush 9, 2) := by decide +kernel
theorem dX1_strengthen_20 : decode cX1_strengthen 20 = .ok (.aload_n 0, 1) := by decide +kernel
theorem dX1_strengthen_21 : decode cX1_strengthen 21 = .ok (.getfield 26, 3) := by decide +kernel
theorem dX1_strengthen_24 : decode cX1_strengthen 24 = .ok (.iload_n 1, 1) := by decide +kernel
theorem dX1_strengthen_25 : decode cX1_strengthen 25 = .ok (.iaload, 1) := by decide +kernel
theorem dX1_strengthen_26 : decode cX1_strengthen 26 = .ok (.iconst 3, 1) := by decide +kernel
theorem dX1_strengthen_27 : decode cX1_strengthen 27 = .ok (.iadd, 1) := by decide +kernel
theorem dX1_strengthen_28 : decode cX1_strengthen 28 = .ok (.invokestatic 51, 3) := by decide +kernel
theorem dX1_strengthen_31 : decode cX1_strengthen 31 = .ok (.iastore, 1) := by decide +kernel
theorem dX1_strengthen_32 : decode cX1_strengthen 32 = .ok (.return_, 1) := by decide +kernel
theorem dX1_weaken_0 : decode cX1_weaken 0 = .ok (.aload_n 0, 1) := by decide +kernel
theorem dX1_weaken_1 : decode cX1_weaken 1 = .ok (.iload_n 1, 1) := by decide +kernel
theorem dX1_weaken_2 : decode cX1_weaken 2 = .ok (.invokevirtual 47, 3) := by decide +kernel
theorem dX1_weaken_5 : decode cX1_weaken 5 = .ok (.iconst 1, 1) := by decide +kernel
theorem dX1_weaken_6 : decode cX1_weaken 6 = .ok (.isub, 1) := by decide +kernel
theorem dX1_weaken_7 : decode cX1_weaken 7 = .ok (.istore_n 2, 1) := by decide +kernel
theorem dX1_weaken_8 : decode cX1_weaken 8 = .ok (.iload_n 2, 1) := by decide +kernel
theorem dX1_weaken_9 : decode cX1_weaken 9 = .ok (.ifCond .le 22, 3) := by decide +kernel
theorem dX1_weaken_12 : decode cX1_weaken 12 = .ok (.aload_n 0, 1) := by decide +kernel
theorem dX1_weaken_13 : decode cX1_weaken 13 = .ok (.iload_n 1, 1) := by decide +kernel
theorem dX1_weaken_14 : decode cX1_weaken 14 = .ok (.aload_n 0, 1) := by decide +kernel
theorem dX1_weaken_15 : decode cX1_weaken 15 = .ok (.iload_n 1, 1) := by decide +kernel
theorem dX1_weaken_16 : decode cX1_weaken 16 = .ok (.invokevirtual 57, 3) := by decide +kernel
theorem dX1_weaken_19 : decode cX1_weaken 19 = .ok (.iload_n 2, 1) := by decide +kernel
theorem dX1_weaken_20 : decode cX1_weaken 20 = .ok (.aload_n 0, 1) := by decide +kernel
theorem dX1_weaken_21 : decode cX1_weaken 21 = .ok (.iload_n 1, 1) := by decide +kernel
theorem dX1_weaken_22 : decode cX1_weaken 22 = .ok (.invokevirtual 60, 3) := by decide +kernel
theorem dX1_weaken_25 : decode cX1_weaken 25 = .ok (.invokevirtual 63, 3) := by decide +kernel
theorem dX1_weaken_28 : decode cX1_weaken 28 = .ok (.goto 11, 3) := by decide +kernel
theorem dX1_weaken_31 : decode cX1_weaken 31 = .ok (.aload_n 0, 1) := by decide +kernel
theorem dX1_weaken_32 : decode cX1_weaken 32 = .ok (.iload_n 1, 1) := by decide +kernel
theorem dX1_weaken_33 : decode cX1_weaken 33 = .ok (.iconst (-1), 1) := by decide +kernel
theorem dX1_weaken_34 : decode cX1_weaken 34 = .ok (.iconst 0, 1) := by decide +kernel
theorem dX1_weaken_35 : decode cX1_weaken 35 = .ok (.iconst (-1), 1) := by decide +kernel
theorem dX1_weaken_36 : decode cX1_weaken 36 = .ok (.invokevirtual 63, 3) := by decide +kernel
theorem dX1_weaken_39 : decode cX1_weaken 39 = .ok (.return_, 1) := by decide +kernel
theorem dX2_init_0 : decode cX2_init 0 = .ok (.aload_n 0, 1) := by decide +kernel
theorem dX2_init_1 : decode cX2_init 1 = .ok (.invokespecial 3, 3) := by decide +kernel
theorem dX2_init_4 : decode cX2_init 4 = .ok (.aload_n 0, 1) := by decide +kernel
theorem dX2_init_5 : decode cX2_init 5 = .ok (.sipush 6400, 3) := by decide +kernel
theorem dX2_init_8 : decode cX2_init 8 = .ok (.newarray .int, 2) := by decide +kernel
theorem dX2_init_10 : decode cX2_init 10 = .ok (.putfield 11, 3) := by decide +kernel
theorem dX2_init_13 : decode cX2_init 13 = .ok (.aload_n 0, 1) := by decide +kernel
theorem dX2_init_14 : decode cX2_init 14 = .ok (.bipush 96, 2) := by decide +kernel
theorem dX2_init_16 : decode cX2_init 16 = .ok (.newarray .int, 2) := by decide +kernel
theorem dX2_init_18 : decode cX2_init 18 = .ok (.putfield 15, 3) := by decide +kernel
theorem dX2_init_21 : decode cX2_init 21 = .ok (.aload_n 0, 1) := by decide +kernel
theorem dX2_init_22 : decode cX2_init 22 = .ok (.iconst 4, 1) := by decide +kernel
theorem dX2_init_23 : decode cX2_init 23 = .ok (.newarray .int, 2) := by decide +kernel
theorem dX2_init_25 : decode cX2_init 25 = .ok (.putfield 18, 3) := by decide +kernel
theorem dX2_init_28 : decode cX2_init 28 = .ok (.aload_n 0, 1) := by decide +kernel
theorem dX2_init_29 : decode cX2_init 29 = .ok (.bipush 24, 2) := by decide +kernel
theorem dX2_init_31 : decode cX2_init 31 = .ok (.newarray .int, 2) := by decide +kernel
theorem dX2_init_33 : decode cX2_init 33 = .ok (.putfield 21, 3) := by decide +kernel
theorem dX2_init_36 : decode cX2_init 36 = .ok (.aload_n 0, 1) := by decide +kernel
theorem dX2_init_37 : decode cX2_init 37 = .ok (.iconst 0, 1) := by decide +kernel
theorem dX2_init_38 : decode cX2_init 38 = .ok (.putfield 24, 3) := by decide +kernel
theorem dX2_init_41 : decode cX2_init 41 = .ok (.aload_n 0, 1) := by decide +kernel
theorem dX2_init_42 : decode cX2_init 42 = .ok (.iconst 0, 1) := by decide +kernel
theorem dX2_init_43 : decode cX2_init 43 = .ok (.putfield 28, 3) := by decide +kernel
theorem dX2_init_46 : decode cX2_init 46 = .ok (.aload_n 0, 1) := by decide +kernel
theorem dX2_init_47 : decode cX2_init 47 = .ok (.iconst 0, 1) := by decide +kernel
theorem dX2_init_48 : decode cX2_init 48 = .ok (.putfield 31, 3) := by decide +kernel
theorem dX2_init_51 : decode cX2_init 51 = .ok (.return_, 1) := by decide +kernel
theorem dX2_begin_0 : decode cX2_begin 0 = .ok (.aload_n 0, 1) := by decide +kernel
theorem dX2_begin_1 : decode cX2_begin 1 = .ok (.iconst 0, 1) := by decide +kernel
theorem dX2_begin_2 : decode cX2_begin 2 = .ok (.iload_n 1, 1) := by decide +kernel
theorem dX2_begin_3 : decode cX2_begin 3 = .ok (.bipush 24, 2) := by decide +kernel
theorem dX2_begin_5 : decode cX2_begin 5 = .ok (.invokestatic 34, 3) := by decide +kernel
theorem dX2_begin_8 : decode cX2_begin 8 = .ok (.invokestatic 40, 3) := by decide +kernel
theorem dX2_begin_11 : decode cX2_begin 11 = .ok (.putfield 24, 3) := by decide +kernel
theorem dX2_begin_14 : decode cX2_begin 14 = .ok (.aload_n 0, 1) := by decide +kernel
theorem dX2_begin_15 : decode cX2_begin 15 = .ok (.iconst 0, 1) := by decide +kernel
theorem dX2_begin_16 : decode cX2_begin 16 = .ok (.putfield 28, 3) := by decide +kernel
theorem dX2_begin_19 : decode cX2_begin 19 = .ok (.aload_n 0, 1) := by decide +kernel
theorem dX2_begin_20 : decode cX2_begin 20 = .ok (.iconst 0, 1) := by decide +kernel
theorem dX2_begin_21 : decode cX2_begin 21 = .ok (.putfield 31, 3) := by decide +kernel
theorem dX2_begin_24 : decode cX2_begin 24 = .ok (.aload_n 0, 1) := by decide +kernel
theorem dX2_begin_25 : decode cX2_begin 25 = .ok (.getfield 15, 3) := by decide +kernel
theorem dX2_begin_28 : decode cX2_begin 28 = .ok (.iconst 0, 1) := by decide +kernel
theorem dX2_begin_29 : decode cX2_begin 29 = .ok (.invokestatic 43, 3) := by decide +kernel
theorem dX2_begin_32 : decode cX2_begin 32 = .ok (.aload_n 0, 1) := by decide +kernel
theorem dX2_begin_33 : decode cX2_begin 33 = .ok (.getfield 21, 3) := by decide +kernel
theorem dX2_begin_36 : decode cX2_begin 36 = .ok (.iconst (-1), 1) := by decide +kernel
theorem dX2_begin_37 : decode cX2_begin 37 = .ok (.invokestatic 43, 3) := by decide +kernel
theorem dX2_begin_40 : decode cX2_begin 40 = .ok (.return_, 1) := by decide +kernel
theorem dX2_addLine_0 : decode cX2_addLine 0 = .ok (.aload_n 0, 1) := by decide +kernel
theorem dX2_addLine_1 : decode cX2_addLine 1 = .ok (.getfield 28, 3) := by decide +kernel
theorem dX2_addLine_4 : decode cX2_addLine 4 = .ok (.ifCond .lt 54, 3) := by decide +kernel
theorem dX2_addLine_7 : decode cX2_addLine 7 = .ok (.aload_n 0, 1) := by decide +kernel
theorem dX2_addLine_8 : decode cX2_addLine 8 = .ok (.getfield 28, 3) := by decide +kernel
theorem dX2_addLine_11 : decode cX2_addLine 11 = .ok (.aload_n 0, 1) := by decide +kernel
theorem dX2_addLine_12 : decode cX2_addLine 12 = .ok (.getfield 18, 3) := by decide +kernel
theorem dX2_addLine_15 : decode cX2_addLine 15 = .ok (.arraylength, 1) := by decide +kernel
theorem dX2_addLine_16 : decode cX2_addLine 16 = .ok (.if_icmp .ge 42, 3) := by decide +kernel
theorem dX2_addLine_19 : decode cX2_addLine 19 = .ok (.aload_n 0, 1) := by decide +kernel
theorem dX2_addLine_20 : decode cX2_addLine 20 = .ok (.getfield 18, 3) := by decide +kernel
theorem dX2_addLine_23 : decode cX2_addLine 23 = .ok (.aload_n 0, 1) := by decide +kernel
theorem dX2_addLine_24 : decode cX2_addLine 24 = .ok (.getfield 28, 3) := by decide +kernel
theorem dX2_addLine_27 : decode cX2_addLine 27 = .ok (.iload_n 1, 1) := by decide +kernel
theorem dX2_addLine_28 : decode cX2_addLine 28 = .ok (.iastore, 1) := by decide +kernel
theorem dX2_addLine_29 : decode cX2_addLine 29 = .ok (.aload_n 0, 1) := by decide +kernel
theorem dX2_addLine_30 : decode cX2_addLine 30 = .ok (.dup, 1) := by decide +kernel
theorem dX2_addLine_31 : decode cX2_addLine 31 = .ok (.getfield 31, 3) := by decide +kernel
theorem dX2_addLine_34 : decode cX2_addLine 34 = .ok (.iload_n 2, 1) := by decide +kernel
theorem dX2_addLine_35 : decode cX2_addLine 35 = .ok (.iconst 3, 1) := by decide +kernel
theorem dX2_addLine_36 : decode cX2_addLine 36 = .ok (.iand, 1) := by decide +kernel
theorem dX2_addLine_37 : decode cX2_addLine 37 = .ok (.iconst 2, 1) := by decide +kernel
theorem dX2_addLine_38 : decode cX2_addLine 38 = .ok (.aload_n 0, 1) := by decide +kernel
theorem dX2_addLine_39 : decode cX2_addLine 39 = .ok (.getfield 28, 3) := by decide +kernel
theorem dX2_addLine_42 : decode cX2_addLine 42 = .ok (.imul, 1) := by decide +kernel
theorem dX2_addLine_43 : decode cX2_addLine 43 = .ok (.ishl, 1) := by decide +kernel
theorem dX2_addLine_44 : decode cX2_addLine 44 = .ok (.ior, 1) := by decide +kernel
theorem dX2_addLine_45 : decode cX2_addLine 45 = .ok (.putfield 31, 3) := by decide +kernel
theorem dX2_addLine_48 : decode cX2_addLine 48 = .ok (.aload_n 0, 1) := by decide +kernel
theorem dX2_addLine_49 : decode cX2_addLine 49 = .ok (.dup, 1) := by decide +kernel
theorem dX2_addLine_50 : decode cX2_addLine 50 = .ok (.getfield 28, 3) := by decide +kernel
theorem dX2_addLine_53 : decode cX2_addLine 53 = .ok (.iconst 1, 1) := by decide +kernel
theorem dX2_addLine_54 : decode cX2_addLine 54 = .ok (.iadd, 1) := by decide +kernel
theorem dX2_addLine_55 : decode cX2_addLine 55 = .ok (.putfield 28, 3) := by decide +kernel
theorem dX2_addLine_58 : decode cX2_addLine 58 = .ok (.return_, 1) := by decide +kernel
theorem dX2_putPrice_0 : decode cX2_putPrice 0 = .ok (.iload_n 1, 1) := by decide +kernel
theorem dX2_putPrice_1 : decode cX2_putPrice 1 = .ok (.iconst 4, 1) := by decide +kernel
theorem dX2_putPrice_2 : decode cX2_putPrice 2 = .ok (.imul, 1) := by decide +kernel
theorem dX2_putPrice_3 : decode cX2_putPrice 3 = .ok (.aload_n 0, 1) := by decide +kernel
theorem dX2_putPrice_4 : decode cX2_putPrice 4 = .ok (.getfield 28, 3) := by decide +kernel
theorem dX2_putPrice_7 : decode cX2_putPrice 7 = .ok (.iadd, 1) := by decide +kernel
theorem dX2_putPrice_8 : decode cX2_putPrice 8 = .ok (.iconst 1, 1) := by decide +kernel
theorem dX2_putPrice_9 : decode cX2_putPrice 9 = .ok (.isub, 1) := by decide +kernel
theorem dX2_putPrice_10 : decode cX2_putPrice 10 = .ok (.istore_n 3, 1) := by decide +kernel
theorem dX2_putPrice_11 : decode cX2_putPrice 11 = .ok (.iload_n 3, 1) := by decide +kernel
theorem dX2_putPrice_12 : decode cX2_putPrice 12 = .ok (.ifCond .lt 19, 3) := by decide +kernel
theorem dX2_putPrice_15 : decode cX2_putPrice 15 = .ok (.iload_n 3, 1) := by decide +kernel
theorem dX2_putPrice_16 : decode cX2_putPrice 16 = .ok (.aload_n 0, 1) := by decide +kernel
theorem dX2_putPrice_17 : decode cX2_putPrice 17 = .ok (.getfield 15, 3) := by decide +kernel
theorem dX2_putPrice_20 : decode cX2_putPrice 20 = .ok (.arraylength, 1) := by decide +kernel
theorem dX2_putPrice_21 : decode cX2_putPrice 21 = .ok (.if_icmp .ge 10, 3) := by decide +kernel
theorem dX2_putPrice_24 : decode cX2_putPrice 24 = .ok (.aload_n 0, 1) := by decide +kernel
theorem dX2_putPrice_25 : decode cX2_putPrice 25 = .ok (.getfield 15, 3) := by decide +kernel
theorem dX2_putPrice_28 : decode cX2_putPrice 28 = .ok (.iload_n 3, 1) := by decide +kernel
theorem dX2_putPrice_29 : decode cX2_putPrice 29 = .ok (.iload_n 2, 1) := by decide +kernel
theorem dX2_putPrice_30 : decode cX2_putPrice 30 = .ok (.iastore, 1) := by decide +kernel
theorem dX2_putPrice_31 : decode cX2_putPrice 31 = .ok (.return_, 1) := by decide +kernel
theorem dX2_solve_0 : decode cX2_solve 0 = .ok (.iconst 0, 1) := by decide +kernel
theorem dX2_solve_1 : decode cX2_solve 1 = .ok (.istore_n 1, 1) := by decide +kernel
theorem dX2_solve_2 : decode cX2_solve 2 = .ok (.iload_n 1, 1) := by decide +kernel
theorem dX2_solve_3 : decode cX2_solve 3 = .ok (.aload_n 0, 1) := by decide +kernel
theorem dX2_solve_4 : decode cX2_solve 4 = .ok (.getfield 31, 3) := by decide +kernel
theorem dX2_solve_7 : decode cX2_solve 7 = .ok (.if_icmp .gt 29, 3) := by decide +kernel
theorem dX2_solve_10 : decode cX2_solve 10 = .ok (.aload_n 0, 1) := by decide +kernel
theorem dX2_solve_11 : decode cX2_solve 11 = .ok (.aload_n 0, 1) := by decide +kernel
theorem dX2_solve_12 : decode cX2_solve 12 = .ok (.getfield 24, 3) := by decide +kernel
theorem dX2_solve_15 : decode cX2_solve 15 = .ok (.iload_n 1, 1) := by decide +kernel
theorem dX2_solve_16 : decode cX2_solve 16 = .ok (.iload_n 1, 1) := by decide +kernel
theorem dX2_solve_17 : decode cX2_solve 17 = .ok (.ifCond .ne 7, 3) := by decide +kernel
theorem dX2_solve_20 : decode cX2_solve 20 = .ok (.iconst 0, 1) := by decide +kernel
theorem dX2_solve_21 : decode cX2_solve 21 = .ok (.goto 6, 3) := by decide +kernel
theorem dX2_solve_24 : decode cX2_solve 24 = .ok (.sipush 1000, 3) := by decide +kernel
theorem dX2_solve_27 : decode cX2_solve 27 = .ok (.invokevirtual 49, 3) := by decide +kernel
theorem dX2_solve_30 : decode cX2_solve 30 = .ok (.iinc 1 1, 3) := by decide +kernel
theorem dX2_solve_33 : decode cX2_solve 33 = .ok (.goto (-31), 3) := by decide +kernel
theorem dX2_solve_36 : decode cX2_solve 36 = .ok (.aload_n 0, 1) := by decide +kernel
theorem dX2_solve_37 : decode cX2_solve 37 = .ok (.getfield 24, 3) := by decide +kernel
theorem dX2_solve_40 : decode cX2_solve 40 = .ok (.iconst 1, 1) := by decide +kernel
theorem dX2_solve_41 : decode cX2_solve 41 = .ok (.isub, 1) := by decide +kernel
theorem dX2_solve_42 : decode cX2_solve 42 = .ok (.istore_n 1, 1) := by decide +kernel
theorem dX2_solve_43 : decode cX2_solve 43 = .ok (.iload_n 1, 1) := by decide +kernel
theorem dX2_solve_44 : decode cX2_solve 44 = .ok (.ifCond .lt 37, 3) := by decide +kernel
theorem dX2_solve_47 : decode cX2_solve 47 = .ok (.iconst 0, 1) := by decide +kernel
theorem dX2_solve_48 : decode cX2_solve 48 = .ok (.istore_n 2, 1) := by decide +kernel
theorem dX2_solve_49 : decode cX2_solve 49 = .ok (.iload_n 2, 1) := by decide +kernel
theorem dX2_solve_50 : decode cX2_solve 50 = .ok (.aload_n 0, 1) := by decide +kernel
theorem dX2_solve_51 : decode cX2_solve 51 = .ok (.getfield 31, 3) := by decide +kernel
theorem dX2_solve_54 : decode cX2_solve 54 = .ok (.if_icmp .gt 21, 3) := by decide +kernel
theorem dX2_solve_57 : decode cX2_solve 57 = .ok (.aload_n 0, 1) := by decide +kernel
theorem dX2_solve_58 : decode cX2_solve 58 = .ok (.iload_n 1, 1) := by decide +kernel
theorem dX2_solve_59 : decode cX2_solve 59 = .ok (.iload_n 2, 1) := by decide +kernel
theorem dX2_solve_60 : decode cX2_solve 60 = .ok (.aload_n 0, 1) := by decide +kernel
theorem dX2_solve_61 : decode cX2_solve 61 = .ok (.iload_n 1, 1) := by decide +kernel
theorem dX2_solve_62 : decode cX2_solve 62 = .ok (.iload_n 2, 1) := by decide +kernel
theorem dX2_solve_63 : decode cX2_solve 63 = .ok (.invokevirtual 53, 3) := by decide +kernel
theorem dX2_solve_66 : decode cX2_solve 66 = .ok (.invokevirtual 49, 3) := by decide +kernel
theorem dX2_solve_69 : decode cX2_solve 69 = .ok (.iinc 2 1, 3) := by decide +kernel
theorem dX2_solve_72 : decode cX2_solve 72 = .ok (.goto (-23), 3) := by decide +kernel
theorem dX2_solve_75 : decode cX2_solve 75 = .ok (.iinc 1 (-1), 3) := by decide +kernel
theorem dX2_solve_78 : decode cX2_solve 78 = .ok (.goto (-35), 3) := by decide +kernel
theorem dX2_solve_81 : decode cX2_solve 81 = .ok (.aload_n 0, 1) := by decide +kernel
theorem dX2_solve_82 : decode cX2_solve 82 = .ok (.invokevirtual 56, 3) := by decide +kernel
theorem dX2_solve_85 : decode cX2_solve 85 = .ok (.ifCond .eq 7, 3) := by decide +kernel
theorem dX2_solve_88 : decode cX2_solve 88 = .ok (.aload_n 0, 1) := by decide +kernel
theorem dX2_solve_89 : decode cX2_solve 89 = .ok (.invokevirtual 60, 3) := by decide +kernel
theorem dX2_solve_92 : decode cX2_solve 92 = .ok (.return_, 1) := by decide +kernel
theorem dX2_leastCost_0 : decode cX2_leastCost 0 = .ok (.aload_n 0, 1) := by decide +kernel
theorem dX2_leastCost_1 : decode cX2_leastCost 1 = .ok (.iload_n 1, 1) := by decide +kernel
theorem dX2_leastCost_2 : decode cX2_leastCost 2 = .ok (.iconst 1, 1) := by decide +kernel
theorem dX2_leastCost_3 : decode cX2_leastCost 3 = .ok (.iadd, 1) := by decide +kernel
theorem dX2_leastCost_4 : decode cX2_leastCost 4 = .ok (.iload_n 2, 1) := by decide +kernel
theorem dX2_leastCost_5 : decode cX2_leastCost 5 = .ok (.invokevirtual 63, 3) := by decide +kernel
theorem dX2_leastCost_8 : decode cX2_leastCost 8 = .ok (.istore_n 3, 1) := by decide +kernel
theorem dX2_leastCost_9 : decode cX2_leastCost 9 = .ok (.iconst 0, 1) := by decide +kernel
theorem dX2_leastCost_10 : decode cX2_leastCost 10 = .ok (.istore 4, 2) := by decide +kernel
theorem dX2_leastCost_12 : decode cX2_leastCost 12 = .ok (.iload 4, 2) := by decide +kernel
theorem dX2_leastCost_14 : decode cX2_leastCost 14 = .ok (.aload_n 0, 1) := by decide +kernel
theorem dX2_leastCost_15 : decode cX2_leastCost 15 = .ok (.getfield 28, 3) := by decide +kernel
theorem dX2_leastCost_18 : decode cX2_leastCost 18 = .ok (.if_icmp .ge 22, 3) := by decide +kernel
theorem dX2_leastCost_21 : decode cX2_leastCost 21 = .ok (.iload_n 3, 1) := by decide +kernel
theorem dX2_leastCost_22 : decode cX2_leastCost 22 = .ok (.aload_n 0, 1) := by decide +kernel
theorem dX2_leastCost_23 : decode cX2_leastCost 23 = .ok (.iload_n 1, 1) := by decide +kernel
theorem dX2_leastCost_24 : decode cX2_leastCost 24 = .ok (.iload 4, 2) := by decide +kernel
theorem dX2_leastCost_26 : decode cX2_leastCost 26 = .ok (.iload_n 2, 1) := by decide +kernel
theorem dX2_leastCost_27 : decode cX2_leastCost 27 = .ok (.invokevirtual 66, 3) := by decide +kernel
theorem dX2_leastCost_30 : decode cX2_leastCost 30 = .ok (.invokestatic 34, 3) := by decide +kernel
theorem dX2_leastCost_33 : decode cX2_leastCost 33 = .ok (.istore_n 3, 1) := by decide +kernel
theorem dX2_leastCost_34 : decode cX2_leastCost 34 = .ok (.iinc 4 1, 3) := by decide +kernel
theorem dX2_leastCost_37 : decode cX2_leastCost 37 = .ok (.goto (-25), 3) := by decide +kernel
theorem dX2_leastCost_40 : decode cX2_leastCost 40 = .ok (.iload_n 3, 1) := by decide +kernel
theorem dX2_leastCost_41 : decode cX2_leastCost 41 = .ok (.ireturn, 1) := by decide +kernel
theorem dX2_costWith_0 : decode cX2_costWith 0 = .ok (.iload_n 1, 1) := by decide +kernel
theorem dX2_costWith_1 : decode cX2_costWith 1 = .ok (.iconst 4, 1) := by decide +kernel
theorem dX2_costWith_2 : decode cX2_costWith 2 = .ok (.imul, 1) := by decide +kernel
theorem dX2_costWith_3 : decode cX2_costWith 3 = .ok (.iload_n 2, 1) := by decide +kernel
theorem dX2_costWith_4 : decode cX2_costWith 4 = .ok (.iadd, 1) := by decide +kernel
theorem dX2_costWith_5 : decode cX2_costWith 5 = .ok (.istore 4, 2) := by decide +kernel
theorem dX2_costWith_7 : decode cX2_costWith 7 = .ok (.iload 4, 2) := by decide +kernel
theorem dX2_costWith_9 : decode cX2_costWith 9 = .ok (.ifCond .lt 23, 3) := by decide +kernel
theorem dX2_costWith_12 : decode cX2_costWith 12 = .ok (.iload 4, 2) := by decide +kernel
theorem dX2_costWith_14 : decode cX2_costWith 14 = .ok (.aload_n 0, 1) := by decide +kernel
theorem dX2_costWith_15 : decode cX2_costWith 15 = .ok (.getfield 15, 3) := by decide +kernel
theorem dX2_costWith_18 : decode cX2_costWith 18 = .ok (.arraylength, 1) := by decide +kernel
theorem dX2_costWith_19 : decode cX2_costWith 19 = .ok (.if_icmp .ge 13, 3) := by decide +kernel
theorem dX2_costWith_22 : decode cX2_costWith 22 = .ok (.aload_n 0, 1) := by decide +kernel
theorem dX2_costWith_23 : decode cX2_costWith 23 = .ok (.getfield 15, 3) := by decide +kernel
theorem dX2_costWith_26 : decode cX2_costWith 26 = .ok (.iload 4, 2) := by decide +kernel
theorem dX2_costWith_28 : decode cX2_costWith 28 = .ok (.iaload, 1) := by decide +kernel
theorem dX2_costWith_29 : decode cX2_costWith 29 = .ok (.goto 4, 3) := by decide +kernel
theorem dX2_costWith_32 : decode cX2_costWith 32 = .ok (.iconst 0, 1) := by decide +kernel
theorem dX2_costWith_33 : decode cX2_costWith 33 = .ok (.istore 5, 2) := by decide +kernel
theorem dX2_costWith_35 : decode cX2_costWith 35 = .ok (.iload 5, 2) := by decide +kernel
theorem dX2_costWith_37 : decode cX2_costWith 37 = .ok (.ifCond .eq 13, 3) := by decide +kernel
theorem dX2_costWith_40 : decode cX2_costWith 40 = .ok (.iload_n 3, 1) := by decide +kernel
theorem dX2_costWith_41 : decode cX2_costWith 41 = .ok (.iconst 2, 1) := by decide +kernel
theorem dX2_costWith_42 : decode cX2_costWith 42 = .ok (.iload_n 2, 1) := by decide +kernel
theorem dX2_costWith_43 : decode cX2_costWith 43 = .ok (.imul, 1) := by decide +kernel
theorem dX2_costWith_44 : decode cX2_costWith 44 = .ok (.iushr, 1) := by decide +kernel
theorem dX2_costWith_45 : decode cX2_costWith 45 = .ok (.iconst 3, 1) := by decide +kernel
theorem dX2_costWith_46 : decode cX2_costWith 46 = .ok (.iand, 1) := by decide +kernel
theorem dX2_costWith_47 : decode cX2_costWith 47 = .ok (.ifCond .ne 7, 3) := by decide +kernel
theorem dX2_costWith_50 : decode cX2_costWith 50 = .ok (.sipush 1000, 3) := by decide +kernel
theorem dX2_costWith_53 : decode cX2_costWith 53 = .ok (.ireturn, 1) := by decide +kernel
theorem dX2_costWith_54 : decode cX2_costWith 54 = .ok (.sipush 1000, 3) := by decide +kernel
theorem dX2_costWith_57 : decode cX2_costWith 57 = .ok (.iload 5, 2) := by decide +kernel
theorem dX2_costWith_59 : decode cX2_costWith 59 = .ok (.aload_n 0, 1) := by decide +kernel
theorem dX2_costWith_60 : decode cX2_costWith 60 = .ok (.iload_n 1, 1) := by decide +kernel
theorem dX2_costWith_61 : decode cX2_costWith 61 = .ok (.iconst 1, 1) := by decide +kernel
theorem dX2_costWith_62 : decode cX2_costWith 62 = .ok (.iadd, 1) := by decide +kernel
theorem dX2_costWith_63 : decode cX2_costWith 63 = .ok (.iload_n 3, 1) := by decide +kernel
theorem dX2_costWith_64 : decode cX2_costWith 64 = .ok (.iconst 1, 1) := by decide +kernel
theorem dX2_costWith_65 : decode cX2_costWith 65 = .ok (.iconst 2, 1) := by decide +kernel
theorem dX2_costWith_66 : decode cX2_costWith 66 = .ok (.iload_n 2, 1) := by decide +kernel
theorem dX2_costWith_67 : decode cX2_costWith 67 = .ok (.imul, 1) := by decide +kernel
theorem dX2_costWith_68 : decode cX2_costWith 68 = .ok (.ishl, 1) := by decide +kernel
theorem dX2_costWith_69 : decode cX2_costWith 69 = .ok (.isub, 1) := by decide +kernel
theorem dX2_costWith_70 : decode cX2_costWith 70 = .ok (.invokevirtual 63, 3) := by decide +kernel
theorem dX2_costWith_73 : decode cX2_costWith 73 = .ok (.iadd, 1) := by decide +kernel
theorem dX2_costWith_74 : decode cX2_costWith 74 = .ok (.invokestatic 34, 3) := by decide +kernel
theorem dX2_costWith_77 : decode cX2_costWith 77 = .ok (.ireturn, 1) := by decide +kernel
theorem dX2_giveLessons_0 : decode cX2_giveLessons 0 = .ok (.aload_n 0, 1) := by decide +kernel
theorem dX2_giveLessons_1 : decode cX2_giveLessons 1 = .ok (.getfield 31, 3) := by decide +kernel
theorem dX2_giveLessons_4 : decode cX2_giveLessons 4 = .ok (.istore_n 1, 1) := by decide +kernel
theorem dX2_giveLessons_5 : decode cX2_giveLessons 5 = .ok (.iconst 0, 1) := by decide +kernel
theorem dX2_giveLessons_6 : decode cX2_giveLessons 6 = .ok (.istore_n 2, 1) := by decide +kernel
theorem dX2_giveLessons_7 : decode cX2_giveLessons 7 = .ok (.iload_n 2, 1) := by decide +kernel
theorem dX2_giveLessons_8 : decode cX2_giveLessons 8 = .ok (.aload_n 0, 1) := by decide +kernel
theorem dX2_giveLessons_9 : decode cX2_giveLessons 9 = .ok (.getfield 24, 3) := by decide +kernel
theorem dX2_giveLessons_12 : decode cX2_giveLessons 12 = .ok (.if_icmp .ge 104, 3) := by decide +kernel
theorem dX2_giveLessons_15 : decode cX2_giveLessons 15 = .ok (.iload_n 2, 1) := by decide +kernel
theorem dX2_giveLessons_16 : decode cX2_giveLessons 16 = .ok (.aload_n 0, 1) := by decide +kernel
theorem dX2_giveLessons_17 : decode cX2_giveLessons 17 = .ok (.getfield 21, 3) := by decide +kernel
theorem dX2_giveLessons_20 : decode cX2_giveLessons 20 = .ok (.arraylength, 1) := by decide +kernel
theorem dX2_giveLessons_21 : decode cX2_giveLessons 21 = .ok (.if_icmp .ge 95, 3) := by decide +kernel
theorem dX2_giveLessons_24 : decode cX2_giveLessons 24 = .ok (.iconst (-1), 1) := by decide +kernel
theorem dX2_giveLessons_25 : decode cX2_giveLessons 25 = .ok (.istore_n 3, 1) := by decide +kernel
theorem dX2_giveLessons_26 : decode cX2_giveLessons 26 = .ok (.aload_n 0, 1) := by decide +kernel
theorem dX2_giveLessons_27 : decode cX2_giveLessons 27 = .ok (.getfield 28, 3) := by decide +kernel
theorem dX2_giveLessons_30 : decode cX2_giveLessons 30 = .ok (.iconst 1, 1) := by decide +kernel
theorem dX2_giveLessons_31 : decode cX2_giveLessons 31 = .ok (.isub, 1) := by decide +kernel
theorem dX2_giveLessons_32 : decode cX2_giveLessons 32 = .ok (.istore 4, 2) := by decide +kernel
theorem dX2_giveLessons_34 : decode cX2_giveLessons 34 = .ok (.iload 4, 2) := by decide +kernel
theorem dX2_giveLessons_36 : decode cX2_giveLessons 36 = .ok (.ifCond .lt 41, 3) := by decide +kernel
theorem dX2_giveLessons_39 : decode cX2_giveLessons 39 = .ok (.aload_n 0, 1) := by decide +kernel
theorem dX2_giveLessons_40 : decode cX2_giveLessons 40 = .ok (.iload_n 2, 1) := by decide +kernel
theorem dX2_giveLessons_41 : decode cX2_giveLessons 41 = .ok (.iload_n 1, 1) := by decide +kernel
theorem dX2_giveLessons_42 : decode cX2_giveLessons 42 = .ok (.invokevirtual 63, 3) := by decide +kernel
theorem dX2_giveLessons_45 : decode cX2_giveLessons 45 = .ok (.sipush 1000, 3) := by decide +kernel
theorem dX2_giveLessons_48 : decode cX2_giveLessons 48 = .ok (.if_icmp .ge 23, 3) := by decide +kernel
theorem dX2_giveLessons_51 : decode cX2_giveLessons 51 = .ok (.aload_n 0, 1) := by decide +kernel
theorem dX2_giveLessons_52 : decode cX2_giveLessons 52 = .ok (.iload_n 2, 1) := by decide +kernel
theorem dX2_giveLessons_53 : decode cX2_giveLessons 53 = .ok (.iload 4, 2) := by decide +kernel
theorem dX2_giveLessons_55 : decode cX2_giveLessons 55 = .ok (.iload_n 1, 1) := by decide +kernel
theorem dX2_giveLessons_56 : decode cX2_giveLessons 56 = .ok (.invokevirtual 66, 3) := by decide +kernel
theorem dX2_giveLessons_59 : decode cX2_giveLessons 59 = .ok (.aload_n 0, 1) := by decide +kernel
theorem dX2_giveLessons_60 : decode cX2_giveLessons 60 = .ok (.iload_n 2, 1) := by decide +kernel
theorem dX2_giveLessons_61 : decode cX2_giveLessons 61 = .ok (.iload_n 1, 1) := by decide +kernel
theorem dX2_giveLessons_62 : decode cX2_giveLessons 62 = .ok (.invokevirtual 63, 3) := by decide +kernel
theorem dX2_giveLessons_65 : decode cX2_giveLessons 65 = .ok (.if_icmp .ne 6, 3) := by decide +kernel
theorem dX2_giveLessons_68 : decode cX2_giveLessons 68 = .ok (.iload 4, 2) := by decide +kernel
theorem dX2_giveLessons_70 : decode cX2_giveLessons 70 = .ok (.istore_n 3, 1) := by decide +kernel
theorem dX2_giveLessons_71 : decode cX2_giveLessons 71 = .ok (.iinc 4 (-1), 3) := by decide +kernel
theorem dX2_giveLessons_74 : decode cX2_giveLessons 74 = .ok (.goto (-40), 3) := by decide +kernel
theorem dX2_giveLessons_77 : decode cX2_giveLessons 77 = .ok (.iload_n 3, 1) := by decide +kernel
theorem dX2_giveLessons_78 : decode cX2_giveLessons 78 = .ok (.ifCond .lt 32, 3) := by decide +kernel
theorem dX2_giveLessons_81 : decode cX2_giveLessons 81 = .ok (.iload_n 3, 1) := by decide +kernel
theorem dX2_giveLessons_82 : decode cX2_giveLessons 82 = .ok (.aload_n 0, 1) := by decide +kernel
theorem dX2_giveLessons_83 : decode cX2_giveLessons 83 = .ok (.getfield 18, 3) := by decide +kernel
theorem dX2_giveLessons_86 : decode cX2_giveLessons 86 = .ok (.arraylength, 1) := by decide +kernel
theorem dX2_giveLessons_87 : decode cX2_giveLessons 87 = .ok (.if_icmp .ge 23, 3) := by decide +kernel
theorem dX2_giveLessons_90 : decode cX2_giveLessons 90 = .ok (.aload_n 0, 1) := by decide +kernel
theorem dX2_giveLessons_91 : decode cX2_giveLessons 91 = .ok (.getfield 21, 3) := by decide +kernel
theorem dX2_giveLessons_94 : decode cX2_giveLessons 94 = .ok (.iload_n 2, 1) := by decide +kernel
theorem dX2_giveLessons_95 : decode cX2_giveLessons 95 = .ok (.aload_n 0, 1) := by decide +kernel
theorem dX2_giveLessons_96 : decode cX2_giveLessons 96 = .ok (.getfield 18, 3) := by decide +kernel
theorem dX2_giveLessons_99 : decode cX2_giveLessons 99 = .ok (.iload_n 3, 1) := by decide +kernel
theorem dX2_giveLessons_100 : decode cX2_giveLessons 100 = .ok (.iaload, 1) := by decide +kernel
theorem dX2_giveLessons_101 : decode cX2_giveLessons 101 = .ok (.iastore, 1) := by decide +kernel
theorem dX2_giveLessons_102 : decode cX2_giveLessons 102 = .ok (.iload_n 1, 1) := by decide +kernel
theorem dX2_giveLessons_103 : decode cX2_giveLessons 103 = .ok (.iconst 1, 1) := by decide +kernel
theorem dX2_giveLessons_104 : decode cX2_giveLessons 104 = .ok (.iconst 2, 1) := by decide +kernel
theorem dX2_giveLessons_105 : decode cX2_giveLessons 105 = .ok (.iload_n 3, 1) := by decide +kernel
theorem dX2_giveLessons_106 : decode cX2_giveLessons 106 = .ok (.imul, 1) := by decide +kernel
theorem dX2_giveLessons_107 : decode cX2_giveLessons 107 = .ok (.ishl, 1) := by decide +kernel
theorem dX2_giveLessons_108 : decode cX2_giveLessons 108 = .ok (.isub, 1) := by decide +kernel
theorem dX2_giveLessons_109 : decode cX2_giveLessons 109 = .ok (.istore_n 1, 1) := by decide +kernel
theorem dX2_giveLessons_110 : decode cX2_giveLessons 110 = .ok (.iinc 2 1, 3) := by decide +kernel
theorem dX2_giveLessons_113 : decode cX2_giveLessons 113 = .ok (.goto (-106), 3) := by decide +kernel
theorem dX2_giveLessons_116 : decode cX2_giveLessons 116 = .ok (.return_, 1) := by decide +kernel
theorem dX2_isFound_0 : decode cX2_isFound 0 = .ok (.aload_n 0, 1) := by decide +kernel
theorem dX2_isFound_1 : decode cX2_isFound 1 = .ok (.iconst 0, 1) := by decide +kernel
theorem dX2_isFound_2 : decode cX2_isFound 2 = .ok (.aload_n 0, 1) := by decide +kernel
theorem dX2_isFound_3 : decode cX2_isFound 3 = .ok (.getfield 31, 3) := by decide +kernel
theorem dX2_isFound_6 : decode cX2_isFound 6 = .ok (.invokevirtual 63, 3) := by decide +kernel
theorem dX2_isFound_9 : decode cX2_isFound 9 = .ok (.sipush 1000, 3) := by decide +kernel
theorem dX2_isFound_12 : decode cX2_isFound 12 = .ok (.if_icmp .ge 7, 3) := by decide +kernel
theorem dX2_isFound_15 : decode cX2_isFound 15 = .ok (.iconst 1, 1) := by decide +kernel
theorem dX2_isFound_16 : decode cX2_isFound 16 = .ok (.goto 4, 3) := by decide +kernel
theorem dX2_isFound_19 : decode cX2_isFound 19 = .ok (.iconst 0, 1) := by decide +kernel
theorem dX2_isFound_20 : decode cX2_isFound 20 = .ok (.ireturn, 1) := by decide +kernel
theorem dX2_cost_0 : decode cX2_cost 0 = .ok (.aload_n 0, 1) := by decide +kernel
theorem dX2_cost_1 : decode cX2_cost 1 = .ok (.invokevirtual 56, 3) := by decide +kernel
theorem dX2_cost_4 : decode cX2_cost 4 = .ok (.ifCond .eq 15, 3) := by decide +kernel
theorem dX2_cost_7 : decode cX2_cost 7 = .ok (.aload_n 0, 1) := by decide +kernel
theorem dX2_cost_8 : decode cX2_cost 8 = .ok (.iconst 0, 1) := by decide +kernel
theorem dX2_cost_9 : decode cX2_cost 9 = .ok (.aload_n 0, 1) := by decide +kernel
theorem dX2_cost_10 : decode cX2_cost 10 = .ok (.getfield 31, 3) := by decide +kernel
theorem dX2_cost_13 : decode cX2_cost 13 = .ok (.invokevirtual 63, 3) := by decide +kernel
theorem dX2_cost_16 : decode cX2_cost 16 = .ok (.goto 4, 3) := by decide +kernel
theorem dX2_cost_19 : decode cX2_cost 19 = .ok (.iconst (-1), 1) := by decide +kernel
theorem dX2_cost_20 : decode cX2_cost 20 = .ok (.ireturn, 1) := by decide +kernel
theorem dX2_teachings_0 : decode cX2_teachings 0 = .ok (.iconst 0, 1) := by decide +kernel
theorem dX2_teachings_1 : decode cX2_teachings 1 = .ok (.istore_n 1, 1) := by decide +kernel
theorem dX2_teachings_2 : decode cX2_teachings 2 = .ok (.iconst 0, 1) := by decide +kernel
theorem dX2_teachings_3 : decode cX2_teachings 3 = .ok (.istore_n 2, 1) := by decide +kernel
theorem dX2_teachings_4 : decode cX2_teachings 4 = .ok (.iload_n 2, 1) := by decide +kernel
theorem dX2_teachings_5 : decode cX2_teachings 5 = .ok (.aload_n 0, 1) := by decide +kernel
theorem dX2_teachings_6 : decode cX2_teachings 6 = .ok (.getfield 21, 3) := by decide +kernel
theorem dX2_teachings_9 : decode cX2_teachings 9 = .ok (.arraylength, 1) := by decide +kernel
theorem dX2_teachings_10 : decode cX2_teachings 10 = .ok (.if_icmp .ge 27, 3) := by decide +kernel
theorem dX2_teachings_13 : decode cX2_teachings 13 = .ok (.iload_n 1, 1) := by decide +kernel
theorem dX2_teachings_14 : decode cX2_teachings 14 = .ok (.aload_n 0, 1) := by decide +kernel
theorem dX2_teachings_15 : decode cX2_teachings 15 = .ok (.getfield 21, 3) := by decide +kernel
theorem dX2_teachings_18 : decode cX2_teachings 18 = .ok (.iload_n 2, 1) := by decide +kernel
theorem dX2_teachings_19 : decode cX2_teachings 19 = .ok (.iaload, 1) := by decide +kernel
theorem dX2_teachings_20 : decode cX2_teachings 20 = .ok (.iconst (-1), 1) := by decide +kernel
theorem dX2_teachings_21 : decode cX2_teachings 21 = .ok (.if_icmp .eq 7, 3) := by decide +kernel
theorem dX2_teachings_24 : decode cX2_teachings 24 = .ok (.iconst 1, 1) := by decide +kernel
theorem dX2_teachings_25 : decode cX2_teachings 25 = .ok (.goto 4, 3) := by decide +kernel
theorem dX2_teachings_28 : decode cX2_teachings 28 = .ok (.iconst 0, 1) := by decide +kernel
theorem dX2_teachings_29 : decode cX2_teachings 29 = .ok (.iadd, 1) := by decide +kernel
theorem dX2_teachings_30 : decode cX2_teachings 30 = .ok (.istore_n 1, 1) := by decide +kernel
theorem dX2_teachings_31 : decode cX2_teachings 31 = .ok (.iinc 2 1, 3) := by decide +kernel
theorem dX2_teachings_34 : decode cX2_teachings 34 = .ok (.goto (-30), 3) := by decide +kernel
theorem dX2_teachings_37 : decode cX2_teachings 37 = .ok (.aload_n 0, 1) := by decide +kernel
theorem dX2_teachings_38 : decode cX2_teachings 38 = .ok (.invokevirtual 56, 3) := by decide +kernel
theorem dX2_teachings_41 : decode cX2_teachings 41 = .ok (.ifCond .eq 7, 3) := by decide +kernel
theorem dX2_teachings_44 : decode cX2_teachings 44 = .ok (.iload_n 1, 1) := by decide +kernel
theorem dX2_teachings_45 : decode cX2_teachings 45 = .ok (.goto 4, 3) := by decide +kernel
theorem dX2_teachings_48 : decode cX2_teachings 48 = .ok (.iconst (-1), 1) := by decide +kernel
theorem dX2_teachings_49 : decode cX2_teachings 49 = .ok (.ireturn, 1) := by decide +kernel
theorem dX2_lessonOf_0 : decode cX2_lessonOf 0 = .ok (.iload_n 1, 1) := by decide +kernel
theorem dX2_lessonOf_1 : decode cX2_lessonOf 1 = .ok (.ifCond .lt 21, 3) := by decide +kernel
theorem dX2_lessonOf_4 : decode cX2_lessonOf 4 = .ok (.iload_n 1, 1) := by decide +kernel
theorem dX2_lessonOf_5 : decode cX2_lessonOf 5 = .ok (.aload_n 0, 1) := by decide +kernel
theorem dX2_lessonOf_6 : decode cX2_lessonOf 6 = .ok (.getfield 21, 3) := by decide +kernel
theorem dX2_lessonOf_9 : decode cX2_lessonOf 9 = .ok (.arraylength, 1) := by decide +kernel
theorem dX2_lessonOf_10 : decode cX2_lessonOf 10 = .ok (.if_icmp .ge 12, 3) := by decide +kernel
theorem dX2_lessonOf_13 : decode cX2_lessonOf 13 = .ok (.aload_n 0, 1) := by decide +kernel
theorem dX2_lessonOf_14 : decode cX2_lessonOf 14 = .ok (.getfield 21, 3) := by decide +kernel
theorem dX2_lessonOf_17 : decode cX2_lessonOf 17 = .ok (.iload_n 1, 1) := by decide +kernel
theorem dX2_lessonOf_18 : decode cX2_lessonOf 18 = .ok (.iaload, 1) := by decide +kernel
theorem dX2_lessonOf_19 : decode cX2_lessonOf 19 = .ok (.goto 4, 3) := by decide +kernel
theorem dX2_lessonOf_22 : decode cX2_lessonOf 22 = .ok (.iconst (-1), 1) := by decide +kernel
theorem dX2_lessonOf_23 : decode cX2_lessonOf 23 = .ok (.ireturn, 1) := by decide +kernel
theorem dX2_costFrom_0 : decode cX2_costFrom 0 = .ok (.iload_n 1, 1) := by decide +kernel
theorem dX2_costFrom_1 : decode cX2_costFrom 1 = .ok (.sipush 256, 3) := by decide +kernel
theorem dX2_costFrom_4 : decode cX2_costFrom 4 = .ok (.imul, 1) := by decide +kernel
theorem dX2_costFrom_5 : decode cX2_costFrom 5 = .ok (.iload_n 2, 1) := by decide +kernel
theorem dX2_costFrom_6 : decode cX2_costFrom 6 = .ok (.iadd, 1) := by decide +kernel
theorem dX2_costFrom_7 : decode cX2_costFrom 7 = .ok (.istore_n 3, 1) := by decide +kernel
theorem dX2_costFrom_8 : decode cX2_costFrom 8 = .ok (.iload_n 3, 1) := by decide +kernel
theorem dX2_costFrom_9 : decode cX2_costFrom 9 = .ok (.ifCond .lt 21, 3) := by decide +kernel
theorem dX2_costFrom_12 : decode cX2_costFrom 12 = .ok (.iload_n 3, 1) := by decide +kernel
theorem dX2_costFrom_13 : decode cX2_costFrom 13 = .ok (.aload_n 0, 1) := by decide +kernel
theorem dX2_costFrom_14 : decode cX2_costFrom 14 = .ok (.getfield 11, 3) := by decide +kernel
theorem dX2_costFrom_17 : decode cX2_costFrom 17 = .ok (.arraylength, 1) := by decide +kernel
theorem dX2_costFrom_18 : decode cX2_costFrom 18 = .ok (.if_icmp .ge 12, 3) := by decide +kernel
theorem dX2_costFrom_21 : decode cX2_costFrom 21 = .ok (.aload_n 0, 1) := by decide +kernel
theorem dX2_costFrom_22 : decode cX2_costFrom 22 = .ok (.getfield 11, 3) := by decide +kernel
theorem dX2_costFrom_25 : decode cX2_costFrom 25 = .ok (.iload_n 3, 1) := by decide +kernel
theorem dX2_costFrom_26 : decode cX2_costFrom 26 = .ok (.iaload, 1) := by decide +kernel
theorem dX2_costFrom_27 : decode cX2_costFrom 27 = .ok (.goto 6, 3) := by decide +kernel
theorem dX2_costFrom_30 : decode cX2_costFrom 30 = .ok (.sipush 1000, 3) := by decide +kernel
theorem dX2_costFrom_33 : decode cX2_costFrom 33 = .ok (.ireturn, 1) := by decide +kernel
theorem dX2_putCost_0 : decode cX2_putCost 0 = .ok (.iload_n 1, 1) := by decide +kernel
theorem dX2_putCost_1 : decode cX2_putCost 1 = .ok (.sipush 256, 3) := by decide +kernel
theorem dX2_putCost_4 : decode cX2_putCost 4 = .ok (.imul, 1) := by decide +kernel
theorem dX2_putCost_5 : decode cX2_putCost 5 = .ok (.iload_n 2, 1) := by decide +kernel
theorem dX2_putCost_6 : decode cX2_putCost 6 = .ok (.iadd, 1) := by decide +kernel
theorem dX2_putCost_7 : decode cX2_putCost 7 = .ok (.istore 4, 2) := by decide +kernel
theorem dX2_putCost_9 : decode cX2_putCost 9 = .ok (.iload 4, 2) := by decide +kernel
theorem dX2_putCost_11 : decode cX2_putCost 11 = .ok (.ifCond .lt 21, 3) := by decide +kernel
theorem dX2_putCost_14 : decode cX2_putCost 14 = .ok (.iload 4, 2) := by decide +kernel
theorem dX2_putCost_16 : decode cX2_putCost 16 = .ok (.aload_n 0, 1) := by decide +kernel
theorem dX2_putCost_17 : decode cX2_putCost 17 = .ok (.getfield 11, 3) := by decide +kernel
theorem dX2_putCost_20 : decode cX2_putCost 20 = .ok (.arraylength, 1) := by decide +kernel
theorem dX2_putCost_21 : decode cX2_putCost 21 = .ok (.if_icmp .ge 11, 3) := by decide +kernel
theorem dX2_putCost_24 : decode cX2_putCost 24 = .ok (.aload_n 0, 1) := by decide +kernel
theorem dX2_putCost_25 : decode cX2_putCost 25 = .ok (.getfield 11, 3) := by decide +kernel
theorem dX2_putCost_28 : decode cX2_putCost 28 = .ok (.iload 4, 2) := by decide +kernel
theorem dX2_putCost_30 : decode cX2_putCost 30 = .ok (.iload_n 3, 1) := by decide +kernel
theorem dX2_putCost_31 : decode cX2_putCost 31 = .ok (.iastore, 1) := by decide +kernel
theorem dX2_putCost_32 : decode cX2_putCost 32 = .ok (.return_, 1) := by decide +kernel
theorem dX3_init_0 : decode cX3_init 0 = .ok (.aload_n 0, 1) := by decide +kernel
theorem dX3_init_1 : decode cX3_init 1 = .ok (.invokespecial 3, 3) := by decide +kernel
theorem dX3_init_4 : decode cX3_init 4 = .ok (.aload_n 0, 1) := by decide +kernel
theorem dX3_init_5 : decode cX3_init 5 = .ok (.iconst 0, 1) := by decide +kernel
theorem dX3_init_6 : decode cX3_init 6 = .ok (.putfield 9, 3) := by decide +kernel
theorem dX3_init_9 : decode cX3_init 9 = .ok (.aload_n 0, 1) := by decide +kernel
theorem dX3_init_10 : decode cX3_init 10 = .ok (.iconst (-1), 1) := by decide +kernel
theorem dX3_init_11 : decode cX3_init 11 = .ok (.putfield 15, 3) := by decide +kernel
theorem dX3_init_14 : decode cX3_init 14 = .ok (.aload_n 0, 1) := by decide +kernel
theorem dX3_init_15 : decode cX3_init 15 = .ok (.new 18, 3) := by decide +kernel
theorem dX3_init_18 : decode cX3_init 18 = .ok (.dup, 1) := by decide +kernel
theorem dX3_init_19 : decode cX3_init 19 = .ok (.invokespecial 20, 3) := by decide +kernel
theorem dX3_init_22 : decode cX3_init 22 = .ok (.putfield 21, 3) := by decide +kernel
theorem dX3_init_25 : decode cX3_init 25 = .ok (.aload_n 0, 1) := by decide +kernel
theorem dX3_init_26 : decode cX3_init 26 = .ok (.iconst 0, 1) := by decide +kernel
theorem dX3_init_27 : decode cX3_init 27 = .ok (.putfield 25, 3) := by decide +kernel
theorem dX3_init_30 : decode cX3_init 30 = .ok (.aload_n 0, 1) := by decide +kernel
theorem dX3_init_31 : decode cX3_init 31 = .ok (.iconst 1, 1) := by decide +kernel
theorem dX3_init_32 : decode cX3_init 32 = .ok (.putfield 30, 3) := by decide +kernel
theorem dX3_init_35 : decode cX3_init 35 = .ok (.aload_n 0, 1) := by decide +kernel
theorem dX3_init_36 : decode cX3_init 36 = .ok (.sipush 400, 3) := by decide +kernel
theorem dX3_init_39 : decode cX3_init 39 = .ok (.newarray .int, 2) := by decide +kernel
theorem dX3_init_41 : decode cX3_init 41 = .ok (.putfield 33, 3) := by decide +kernel
theorem dX3_init_44 : decode cX3_init 44 = .ok (.aload_n 0, 1) := by decide +kernel
theorem dX3_init_45 : decode cX3_init 45 = .ok (.iconst 0, 1) := by decide +kernel
theorem dX3_init_46 : decode cX3_init 46 = .ok (.putfield 37, 3) := by decide +kernel
theorem dX3_init_49 : decode cX3_init 49 = .ok (.return_, 1) := by decide +kernel
theorem dX3_read_0 : decode cX3_read 0 = .ok (.aload_n 0, 1) := by decide +kernel
theorem dX3_read_1 : decode cX3_read 1 = .ok (.getfield 21, 3) := by decide +kernel
theorem dX3_read_4 : decode cX3_read 4 = .ok (.aload_n 1, 1) := by decide +kernel
theorem dX3_read_5 : decode cX3_read 5 = .ok (.iload_n 2, 1) := by decide +kernel
theorem dX3_read_6 : decode cX3_read 6 = .ok (.invokevirtual 40, 3) := by decide +kernel
theorem dX3_read_9 : decode cX3_read 9 = .ok (.aload_n 0, 1) := by decide +kernel
theorem dX3_read_10 : decode cX3_read 10 = .ok (.iconst 0, 1) := by decide +kernel
theorem dX3_read_11 : decode cX3_read 11 = .ok (.putfield 25, 3) := by decide +kernel
theorem dX3_read_14 : decode cX3_read 14 = .ok (.aload_n 0, 1) := by decide +kernel
theorem dX3_read_15 : decode cX3_read 15 = .ok (.aload_n 0, 1) := by decide +kernel
theorem dX3_read_16 : decode cX3_read 16 = .ok (.getfield 21, 3) := by decide +kernel
theorem dX3_read_19 : decode cX3_read 19 = .ok (.iconst 0, 1) := by decide +kernel
theorem dX3_read_20 : decode cX3_read 20 = .ok (.invokevirtual 43, 3) := by decide +kernel
theorem dX3_read_23 : decode cX3_read 23 = .ok (.putfield 30, 3) := by decide +kernel
theorem dX3_read_26 : decode cX3_read 26 = .ok (.aload_n 0, 1) := by decide +kernel
theorem dX3_read_27 : decode cX3_read 27 = .ok (.iconst 0, 1) := by decide +kernel
theorem dX3_read_28 : decode cX3_read 28 = .ok (.putfield 9, 3) := by decide +kernel
theorem dX3_read_31 : decode cX3_read 31 = .ok (.aload_n 0, 1) := by decide +kernel
theorem dX3_read_32 : decode cX3_read 32 = .ok (.iconst 0, 1) := by decide +kernel
theorem dX3_read_33 : decode cX3_read 33 = .ok (.putfield 37, 3) := by decide +kernel
theorem dX3_read_36 : decode cX3_read 36 = .ok (.aload_n 0, 1) := by decide +kernel
theorem dX3_read_37 : decode cX3_read 37 = .ok (.sipush 301, 3) := by decide +kernel
theorem dX3_read_40 : decode cX3_read 40 = .ok (.invokevirtual 47, 3) := by decide +kernel
theorem dX3_read_43 : decode cX3_read 43 = .ok (.aload_n 0, 1) := by decide +kernel
theorem dX3_read_44 : decode cX3_read 44 = .ok (.invokevirtual 51, 3) := by decide +kernel
theorem dX3_read_47 : decode cX3_read 47 = .ok (.aload_n 0, 1) := by decide +kernel
theorem dX3_read_48 : decode cX3_read 48 = .ok (.getfield 30, 3) := by decide +kernel
theorem dX3_read_51 : decode cX3_read 51 = .ok (.sipush 302, 3) := by decide +kernel
theorem dX3_read_54 : decode cX3_read 54 = .ok (.if_icmp .ne 15, 3) := by decide +kernel
theorem dX3_read_57 : decode cX3_read 57 = .ok (.aload_n 0, 1) := by decide +kernel
theorem dX3_read_58 : decode cX3_read 58 = .ok (.invokevirtual 54, 3) := by decide +kernel
theorem dX3_read_61 : decode cX3_read 61 = .ok (.aload_n 0, 1) := by decide +kernel
theorem dX3_read_62 : decode cX3_read 62 = .ok (.iconst 0, 1) := by decide +kernel
theorem dX3_read_63 : decode cX3_read 63 = .ok (.invokevirtual 57, 3) := by decide +kernel
theorem dX3_read_66 : decode cX3_read 66 = .ok (.goto 8, 3) := by decide +kernel
theorem dX3_read_69 : decode cX3_read 69 = .ok (.aload_n 0, 1) := by decide +kernel
theorem dX3_read_70 : decode cX3_read 70 = .ok (.iconst 1, 1) := by decide +kernel
theorem dX3_read_71 : decode cX3_read 71 = .ok (.invokevirtual 60, 3) := by decide +kernel
theorem dX3_read_74 : decode cX3_read 74 = .ok (.aload_n 0, 1) := by decide +kernel
theorem dX3_read_75 : decode cX3_read 75 = .ok (.getfield 30, 3) := by decide +kernel
theorem dX3_read_78 : decode cX3_read 78 = .ok (.sipush 303, 3) := by decide +kernel
theorem dX3_read_81 : decode cX3_read 81 = .ok (.if_icmp .ne 15, 3) := by decide +kernel
theorem dX3_read_84 : decode cX3_read 84 = .ok (.aload_n 0, 1) := by decide +kernel
theorem dX3_read_85 : decode cX3_read 85 = .ok (.invokevirtual 54, 3) := by decide +kernel
theorem dX3_read_88 : decode cX3_read 88 = .ok (.aload_n 0, 1) := by decide +kernel
theorem dX3_read_89 : decode cX3_read 89 = .ok (.iconst 0, 1) := by decide +kernel
theorem dX3_read_90 : decode cX3_read 90 = .ok (.invokevirtual 57, 3) := by decide +kernel
theorem dX3_read_93 : decode cX3_read 93 = .ok (.goto 8, 3) := by decide +kernel
theorem dX3_read_96 : decode cX3_read 96 = .ok (.aload_n 0, 1) := by decide +kernel
theorem dX3_read_97 : decode cX3_read 97 = .ok (.iconst 0, 1) := by decide +kernel
theorem dX3_read_98 : decode cX3_read 98 = .ok (.invokevirtual 60, 3) := by decide +kernel
theorem dX3_read_101 : decode cX3_read 101 = .ok (.aload_n 0, 1) := by decide +kernel
theorem dX3_read_102 : decode cX3_read 102 = .ok (.bipush 59, 2) := by decide +kernel
theorem dX3_read_104 : decode cX3_read 104 = .ok (.invokevirtual 47, 3) := by decide +kernel
theorem dX3_read_107 : decode cX3_read 107 = .ok (.aload_n 0, 1) := by decide +kernel
theorem dX3_read_108 : decode cX3_read 108 = .ok (.getfield 30, 3) := by decide +kernel
theorem dX3_read_111 : decode cX3_read 111 = .ok (.iconst 1, 1) := by decide +kernel
theorem dX3_read_112 : decode cX3_read 112 = .ok (.if_icmp .eq 8, 3) := by decide +kernel
theorem dX3_read_115 : decode cX3_read 115 = .ok (.aload_n 0, 1) := by decide +kernel
theorem dX3_read_116 : decode cX3_read 116 = .ok (.iconst 1, 1) := by decide +kernel
theorem dX3_read_117 : decode cX3_read 117 = .ok (.invokevirtual 63, 3) := by decide +kernel
theorem dX3_read_120 : decode cX3_read 120 = .ok (.aload_n 0, 1) := by decide +kernel
theorem dX3_read_121 : decode cX3_read 121 = .ok (.aload_n 0, 1) := by decide +kernel
theorem dX3_read_122 : decode cX3_read 122 = .ok (.getfield 9, 3) := by decide +kernel
theorem dX3_read_125 : decode cX3_read 125 = .ok (.ifCond .ne 7, 3) := by decide +kernel
theorem dX3_read_128 : decode cX3_read 128 = .ok (.iconst (-1), 1) := by decide +kernel
theorem dX3_read_129 : decode cX3_read 129 = .ok (.goto 14, 3) := by decide +kernel
theorem dX3_read_132 : decode cX3_read 132 = .ok (.aload_n 0, 1) := by decide +kernel
theorem dX3_read_133 : decode cX3_read 133 = .ok (.getfield 21, 3) := by decide +kernel
theorem dX3_read_136 : decode cX3_read 136 = .ok (.aload_n 0, 1) := by decide +kernel
theorem dX3_read_137 : decode cX3_read 137 = .ok (.getfield 25, 3) := by decide +kernel
theorem dX3_read_140 : decode cX3_read 140 = .ok (.invokevirtual 66, 3) := by decide +kernel
theorem dX3_read_143 : decode cX3_read 143 = .ok (.putfield 15, 3) := by decide +kernel
theorem dX3_read_146 : decode cX3_read 146 = .ok (.aload_n 0, 1) := by decide +kernel
theorem dX3_read_147 : decode cX3_read 147 = .ok (.getfield 9, 3) := by decide +kernel
theorem dX3_read_150 : decode cX3_read 150 = .ok (.ifCond .ne 7, 3) := by decide +kernel
theorem dX3_read_153 : decode cX3_read 153 = .ok (.iconst 1, 1) := by decide +kernel
theorem dX3_read_154 : decode cX3_read 154 = .ok (.goto 4, 3) := by decide +kernel
theorem dX3_read_157 : decode cX3_read 157 = .ok (.iconst 0, 1) := by decide +kernel
theorem dX3_read_158 : decode cX3_read 158 = .ok (.ireturn, 1) := by decide +kernel
theorem dX3_copyOfTokens_0 : decode cX3_copyOfTokens 0 = .ok (.aload_n 0, 1) := by decide +kernel
theorem dX3_copyOfTokens_1 : decode cX3_copyOfTokens 1 = .ok (.getfield 21, 3) := by decide +kernel
theorem dX3_copyOfTokens_4 : decode cX3_copyOfTokens 4 = .ok (.invokevirtual 69, 3) := by decide +kernel
theorem dX3_copyOfTokens_7 : decode cX3_copyOfTokens 7 = .ok (.areturn, 1) := by decide +kernel
theorem dX3_copyOfCode_0 : decode cX3_copyOfCode 0 = .ok (.aload_n 0, 1) := by decide +kernel
theorem dX3_copyOfCode_1 : decode cX3_copyOfCode 1 = .ok (.getfield 33, 3) := by decide +kernel
theorem dX3_copyOfCode_4 : decode cX3_copyOfCode 4 = .ok (.iconst 0, 1) := by decide +kernel
theorem dX3_copyOfCode_5 : decode cX3_copyOfCode 5 = .ok (.aload_n 0, 1) := by decide +kernel
theorem dX3_copyOfCode_6 : decode cX3_copyOfCode 6 = .ok (.getfield 37, 3) := by decide +kernel
theorem dX3_copyOfCode_9 : decode cX3_copyOfCode 9 = .ok (.invokestatic 73, 3) := by decide +kernel
theorem dX3_copyOfCode_12 : decode cX3_copyOfCode 12 = .ok (.invokestatic 79, 3) := by decide +kernel
theorem dX3_copyOfCode_15 : decode cX3_copyOfCode 15 = .ok (.areturn, 1) := by decide +kernel
theorem dX3_readConditions_0 : decode cX3_readConditions 0 = .ok (.aload_n 0, 1) := by decide +kernel
theorem dX3_readConditions_1 : decode cX3_readConditions 1 = .ok (.iload_n 1, 1) := by decide +kernel
theorem dX3_readConditions_2 : decode cX3_readConditions 2 = .ok (.invokevirtual 85, 3) := by decide +kernel
theorem dX3_readConditions_5 : decode cX3_readConditions 5 = .ok (.iconst 0, 1) := by decide +kernel
theorem dX3_readConditions_6 : decode cX3_readConditions 6 = .ok (.istore_n 2, 1) := by decide +kernel
theorem dX3_readConditions_7 : decode cX3_readConditions 7 = .ok (.iconst 0, 1) := by decide +kernel
theorem dX3_readConditions_8 : decode cX3_readConditions 8 = .ok (.istore_n 3, 1) := by decide +kernel
theorem dX3_readConditions_9 : decode cX3_readConditions 9 = .ok (.iload_n 3, 1) := by decide +kernel
theorem dX3_readConditions_10 : decode cX3_readConditions 10 = .ok (.sipush 400, 3) := by decide +kernel
theorem dX3_readConditions_13 : decode cX3_readConditions 13 = .ok (.if_icmp .ge 98, 3) := by decide +kernel
theorem dX3_readConditions_16 : decode cX3_readConditions 16 = .ok (.aload_n 0, 1) := by decide +kernel
theorem dX3_readConditions_17 : decode cX3_readConditions 17 = .ok (.getfield 30, 3) := by decide +kernel
theorem dX3_readConditions_20 : decode cX3_readConditions 20 = .ok (.sipush 305, 3) := by decide +kernel
theorem dX3_readConditions_23 : decode cX3_readConditions 23 = .ok (.if_icmp .eq 13, 3) := by decide +kernel
theorem dX3_readConditions_26 : decode cX3_readConditions 26 = .ok (.aload_n 0, 1) := by decide +kernel
theorem dX3_readConditions_27 : decode cX3_readConditions 27 = .ok (.getfield 30, 3) := by decide +kernel
theorem dX3_readConditions_30 : decode cX3_readConditions 30 = .ok (.sipush 304, 3) := by decide +kernel
theorem dX3_readConditions_33 : decode cX3_readConditions 33 = .ok (.if_icmp .ne 78, 3) := by decide +kernel
theorem dX3_readConditions_36 : decode cX3_readConditions 36 = .ok (.aload_n 0, 1) := by decide +kernel
theorem dX3_readConditions_37 : decode cX3_readConditions 37 = .ok (.getfield 30, 3) := by decide +kernel
theorem dX3_readConditions_40 : decode cX3_readConditions 40 = .ok (.sipush 305, 3) := by decide +kernel
theorem dX3_readConditions_43 : decode cX3_readConditions 43 = .ok (.if_icmp .ne 7, 3) := by decide +kernel
theorem dX3_readConditions_46 : decode cX3_readConditions 46 = .ok (.iconst 1, 1) := by decide +kernel
theorem dX3_readConditions_47 : decode cX3_readConditions 47 = .ok (.goto 4, 3) := by decide +kernel
theorem dX3_readConditions_50 : decode cX3_readConditions 50 = .ok (.iconst 0, 1) := by decide +kernel
theorem dX3_readConditions_51 : decode cX3_readConditions 51 = .ok (.istore 4, 2) := by decide +kernel
theorem dX3_readConditions_53 : decode cX3_readConditions 53 = .ok (.iload 4, 2) := by decide +kernel
theorem dX3_readConditions_55 : decode cX3_readConditions 55 = .ok (.ifCond .ne 14, 3) := by decide +kernel
theorem dX3_readConditions_58 : decode cX3_readConditions 58 = .ok (.iload_n 2, 1) := by decide +kernel
theorem dX3_readConditions_59 : decode cX3_readConditions 59 = .ok (.ifCond .eq 10, 3) := by decide +kernel
theorem dX3_readConditions_62 : decode cX3_readConditions 62 = .ok (.aload_n 0, 1) := by decide +kernel
theorem dX3_readConditions_63 : decode cX3_readConditions 63 = .ok (.sipush (-304), 3) := by decide +kernel
theorem dX3_readConditions_66 : decode cX3_readConditions 66 = .ok (.invokevirtual 60, 3) := by decide +kernel
theorem dX3_readConditions_69 : decode cX3_readConditions 69 = .ok (.aload_n 0, 1) := by decide +kernel
theorem dX3_readConditions_70 : decode cX3_readConditions 70 = .ok (.invokevirtual 54, 3) := by decide +kernel
theorem dX3_readConditions_73 : decode cX3_readConditions 73 = .ok (.aload_n 0, 1) := by decide +kernel
theorem dX3_readConditions_74 : decode cX3_readConditions 74 = .ok (.iload_n 1, 1) := by decide +kernel
theorem dX3_readConditions_75 : decode cX3_readConditions 75 = .ok (.invokevirtual 85, 3) := by decide +kernel
theorem dX3_readConditions_78 : decode cX3_readConditions 78 = .ok (.iload 4, 2) := by decide +kernel
theorem dX3_readConditions_80 : decode cX3_readConditions 80 = .ok (.ifCond .eq 10, 3) := by decide +kernel
theorem dX3_readConditions_83 : decode cX3_readConditions 83 = .ok (.aload_n 0, 1) := by decide +kernel
theorem dX3_readConditions_84 : decode cX3_readConditions 84 = .ok (.sipush (-305), 3) := by decide +kernel
theorem dX3_readConditions_87 : decode cX3_readConditions 87 = .ok (.invokevirtual 60, 3) := by decide +kernel
theorem dX3_readConditions_90 : decode cX3_readConditions 90 = .ok (.iload_n 2, 1) := by decide +kernel
theorem dX3_readConditions_91 : decode cX3_readConditions 91 = .ok (.ifCond .ne 8, 3) := by decide +kernel
theorem dX3_readConditions_94 : decode cX3_readConditions 94 = .ok (.iload 4, 2) := by decide +kernel
theorem dX3_readConditions_96 : decode cX3_readConditions 96 = .ok (.ifCond .ne 7, 3) := by decide +kernel
theorem dX3_readConditions_99 : decode cX3_readConditions 99 = .ok (.iconst 1, 1) := by decide +kernel
theorem dX3_readConditions_100 : decode cX3_readConditions 100 = .ok (.goto 4, 3) := by decide +kernel
theorem dX3_readConditions_103 : decode cX3_readConditions 103 = .ok (.iconst 0, 1) := by decide +kernel
theorem dX3_readConditions_104 : decode cX3_readConditions 104 = .ok (.istore_n 2, 1) := by decide +kernel
theorem dX3_readConditions_105 : decode cX3_readConditions 105 = .ok (.iinc 3 1, 3) := by decide +kernel
theorem dX3_readConditions_108 : decode cX3_readConditions 108 = .ok (.goto (-99), 3) := by decide +kernel
theorem dX3_readConditions_111 : decode cX3_readConditions 111 = .ok (.iload_n 2, 1) := by decide +kernel
theorem dX3_readConditions_112 : decode cX3_readConditions 112 = .ok (.ifCond .eq 10, 3) := by decide +kernel
theorem dX3_readConditions_115 : decode cX3_readConditions 115 = .ok (.aload_n 0, 1) := by decide +kernel
theorem dX3_readConditions_116 : decode cX3_readConditions 116 = .ok (.sipush (-304), 3) := by decide +kernel
theorem dX3_readConditions_119 : decode cX3_readConditions 119 = .ok (.invokevirtual 60, 3) := by decide +kernel
theorem dX3_readConditions_122 : decode cX3_readConditions 122 = .ok (.return_, 1) := by decide +kernel
theorem dX3_readCondition_0 : decode cX3_readCondition 0 = .ok (.aload_n 0, 1) := by decide +kernel
theorem dX3_readCondition_1 : decode cX3_readCondition 1 = .ok (.getfield 30, 3) := by decide +kernel
theorem dX3_readCondition_4 : decode cX3_readCondition 4 = .ok (.bipush 40, 2) := by decide +kernel
theorem dX3_readCondition_6 : decode cX3_readCondition 6 = .ok (.if_icmp .eq 13, 3) := by decide +kernel
theorem dX3_readCondition_9 : decode cX3_readCondition 9 = .ok (.aload_n 0, 1) := by decide +kernel
theorem dX3_readCondition_10 : decode cX3_readCondition 10 = .ok (.getfield 30, 3) := by decide +kernel
theorem dX3_readCondition_13 : decode cX3_readCondition 13 = .ok (.sipush 306, 3) := by decide +kernel
theorem dX3_readCondition_16 : decode cX3_readCondition 16 = .ok (.if_icmp .ne 7, 3) := by decide +kernel
theorem dX3_readCondition_19 : decode cX3_readCondition 19 = .ok (.iconst 1, 1) := by decide +kernel
theorem dX3_readCondition_20 : decode cX3_readCondition 20 = .ok (.goto 4, 3) := by decide +kernel
theorem dX3_readCondition_23 : decode cX3_readCondition 23 = .ok (.iconst 0, 1) := by decide +kernel
theorem dX3_readCondition_24 : decode cX3_readCondition 24 = .ok (.istore_n 2, 1) := by decide +kernel
theorem dX3_readCondition_25 : decode cX3_readCondition 25 = .ok (.iload_n 2, 1) := by decide +kernel
theorem dX3_readCondition_26 : decode cX3_readCondition 26 = .ok (.ifCond .eq 17, 3) := by decide +kernel
theorem dX3_readCondition_29 : decode cX3_readCondition 29 = .ok (.iload_n 1, 1) := by decide +kernel
theorem dX3_readCondition_30 : decode cX3_readCondition 30 = .ok (.bipush 8, 2) := by decide +kernel
theorem dX3_readCondition_32 : decode cX3_readCondition 32 = .ok (.if_icmp .lt 11, 3) := by decide +kernel
theorem dX3_readCondition_35 : decode cX3_readCondition 35 = .ok (.aload_n 0, 1) := by decide +kernel
theorem dX3_readCondition_36 : decode cX3_readCondition 36 = .ok (.iconst 3, 1) := by decide +kernel
theorem dX3_readCondition_37 : decode cX3_readCondition 37 = .ok (.invokevirtual 63, 3) := by decide +kernel
theorem dX3_readCondition_40 : decode cX3_readCondition 40 = .ok (.goto 86, 3) := by decide +kernel
theorem dX3_readCondition_43 : decode cX3_readCondition 43 = .ok (.aload_n 0, 1) := by decide +kernel
theorem dX3_readCondition_44 : decode cX3_readCondition 44 = .ok (.getfield 30, 3) := by decide +kernel
theorem dX3_readCondition_47 : decode cX3_readCondition 47 = .ok (.bipush 40, 2) := by decide +kernel
theorem dX3_readCondition_49 : decode cX3_readCondition 49 = .ok (.if_icmp .ne 23, 3) := by decide +kernel
theorem dX3_readCondition_52 : decode cX3_readCondition 52 = .ok (.aload_n 0, 1) := by decide +kernel
theorem dX3_readCondition_53 : decode cX3_readCondition 53 = .ok (.invokevirtual 54, 3) := by decide +kernel
theorem dX3_readCondition_56 : decode cX3_readCondition 56 = .ok (.aload_n 0, 1) := by decide +kernel
theorem dX3_readCondition_57 : decode cX3_readCondition 57 = .ok (.iload_n 1, 1) := by decide +kernel
theorem dX3_readCondition_58 : decode cX3_readCondition 58 = .ok (.iconst 1, 1) := by decide +kernel
theorem dX3_readCondition_59 : decode cX3_readCondition 59 = .ok (.iadd, 1) := by decide +kernel
theorem dX3_readCondition_60 : decode cX3_readCondition 60 = .ok (.invokevirtual 57, 3) := by decide +kernel
theorem dX3_readCondition_63 : decode cX3_readCondition 63 = .ok (.aload_n 0, 1) := by decide +kernel
theorem dX3_readCondition_64 : decode cX3_readCondition 64 = .ok (.bipush 41, 2) := by decide +kernel
theorem dX3_readCondition_66 : decode cX3_readCondition 66 = .ok (.invokevirtual 47, 3) := by decide +kernel
theorem dX3_readCondition_69 : decode cX3_readCondition 69 = .ok (.goto 57, 3) := by decide +kernel
theorem dX3_readCondition_72 : decode cX3_readCondition 72 = .ok (.aload_n 0, 1) := by decide +kernel
theorem dX3_readCondition_73 : decode cX3_readCondition 73 = .ok (.getfield 30, 3) := by decide +kernel
theorem dX3_readCondition_76 : decode cX3_readCondition 76 = .ok (.sipush 306, 3) := by decide +kernel
theorem dX3_readCondition_79 : decode cX3_readCondition 79 = .ok (.if_icmp .ne 24, 3) := by decide +kernel
theorem dX3_readCondition_82 : decode cX3_readCondition 82 = .ok (.aload_n 0, 1) := by decide +kernel
theorem dX3_readCondition_83 : decode cX3_readCondition 83 = .ok (.invokevirtual 54, 3) := by decide +kernel
theorem dX3_readCondition_86 : decode cX3_readCondition 86 = .ok (.aload_n 0, 1) := by decide +kernel
theorem dX3_readCondition_87 : decode cX3_readCondition 87 = .ok (.iload_n 1, 1) := by decide +kernel
theorem dX3_readCondition_88 : decode cX3_readCondition 88 = .ok (.iconst 1, 1) := by decide +kernel
theorem dX3_readCondition_89 : decode cX3_readCondition 89 = .ok (.iadd, 1) := by decide +kernel
theorem dX3_readCondition_90 : decode cX3_readCondition 90 = .ok (.invokevirtual 85, 3) := by decide +kernel
theorem dX3_readCondition_93 : decode cX3_readCondition 93 = .ok (.aload_n 0, 1) := by decide +kernel
theorem dX3_readCondition_94 : decode cX3_readCondition 94 = .ok (.sipush (-306), 3) := by decide +kernel
theorem dX3_readCondition_97 : decode cX3_readCondition 97 = .ok (.invokevirtual 60, 3) := by decide +kernel
theorem dX3_readCondition_100 : decode cX3_readCondition 100 = .ok (.goto 26, 3) := by decide +kernel
theorem dX3_readCondition_103 : decode cX3_readCondition 103 = .ok (.aload_n 0, 1) := by decide +kernel
theorem dX3_readCondition_104 : decode cX3_readCondition 104 = .ok (.invokevirtual 51, 3) := by decide +kernel
theorem dX3_readCondition_107 : decode cX3_readCondition 107 = .ok (.aload_n 0, 1) := by decide +kernel
theorem dX3_readCondition_108 : decode cX3_readCondition 108 = .ok (.getfield 30, 3) := by decide +kernel
theorem dX3_readCondition_111 : decode cX3_readCondition 111 = .ok (.istore_n 3, 1) := by decide +kernel
theorem dX3_readCondition_112 : decode cX3_readCondition 112 = .ok (.aload_n 0, 1) := by decide +kernel
theorem dX3_readCondition_113 : decode cX3_readCondition 113 = .ok (.invokevirtual 88, 3) := by decide +kernel
theorem dX3_readCondition_116 : decode cX3_readCondition 116 = .ok (.aload_n 0, 1) := by decide +kernel
theorem dX3_readCondition_117 : decode cX3_readCondition 117 = .ok (.invokevirtual 51, 3) := by decide +kernel
theorem dX3_readCondition_120 : decode cX3_readCondition 120 = .ok (.aload_n 0, 1) := by decide +kernel
theorem dX3_readCondition_121 : decode cX3_readCondition 121 = .ok (.iload_n 3, 1) := by decide +kernel
theorem dX3_readCondition_122 : decode cX3_readCondition 122 = .ok (.ineg, 1) := by decide +kernel
theorem dX3_readCondition_123 : decode cX3_readCondition 123 = .ok (.invokevirtual 60, 3) := by decide +kernel
theorem dX3_readCondition_126 : decode cX3_readCondition 126 = .ok (.return_, 1) := by decide +kernel
theorem dX3_readSum_0 : decode cX3_readSum 0 = .ok (.iconst 0, 1) := by decide +kernel
theorem dX3_readSum_1 : decode cX3_readSum 1 = .ok (.istore_n 1, 1) := by decide +kernel
theorem dX3_readSum_2 : decode cX3_readSum 2 = .ok (.aload_n 0, 1) := by decide +kernel
theorem dX3_readSum_3 : decode cX3_readSum 3 = .ok (.invokevirtual 91, 3) := by decide +kernel
theorem dX3_readSum_6 : decode cX3_readSum 6 = .ok (.iconst 0, 1) := by decide +kernel
theorem dX3_readSum_7 : decode cX3_readSum 7 = .ok (.istore_n 2, 1) := by decide +kernel
theorem dX3_readSum_8 : decode cX3_readSum 8 = .ok (.iload_n 2, 1) := by decide +kernel
theorem dX3_readSum_9 : decode cX3_readSum 9 = .ok (.sipush 400, 3) := by decide +kernel
theorem dX3_readSum_12 : decode cX3_readSum 12 = .ok (.if_icmp .ge 100, 3) := by decide +kernel
theorem dX3_readSum_15 : decode cX3_readSum 15 = .ok (.aload_n 0, 1) := by decide +kernel
theorem dX3_readSum_16 : decode cX3_readSum 16 = .ok (.getfield 30, 3) := by decide +kernel
theorem dX3_readSum_19 : decode cX3_readSum 19 = .ok (.invokestatic 94, 3) := by decide +kernel
theorem dX3_readSum_22 : decode cX3_readSum 22 = .ok (.ifCond .eq 90, 3) := by decide +kernel
theorem dX3_readSum_25 : decode cX3_readSum 25 = .ok (.aload_n 0, 1) := by decide +kernel
theorem dX3_readSum_26 : decode cX3_readSum 26 = .ok (.getfield 30, 3) := by decide +kernel
theorem dX3_readSum_29 : decode cX3_readSum 29 = .ok (.istore_n 3, 1) := by decide +kernel
theorem dX3_readSum_30 : decode cX3_readSum 30 = .ok (.iload_n 3, 1) := by decide +kernel
theorem dX3_readSum_31 : decode cX3_readSum 31 = .ok (.bipush 42, 2) := by decide +kernel
theorem dX3_readSum_33 : decode cX3_readSum 33 = .ok (.if_icmp .eq 9, 3) := by decide +kernel
theorem dX3_readSum_36 : decode cX3_readSum 36 = .ok (.iload_n 3, 1) := by decide +kernel
theorem dX3_readSum_37 : decode cX3_readSum 37 = .ok (.bipush 47, 2) := by decide +kernel
theorem dX3_readSum_39 : decode cX3_readSum 39 = .ok (.if_icmp .ne 7, 3) := by decide +kernel
theorem dX3_readSum_42 : decode cX3_readSum 42 = .ok (.iconst 1, 1) := by decide +kernel
theorem dX3_readSum_43 : decode cX3_readSum 43 = .ok (.goto 4, 3) := by decide +kernel
theorem dX3_readSum_46 : decode cX3_readSum 46 = .ok (.iconst 0, 1) := by decide +kernel
theorem dX3_readSum_47 : decode cX3_readSum 47 = .ok (.istore 4, 2) := by decide +kernel
theorem dX3_readSum_49 : decode cX3_readSum 49 = .ok (.iload 4, 2) := by decide +kernel
theorem dX3_readSum_51 : decode cX3_readSum 51 = .ok (.ifCond .ne 13, 3) := by decide +kernel
theorem dX3_readSum_54 : decode cX3_readSum 54 = .ok (.iload_n 1, 1) := by decide +kernel
theorem dX3_readSum_55 : decode cX3_readSum 55 = .ok (.ifCond .eq 9, 3) := by decide +kernel
theorem dX3_readSum_58 : decode cX3_readSum 58 = .ok (.aload_n 0, 1) := by decide +kernel
theorem dX3_readSum_59 : decode cX3_readSum 59 = .ok (.iload_n 1, 1) := by decide +kernel
theorem dX3_readSum_60 : decode cX3_readSum 60 = .ok (.ineg, 1) := by decide +kernel
theorem dX3_readSum_61 : decode cX3_readSum 61 = .ok (.invokevirtual 60, 3) := by decide +kernel
theorem dX3_readSum_64 : decode cX3_readSum 64 = .ok (.aload_n 0, 1) := by decide +kernel
theorem dX3_readSum_65 : decode cX3_readSum 65 = .ok (.invokevirtual 54, 3) := by decide +kernel
theorem dX3_readSum_68 : decode cX3_readSum 68 = .ok (.iload_n 3, 1) := by decide +kernel
theorem dX3_readSum_69 : decode cX3_readSum 69 = .ok (.bipush 47, 2) := by decide +kernel
theorem dX3_readSum_71 : decode cX3_readSum 71 = .ok (.if_icmp .ne 15, 3) := by decide +kernel
theorem dX3_readSum_74 : decode cX3_readSum 74 = .ok (.aload_n 0, 1) := by decide +kernel
theorem dX3_readSum_75 : decode cX3_readSum 75 = .ok (.iconst 1, 1) := by decide +kernel
theorem dX3_readSum_76 : decode cX3_readSum 76 = .ok (.sipush 9999, 3) := by decide +kernel
theorem dX3_readSum_79 : decode cX3_readSum 79 = .ok (.iconst 0, 1) := by decide +kernel
theorem dX3_readSum_80 : decode cX3_readSum 80 = .ok (.invokevirtual 98, 3) := by decide +kernel
theorem dX3_readSum_83 : decode cX3_readSum 83 = .ok (.goto 7, 3) := by decide +kernel
theorem dX3_readSum_86 : decode cX3_readSum 86 = .ok (.aload_n 0, 1) := by decide +kernel
theorem dX3_readSum_87 : decode cX3_readSum 87 = .ok (.invokevirtual 91, 3) := by decide +kernel
theorem dX3_readSum_90 : decode cX3_readSum 90 = .ok (.iload 4, 2) := by decide +kernel
theorem dX3_readSum_92 : decode cX3_readSum 92 = .ok (.ifCond .eq 12, 3) := by decide +kernel
theorem dX3_readSum_95 : decode cX3_readSum 95 = .ok (.aload_n 0, 1) := by decide +kernel
theorem dX3_readSum_96 : decode cX3_readSum 96 = .ok (.iload_n 3, 1) := by decide +kernel
theorem dX3_readSum_97 : decode cX3_readSum 97 = .ok (.ineg, 1) := by decide +kernel
theorem dX3_readSum_98 : decode cX3_readSum 98 = .ok (.invokevirtual 60, 3) := by decide +kernel
theorem dX3_readSum_101 : decode cX3_readSum 101 = .ok (.goto 5, 3) := by decide +kernel
theorem dX3_readSum_104 : decode cX3_readSum 104 = .ok (.iload_n 3, 1) := by decide +kernel
theorem dX3_readSum_105 : decode cX3_readSum 105 = .ok (.istore_n 1, 1) := by decide +kernel
theorem dX3_readSum_106 : decode cX3_readSum 106 = .ok (.iinc 2 1, 3) := by decide +kernel
theorem dX3_readSum_109 : decode cX3_readSum 109 = .ok (.goto (-101), 3) := by decide +kernel
theorem dX3_readSum_112 : decode cX3_readSum 112 = .ok (.iload_n 1, 1) := by decide +kernel
theorem dX3_readSum_113 : decode cX3_readSum 113 = .ok (.ifCond .eq 9, 3) := by decide +kernel
theorem dX3_readSum_116 : decode cX3_readSum 116 = .ok (.aload_n 0, 1) := by decide +kernel
theorem dX3_readSum_117 : decode cX3_readSum 117 = .ok (.iload_n 1, 1) := by decide +kernel
theorem dX3_readSum_118 : decode cX3_readSum 118 = .ok (.ineg, 1) := by decide +kernel
theorem dX3_readSum_119 : decode cX3_readSum 119 = .ok (.invokevirtual 60, 3) := by decide +kernel
theorem dX3_readSum_122 : decode cX3_readSum 122 = .ok (.return_, 1) := by decide +kernel
theorem dX3_readUnit_0 : decode cX3_readUnit 0 = .ok (.aload_n 0, 1) := by decide +kernel
theorem dX3_readUnit_1 : decode cX3_readUnit 1 = .ok (.getfield 30, 3) := by decide +kernel
theorem dX3_readUnit_4 : decode cX3_readUnit 4 = .ok (.sipush 312, 3) := by decide +kernel
theorem dX3_readUnit_7 : decode cX3_readUnit 7 = .ok (.if_icmp .ne 20, 3) := by decide +kernel
theorem dX3_readUnit_10 : decode cX3_readUnit 10 = .ok (.aload_n 0, 1) := by decide +kernel
theorem dX3_readUnit_11 : decode cX3_readUnit 11 = .ok (.invokevirtual 54, 3) := by decide +kernel
theorem dX3_readUnit_14 : decode cX3_readUnit 14 = .ok (.aload_n 0, 1) := by decide +kernel
theorem dX3_readUnit_15 : decode cX3_readUnit 15 = .ok (.iconst 0, 1) := by decide +kernel
theorem dX3_readUnit_16 : decode cX3_readUnit 16 = .ok (.bipush 23, 2) := by decide +kernel
theorem dX3_readUnit_18 : decode cX3_readUnit 18 = .ok (.sipush 10000, 3) := by decide +kernel
theorem dX3_readUnit_21 : decode cX3_readUnit 21 = .ok (.invokevirtual 98, 3) := by decide +kernel
theorem dX3_readUnit_24 : decode cX3_readUnit 24 = .ok (.goto 38, 3) := by decide +kernel
theorem dX3_readUnit_27 : decode cX3_readUnit 27 = .ok (.aload_n 0, 1) := by decide +kernel
theorem dX3_readUnit_28 : decode cX3_readUnit 28 = .ok (.getfield 30, 3) := by decide +kernel
theorem dX3_readUnit_31 : decode cX3_readUnit 31 = .ok (.invokestatic 102, 3) := by decide +kernel
theorem dX3_readUnit_34 : decode cX3_readUnit 34 = .ok (.ifCond .eq 19, 3) := by decide +kernel
theorem dX3_readUnit_37 : decode cX3_readUnit 37 = .ok (.aload_n 0, 1) := by decide +kernel
theorem dX3_readUnit_38 : decode cX3_readUnit 38 = .ok (.aload_n 0, 1) := by decide +kernel
theorem dX3_readUnit_39 : decode cX3_readUnit 39 = .ok (.getfield 30, 3) := by decide +kernel
theorem dX3_readUnit_42 : decode cX3_readUnit 42 = .ok (.ineg, 1) := by decide +kernel
theorem dX3_readUnit_43 : decode cX3_readUnit 43 = .ok (.invokevirtual 60, 3) := by decide +kernel
theorem dX3_readUnit_46 : decode cX3_readUnit 46 = .ok (.aload_n 0, 1) := by decide +kernel
theorem dX3_readUnit_47 : decode cX3_readUnit 47 = .ok (.invokevirtual 54, 3) := by decide +kernel
theorem dX3_readUnit_50 : decode cX3_readUnit 50 = .ok (.goto 12, 3) := by decide +kernel
theorem dX3_readUnit_53 : decode cX3_readUnit 53 = .ok (.aload_n 0, 1) := by decide +kernel
theorem dX3_readUnit_54 : decode cX3_readUnit 54 = .ok (.iconst 0, 1) := by decide +kernel
theorem dX3_readUnit_55 : decode cX3_readUnit 55 = .ok (.sipush 9999, 3) := by decide +kernel
theorem dX3_readUnit_58 : decode cX3_readUnit 58 = .ok (.iconst 0, 1) := by decide +kernel
theorem dX3_readUnit_59 : decode cX3_readUnit 59 = .ok (.invokevirtual 98, 3) := by decide +kernel
theorem dX3_readUnit_62 : decode cX3_readUnit 62 = .ok (.return_, 1) := by decide +kernel
theorem dX3_takeNumber_0 : decode cX3_takeNumber 0 = .ok (.aload_n 0, 1) := by decide +kernel
theorem dX3_takeNumber_1 : decode cX3_takeNumber 1 = .ok (.getfield 21, 3) := by decide +kernel
theorem dX3_takeNumber_4 : decode cX3_takeNumber 4 = .ok (.aload_n 0, 1) := by decide +kernel
theorem dX3_takeNumber_5 : decode cX3_takeNumber 5 = .ok (.getfield 25, 3) := by decide +kernel
theorem dX3_takeNumber_8 : decode cX3_takeNumber 8 = .ok (.invokevirtual 105, 3) := by decide +kernel
theorem dX3_takeNumber_11 : decode cX3_takeNumber 11 = .ok (.istore 4, 2) := by decide +kernel
theorem dX3_takeNumber_13 : decode cX3_takeNumber 13 = .ok (.aload_n 0, 1) := by decide +kernel
theorem dX3_takeNumber_14 : decode cX3_takeNumber 14 = .ok (.getfield 30, 3) := by decide +kernel
theorem dX3_takeNumber_17 : decode cX3_takeNumber 17 = .ok (.iconst 3, 1) := by decide +kernel
theorem dX3_takeNumber_18 : decode cX3_takeNumber 18 = .ok (.if_icmp .eq 11, 3) := by decide +kernel
theorem dX3_takeNumber_21 : decode cX3_takeNumber 21 = .ok (.aload_n 0, 1) := by decide +kernel
theorem dX3_takeNumber_22 : decode cX3_takeNumber 22 = .ok (.iconst 1, 1) := by decide +kernel
theorem dX3_takeNumber_23 : decode cX3_takeNumber 23 = .ok (.invokevirtual 63, 3) := by decide +kernel
theorem dX3_takeNumber_26 : decode cX3_takeNumber 26 = .ok (.goto 35, 3) := by decide +kernel
theorem dX3_takeNumber_29 : decode cX3_takeNumber 29 = .ok (.iload 4, 2) := by decide +kernel
theorem dX3_takeNumber_31 : decode cX3_takeNumber 31 = .ok (.iload_n 1, 1) := by decide +kernel
theorem dX3_takeNumber_32 : decode cX3_takeNumber 32 = .ok (.if_icmp .lt 9, 3) := by decide +kernel
theorem dX3_takeNumber_35 : decode cX3_takeNumber 35 = .ok (.iload 4, 2) := by decide +kernel
theorem dX3_takeNumber_37 : decode cX3_takeNumber 37 = .ok (.iload_n 2, 1) := by decide +kernel
theorem dX3_takeNumber_38 : decode cX3_takeNumber 38 = .ok (.if_icmp .le 11, 3) := by decide +kernel
theorem dX3_takeNumber_41 : decode cX3_takeNumber 41 = .ok (.aload_n 0, 1) := by decide +kernel
theorem dX3_takeNumber_42 : decode cX3_takeNumber 42 = .ok (.iconst 2, 1) := by decide +kernel
theorem dX3_takeNumber_43 : decode cX3_takeNumber 43 = .ok (.invokevirtual 63, 3) := by decide +kernel
theorem dX3_takeNumber_46 : decode cX3_takeNumber 46 = .ok (.goto 15, 3) := by decide +kernel
theorem dX3_takeNumber_49 : decode cX3_takeNumber 49 = .ok (.aload_n 0, 1) := by decide +kernel
theorem dX3_takeNumber_50 : decode cX3_takeNumber 50 = .ok (.iload 4, 2) := by decide +kernel
theorem dX3_takeNumber_52 : decode cX3_takeNumber 52 = .ok (.iload_n 3, 1) := by decide +kernel
theorem dX3_takeNumber_53 : decode cX3_takeNumber 53 = .ok (.iadd, 1) := by decide +kernel
theorem dX3_takeNumber_54 : decode cX3_takeNumber 54 = .ok (.invokevirtual 60, 3) := by decide +kernel
theorem dX3_takeNumber_57 : decode cX3_takeNumber 57 = .ok (.aload_n 0, 1) := by decide +kernel
theorem dX3_takeNumber_58 : decode cX3_takeNumber 58 = .ok (.invokevirtual 54, 3) := by decide +kernel
theorem dX3_takeNumber_61 : decode cX3_takeNumber 61 = .ok (.return_, 1) := by decide +kernel
theorem dX3_takeComparison_0 : decode cX3_takeComparison 0 = .ok (.aload_n 0, 1) := by decide +kernel
theorem dX3_takeComparison_1 : decode cX3_takeComparison 1 = .ok (.getfield 30, 3) := by decide +kernel
theorem dX3_takeComparison_4 : decode cX3_takeComparison 4 = .ok (.bipush 60, 2) := by decide +kernel
theorem dX3_takeComparison_6 : decode cX3_takeComparison 6 = .ok (.if_icmp .eq 21, 3) := by decide +kernel
theorem dX3_takeComparison_9 : decode cX3_takeComparison 9 = .ok (.aload_n 0, 1) := by decide +kernel
theorem dX3_takeComparison_10 : decode cX3_takeComparison 10 = .ok (.getfield 30, 3) := by decide +kernel
theorem dX3_takeComparison_13 : decode cX3_takeComparison 13 = .ok (.bipush 61, 2) := by decide +kernel
theorem dX3_takeComparison_15 : decode cX3_takeComparison 15 = .ok (.if_icmp .eq 12, 3) := by decide +kernel
theorem dX3_takeComparison_18 : decode cX3_takeComparison 18 = .ok (.aload_n 0, 1) := by decide +kernel
theorem dX3_takeComparison_19 : decode cX3_takeComparison 19 = .ok (.getfield 30, 3) := by decide +kernel
theorem dX3_takeComparison_22 : decode cX3_takeComparison 22 = .ok (.bipush 62, 2) := by decide +kernel
theorem dX3_takeComparison_24 : decode cX3_takeComparison 24 = .ok (.if_icmp .ne 10, 3) := by decide +kernel
theorem dX3_takeComparison_27 : decode cX3_takeComparison 27 = .ok (.aload_n 0, 1) := by decide +kernel
theorem dX3_takeComparison_28 : decode cX3_takeComparison 28 = .ok (.invokevirtual 54, 3) := by decide +kernel
theorem dX3_takeComparison_31 : decode cX3_takeComparison 31 = .ok (.goto 8, 3) := by decide +kernel
theorem dX3_takeComparison_34 : decode cX3_takeComparison 34 = .ok (.aload_n 0, 1) := by decide +kernel
theorem dX3_takeComparison_35 : decode cX3_takeComparison 35 = .ok (.iconst 1, 1) := by decide +kernel
theorem dX3_takeComparison_36 : decode cX3_takeComparison 36 = .ok (.invokevirtual 63, 3) := by decide +kernel
theorem dX3_takeComparison_39 : decode cX3_takeComparison 39 = .ok (.return_, 1) := by decide +kernel
theorem dX3_take_0 : decode cX3_take 0 = .ok (.aload_n 0, 1) := by decide +kernel
theorem dX3_take_1 : decode cX3_take 1 = .ok (.getfield 30, 3) := by decide +kernel
theorem dX3_take_4 : decode cX3_take 4 = .ok (.iload_n 1, 1) := by decide +kernel
theorem dX3_take_5 : decode cX3_take 5 = .ok (.if_icmp .ne 10, 3) := by decide +kernel
theorem dX3_take_8 : decode cX3_take 8 = .ok (.aload_n 0, 1) := by decide +kernel
theorem dX3_take_9 : decode cX3_take 9 = .ok (.invokevirtual 54, 3) := by decide +kernel
theorem dX3_take_12 : decode cX3_take 12 = .ok (.goto 8, 3) := by decide +kernel
theorem dX3_take_15 : decode cX3_take 15 = .ok (.aload_n 0, 1) := by decide +kernel
theorem dX3_take_16 : decode cX3_take 16 = .ok (.iconst 1, 1) := by decide +kernel
theorem dX3_take_17 : decode cX3_take 17 = .ok (.invokevirtual 63, 3) := by decide +kernel
theorem dX3_take_20 : decode cX3_take 20 = .ok (.return_, 1) := by decide +kernel
theorem dX3_step_0 : decode cX3_step 0 = .ok (.aload_n 0, 1) := by decide +kernel
theorem dX3_step_1 : decode cX3_step 1 = .ok (.dup, 1) := by decide +kernel
theorem dX3_step_2 : decode cX3_step 2 = .ok (.getfield 25, 3) := by decide +kernel
theorem dX3_step_5 : decode cX3_step 5 = .ok (.iconst 1, 1) := by decide +kernel
theorem dX3_step_6 : decode cX3_step 6 = .ok (.iadd, 1) := by decide +kernel
theorem dX3_step_7 : decode cX3_step 7 = .ok (.putfield 25, 3) := by decide +kernel
theorem dX3_step_10 : decode cX3_step 10 = .ok (.aload_n 0, 1) := by decide +kernel
theorem dX3_step_11 : decode cX3_step 11 = .ok (.aload_n 0, 1) := by decide +kernel
theorem dX3_step_12 : decode cX3_step 12 = .ok (.getfield 25, 3) := by decide +kernel
theorem dX3_step_15 : decode cX3_step 15 = .ok (.ifCond .lt 47, 3) := by decide +kernel
theorem dX3_step_18 : decode cX3_step 18 = .ok (.aload_n 0, 1) := by decide +kernel
theorem dX3_step_19 : decode cX3_step 19 = .ok (.getfield 25, 3) := by decide +kernel
theorem dX3_step_22 : decode cX3_step 22 = .ok (.aload_n 0, 1) := by decide +kernel
theorem dX3_step_23 : decode cX3_step 23 = .ok (.getfield 21, 3) := by decide +kernel
theorem dX3_step_26 : decode cX3_step 26 = .ok (.getfield 108, 3) := by decide +kernel
theorem dX3_step_29 : decode cX3_step 29 = .ok (.if_icmp .ge 33, 3) := by decide +kernel
theorem dX3_step_32 : decode cX3_step 32 = .ok (.aload_n 0, 1) := by decide +kernel
theorem dX3_step_33 : decode cX3_step 33 = .ok (.getfield 25, 3) := by decide +kernel
theorem dX3_step_36 : decode cX3_step 36 = .ok (.aload_n 0, 1) := by decide +kernel
theorem dX3_step_37 : decode cX3_step 37 = .ok (.getfield 21, 3) := by decide +kernel
theorem dX3_step_40 : decode cX3_step 40 = .ok (.getfield 111, 3) := by decide +kernel
theorem dX3_step_43 : decode cX3_step 43 = .ok (.arraylength, 1) := by decide +kernel
theorem dX3_step_44 : decode cX3_step 44 = .ok (.if_icmp .ge 18, 3) := by decide +kernel
theorem dX3_step_47 : decode cX3_step 47 = .ok (.aload_n 0, 1) := by decide +kernel
theorem dX3_step_48 : decode cX3_step 48 = .ok (.getfield 21, 3) := by decide +kernel
theorem dX3_step_51 : decode cX3_step 51 = .ok (.getfield 111, 3) := by decide +kernel
theorem dX3_step_54 : decode cX3_step 54 = .ok (.aload_n 0, 1) := by decide +kernel
theorem dX3_step_55 : decode cX3_step 55 = .ok (.getfield 25, 3) := by decide +kernel
theorem dX3_step_58 : decode cX3_step 58 = .ok (.iaload, 1) := by decide +kernel
theorem dX3_step_59 : decode cX3_step 59 = .ok (.goto 4, 3) := by decide +kernel
theorem dX3_step_62 : decode cX3_step 62 = .ok (.iconst 1, 1) := by decide +kernel
theorem dX3_step_63 : decode cX3_step 63 = .ok (.putfield 30, 3) := by decide +kernel
theorem dX3_step_66 : decode cX3_step 66 = .ok (.return_, 1) := by decide +kernel
theorem dX3_refuse_0 : decode cX3_refuse 0 = .ok (.aload_n 0, 1) := by decide +kernel
theorem dX3_refuse_1 : decode cX3_refuse 1 = .ok (.aload_n 0, 1) := by decide +kernel
theorem dX3_refuse_2 : decode cX3_refuse 2 = .ok (.getfield 9, 3) := by decide +kernel
theorem dX3_refuse_5 : decode cX3_refuse 5 = .ok (.ifCond .ne 7, 3) := by decide +kernel
theorem dX3_refuse_8 : decode cX3_refuse 8 = .ok (.iload_n 1, 1) := by decide +kernel
theorem dX3_refuse_9 : decode cX3_refuse 9 = .ok (.goto 7, 3) := by decide +kernel
theorem dX3_refuse_12 : decode cX3_refuse 12 = .ok (.aload_n 0, 1) := by decide +kernel
theorem dX3_refuse_13 : decode cX3_refuse 13 = .ok (.getfield 9, 3) := by decide +kernel
theorem dX3_refuse_16 : decode cX3_refuse 16 = .ok (.putfield 9, 3) := by decide +kernel
theorem dX3_refuse_19 : decode cX3_refuse 19 = .ok (.aload_n 0, 1) := by decide +kernel
theorem dX3_refuse_20 : decode cX3_refuse 20 = .ok (.iconst 2, 1) := by decide +kernel
theorem dX3_refuse_21 : decode cX3_refuse 21 = .ok (.putfield 30, 3) := by decide +kernel
theorem dX3_refuse_24 : decode cX3_refuse 24 = .ok (.return_, 1) := by decide +kernel
theorem dX3_emit_0 : decode cX3_emit 0 = .ok (.aload_n 0, 1) := by decide +kernel
theorem dX3_emit_1 : decode cX3_emit 1 = .ok (.getfield 37, 3) := by decide +kernel
theorem dX3_emit_4 : decode cX3_emit 4 = .ok (.ifCond .lt 35, 3) := by decide +kernel
theorem dX3_emit_7 : decode cX3_emit 7 = .ok (.aload_n 0, 1) := by decide +kernel
theorem dX3_emit_8 : decode cX3_emit 8 = .ok (.getfield 37, 3) := by decide +kernel
theorem dX3_emit_11 : decode cX3_emit 11 = .ok (.aload_n 0, 1) := by decide +kernel
theorem dX3_emit_12 : decode cX3_emit 12 = .ok (.getfield 33, 3) := by decide +kernel
theorem dX3_emit_15 : decode cX3_emit 15 = .ok (.arraylength, 1) := by decide +kernel
theorem dX3_emit_16 : decode cX3_emit 16 = .ok (.if_icmp .ge 23, 3) := by decide +kernel
theorem dX3_emit_19 : decode cX3_emit 19 = .ok (.aload_n 0, 1) := by decide +kernel
theorem dX3_emit_20 : decode cX3_emit 20 = .ok (.getfield 33, 3) := by decide +kernel
theorem dX3_emit_23 : decode cX3_emit 23 = .ok (.aload_n 0, 1) := by decide +kernel
theorem dX3_emit_24 : decode cX3_emit 24 = .ok (.getfield 37, 3) := by decide +kernel
theorem dX3_emit_27 : decode cX3_emit 27 = .ok (.iload_n 1, 1) := by decide +kernel
theorem dX3_emit_28 : decode cX3_emit 28 = .ok (.iastore, 1) := by decide +kernel
theorem dX3_emit_29 : decode cX3_emit 29 = .ok (.aload_n 0, 1) := by decide +kernel
theorem dX3_emit_30 : decode cX3_emit 30 = .ok (.dup, 1) := by decide +kernel
theorem dX3_emit_31 : decode cX3_emit 31 = .ok (.getfield 37, 3) := by decide +kernel
theorem dX3_emit_34 : decode cX3_emit 34 = .ok (.iconst 1, 1) := by decide +kernel
theorem dX3_emit_35 : decode cX3_emit 35 = .ok (.iadd, 1) := by decide +kernel
theorem dX3_emit_36 : decode cX3_emit 36 = .ok (.putfield 37, 3) := by decide +kernel
theorem dX3_emit_39 : decode cX3_emit 39 = .ok (.return_, 1) := by decide +kernel
theorem dX4_init_0 : decode cX4_init 0 = .ok (.aload_n 0, 1) := by decide +kernel
theorem dX4_init_1 : decode cX4_init 1 = .ok (.invokespecial 3, 3) := by decide +kernel
theorem dX4_init_4 : decode cX4_init 4 = .ok (.aload_n 0, 1) := by decide +kernel
theorem dX4_init_5 : decode cX4_init 5 = .ok (.iconst 5, 1) := by decide +kernel
theorem dX4_init_6 : decode cX4_init 6 = .ok (.newarray .int, 2) := by decide +kernel
theorem dX4_init_8 : decode cX4_init 8 = .ok (.putfield 11, 3) := by decide +kernel
theorem dX4_init_11 : decode cX4_init 11 = .ok (.aload_n 0, 1) := by decide +kernel
theorem dX4_init_12 : decode cX4_init 12 = .ok (.bipush 24, 2) := by decide +kernel
theorem dX4_init_14 : decode cX4_init 14 = .ok (.newarray .int, 2) := by decide +kernel
theorem dX4_init_16 : decode cX4_init 16 = .ok (.putfield 17, 3) := by decide +kernel
theorem dX4_init_19 : decode cX4_init 19 = .ok (.aload_n 0, 1) := by decide +kernel
theorem dX4_init_20 : decode cX4_init 20 = .ok (.bipush 32, 2) := by decide +kernel
theorem dX4_init_22 : decode cX4_init 22 = .ok (.newarray .int, 2) := by decide +kernel
theorem dX4_init_24 : decode cX4_init 24 = .ok (.putfield 20, 3) := by decide +kernel
theorem dX4_init_27 : decode cX4_init 27 = .ok (.aload_n 0, 1) := by decide +kernel
theorem dX4_init_28 : decode cX4_init 28 = .ok (.iconst 0, 1) := by decide +kernel
theorem dX4_init_29 : decode cX4_init 29 = .ok (.putfield 23, 3) := by decide +kernel
theorem dX4_init_32 : decode cX4_init 32 = .ok (.return_, 1) := by decide +kernel
theorem dX4_takeFacts_0 : decode cX4_takeFacts 0 = .ok (.iload_n 1, 1) := by decide +kernel
theorem dX4_takeFacts_1 : decode cX4_takeFacts 1 = .ok (.ifCond .lt 30, 3) := by decide +kernel
theorem dX4_takeFacts_4 : decode cX4_takeFacts 4 = .ok (.iload_n 1, 1) := by decide +kernel
theorem dX4_takeFacts_5 : decode cX4_takeFacts 5 = .ok (.bipush 99, 2) := by decide +kernel
theorem dX4_takeFacts_7 : decode cX4_takeFacts 7 = .ok (.if_icmp .gt 24, 3) := by decide +kernel
theorem dX4_takeFacts_10 : decode cX4_takeFacts 10 = .ok (.iload_n 2, 1) := by decide +kernel
theorem dX4_takeFacts_11 : decode cX4_takeFacts 11 = .ok (.ifCond .lt 20, 3) := by decide +kernel
theorem dX4_takeFacts_14 : decode cX4_takeFacts 14 = .ok (.iload_n 2, 1) := by decide +kernel
theorem dX4_takeFacts_15 : decode cX4_takeFacts 15 = .ok (.bipush 9, 2) := by decide +kernel
theorem dX4_takeFacts_17 : decode cX4_takeFacts 17 = .ok (.if_icmp .gt 14, 3) := by decide +kernel
theorem dX4_takeFacts_20 : decode cX4_takeFacts 20 = .ok (.iload_n 3, 1) := by decide +kernel
theorem dX4_takeFacts_21 : decode cX4_takeFacts 21 = .ok (.ifCond .lt 10, 3) := by decide +kernel
theorem dX4_takeFacts_24 : decode cX4_takeFacts 24 = .ok (.iload_n 3, 1) := by decide +kernel
theorem dX4_takeFacts_25 : decode cX4_takeFacts 25 = .ok (.sipush 299, 3) := by decide +kernel
theorem dX4_takeFacts_28 : decode cX4_takeFacts 28 = .ok (.if_icmp .le 5, 3) := by decide +kernel
theorem dX4_takeFacts_31 : decode cX4_takeFacts 31 = .ok (.iconst 0, 1) := by decide +kernel
theorem dX4_takeFacts_32 : decode cX4_takeFacts 32 = .ok (.ireturn, 1) := by decide +kernel
theorem dX4_takeFacts_33 : decode cX4_takeFacts 33 = .ok (.iload 4, 2) := by decide +kernel
theorem dX4_takeFacts_35 : decode cX4_takeFacts 35 = .ok (.ifCond .lt 24, 3) := by decide +kernel
theorem dX4_takeFacts_38 : decode cX4_takeFacts 38 = .ok (.iload 4, 2) := by decide +kernel
theorem dX4_takeFacts_40 : decode cX4_takeFacts 40 = .ok (.iconst 1, 1) := by decide +kernel
theorem dX4_takeFacts_41 : decode cX4_takeFacts 41 = .ok (.if_icmp .gt 18, 3) := by decide +kernel
theorem dX4_takeFacts_44 : decode cX4_takeFacts 44 = .ok (.iload 5, 2) := by decide +kernel
theorem dX4_takeFacts_46 : decode cX4_takeFacts 46 = .ok (.bipush (-99), 2) := by decide +kernel
theorem dX4_takeFacts_48 : decode cX4_takeFacts 48 = .ok (.if_icmp .lt 11, 3) := by decide +kernel
theorem dX4_takeFacts_51 : decode cX4_takeFacts 51 = .ok (.iload 5, 2) := by decide +kernel
theorem dX4_takeFacts_53 : decode cX4_takeFacts 53 = .ok (.sipush 299, 3) := by decide +kernel
theorem dX4_takeFacts_56 : decode cX4_takeFacts 56 = .ok (.if_icmp .le 5, 3) := by decide +kernel
theorem dX4_takeFacts_59 : decode cX4_takeFacts 59 = .ok (.iconst 0, 1) := by decide +kernel
theorem dX4_takeFacts_60 : decode cX4_takeFacts 60 = .ok (.ireturn, 1) := by decide +kernel
theorem dX4_takeFacts_61 : decode cX4_takeFacts 61 = .ok (.aload_n 0, 1) := by decide +kernel
theorem dX4_takeFacts_62 : decode cX4_takeFacts 62 = .ok (.sipush 307, 3) := by decide +kernel
theorem dX4_takeFacts_65 : decode cX4_takeFacts 65 = .ok (.iload_n 1, 1) := by decide +kernel
theorem dX4_takeFacts_66 : decode cX4_takeFacts 66 = .ok (.invokevirtual 27, 3) := by decide +kernel
theorem dX4_takeFacts_69 : decode cX4_takeFacts 69 = .ok (.aload_n 0, 1) := by decide +kernel
theorem dX4_takeFacts_70 : decode cX4_takeFacts 70 = .ok (.sipush 308, 3) := by decide +kernel
theorem dX4_takeFacts_73 : decode cX4_takeFacts 73 = .ok (.iload_n 2, 1) := by decide +kernel
theorem dX4_takeFacts_74 : decode cX4_takeFacts 74 = .ok (.invokevirtual 27, 3) := by decide +kernel
theorem dX4_takeFacts_77 : decode cX4_takeFacts 77 = .ok (.aload_n 0, 1) := by decide +kernel
theorem dX4_takeFacts_78 : decode cX4_takeFacts 78 = .ok (.sipush 309, 3) := by decide +kernel
theorem dX4_takeFacts_81 : decode cX4_takeFacts 81 = .ok (.iload_n 3, 1) := by decide +kernel
theorem dX4_takeFacts_82 : decode cX4_takeFacts 82 = .ok (.invokevirtual 27, 3) := by decide +kernel
theorem dX4_takeFacts_85 : decode cX4_takeFacts 85 = .ok (.aload_n 0, 1) := by decide +kernel
theorem dX4_takeFacts_86 : decode cX4_takeFacts 86 = .ok (.sipush 310, 3) := by decide +kernel
theorem dX4_takeFacts_89 : decode cX4_takeFacts 89 = .ok (.iload 4, 2) := by decide +kernel
theorem dX4_takeFacts_91 : decode cX4_takeFacts 91 = .ok (.invokevirtual 27, 3) := by decide +kernel
theorem dX4_takeFacts_94 : decode cX4_takeFacts 94 = .ok (.aload_n 0, 1) := by decide +kernel
theorem dX4_takeFacts_95 : decode cX4_takeFacts 95 = .ok (.sipush 311, 3) := by decide +kernel
theorem dX4_takeFacts_98 : decode cX4_takeFacts 98 = .ok (.iload 5, 2) := by decide +kernel
theorem dX4_takeFacts_100 : decode cX4_takeFacts 100 = .ok (.invokevirtual 27, 3) := by decide +kernel
theorem dX4_takeFacts_103 : decode cX4_takeFacts 103 = .ok (.iconst 1, 1) := by decide +kernel
theorem dX4_takeFacts_104 : decode cX4_takeFacts 104 = .ok (.ireturn, 1) := by decide +kernel
theorem dX4_reckon_0 : decode cX4_reckon 0 = .ok (.iload_n 1, 1) := by decide +kernel
theorem dX4_reckon_1 : decode cX4_reckon 1 = .ok (.ifCond .lt 32, 3) := by decide +kernel
theorem dX4_reckon_4 : decode cX4_reckon 4 = .ok (.iload_n 1, 1) := by decide +kernel
theorem dX4_reckon_5 : decode cX4_reckon 5 = .ok (.aload_n 0, 1) := by decide +kernel
theorem dX4_reckon_6 : decode cX4_reckon 6 = .ok (.getfield 17, 3) := by decide +kernel
theorem dX4_reckon_9 : decode cX4_reckon 9 = .ok (.arraylength, 1) := by decide +kernel
theorem dX4_reckon_10 : decode cX4_reckon 10 = .ok (.if_icmp .ge 23, 3) := by decide +kernel
theorem dX4_reckon_13 : decode cX4_reckon 13 = .ok (.aload_n 0, 1) := by decide +kernel
theorem dX4_reckon_14 : decode cX4_reckon 14 = .ok (.getfield 17, 3) := by decide +kernel
theorem dX4_reckon_17 : decode cX4_reckon 17 = .ok (.iload_n 1, 1) := by decide +kernel
theorem dX4_reckon_18 : decode cX4_reckon 18 = .ok (.aload_n 2, 1) := by decide +kernel
theorem dX4_reckon_19 : decode cX4_reckon 19 = .ok (.ifnonnull 7, 3) := by decide +kernel
theorem dX4_reckon_22 : decode cX4_reckon 22 = .ok (.iconst 0, 1) := by decide +kernel
theorem dX4_reckon_23 : decode cX4_reckon 23 = .ok (.goto 9, 3) := by decide +kernel
theorem dX4_reckon_26 : decode cX4_reckon 26 = .ok (.aload_n 0, 1) := by decide +kernel
theorem dX4_reckon_27 : decode cX4_reckon 27 = .ok (.aload_n 2, 1) := by decide +kernel
theorem dX4_reckon_28 : decode cX4_reckon 28 = .ok (.iload_n 1, 1) := by decide +kernel
theorem dX4_reckon_29 : decode cX4_reckon 29 = .ok (.invokevirtual 31, 3) := by decide +kernel
theorem dX4_reckon_32 : decode cX4_reckon 32 = .ok (.iastore, 1) := by decide +kernel
theorem dX4_reckon_33 : decode cX4_reckon 33 = .ok (.return_, 1) := by decide +kernel
theorem dX4_owedBy_0 : decode cX4_owedBy 0 = .ok (.iload_n 1, 1) := by decide +kernel
theorem dX4_owedBy_1 : decode cX4_owedBy 1 = .ok (.ifCond .lt 21, 3) := by decide +kernel
theorem dX4_owedBy_4 : decode cX4_owedBy 4 = .ok (.iload_n 1, 1) := by decide +kernel
theorem dX4_owedBy_5 : decode cX4_owedBy 5 = .ok (.aload_n 0, 1) := by decide +kernel
theorem dX4_owedBy_6 : decode cX4_owedBy 6 = .ok (.getfield 17, 3) := by decide +kernel
theorem dX4_owedBy_9 : decode cX4_owedBy 9 = .ok (.arraylength, 1) := by decide +kernel
theorem dX4_owedBy_10 : decode cX4_owedBy 10 = .ok (.if_icmp .ge 12, 3) := by decide +kernel
theorem dX4_owedBy_13 : decode cX4_owedBy 13 = .ok (.aload_n 0, 1) := by decide +kernel
theorem dX4_owedBy_14 : decode cX4_owedBy 14 = .ok (.getfield 17, 3) := by decide +kernel
theorem dX4_owedBy_17 : decode cX4_owedBy 17 = .ok (.iload_n 1, 1) := by decide +kernel
theorem dX4_owedBy_18 : decode cX4_owedBy 18 = .ok (.iaload, 1) := by decide +kernel
theorem dX4_owedBy_19 : decode cX4_owedBy 19 = .ok (.goto 4, 3) := by decide +kernel
theorem dX4_owedBy_22 : decode cX4_owedBy 22 = .ok (.iconst 0, 1) := by decide +kernel
theorem dX4_owedBy_23 : decode cX4_owedBy 23 = .ok (.ireturn, 1) := by decide +kernel
theorem dX4_run_0 : decode cX4_run 0 = .ok (.aload_n 0, 1) := by decide +kernel
theorem dX4_run_1 : decode cX4_run 1 = .ok (.iconst 0, 1) := by decide +kernel
theorem dX4_run_2 : decode cX4_run 2 = .ok (.putfield 23, 3) := by decide +kernel
theorem dX4_run_5 : decode cX4_run 5 = .ok (.iconst 0, 1) := by decide +kernel
theorem dX4_run_6 : decode cX4_run 6 = .ok (.istore_n 3, 1) := by decide +kernel
theorem dX4_run_7 : decode cX4_run 7 = .ok (.iload_n 3, 1) := by decide +kernel
theorem dX4_run_8 : decode cX4_run 8 = .ok (.aload_n 1, 1) := by decide +kernel
theorem dX4_run_9 : decode cX4_run 9 = .ok (.invokevirtual 35, 3) := by decide +kernel
theorem dX4_run_12 : decode cX4_run 12 = .ok (.if_icmp .ge 19, 3) := by decide +kernel
theorem dX4_run_15 : decode cX4_run 15 = .ok (.aload_n 0, 1) := by decide +kernel
theorem dX4_run_16 : decode cX4_run 16 = .ok (.aload_n 1, 1) := by decide +kernel
theorem dX4_run_17 : decode cX4_run 17 = .ok (.iload_n 3, 1) := by decide +kernel
theorem dX4_run_18 : decode cX4_run 18 = .ok (.invokevirtual 41, 3) := by decide +kernel
theorem dX4_run_21 : decode cX4_run 21 = .ok (.iload_n 2, 1) := by decide +kernel
theorem dX4_run_22 : decode cX4_run 22 = .ok (.invokevirtual 45, 3) := by decide +kernel
theorem dX4_run_25 : decode cX4_run 25 = .ok (.iinc 3 1, 3) := by decide +kernel
theorem dX4_run_28 : decode cX4_run 28 = .ok (.goto (-21), 3) := by decide +kernel
theorem dX4_run_31 : decode cX4_run 31 = .ok (.aload_n 0, 1) := by decide +kernel
theorem dX4_run_32 : decode cX4_run 32 = .ok (.invokevirtual 48, 3) := by decide +kernel
theorem dX4_run_35 : decode cX4_run 35 = .ok (.istore_n 3, 1) := by decide +kernel
theorem dX4_run_36 : decode cX4_run 36 = .ok (.aload_n 0, 1) := by decide +kernel
theorem dX4_run_37 : decode cX4_run 37 = .ok (.invokevirtual 48, 3) := by decide +kernel
theorem dX4_run_40 : decode cX4_run 40 = .ok (.istore 4, 2) := by decide +kernel
theorem dX4_run_42 : decode cX4_run 42 = .ok (.aload_n 0, 1) := by decide +kernel
theorem dX4_run_43 : decode cX4_run 43 = .ok (.invokevirtual 48, 3) := by decide +kernel
theorem dX4_run_46 : decode cX4_run 46 = .ok (.istore 5, 2) := by decide +kernel
theorem dX4_run_48 : decode cX4_run 48 = .ok (.iload 4, 2) := by decide +kernel
theorem dX4_run_50 : decode cX4_run 50 = .ok (.ifCond .eq 22, 3) := by decide +kernel
theorem dX4_run_53 : decode cX4_run 53 = .ok (.iload_n 3, 1) := by decide +kernel
theorem dX4_run_54 : decode cX4_run 54 = .ok (.ifCond .ne 18, 3) := by decide +kernel
theorem dX4_run_57 : decode cX4_run 57 = .ok (.iconst 0, 1) := by decide +kernel
theorem dX4_run_58 : decode cX4_run 58 = .ok (.sipush 9999, 3) := by decide +kernel
theorem dX4_run_61 : decode cX4_run 61 = .ok (.iload 5, 2) := by decide +kernel
theorem dX4_run_63 : decode cX4_run 63 = .ok (.invokestatic 51, 3) := by decide +kernel
theorem dX4_run_66 : decode cX4_run 66 = .ok (.invokestatic 57, 3) := by decide +kernel
theorem dX4_run_69 : decode cX4_run 69 = .ok (.goto 4, 3) := by decide +kernel
theorem dX4_run_72 : decode cX4_run 72 = .ok (.iconst 0, 1) := by decide +kernel
theorem dX4_run_73 : decode cX4_run 73 = .ok (.ireturn, 1) := by decide +kernel
theorem dX4_runStep_0 : decode cX4_runStep 0 = .ok (.iload_n 1, 1) := by decide +kernel
theorem dX4_runStep_1 : decode cX4_runStep 1 = .ok (.sipush 10000, 3) := by decide +kernel
theorem dX4_runStep_4 : decode cX4_runStep 4 = .ok (.if_icmp .lt 30, 3) := by decide +kernel
theorem dX4_runStep_7 : decode cX4_runStep 7 = .ok (.iload_n 1, 1) := by decide +kernel
theorem dX4_runStep_8 : decode cX4_runStep 8 = .ok (.sipush 10000, 3) := by decide +kernel
theorem dX4_runStep_11 : decode cX4_runStep 11 = .ok (.isub, 1) := by decide +kernel
theorem dX4_runStep_12 : decode cX4_runStep 12 = .ok (.istore_n 3, 1) := by decide +kernel
theorem dX4_runStep_13 : decode cX4_runStep 13 = .ok (.aload_n 0, 1) := by decide +kernel
theorem dX4_runStep_14 : decode cX4_runStep 14 = .ok (.iload_n 3, 1) := by decide +kernel
theorem dX4_runStep_15 : decode cX4_runStep 15 = .ok (.iload_n 2, 1) := by decide +kernel
theorem dX4_runStep_16 : decode cX4_runStep 16 = .ok (.if_icmp .ge 11, 3) := by decide +kernel
theorem dX4_runStep_19 : decode cX4_runStep 19 = .ok (.aload_n 0, 1) := by decide +kernel
theorem dX4_runStep_20 : decode cX4_runStep 20 = .ok (.iload_n 3, 1) := by decide +kernel
theorem dX4_runStep_21 : decode cX4_runStep 21 = .ok (.invokevirtual 60, 3) := by decide +kernel
theorem dX4_runStep_24 : decode cX4_runStep 24 = .ok (.goto 4, 3) := by decide +kernel
theorem dX4_runStep_27 : decode cX4_runStep 27 = .ok (.iconst 0, 1) := by decide +kernel
theorem dX4_runStep_28 : decode cX4_runStep 28 = .ok (.invokevirtual 63, 3) := by decide +kernel
theorem dX4_runStep_31 : decode cX4_runStep 31 = .ok (.goto 85, 3) := by decide +kernel
theorem dX4_runStep_34 : decode cX4_runStep 34 = .ok (.iload_n 1, 1) := by decide +kernel
theorem dX4_runStep_35 : decode cX4_runStep 35 = .ok (.ifCond .lt 11, 3) := by decide +kernel
theorem dX4_runStep_38 : decode cX4_runStep 38 = .ok (.aload_n 0, 1) := by decide +kernel
theorem dX4_runStep_39 : decode cX4_runStep 39 = .ok (.iload_n 1, 1) := by decide +kernel
theorem dX4_runStep_40 : decode cX4_runStep 40 = .ok (.invokevirtual 63, 3) := by decide +kernel
theorem dX4_runStep_43 : decode cX4_runStep 43 = .ok (.goto 73, 3) := by decide +kernel
theorem dX4_runStep_46 : decode cX4_runStep 46 = .ok (.iload_n 1, 1) := by decide +kernel
theorem dX4_runStep_47 : decode cX4_runStep 47 = .ok (.ineg, 1) := by decide +kernel
theorem dX4_runStep_48 : decode cX4_runStep 48 = .ok (.invokestatic 67, 3) := by decide +kernel
theorem dX4_runStep_51 : decode cX4_runStep 51 = .ok (.ifCond .eq 16, 3) := by decide +kernel
theorem dX4_runStep_54 : decode cX4_runStep 54 = .ok (.aload_n 0, 1) := by decide +kernel
theorem dX4_runStep_55 : decode cX4_runStep 55 = .ok (.aload_n 0, 1) := by decide +kernel
theorem dX4_runStep_56 : decode cX4_runStep 56 = .ok (.iload_n 1, 1) := by decide +kernel
theorem dX4_runStep_57 : decode cX4_runStep 57 = .ok (.ineg, 1) := by decide +kernel
theorem dX4_runStep_58 : decode cX4_runStep 58 = .ok (.invokevirtual 71, 3) := by decide +kernel
theorem dX4_runStep_61 : decode cX4_runStep 61 = .ok (.invokevirtual 63, 3) := by decide +kernel
theorem dX4_runStep_64 : decode cX4_runStep 64 = .ok (.goto 52, 3) := by decide +kernel
theorem dX4_runStep_67 : decode cX4_runStep 67 = .ok (.iload_n 1, 1) := by decide +kernel
theorem dX4_runStep_68 : decode cX4_runStep 68 = .ok (.sipush (-306), 3) := by decide +kernel
theorem dX4_runStep_71 : decode cX4_runStep 71 = .ok (.if_icmp .ne 22, 3) := by decide +kernel
theorem dX4_runStep_74 : decode cX4_runStep 74 = .ok (.aload_n 0, 1) := by decide +kernel
theorem dX4_runStep_75 : decode cX4_runStep 75 = .ok (.aload_n 0, 1) := by decide +kernel
theorem dX4_runStep_76 : decode cX4_runStep 76 = .ok (.invokevirtual 48, 3) := by decide +kernel
theorem dX4_runStep_79 : decode cX4_runStep 79 = .ok (.ifCond .ne 7, 3) := by decide +kernel
theorem dX4_runStep_82 : decode cX4_runStep 82 = .ok (.iconst 1, 1) := by decide +kernel
theorem dX4_runStep_83 : decode cX4_runStep 83 = .ok (.goto 4, 3) := by decide +kernel
theorem dX4_runStep_86 : decode cX4_runStep 86 = .ok (.iconst 0, 1) := by decide +kernel
theorem dX4_runStep_87 : decode cX4_runStep 87 = .ok (.invokevirtual 63, 3) := by decide +kernel
theorem dX4_runStep_90 : decode cX4_runStep 90 = .ok (.goto 26, 3) := by decide +kernel
theorem dX4_runStep_93 : decode cX4_runStep 93 = .ok (.aload_n 0, 1) := by decide +kernel
theorem dX4_runStep_94 : decode cX4_runStep 94 = .ok (.invokevirtual 48, 3) := by decide +kernel
theorem dX4_runStep_97 : decode cX4_runStep 97 = .ok (.istore_n 3, 1) := by decide +kernel
theorem dX4_runStep_98 : decode cX4_runStep 98 = .ok (.aload_n 0, 1) := by decide +kernel
theorem dX4_runStep_99 : decode cX4_runStep 99 = .ok (.invokevirtual 48, 3) := by decide +kernel
theorem dX4_runStep_102 : decode cX4_runStep 102 = .ok (.istore 4, 2) := by decide +kernel
theorem dX4_runStep_104 : decode cX4_runStep 104 = .ok (.aload_n 0, 1) := by decide +kernel
theorem dX4_runStep_105 : decode cX4_runStep 105 = .ok (.iload_n 1, 1) := by decide +kernel
theorem dX4_runStep_106 : decode cX4_runStep 106 = .ok (.ineg, 1) := by decide +kernel
theorem dX4_runStep_107 : decode cX4_runStep 107 = .ok (.iload 4, 2) := by decide +kernel
theorem dX4_runStep_109 : decode cX4_runStep 109 = .ok (.iload_n 3, 1) := by decide +kernel
theorem dX4_runStep_110 : decode cX4_runStep 110 = .ok (.invokestatic 74, 3) := by decide +kernel
theorem dX4_runStep_113 : decode cX4_runStep 113 = .ok (.invokevirtual 63, 3) := by decide +kernel
theorem dX4_runStep_116 : decode cX4_runStep 116 = .ok (.return_, 1) := by decide +kernel
theorem dX4_join_0 : decode cX4_join 0 = .ok (.iload_n 0, 1) := by decide +kernel
theorem dX4_join_1 : decode cX4_join 1 = .ok (.lookupswitch 148 #[(42, 91), (43, 83), (45, 87), (47, 95), (60, 107), (61, 118), (62, 129), (304, 144), (305, 140)], 83) := by decide +kernel
theorem dX4_join_84 : decode cX4_join 84 = .ok (.iload_n 1, 1) := by decide +kernel
theorem dX4_join_85 : decode cX4_join 85 = .ok (.iload_n 2, 1) := by decide +kernel
theorem dX4_join_86 : decode cX4_join 86 = .ok (.iadd, 1) := by decide +kernel
theorem dX4_join_87 : decode cX4_join 87 = .ok (.ireturn, 1) := by decide +kernel
theorem dX4_join_88 : decode cX4_join 88 = .ok (.iload_n 1, 1) := by decide +kernel
theorem dX4_join_89 : decode cX4_join 89 = .ok (.iload_n 2, 1) := by decide +kernel
theorem dX4_join_90 : decode cX4_join 90 = .ok (.isub, 1) := by decide +kernel
theorem dX4_join_91 : decode cX4_join 91 = .ok (.ireturn, 1) := by decide +kernel
theorem dX4_join_92 : decode cX4_join 92 = .ok (.iload_n 1, 1) := by decide +kernel
theorem dX4_join_93 : decode cX4_join 93 = .ok (.iload_n 2, 1) := by decide +kernel
theorem dX4_join_94 : decode cX4_join 94 = .ok (.imul, 1) := by decide +kernel
theorem dX4_join_95 : decode cX4_join 95 = .ok (.ireturn, 1) := by decide +kernel
theorem dX4_join_96 : decode cX4_join 96 = .ok (.iload_n 2, 1) := by decide +kernel
theorem dX4_join_97 : decode cX4_join 97 = .ok (.ifCond .eq 9, 3) := by decide +kernel
theorem dX4_join_100 : decode cX4_join 100 = .ok (.iload_n 1, 1) := by decide +kernel
theorem dX4_join_101 : decode cX4_join 101 = .ok (.iload_n 2, 1) := by decide +kernel
theorem dX4_join_102 : decode cX4_join 102 = .ok (.idiv, 1) := by decide +kernel
theorem dX4_join_103 : decode cX4_join 103 = .ok (.goto 4, 3) := by decide +kernel
theorem dX4_join_106 : decode cX4_join 106 = .ok (.iconst 0, 1) := by decide +kernel
theorem dX4_join_107 : decode cX4_join 107 = .ok (.ireturn, 1) := by decide +kernel
theorem dX4_join_108 : decode cX4_join 108 = .ok (.iload_n 1, 1) := by decide +kernel
theorem dX4_join_109 : decode cX4_join 109 = .ok (.iload_n 2, 1) := by decide +kernel
theorem dX4_join_110 : decode cX4_join 110 = .ok (.if_icmp .ge 7, 3) := by decide +kernel
theorem dX4_join_113 : decode cX4_join 113 = .ok (.iconst 1, 1) := by decide +kernel
theorem dX4_join_114 : decode cX4_join 114 = .ok (.goto 4, 3) := by decide +kernel
theorem dX4_join_117 : decode cX4_join 117 = .ok (.iconst 0, 1) := by decide +kernel
theorem dX4_join_118 : decode cX4_join 118 = .ok (.ireturn, 1) := by decide +kernel
theorem dX4_join_119 : decode cX4_join 119 = .ok (.iload_n 1, 1) := by decide +kernel
theorem dX4_join_120 : decode cX4_join 120 = .ok (.iload_n 2, 1) := by decide +kernel
theorem dX4_join_121 : decode cX4_join 121 = .ok (.if_icmp .ne 7, 3) := by decide +kernel
theorem dX4_join_124 : decode cX4_join 124 = .ok (.iconst 1, 1) := by decide +kernel
theorem dX4_join_125 : decode cX4_join 125 = .ok (.goto 4, 3) := by decide +kernel
theorem dX4_join_128 : decode cX4_join 128 = .ok (.iconst 0, 1) := by decide +kernel
theorem dX4_join_129 : decode cX4_join 129 = .ok (.ireturn, 1) := by decide +kernel
theorem dX4_join_130 : decode cX4_join 130 = .ok (.iload_n 1, 1) := by decide +kernel
theorem dX4_join_131 : decode cX4_join 131 = .ok (.iload_n 2, 1) := by decide +kernel
theorem dX4_join_132 : decode cX4_join 132 = .ok (.if_icmp .le 7, 3) := by decide +kernel
theorem dX4_join_135 : decode cX4_join 135 = .ok (.iconst 1, 1) := by decide +kernel
theorem dX4_join_136 : decode cX4_join 136 = .ok (.goto 4, 3) := by decide +kernel
theorem dX4_join_139 : decode cX4_join 139 = .ok (.iconst 0, 1) := by decide +kernel
theorem dX4_join_140 : decode cX4_join 140 = .ok (.ireturn, 1) := by decide +kernel
theorem dX4_join_141 : decode cX4_join 141 = .ok (.iload_n 1, 1) := by decide +kernel
theorem dX4_join_142 : decode cX4_join 142 = .ok (.iload_n 2, 1) := by decide +kernel
theorem dX4_join_143 : decode cX4_join 143 = .ok (.iand, 1) := by decide +kernel
theorem dX4_join_144 : decode cX4_join 144 = .ok (.ireturn, 1) := by decide +kernel
theorem dX4_join_145 : decode cX4_join 145 = .ok (.iload_n 1, 1) := by decide +kernel
theorem dX4_join_146 : decode cX4_join 146 = .ok (.iload_n 2, 1) := by decide +kernel
theorem dX4_join_147 : decode cX4_join 147 = .ok (.ior, 1) := by decide +kernel
theorem dX4_join_148 : decode cX4_join 148 = .ok (.ireturn, 1) := by decide +kernel
theorem dX4_join_149 : decode cX4_join 149 = .ok (.iconst 0, 1) := by decide +kernel
theorem dX4_join_150 : decode cX4_join 150 = .ok (.ireturn, 1) := by decide +kernel
theorem dX4_putFact_0 : decode cX4_putFact 0 = .ok (.iload_n 1, 1) := by decide +kernel
theorem dX4_putFact_1 : decode cX4_putFact 1 = .ok (.sipush 307, 3) := by decide +kernel
theorem dX4_putFact_4 : decode cX4_putFact 4 = .ok (.isub, 1) := by decide +kernel
theorem dX4_putFact_5 : decode cX4_putFact 5 = .ok (.istore_n 3, 1) := by decide +kernel
theorem dX4_putFact_6 : decode cX4_putFact 6 = .ok (.iload_n 3, 1) := by decide +kernel
theorem dX4_putFact_7 : decode cX4_putFact 7 = .ok (.ifCond .lt 19, 3) := by decide +kernel
theorem dX4_putFact_10 : decode cX4_putFact 10 = .ok (.iload_n 3, 1) := by decide +kernel
theorem dX4_putFact_11 : decode cX4_putFact 11 = .ok (.aload_n 0, 1) := by decide +kernel
theorem dX4_putFact_12 : decode cX4_putFact 12 = .ok (.getfield 11, 3) := by decide +kernel
theorem dX4_putFact_15 : decode cX4_putFact 15 = .ok (.arraylength, 1) := by decide +kernel
theorem dX4_putFact_16 : decode cX4_putFact 16 = .ok (.if_icmp .ge 10, 3) := by decide +kernel
theorem dX4_putFact_19 : decode cX4_putFact 19 = .ok (.aload_n 0, 1) := by decide +kernel
theorem dX4_putFact_20 : decode cX4_putFact 20 = .ok (.getfield 11, 3) := by decide +kernel
theorem dX4_putFact_23 : decode cX4_putFact 23 = .ok (.iload_n 3, 1) := by decide +kernel
theorem dX4_putFact_24 : decode cX4_putFact 24 = .ok (.iload_n 2, 1) := by decide +kernel
theorem dX4_putFact_25 : decode cX4_putFact 25 = .ok (.iastore, 1) := by decide +kernel
theorem dX4_putFact_26 : decode cX4_putFact 26 = .ok (.return_, 1) := by decide +kernel
theorem dX4_factOf_0 : decode cX4_factOf 0 = .ok (.iload_n 1, 1) := by decide +kernel
theorem dX4_factOf_1 : decode cX4_factOf 1 = .ok (.sipush 307, 3) := by decide +kernel
theorem dX4_factOf_4 : decode cX4_factOf 4 = .ok (.isub, 1) := by decide +kernel
theorem dX4_factOf_5 : decode cX4_factOf 5 = .ok (.istore_n 2, 1) := by decide +kernel
theorem dX4_factOf_6 : decode cX4_factOf 6 = .ok (.iload_n 2, 1) := by decide +kernel
theorem dX4_factOf_7 : decode cX4_factOf 7 = .ok (.ifCond .lt 21, 3) := by decide +kernel
theorem dX4_factOf_10 : decode cX4_factOf 10 = .ok (.iload_n 2, 1) := by decide +kernel
theorem dX4_factOf_11 : decode cX4_factOf 11 = .ok (.aload_n 0, 1) := by decide +kernel
theorem dX4_factOf_12 : decode cX4_factOf 12 = .ok (.getfield 11, 3) := by decide +kernel
theorem dX4_factOf_15 : decode cX4_factOf 15 = .ok (.arraylength, 1) := by decide +kernel
theorem dX4_factOf_16 : decode cX4_factOf 16 = .ok (.if_icmp .ge 12, 3) := by decide +kernel
theorem dX4_factOf_19 : decode cX4_factOf 19 = .ok (.aload_n 0, 1) := by decide +kernel
theorem dX4_factOf_20 : decode cX4_factOf 20 = .ok (.getfield 11, 3) := by decide +kernel
theorem dX4_factOf_23 : decode cX4_factOf 23 = .ok (.iload_n 2, 1) := by decide +kernel
theorem dX4_factOf_24 : decode cX4_factOf 24 = .ok (.iaload, 1) := by decide +kernel
theorem dX4_factOf_25 : decode cX4_factOf 25 = .ok (.goto 4, 3) := by decide +kernel
theorem dX4_factOf_28 : decode cX4_factOf 28 = .ok (.iconst 0, 1) := by decide +kernel
theorem dX4_factOf_29 : decode cX4_factOf 29 = .ok (.ireturn, 1) := by decide +kernel
theorem dX4_push_0 : decode cX4_push 0 = .ok (.aload_n 0, 1) := by decide +kernel
theorem dX4_push_1 : decode cX4_push 1 = .ok (.getfield 23, 3) := by decide +kernel
theorem dX4_push_4 : decode cX4_push 4 = .ok (.ifCond .lt 35, 3) := by decide +kernel
theorem dX4_push_7 : decode cX4_push 7 = .ok (.aload_n 0, 1) := by decide +kernel
theorem dX4_push_8 : decode cX4_push 8 = .ok (.getfield 23, 3) := by decide +kernel
theorem dX4_push_11 : decode cX4_push 11 = .ok (.aload_n 0, 1) := by decide +kernel
theorem dX4_push_12 : decode cX4_push 12 = .ok (.getfield 20, 3) := by decide +kernel
theorem dX4_push_15 : decode cX4_push 15 = .ok (.arraylength, 1) := by decide +kernel
theorem dX4_push_16 : decode cX4_push 16 = .ok (.if_icmp .ge 23, 3) := by decide +kernel
theorem dX4_push_19 : decode cX4_push 19 = .ok (.aload_n 0, 1) := by decide +kernel
theorem dX4_push_20 : decode cX4_push 20 = .ok (.getfield 20, 3) := by decide +kernel
theorem dX4_push_23 : decode cX4_push 23 = .ok (.aload_n 0, 1) := by decide +kernel
theorem dX4_push_24 : decode cX4_push 24 = .ok (.getfield 23, 3) := by decide +kernel
theorem dX4_push_27 : decode cX4_push 27 = .ok (.iload_n 1, 1) := by decide +kernel
theorem dX4_push_28 : decode cX4_push 28 = .ok (.iastore, 1) := by decide +kernel
theorem dX4_push_29 : decode cX4_push 29 = .ok (.aload_n 0, 1) := by decide +kernel
theorem dX4_push_30 : decode cX4_push 30 = .ok (.dup, 1) := by decide +kernel
theorem dX4_push_31 : decode cX4_push 31 = .ok (.getfield 23, 3) := by decide +kernel
theorem dX4_push_34 : decode cX4_push 34 = .ok (.iconst 1, 1) := by decide +kernel
theorem dX4_push_35 : decode cX4_push 35 = .ok (.iadd, 1) := by decide +kernel
theorem dX4_push_36 : decode cX4_push 36 = .ok (.putfield 23, 3) := by decide +kernel
theorem dX4_push_39 : decode cX4_push 39 = .ok (.return_, 1) := by decide +kernel
theorem dX4_pop_0 : decode cX4_pop 0 = .ok (.aload_n 0, 1) := by decide +kernel
theorem dX4_pop_1 : decode cX4_pop 1 = .ok (.getfield 23, 3) := by decide +kernel
theorem dX4_pop_4 : decode cX4_pop 4 = .ok (.ifCond .le 35, 3) := by decide +kernel
theorem dX4_pop_7 : decode cX4_pop 7 = .ok (.aload_n 0, 1) := by decide +kernel
theorem dX4_pop_8 : decode cX4_pop 8 = .ok (.getfield 23, 3) := by decide +kernel
theorem dX4_pop_11 : decode cX4_pop 11 = .ok (.aload_n 0, 1) := by decide +kernel
theorem dX4_pop_12 : decode cX4_pop 12 = .ok (.getfield 20, 3) := by decide +kernel
theorem dX4_pop_15 : decode cX4_pop 15 = .ok (.arraylength, 1) := by decide +kernel
theorem dX4_pop_16 : decode cX4_pop 16 = .ok (.if_icmp .gt 23, 3) := by decide +kernel
theorem dX4_pop_19 : decode cX4_pop 19 = .ok (.aload_n 0, 1) := by decide +kernel
theorem dX4_pop_20 : decode cX4_pop 20 = .ok (.dup, 1) := by decide +kernel
theorem dX4_pop_21 : decode cX4_pop 21 = .ok (.getfield 23, 3) := by decide +kernel
theorem dX4_pop_24 : decode cX4_pop 24 = .ok (.iconst 1, 1) := by decide +kernel
theorem dX4_pop_25 : decode cX4_pop 25 = .ok (.isub, 1) := by decide +kernel
theorem dX4_pop_26 : decode cX4_pop 26 = .ok (.putfield 23, 3) := by decide +kernel
theorem dX4_pop_29 : decode cX4_pop 29 = .ok (.aload_n 0, 1) := by decide +kernel
theorem dX4_pop_30 : decode cX4_pop 30 = .ok (.getfield 20, 3) := by decide +kernel
theorem dX4_pop_33 : decode cX4_pop 33 = .ok (.aload_n 0, 1) := by decide +kernel
theorem dX4_pop_34 : decode cX4_pop 34 = .ok (.getfield 23, 3) := by decide +kernel
theorem dX4_pop_37 : decode cX4_pop 37 = .ok (.iaload, 1) := by decide +kernel
theorem dX4_pop_38 : decode cX4_pop 38 = .ok (.ireturn, 1) := by decide +kernel
theorem dX4_pop_39 : decode cX4_pop 39 = .ok (.iconst 0, 1) := by decide +kernel
theorem dX4_pop_40 : decode cX4_pop 40 = .ok (.ireturn, 1) := by decide +kernel
theorem dX5_init_0 : decode cX5_init 0 = .ok (.aload_n 0, 1) := by decide +kernel
theorem dX5_init_1 : decode cX5_init 1 = .ok (.invokespecial 3, 3) := by decide +kernel
theorem dX5_init_4 : decode cX5_init 4 = .ok (.aload_n 0, 1) := by decide +kernel
theorem dX5_init_5 : decode cX5_init 5 = .ok (.sipush 400, 3) := by decide +kernel
theorem dX5_init_8 : decode cX5_init 8 = .ok (.newarray .int, 2) := by decide +kernel
theorem dX5_init_10 : decode cX5_init 10 = .ok (.putfield 9, 3) := by decide +kernel
theorem dX5_init_13 : decode cX5_init 13 = .ok (.aload_n 0, 1) := by decide +kernel
theorem dX5_init_14 : decode cX5_init 14 = .ok (.sipush 400, 3) := by decide +kernel
theorem dX5_init_17 : decode cX5_init 17 = .ok (.newarray .int, 2) := by decide +kernel
theorem dX5_init_19 : decode cX5_init 19 = .ok (.putfield 15, 3) := by decide +kernel
theorem dX5_init_22 : decode cX5_init 22 = .ok (.aload_n 0, 1) := by decide +kernel
theorem dX5_init_23 : decode cX5_init 23 = .ok (.sipush 400, 3) := by decide +kernel
theorem dX5_init_26 : decode cX5_init 26 = .ok (.newarray .int, 2) := by decide +kernel
theorem dX5_init_28 : decode cX5_init 28 = .ok (.putfield 18, 3) := by decide +kernel
theorem dX5_init_31 : decode cX5_init 31 = .ok (.aload_n 0, 1) := by decide +kernel
theorem dX5_init_32 : decode cX5_init 32 = .ok (.iconst 0, 1) := by decide +kernel
theorem dX5_init_33 : decode cX5_init 33 = .ok (.putfield 21, 3) := by decide +kernel
theorem dX5_init_36 : decode cX5_init 36 = .ok (.aload_n 0, 1) := by decide +kernel
theorem dX5_init_37 : decode cX5_init 37 = .ok (.iconst 0, 1) := by decide +kernel
theorem dX5_init_38 : decode cX5_init 38 = .ok (.putfield 25, 3) := by decide +kernel
theorem dX5_init_41 : decode cX5_init 41 = .ok (.return_, 1) := by decide +kernel
theorem dX5_scan_0 : decode cX5_scan 0 = .ok (.aload_n 0, 1) := by decide +kernel
theorem dX5_scan_1 : decode cX5_scan 1 = .ok (.iconst 0, 1) := by decide +kernel
theorem dX5_scan_2 : decode cX5_scan 2 = .ok (.putfield 21, 3) := by decide +kernel
theorem dX5_scan_5 : decode cX5_scan 5 = .ok (.aload_n 0, 1) := by decide +kernel
theorem dX5_scan_6 : decode cX5_scan 6 = .ok (.iconst 0, 1) := by decide +kernel
theorem dX5_scan_7 : decode cX5_scan 7 = .ok (.iload_n 2, 1) := by decide +kernel
theorem dX5_scan_8 : decode cX5_scan 8 = .ok (.aload_n 1, 1) := by decide +kernel
theorem dX5_scan_9 : decode cX5_scan 9 = .ok (.arraylength, 1) := by decide +kernel
theorem dX5_scan_10 : decode cX5_scan 10 = .ok (.invokestatic 28, 3) := by decide +kernel
theorem dX5_scan_13 : decode cX5_scan 13 = .ok (.invokestatic 34, 3) := by decide +kernel
theorem dX5_scan_16 : decode cX5_scan 16 = .ok (.putfield 25, 3) := by decide +kernel
theorem dX5_scan_19 : decode cX5_scan 19 = .ok (.iconst 0, 1) := by decide +kernel
theorem dX5_scan_20 : decode cX5_scan 20 = .ok (.istore_n 3, 1) := by decide +kernel
theorem dX5_scan_21 : decode cX5_scan 21 = .ok (.iconst 0, 1) := by decide +kernel
theorem dX5_scan_22 : decode cX5_scan 22 = .ok (.istore 4, 2) := by decide +kernel
theorem dX5_scan_24 : decode cX5_scan 24 = .ok (.iload 4, 2) := by decide +kernel
theorem dX5_scan_26 : decode cX5_scan 26 = .ok (.aload_n 0, 1) := by decide +kernel
theorem dX5_scan_27 : decode cX5_scan 27 = .ok (.getfield 25, 3) := by decide +kernel
theorem dX5_scan_30 : decode cX5_scan 30 = .ok (.if_icmp .ge 40, 3) := by decide +kernel
theorem dX5_scan_33 : decode cX5_scan 33 = .ok (.iload 4, 2) := by decide +kernel
theorem dX5_scan_35 : decode cX5_scan 35 = .ok (.iload_n 3, 1) := by decide +kernel
theorem dX5_scan_36 : decode cX5_scan 36 = .ok (.if_icmp .lt 28, 3) := by decide +kernel
theorem dX5_scan_39 : decode cX5_scan 39 = .ok (.aload_n 1, 1) := by decide +kernel
theorem dX5_scan_40 : decode cX5_scan 40 = .ok (.iload 4, 2) := by decide +kernel
theorem dX5_scan_42 : decode cX5_scan 42 = .ok (.caload, 1) := by decide +kernel
theorem dX5_scan_43 : decode cX5_scan 43 = .ok (.invokestatic 37, 3) := by decide +kernel
theorem dX5_scan_46 : decode cX5_scan 46 = .ok (.ifCond .eq 10, 3) := by decide +kernel
theorem dX5_scan_49 : decode cX5_scan 49 = .ok (.iload 4, 2) := by decide +kernel
theorem dX5_scan_51 : decode cX5_scan 51 = .ok (.iconst 1, 1) := by decide +kernel
theorem dX5_scan_52 : decode cX5_scan 52 = .ok (.iadd, 1) := by decide +kernel
theorem dX5_scan_53 : decode cX5_scan 53 = .ok (.goto 10, 3) := by decide +kernel
theorem dX5_scan_56 : decode cX5_scan 56 = .ok (.aload_n 0, 1) := by decide +kernel
theorem dX5_scan_57 : decode cX5_scan 57 = .ok (.aload_n 1, 1) := by decide +kernel
theorem dX5_scan_58 : decode cX5_scan 58 = .ok (.iload 4, 2) := by decide +kernel
theorem dX5_scan_60 : decode cX5_scan 60 = .ok (.invokevirtual 43, 3) := by decide +kernel
theorem dX5_scan_63 : decode cX5_scan 63 = .ok (.istore_n 3, 1) := by decide +kernel
theorem dX5_scan_64 : decode cX5_scan 64 = .ok (.iinc 4 1, 3) := by decide +kernel
theorem dX5_scan_67 : decode cX5_scan 67 = .ok (.goto (-43), 3) := by decide +kernel
theorem dX5_scan_70 : decode cX5_scan 70 = .ok (.return_, 1) := by decide +kernel
theorem dX5_scanToken_0 : decode cX5_scanToken 0 = .ok (.iload_n 2, 1) := by decide +kernel
theorem dX5_scanToken_1 : decode cX5_scanToken 1 = .ok (.iconst 1, 1) := by decide +kernel
theorem dX5_scanToken_2 : decode cX5_scanToken 2 = .ok (.iadd, 1) := by decide +kernel
theorem dX5_scanToken_3 : decode cX5_scanToken 3 = .ok (.istore_n 3, 1) := by decide +kernel
theorem dX5_scanToken_4 : decode cX5_scanToken 4 = .ok (.iload_n 2, 1) := by decide +kernel
theorem dX5_scanToken_5 : decode cX5_scanToken 5 = .ok (.ifCond .lt 15, 3) := by decide +kernel
theorem dX5_scanToken_8 : decode cX5_scanToken 8 = .ok (.iload_n 2, 1) := by decide +kernel
theorem dX5_scanToken_9 : decode cX5_scanToken 9 = .ok (.aload_n 1, 1) := by decide +kernel
theorem dX5_scanToken_10 : decode cX5_scanToken 10 = .ok (.arraylength, 1) := by decide +kernel
theorem dX5_scanToken_11 : decode cX5_scanToken 11 = .ok (.if_icmp .ge 9, 3) := by decide +kernel
theorem dX5_scanToken_14 : decode cX5_scanToken 14 = .ok (.aload_n 1, 1) := by decide +kernel
theorem dX5_scanToken_15 : decode cX5_scanToken 15 = .ok (.iload_n 2, 1) := by decide +kernel
theorem dX5_scanToken_16 : decode cX5_scanToken 16 = .ok (.caload, 1) := by decide +kernel
theorem dX5_scanToken_17 : decode cX5_scanToken 17 = .ok (.goto 4, 3) := by decide +kernel
theorem dX5_scanToken_20 : decode cX5_scanToken 20 = .ok (.iconst 0, 1) := by decide +kernel
theorem dX5_scanToken_21 : decode cX5_scanToken 21 = .ok (.istore 4, 2) := by decide +kernel
theorem dX5_scanToken_23 : decode cX5_scanToken 23 = .ok (.iload 4, 2) := by decide +kernel
theorem dX5_scanToken_25 : decode cX5_scanToken 25 = .ok (.invokestatic 47, 3) := by decide +kernel
theorem dX5_scanToken_28 : decode cX5_scanToken 28 = .ok (.ifCond .eq 47, 3) := by decide +kernel
theorem dX5_scanToken_31 : decode cX5_scanToken 31 = .ok (.iload_n 3, 1) := by decide +kernel
theorem dX5_scanToken_32 : decode cX5_scanToken 32 = .ok (.aload_n 0, 1) := by decide +kernel
theorem dX5_scanToken_33 : decode cX5_scanToken 33 = .ok (.getfield 25, 3) := by decide +kernel
theorem dX5_scanToken_36 : decode cX5_scanToken 36 = .ok (.if_icmp .ge 24, 3) := by decide +kernel
theorem dX5_scanToken_39 : decode cX5_scanToken 39 = .ok (.iload_n 3, 1) := by decide +kernel
theorem dX5_scanToken_40 : decode cX5_scanToken 40 = .ok (.aload_n 1, 1) := by decide +kernel
theorem dX5_scanToken_41 : decode cX5_scanToken 41 = .ok (.arraylength, 1) := by decide +kernel
theorem dX5_scanToken_42 : decode cX5_scanToken 42 = .ok (.if_icmp .ge 18, 3) := by decide +kernel
theorem dX5_scanToken_45 : decode cX5_scanToken 45 = .ok (.aload_n 1, 1) := by decide +kernel
theorem dX5_scanToken_46 : decode cX5_scanToken 46 = .ok (.iload_n 3, 1) := by decide +kernel
theorem dX5_scanToken_47 : decode cX5_scanToken 47 = .ok (.caload, 1) := by decide +kernel
theorem dX5_scanToken_48 : decode cX5_scanToken 48 = .ok (.invokestatic 47, 3) := by decide +kernel
theorem dX5_scanToken_51 : decode cX5_scanToken 51 = .ok (.ifCond .eq 9, 3) := by decide +kernel
theorem dX5_scanToken_54 : decode cX5_scanToken 54 = .ok (.iinc 3 1, 3) := by decide +kernel
theorem dX5_scanToken_57 : decode cX5_scanToken 57 = .ok (.goto (-26), 3) := by decide +kernel
theorem dX5_scanToken_60 : decode cX5_scanToken 60 = .ok (.aload_n 0, 1) := by decide +kernel
theorem dX5_scanToken_61 : decode cX5_scanToken 61 = .ok (.aload_n 1, 1) := by decide +kernel
theorem dX5_scanToken_62 : decode cX5_scanToken 62 = .ok (.iload_n 2, 1) := by decide +kernel
theorem dX5_scanToken_63 : decode cX5_scanToken 63 = .ok (.iload_n 3, 1) := by decide +kernel
theorem dX5_scanToken_64 : decode cX5_scanToken 64 = .ok (.invokestatic 50, 3) := by decide +kernel
theorem dX5_scanToken_67 : decode cX5_scanToken 67 = .ok (.iconst 0, 1) := by decide +kernel
theorem dX5_scanToken_68 : decode cX5_scanToken 68 = .ok (.iload_n 2, 1) := by decide +kernel
theorem dX5_scanToken_69 : decode cX5_scanToken 69 = .ok (.invokevirtual 54, 3) := by decide +kernel
theorem dX5_scanToken_72 : decode cX5_scanToken 72 = .ok (.goto 103, 3) := by decide +kernel
theorem dX5_scanToken_75 : decode cX5_scanToken 75 = .ok (.iload 4, 2) := by decide +kernel
theorem dX5_scanToken_77 : decode cX5_scanToken 77 = .ok (.invokestatic 58, 3) := by decide +kernel
theorem dX5_scanToken_80 : decode cX5_scanToken 80 = .ok (.ifCond .eq 75, 3) := by decide +kernel
theorem dX5_scanToken_83 : decode cX5_scanToken 83 = .ok (.iload 4, 2) := by decide +kernel
theorem dX5_scanToken_85 : decode cX5_scanToken 85 = .ok (.bipush 48, 2) := by decide +kernel
theorem dX5_scanToken_87 : decode cX5_scanToken 87 = .ok (.isub, 1) := by decide +kernel
theorem dX5_scanToken_88 : decode cX5_scanToken 88 = .ok (.istore 5, 2) := by decide +kernel
theorem dX5_scanToken_90 : decode cX5_scanToken 90 = .ok (.iload_n 3, 1) := by decide +kernel
theorem dX5_scanToken_91 : decode cX5_scanToken 91 = .ok (.aload_n 0, 1) := by decide +kernel
theorem dX5_scanToken_92 : decode cX5_scanToken 92 = .ok (.getfield 25, 3) := by decide +kernel
theorem dX5_scanToken_95 : decode cX5_scanToken 95 = .ok (.if_icmp .ge 38, 3) := by decide +kernel
theorem dX5_scanToken_98 : decode cX5_scanToken 98 = .ok (.iload_n 3, 1) := by decide +kernel
theorem dX5_scanToken_99 : decode cX5_scanToken 99 = .ok (.aload_n 1, 1) := by decide +kernel
theorem dX5_scanToken_100 : decode cX5_scanToken 100 = .ok (.arraylength, 1) := by decide +kernel
theorem dX5_scanToken_101 : decode cX5_scanToken 101 = .ok (.if_icmp .ge 32, 3) := by decide +kernel
theorem dX5_scanToken_104 : decode cX5_scanToken 104 = .ok (.aload_n 1, 1) := by decide +kernel
theorem dX5_scanToken_105 : decode cX5_scanToken 105 = .ok (.iload_n 3, 1) := by decide +kernel
theorem dX5_scanToken_106 : decode cX5_scanToken 106 = .ok (.caload, 1) := by decide +kernel
theorem dX5_scanToken_107 : decode cX5_scanToken 107 = .ok (.invokestatic 58, 3) := by decide +kernel
theorem dX5_scanToken_110 : decode cX5_scanToken 110 = .ok (.ifCond .eq 23, 3) := by decide +kernel
theorem dX5_scanToken_113 : decode cX5_scanToken 113 = .ok (.iload 5, 2) := by decide +kernel
theorem dX5_scanToken_115 : decode cX5_scanToken 115 = .ok (.bipush 10, 2) := by decide +kernel
theorem dX5_scanToken_117 : decode cX5_scanToken 117 = .ok (.imul, 1) := by decide +kernel
theorem dX5_scanToken_118 : decode cX5_scanToken 118 = .ok (.aload_n 1, 1) := by decide +kernel
theorem dX5_scanToken_119 : decode cX5_scanToken 119 = .ok (.iload_n 3, 1) := by decide +kernel
theorem dX5_scanToken_120 : decode cX5_scanToken 120 = .ok (.caload, 1) := by decide +kernel
theorem dX5_scanToken_121 : decode cX5_scanToken 121 = .ok (.bipush 48, 2) := by decide +kernel
theorem dX5_scanToken_123 : decode cX5_scanToken 123 = .ok (.isub, 1) := by decide +kernel
theorem dX5_scanToken_124 : decode cX5_scanToken 124 = .ok (.iadd, 1) := by decide +kernel
theorem dX5_scanToken_125 : decode cX5_scanToken 125 = .ok (.istore 5, 2) := by decide +kernel
theorem dX5_scanToken_127 : decode cX5_scanToken 127 = .ok (.iinc 3 1, 3) := by decide +kernel
theorem dX5_scanToken_130 : decode cX5_scanToken 130 = .ok (.goto (-40), 3) := by decide +kernel
theorem dX5_scanToken_133 : decode cX5_scanToken 133 = .ok (.aload_n 0, 1) := by decide +kernel
theorem dX5_scanToken_134 : decode cX5_scanToken 134 = .ok (.iload_n 3, 1) := by decide +kernel
theorem dX5_scanToken_135 : decode cX5_scanToken 135 = .ok (.iload_n 2, 1) := by decide +kernel
theorem dX5_scanToken_136 : decode cX5_scanToken 136 = .ok (.isub, 1) := by decide +kernel
theorem dX5_scanToken_137 : decode cX5_scanToken 137 = .ok (.iconst 4, 1) := by decide +kernel
theorem dX5_scanToken_138 : decode cX5_scanToken 138 = .ok (.if_icmp .gt 7, 3) := by decide +kernel
theorem dX5_scanToken_141 : decode cX5_scanToken 141 = .ok (.iconst 3, 1) := by decide +kernel
theorem dX5_scanToken_142 : decode cX5_scanToken 142 = .ok (.goto 4, 3) := by decide +kernel
theorem dX5_scanToken_145 : decode cX5_scanToken 145 = .ok (.iconst 2, 1) := by decide +kernel
theorem dX5_scanToken_146 : decode cX5_scanToken 146 = .ok (.iload 5, 2) := by decide +kernel
theorem dX5_scanToken_148 : decode cX5_scanToken 148 = .ok (.iload_n 2, 1) := by decide +kernel
theorem dX5_scanToken_149 : decode cX5_scanToken 149 = .ok (.invokevirtual 54, 3) := by decide +kernel
theorem dX5_scanToken_152 : decode cX5_scanToken 152 = .ok (.goto 23, 3) := by decide +kernel
theorem dX5_scanToken_155 : decode cX5_scanToken 155 = .ok (.aload_n 0, 1) := by decide +kernel
theorem dX5_scanToken_156 : decode cX5_scanToken 156 = .ok (.iload 4, 2) := by decide +kernel
theorem dX5_scanToken_158 : decode cX5_scanToken 158 = .ok (.invokestatic 61, 3) := by decide +kernel
theorem dX5_scanToken_161 : decode cX5_scanToken 161 = .ok (.ifCond .eq 8, 3) := by decide +kernel
theorem dX5_scanToken_164 : decode cX5_scanToken 164 = .ok (.iload 4, 2) := by decide +kernel
theorem dX5_scanToken_166 : decode cX5_scanToken 166 = .ok (.goto 4, 3) := by decide +kernel
theorem dX5_scanToken_169 : decode cX5_scanToken 169 = .ok (.iconst 2, 1) := by decide +kernel
theorem dX5_scanToken_170 : decode cX5_scanToken 170 = .ok (.iconst 0, 1) := by decide +kernel
theorem dX5_scanToken_171 : decode cX5_scanToken 171 = .ok (.iload_n 2, 1) := by decide +kernel
theorem dX5_scanToken_172 : decode cX5_scanToken 172 = .ok (.invokevirtual 54, 3) := by decide +kernel
theorem dX5_scanToken_175 : decode cX5_scanToken 175 = .ok (.iload_n 3, 1) := by decide +kernel
theorem dX5_scanToken_176 : decode cX5_scanToken 176 = .ok (.ireturn, 1) := by decide +kernel
theorem dX5_keep_0 : decode cX5_keep 0 = .ok (.aload_n 0, 1) := by decide +kernel
theorem dX5_keep_1 : decode cX5_keep 1 = .ok (.getfield 21, 3) := by decide +kernel
theorem dX5_keep_4 : decode cX5_keep 4 = .ok (.ifCond .lt 53, 3) := by decide +kernel
theorem dX5_keep_7 : decode cX5_keep 7 = .ok (.aload_n 0, 1) := by decide +kernel
theorem dX5_keep_8 : decode cX5_keep 8 = .ok (.getfield 21, 3) := by decide +kernel
theorem dX5_keep_11 : decode cX5_keep 11 = .ok (.sipush 400, 3) := by decide +kernel
theorem dX5_keep_14 : decode cX5_keep 14 = .ok (.if_icmp .ge 43, 3) := by decide +kernel
theorem dX5_keep_17 : decode cX5_keep 17 = .ok (.aload_n 0, 1) := by decide +kernel
theorem dX5_keep_18 : decode cX5_keep 18 = .ok (.getfield 9, 3) := by decide +kernel
theorem dX5_keep_21 : decode cX5_keep 21 = .ok (.aload_n 0, 1) := by decide +kernel
theorem dX5_keep_22 : decode cX5_keep 22 = .ok (.getfield 21, 3) := by decide +kernel
theorem dX5_keep_25 : decode cX5_keep 25 = .ok (.iload_n 1, 1) := by decide +kernel
theorem dX5_keep_26 : decode cX5_keep 26 = .ok (.iastore, 1) := by decide +kernel
theorem dX5_keep_27 : decode cX5_keep 27 = .ok (.aload_n 0, 1) := by decide +kernel
theorem dX5_keep_28 : decode cX5_keep 28 = .ok (.getfield 15, 3) := by decide +kernel
theorem dX5_keep_31 : decode cX5_keep 31 = .ok (.aload_n 0, 1) := by decide +kernel
theorem dX5_keep_32 : decode cX5_keep 32 = .ok (.getfield 21, 3) := by decide +kernel
theorem dX5_keep_35 : decode cX5_keep 35 = .ok (.iload_n 2, 1) := by decide +kernel
theorem dX5_keep_36 : decode cX5_keep 36 = .ok (.iastore, 1) := by decide +kernel
theorem dX5_keep_37 : decode cX5_keep 37 = .ok (.aload_n 0, 1) := by decide +kernel
theorem dX5_keep_38 : decode cX5_keep 38 = .ok (.getfield 18, 3) := by decide +kernel
theorem dX5_keep_41 : decode cX5_keep 41 = .ok (.aload_n 0, 1) := by decide +kernel
theorem dX5_keep_42 : decode cX5_keep 42 = .ok (.getfield 21, 3) := by decide +kernel
theorem dX5_keep_45 : decode cX5_keep 45 = .ok (.iload_n 3, 1) := by decide +kernel
theorem dX5_keep_46 : decode cX5_keep 46 = .ok (.iastore, 1) := by decide +kernel
theorem dX5_keep_47 : decode cX5_keep 47 = .ok (.aload_n 0, 1) := by decide +kernel
theorem dX5_keep_48 : decode cX5_keep 48 = .ok (.dup, 1) := by decide +kernel
theorem dX5_keep_49 : decode cX5_keep 49 = .ok (.getfield 21, 3) := by decide +kernel
theorem dX5_keep_52 : decode cX5_keep 52 = .ok (.iconst 1, 1) := by decide +kernel
theorem dX5_keep_53 : decode cX5_keep 53 = .ok (.iadd, 1) := by decide +kernel
theorem dX5_keep_54 : decode cX5_keep 54 = .ok (.putfield 21, 3) := by decide +kernel
theorem dX5_keep_57 : decode cX5_keep 57 = .ok (.return_, 1) := by decide +kernel
theorem dX5_kindAt_0 : decode cX5_kindAt 0 = .ok (.iload_n 1, 1) := by decide +kernel
theorem dX5_kindAt_1 : decode cX5_kindAt 1 = .ok (.ifCond .lt 29, 3) := by decide +kernel
theorem dX5_kindAt_4 : decode cX5_kindAt 4 = .ok (.iload_n 1, 1) := by decide +kernel
theorem dX5_kindAt_5 : decode cX5_kindAt 5 = .ok (.aload_n 0, 1) := by decide +kernel
theorem dX5_kindAt_6 : decode cX5_kindAt 6 = .ok (.getfield 21, 3) := by decide +kernel
theorem dX5_kindAt_9 : decode cX5_kindAt 9 = .ok (.if_icmp .ge 21, 3) := by decide +kernel
theorem dX5_kindAt_12 : decode cX5_kindAt 12 = .ok (.iload_n 1, 1) := by decide +kernel
theorem dX5_kindAt_13 : decode cX5_kindAt 13 = .ok (.aload_n 0, 1) := by decide +kernel
theorem dX5_kindAt_14 : decode cX5_kindAt 14 = .ok (.getfield 9, 3) := by decide +kernel
theorem dX5_kindAt_17 : decode cX5_kindAt 17 = .ok (.arraylength, 1) := by decide +kernel
theorem dX5_kindAt_18 : decode cX5_kindAt 18 = .ok (.if_icmp .ge 12, 3) := by decide +kernel
theorem dX5_kindAt_21 : decode cX5_kindAt 21 = .ok (.aload_n 0, 1) := by decide +kernel
theorem dX5_kindAt_22 : decode cX5_kindAt 22 = .ok (.getfield 9, 3) := by decide +kernel
theorem dX5_kindAt_25 : decode cX5_kindAt 25 = .ok (.iload_n 1, 1) := by decide +kernel
theorem dX5_kindAt_26 : decode cX5_kindAt 26 = .ok (.iaload, 1) := by decide +kernel
theorem dX5_kindAt_27 : decode cX5_kindAt 27 = .ok (.goto 4, 3) := by decide +kernel
theorem dX5_kindAt_30 : decode cX5_kindAt 30 = .ok (.iconst 1, 1) := by decide +kernel
theorem dX5_kindAt_31 : decode cX5_kindAt 31 = .ok (.ireturn, 1) := by decide +kernel
theorem dX5_valueAt_0 : decode cX5_valueAt 0 = .ok (.iload_n 1, 1) := by decide +kernel
theorem dX5_valueAt_1 : decode cX5_valueAt 1 = .ok (.ifCond .lt 29, 3) := by decide +kernel
theorem dX5_valueAt_4 : decode cX5_valueAt 4 = .ok (.iload_n 1, 1) := by decide +kernel
theorem dX5_valueAt_5 : decode cX5_valueAt 5 = .ok (.aload_n 0, 1) := by decide +kernel
theorem dX5_valueAt_6 : decode cX5_valueAt 6 = .ok (.getfield 21, 3) := by decide +kernel
theorem dX5_valueAt_9 : decode cX5_valueAt 9 = .ok (.if_icmp .ge 21, 3) := by decide +kernel
theorem dX5_valueAt_12 : decode cX5_valueAt 12 = .ok (.iload_n 1, 1) := by decide +kernel
theorem dX5_valueAt_13 : decode cX5_valueAt 13 = .ok (.aload_n 0, 1) := by decide +kernel
theorem dX5_valueAt_14 : decode cX5_valueAt 14 = .ok (.getfield 15, 3) := by decide +kernel
theorem dX5_valueAt_17 : decode cX5_valueAt 17 = .ok (.arraylength, 1) := by decide +kernel
theorem dX5_valueAt_18 : decode cX5_valueAt 18 = .ok (.if_icmp .ge 12, 3) := by decide +kernel
theorem dX5_valueAt_21 : decode cX5_valueAt 21 = .ok (.aload_n 0, 1) := by decide +kernel
theorem dX5_valueAt_22 : decode cX5_valueAt 22 = .ok (.getfield 15, 3) := by decide +kernel
theorem dX5_valueAt_25 : decode cX5_valueAt 25 = .ok (.iload_n 1, 1) := by decide +kernel
theorem dX5_valueAt_26 : decode cX5_valueAt 26 = .ok (.iaload, 1) := by decide +kernel
theorem dX5_valueAt_27 : decode cX5_valueAt 27 = .ok (.goto 4, 3) := by decide +kernel
theorem dX5_valueAt_30 : decode cX5_valueAt 30 = .ok (.iconst 0, 1) := by decide +kernel
theorem dX5_valueAt_31 : decode cX5_valueAt 31 = .ok (.ireturn, 1) := by decide +kernel
theorem dX5_placeAt_0 : decode cX5_placeAt 0 = .ok (.iload_n 1, 1) := by decide +kernel
theorem dX5_placeAt_1 : decode cX5_placeAt 1 = .ok (.ifCond .lt 29, 3) := by decide +kernel
theorem dX5_placeAt_4 : decode cX5_placeAt 4 = .ok (.iload_n 1, 1) := by decide +kernel
theorem dX5_placeAt_5 : decode cX5_placeAt 5 = .ok (.aload_n 0, 1) := by decide +kernel
theorem dX5_placeAt_6 : decode cX5_placeAt 6 = .ok (.getfield 21, 3) := by decide +kernel
theorem dX5_placeAt_9 : decode cX5_placeAt 9 = .ok (.if_icmp .ge 21, 3) := by decide +kernel
theorem dX5_placeAt_12 : decode cX5_placeAt 12 = .ok (.iload_n 1, 1) := by decide +kernel
theorem dX5_placeAt_13 : decode cX5_placeAt 13 = .ok (.aload_n 0, 1) := by decide +kernel
theorem dX5_placeAt_14 : decode cX5_placeAt 14 = .ok (.getfield 18, 3) := by decide +kernel
theorem dX5_placeAt_17 : decode cX5_placeAt 17 = .ok (.arraylength, 1) := by decide +kernel
theorem dX5_placeAt_18 : decode cX5_placeAt 18 = .ok (.if_icmp .ge 12, 3) := by decide +kernel
theorem dX5_placeAt_21 : decode cX5_placeAt 21 = .ok (.aload_n 0, 1) := by decide +kernel
theorem dX5_placeAt_22 : decode cX5_placeAt 22 = .ok (.getfield 18, 3) := by decide +kernel
theorem dX5_placeAt_25 : decode cX5_placeAt 25 = .ok (.iload_n 1, 1) := by decide +kernel
theorem dX5_placeAt_26 : decode cX5_placeAt 26 = .ok (.iaload, 1) := by decide +kernel
theorem dX5_placeAt_27 : decode cX5_placeAt 27 = .ok (.goto 7, 3) := by decide +kernel
theorem dX5_placeAt_30 : decode cX5_placeAt 30 = .ok (.aload_n 0, 1) := by decide +kernel
theorem dX5_placeAt_31 : decode cX5_placeAt 31 = .ok (.getfield 25, 3) := by decide +kernel
theorem dX5_placeAt_34 : decode cX5_placeAt 34 = .ok (.ireturn, 1) := by decide +kernel
theorem dX5_copyOfTokens_0 : decode cX5_copyOfTokens 0 = .ok (.iconst 0, 1) := by decide +kernel
theorem dX5_copyOfTokens_1 : decode cX5_copyOfTokens 1 = .ok (.aload_n 0, 1) := by decide +kernel
theorem dX5_copyOfTokens_2 : decode cX5_copyOfTokens 2 = .ok (.getfield 21, 3) := by decide +kernel
theorem dX5_copyOfTokens_5 : decode cX5_copyOfTokens 5 = .ok (.invokestatic 34, 3) := by decide +kernel
theorem dX5_copyOfTokens_8 : decode cX5_copyOfTokens 8 = .ok (.newarray .int, 2) := by decide +kernel
theorem dX5_copyOfTokens_10 : decode cX5_copyOfTokens 10 = .ok (.astore_n 1, 1) := by decide +kernel
theorem dX5_copyOfTokens_11 : decode cX5_copyOfTokens 11 = .ok (.iconst 0, 1) := by decide +kernel
theorem dX5_copyOfTokens_12 : decode cX5_copyOfTokens 12 = .ok (.istore_n 2, 1) := by decide +kernel
theorem dX5_copyOfTokens_13 : decode cX5_copyOfTokens 13 = .ok (.iload_n 2, 1) := by decide +kernel
theorem dX5_copyOfTokens_14 : decode cX5_copyOfTokens 14 = .ok (.aload_n 1, 1) := by decide +kernel
theorem dX5_copyOfTokens_15 : decode cX5_copyOfTokens 15 = .ok (.arraylength, 1) := by decide +kernel
theorem dX5_copyOfTokens_16 : decode cX5_copyOfTokens 16 = .ok (.if_icmp .ge 38, 3) := by decide +kernel
theorem dX5_copyOfTokens_19 : decode cX5_copyOfTokens 19 = .ok (.aload_n 1, 1) := by decide +kernel
theorem dX5_copyOfTokens_20 : decode cX5_copyOfTokens 20 = .ok (.iload_n 2, 1) := by decide +kernel
theorem dX5_copyOfTokens_21 : decode cX5_copyOfTokens 21 = .ok (.aload_n 0, 1) := by decide +kernel
theorem dX5_copyOfTokens_22 : decode cX5_copyOfTokens 22 = .ok (.iload_n 2, 1) := by decide +kernel
theorem dX5_copyOfTokens_23 : decode cX5_copyOfTokens 23 = .ok (.invokevirtual 64, 3) := by decide +kernel
theorem dX5_copyOfTokens_26 : decode cX5_copyOfTokens 26 = .ok (.iconst 3, 1) := by decide +kernel
theorem dX5_copyOfTokens_27 : decode cX5_copyOfTokens 27 = .ok (.if_icmp .ne 11, 3) := by decide +kernel
theorem dX5_copyOfTokens_30 : decode cX5_copyOfTokens 30 = .ok (.aload_n 0, 1) := by decide +kernel
theorem dX5_copyOfTokens_31 : decode cX5_copyOfTokens 31 = .ok (.iload_n 2, 1) := by decide +kernel
theorem dX5_copyOfTokens_32 : decode cX5_copyOfTokens 32 = .ok (.invokevirtual 68, 3) := by decide +kernel
theorem dX5_copyOfTokens_35 : decode cX5_copyOfTokens 35 = .ok (.goto 12, 3) := by decide +kernel
theorem dX5_copyOfTokens_38 : decode cX5_copyOfTokens 38 = .ok (.sipush 10000, 3) := by decide +kernel
theorem dX5_copyOfTokens_41 : decode cX5_copyOfTokens 41 = .ok (.aload_n 0, 1) := by decide +kernel
theorem dX5_copyOfTokens_42 : decode cX5_copyOfTokens 42 = .ok (.iload_n 2, 1) := by decide +kernel
theorem dX5_copyOfTokens_43 : decode cX5_copyOfTokens 43 = .ok (.invokevirtual 64, 3) := by decide +kernel
theorem dX5_copyOfTokens_46 : decode cX5_copyOfTokens 46 = .ok (.iadd, 1) := by decide +kernel
theorem dX5_copyOfTokens_47 : decode cX5_copyOfTokens 47 = .ok (.iastore, 1) := by decide +kernel
theorem dX5_copyOfTokens_48 : decode cX5_copyOfTokens 48 = .ok (.iinc 2 1, 3) := by decide +kernel
theorem dX5_copyOfTokens_51 : decode cX5_copyOfTokens 51 = .ok (.goto (-38), 3) := by decide +kernel
theorem dX5_copyOfTokens_54 : decode cX5_copyOfTokens 54 = .ok (.aload_n 1, 1) := by decide +kernel
theorem dX5_copyOfTokens_55 : decode cX5_copyOfTokens 55 = .ok (.areturn, 1) := by decide +kernel
theorem dX6_init_0 : decode cX6_init 0 = .ok (.aload_n 0, 1) := by decide +kernel
theorem dX6_init_1 : decode cX6_init 1 = .ok (.invokespecial 3, 3) := by decide +kernel
theorem dX6_init_4 : decode cX6_init 4 = .ok (.aload_n 0, 1) := by decide +kernel
theorem dX6_init_5 : decode cX6_init 5 = .ok (.iconst 0, 1) := by decide +kernel
theorem dX6_init_6 : decode cX6_init 6 = .ok (.putfield 9, 3) := by decide +kernel
theorem dX6_init_9 : decode cX6_init 9 = .ok (.aload_n 0, 1) := by decide +kernel
theorem dX6_init_10 : decode cX6_init 10 = .ok (.iload_n 1, 1) := by decide +kernel
theorem dX6_init_11 : decode cX6_init 11 = .ok (.putfield 15, 3) := by decide +kernel
theorem dX6_init_14 : decode cX6_init 14 = .ok (.aload_n 0, 1) := by decide +kernel
theorem dX6_init_15 : decode cX6_init 15 = .ok (.iload_n 2, 1) := by decide +kernel
theorem dX6_init_16 : decode cX6_init 16 = .ok (.putfield 19, 3) := by decide +kernel
theorem dX6_init_19 : decode cX6_init 19 = .ok (.aload_n 0, 1) := by decide +kernel
theorem dX6_init_20 : decode cX6_init 20 = .ok (.iload_n 3, 1) := by decide +kernel
theorem dX6_init_21 : decode cX6_init 21 = .ok (.putfield 22, 3) := by decide +kernel
theorem dX6_init_24 : decode cX6_init 24 = .ok (.aload_n 0, 1) := by decide +kernel
theorem dX6_init_25 : decode cX6_init 25 = .ok (.iload 4, 2) := by decide +kernel
theorem dX6_init_27 : decode cX6_init 27 = .ok (.putfield 25, 3) := by decide +kernel
theorem dX6_init_30 : decode cX6_init 30 = .ok (.aload_n 0, 1) := by decide +kernel
theorem dX6_init_31 : decode cX6_init 31 = .ok (.iload 5, 2) := by decide +kernel
theorem dX6_init_33 : decode cX6_init 33 = .ok (.putfield 28, 3) := by decide +kernel
theorem dX6_init_36 : decode cX6_init 36 = .ok (.aload_n 0, 1) := by decide +kernel
theorem dX6_init_37 : decode cX6_init 37 = .ok (.iload 6, 2) := by decide +kernel
theorem dX6_init_39 : decode cX6_init 39 = .ok (.putfield 31, 3) := by decide +kernel
theorem dX6_init_42 : decode cX6_init 42 = .ok (.return_, 1) := by decide +kernel
theorem dX6_isOpen_0 : decode cX6_isOpen 0 = .ok (.aload_n 0, 1) := by decide +kernel
theorem dX6_isOpen_1 : decode cX6_isOpen 1 = .ok (.getfield 9, 3) := by decide +kernel
theorem dX6_isOpen_4 : decode cX6_isOpen 4 = .ok (.ifCond .ne 14, 3) := by decide +kernel
theorem dX6_isOpen_7 : decode cX6_isOpen 7 = .ok (.aload_n 0, 1) := by decide +kernel
theorem dX6_isOpen_8 : decode cX6_isOpen 8 = .ok (.getfield 25, 3) := by decide +kernel
theorem dX6_isOpen_11 : decode cX6_isOpen 11 = .ok (.ifCond .le 7, 3) := by decide +kernel
theorem dX6_isOpen_14 : decode cX6_isOpen 14 = .ok (.iconst 1, 1) := by decide +kernel
theorem dX6_isOpen_15 : decode cX6_isOpen 15 = .ok (.goto 4, 3) := by decide +kernel
theorem dX6_isOpen_18 : decode cX6_isOpen 18 = .ok (.iconst 0, 1) := by decide +kernel
theorem dX6_isOpen_19 : decode cX6_isOpen 19 = .ok (.ireturn, 1) := by decide +kernel
theorem dX6_partOf_0 : decode cX6_partOf 0 = .ok (.aload_n 0, 1) := by decide +kernel
theorem dX6_partOf_1 : decode cX6_partOf 1 = .ok (.getfield 31, 3) := by decide +kernel
theorem dX6_partOf_4 : decode cX6_partOf 4 = .ok (.invokestatic 34, 3) := by decide +kernel
theorem dX6_partOf_7 : decode cX6_partOf 7 = .ok (.istore_n 2, 1) := by decide +kernel
theorem dX6_partOf_8 : decode cX6_partOf 8 = .ok (.iload_n 2, 1) := by decide +kernel
theorem dX6_partOf_9 : decode cX6_partOf 9 = .ok (.ifCond .le 14, 3) := by decide +kernel
theorem dX6_partOf_12 : decode cX6_partOf 12 = .ok (.aload_n 0, 1) := by decide +kernel
theorem dX6_partOf_13 : decode cX6_partOf 13 = .ok (.getfield 25, 3) := by decide +kernel
theorem dX6_partOf_16 : decode cX6_partOf 16 = .ok (.iconst 2, 1) := by decide +kernel
theorem dX6_partOf_17 : decode cX6_partOf 17 = .ok (.idiv, 1) := by decide +kernel
theorem dX6_partOf_18 : decode cX6_partOf 18 = .ok (.iload_n 2, 1) := by decide +kernel
theorem dX6_partOf_19 : decode cX6_partOf 19 = .ok (.idiv, 1) := by decide +kernel
theorem dX6_partOf_20 : decode cX6_partOf 20 = .ok (.goto 4, 3) := by decide +kernel
theorem dX6_partOf_23 : decode cX6_partOf 23 = .ok (.iconst 0, 1) := by decide +kernel
theorem dX6_partOf_24 : decode cX6_partOf 24 = .ok (.istore_n 3, 1) := by decide +kernel
theorem dX6_partOf_25 : decode cX6_partOf 25 = .ok (.iload_n 1, 1) := by decide +kernel
theorem dX6_partOf_26 : decode cX6_partOf 26 = .ok (.aload_n 0, 1) := by decide +kernel
theorem dX6_partOf_27 : decode cX6_partOf 27 = .ok (.getfield 15, 3) := by decide +kernel
theorem dX6_partOf_30 : decode cX6_partOf 30 = .ok (.if_icmp .ne 12, 3) := by decide +kernel
theorem dX6_partOf_33 : decode cX6_partOf 33 = .ok (.aload_n 0, 1) := by decide +kernel
theorem dX6_partOf_34 : decode cX6_partOf 34 = .ok (.getfield 25, 3) := by decide +kernel
theorem dX6_partOf_37 : decode cX6_partOf 37 = .ok (.iload_n 3, 1) := by decide +kernel
theorem dX6_partOf_38 : decode cX6_partOf 38 = .ok (.iload_n 2, 1) := by decide +kernel
theorem dX6_partOf_39 : decode cX6_partOf 39 = .ok (.imul, 1) := by decide +kernel
theorem dX6_partOf_40 : decode cX6_partOf 40 = .ok (.isub, 1) := by decide +kernel
theorem dX6_partOf_41 : decode cX6_partOf 41 = .ok (.ireturn, 1) := by decide +kernel
theorem dX6_partOf_42 : decode cX6_partOf 42 = .ok (.iload_n 1, 1) := by decide +kernel
theorem dX6_partOf_43 : decode cX6_partOf 43 = .ok (.ifCond .lt 24, 3) := by decide +kernel
theorem dX6_partOf_46 : decode cX6_partOf 46 = .ok (.iload_n 1, 1) := by decide +kernel
theorem dX6_partOf_47 : decode cX6_partOf 47 = .ok (.bipush 24, 2) := by decide +kernel
theorem dX6_partOf_49 : decode cX6_partOf 49 = .ok (.if_icmp .ge 18, 3) := by decide +kernel
theorem dX6_partOf_52 : decode cX6_partOf 52 = .ok (.aload_n 0, 1) := by decide +kernel
theorem dX6_partOf_53 : decode cX6_partOf 53 = .ok (.getfield 31, 3) := by decide +kernel
theorem dX6_partOf_56 : decode cX6_partOf 56 = .ok (.iload_n 1, 1) := by decide +kernel
theorem dX6_partOf_57 : decode cX6_partOf 57 = .ok (.iushr, 1) := by decide +kernel
theorem dX6_partOf_58 : decode cX6_partOf 58 = .ok (.iconst 1, 1) := by decide +kernel
theorem dX6_partOf_59 : decode cX6_partOf 59 = .ok (.iand, 1) := by decide +kernel
theorem dX6_partOf_60 : decode cX6_partOf 60 = .ok (.ifCond .eq 7, 3) := by decide +kernel
theorem dX6_partOf_63 : decode cX6_partOf 63 = .ok (.iload_n 3, 1) := by decide +kernel
theorem dX6_partOf_64 : decode cX6_partOf 64 = .ok (.goto 4, 3) := by decide +kernel
theorem dX6_partOf_67 : decode cX6_partOf 67 = .ok (.iconst 0, 1) := by decide +kernel
theorem dX6_partOf_68 : decode cX6_partOf 68 = .ok (.ireturn, 1) := by decide +kernel
theorem dX7_init_0 : decode cX7_init 0 = .ok (.aload_n 0, 1) := by decide +kernel
theorem dX7_init_1 : decode cX7_init 1 = .ok (.invokespecial 3, 3) := by decide +kernel
theorem dX7_init_4 : decode cX7_init 4 = .ok (.aload_n 0, 1) := by decide +kernel
theorem dX7_init_5 : decode cX7_init 5 = .ok (.iload_n 1, 1) := by decide +kernel
theorem dX7_init_6 : decode cX7_init 6 = .ok (.putfield 9, 3) := by decide +kernel
theorem dX7_init_9 : decode cX7_init 9 = .ok (.aload_n 0, 1) := by decide +kernel
theorem dX7_init_10 : decode cX7_init 10 = .ok (.aload_n 2, 1) := by decide +kernel
theorem dX7_init_11 : decode cX7_init 11 = .ok (.putfield 15, 3) := by decide +kernel
theorem dX7_init_14 : decode cX7_init 14 = .ok (.aload_n 0, 1) := by decide +kernel
theorem dX7_init_15 : decode cX7_init 15 = .ok (.aload_n 3, 1) := by decide +kernel
theorem dX7_init_16 : decode cX7_init 16 = .ok (.putfield 19, 3) := by decide +kernel
theorem dX7_init_19 : decode cX7_init 19 = .ok (.aload_n 0, 1) := by decide +kernel
theorem dX7_init_20 : decode cX7_init 20 = .ok (.iconst 0, 1) := by decide +kernel
theorem dX7_init_21 : decode cX7_init 21 = .ok (.iload_n 1, 1) := by decide +kernel
theorem dX7_init_22 : decode cX7_init 22 = .ok (.invokestatic 22, 3) := by decide +kernel
theorem dX7_init_25 : decode cX7_init 25 = .ok (.newarray .int, 2) := by decide +kernel
theorem dX7_init_27 : decode cX7_init 27 = .ok (.putfield 28, 3) := by decide +kernel
theorem dX7_init_30 : decode cX7_init 30 = .ok (.aload_n 0, 1) := by decide +kernel
theorem dX7_init_31 : decode cX7_init 31 = .ok (.getfield 28, 3) := by decide +kernel
theorem dX7_init_34 : decode cX7_init 34 = .ok (.iconst (-1), 1) := by decide +kernel
theorem dX7_init_35 : decode cX7_init 35 = .ok (.invokestatic 31, 3) := by decide +kernel
theorem dX7_init_38 : decode cX7_init 38 = .ok (.return_, 1) := by decide +kernel
theorem dX7_distanceTo_0 : decode cX7_distanceTo 0 = .ok (.iload_n 1, 1) := by decide +kernel
theorem dX7_distanceTo_1 : decode cX7_distanceTo 1 = .ok (.ifCond .lt 21, 3) := by decide +kernel
theorem dX7_distanceTo_4 : decode cX7_distanceTo 4 = .ok (.iload_n 1, 1) := by decide +kernel
theorem dX7_distanceTo_5 : decode cX7_distanceTo 5 = .ok (.aload_n 0, 1) := by decide +kernel
theorem dX7_distanceTo_6 : decode cX7_distanceTo 6 = .ok (.getfield 28, 3) := by decide +kernel
theorem dX7_distanceTo_9 : decode cX7_distanceTo 9 = .ok (.arraylength, 1) := by decide +kernel
theorem dX7_distanceTo_10 : decode cX7_distanceTo 10 = .ok (.if_icmp .ge 12, 3) := by decide +kernel
theorem dX7_distanceTo_13 : decode cX7_distanceTo 13 = .ok (.aload_n 0, 1) := by decide +kernel
theorem dX7_distanceTo_14 : decode cX7_distanceTo 14 = .ok (.getfield 28, 3) := by decide +kernel
theorem dX7_distanceTo_17 : decode cX7_distanceTo 17 = .ok (.iload_n 1, 1) := by decide +kernel
theorem dX7_distanceTo_18 : decode cX7_distanceTo 18 = .ok (.iaload, 1) := by decide +kernel
theorem dX7_distanceTo_19 : decode cX7_distanceTo 19 = .ok (.goto 4, 3) := by decide +kernel
theorem dX7_distanceTo_22 : decode cX7_distanceTo 22 = .ok (.iconst (-1), 1) := by decide +kernel
theorem dX7_distanceTo_23 : decode cX7_distanceTo 23 = .ok (.ireturn, 1) := by decide +kernel
theorem dX7_keepDistance_0 : decode cX7_keepDistance 0 = .ok (.iload_n 1, 1) := by decide +kernel
theorem dX7_keepDistance_1 : decode cX7_keepDistance 1 = .ok (.ifCond .lt 19, 3) := by decide +kernel
theorem dX7_keepDistance_4 : decode cX7_keepDistance 4 = .ok (.iload_n 1, 1) := by decide +kernel
theorem dX7_keepDistance_5 : decode cX7_keepDistance 5 = .ok (.aload_n 0, 1) := by decide +kernel
theorem dX7_keepDistance_6 : decode cX7_keepDistance 6 = .ok (.getfield 28, 3) := by decide +kernel
theorem dX7_keepDistance_9 : decode cX7_keepDistance 9 = .ok (.arraylength, 1) := by decide +kernel
theorem dX7_keepDistance_10 : decode cX7_keepDistance 10 = .ok (.if_icmp .ge 10, 3) := by decide +kernel
theorem dX7_keepDistance_13 : decode cX7_keepDistance 13 = .ok (.aload_n 0, 1) := by decide +kernel
theorem dX7_keepDistance_14 : decode cX7_keepDistance 14 = .ok (.getfield 28, 3) := by decide +kernel
theorem dX7_keepDistance_17 : decode cX7_keepDistance 17 = .ok (.iload_n 1, 1) := by decide +kernel
theorem dX7_keepDistance_18 : decode cX7_keepDistance 18 = .ok (.iload_n 2, 1) := by decide +kernel
theorem dX7_keepDistance_19 : decode cX7_keepDistance 19 = .ok (.iastore, 1) := by decide +kernel
theorem dX7_keepDistance_20 : decode cX7_keepDistance 20 = .ok (.return_, 1) := by decide +kernel
theorem dX7_codeLength_0 : decode cX7_codeLength 0 = .ok (.aload_n 0, 1) := by decide +kernel
theorem dX7_codeLength_1 : decode cX7_codeLength 1 = .ok (.getfield 19, 3) := by decide +kernel
theorem dX7_codeLength_4 : decode cX7_codeLength 4 = .ok (.arraylength, 1) := by decide +kernel
theorem dX7_codeLength_5 : decode cX7_codeLength 5 = .ok (.ireturn, 1) := by decide +kernel
theorem dX7_codeAt_0 : decode cX7_codeAt 0 = .ok (.iload_n 1, 1) := by decide +kernel
theorem dX7_codeAt_1 : decode cX7_codeAt 1 = .ok (.ifCond .lt 21, 3) := by decide +kernel
theorem dX7_codeAt_4 : decode cX7_codeAt 4 = .ok (.iload_n 1, 1) := by decide +kernel
theorem dX7_codeAt_5 : decode cX7_codeAt 5 = .ok (.aload_n 0, 1) := by decide +kernel
theorem dX7_codeAt_6 : decode cX7_codeAt 6 = .ok (.getfield 19, 3) := by decide +kernel
theorem dX7_codeAt_9 : decode cX7_codeAt 9 = .ok (.arraylength, 1) := by decide +kernel
theorem dX7_codeAt_10 : decode cX7_codeAt 10 = .ok (.if_icmp .ge 12, 3) := by decide +kernel
theorem dX7_codeAt_13 : decode cX7_codeAt 13 = .ok (.aload_n 0, 1) := by decide +kernel
theorem dX7_codeAt_14 : decode cX7_codeAt 14 = .ok (.getfield 19, 3) := by decide +kernel
theorem dX7_codeAt_17 : decode cX7_codeAt 17 = .ok (.iload_n 1, 1) := by decide +kernel
theorem dX7_codeAt_18 : decode cX7_codeAt 18 = .ok (.iaload, 1) := by decide +kernel
theorem dX7_codeAt_19 : decode cX7_codeAt 19 = .ok (.goto 4, 3) := by decide +kernel
theorem dX7_codeAt_22 : decode cX7_codeAt 22 = .ok (.iconst 0, 1) := by decide +kernel
theorem dX7_codeAt_23 : decode cX7_codeAt 23 = .ok (.ireturn, 1) := by decide +kernel
theorem dX7_leastChanges_0 : decode cX7_leastChanges 0 = .ok (.aload_n 0, 1) := by decide +kernel
theorem dX7_leastChanges_1 : decode cX7_leastChanges 1 = .ok (.getfield 15, 3) := by decide +kernel
theorem dX7_leastChanges_4 : decode cX7_leastChanges 4 = .ok (.astore_n 3, 1) := by decide +kernel
theorem dX7_leastChanges_5 : decode cX7_leastChanges 5 = .ok (.aload_n 1, 1) := by decide +kernel
theorem dX7_leastChanges_6 : decode cX7_leastChanges 6 = .ok (.getfield 15, 3) := by decide +kernel
theorem dX7_leastChanges_9 : decode cX7_leastChanges 9 = .ok (.astore 4, 2) := by decide +kernel
theorem dX7_leastChanges_11 : decode cX7_leastChanges 11 = .ok (.iconst 0, 1) := by decide +kernel
theorem dX7_leastChanges_12 : decode cX7_leastChanges 12 = .ok (.istore 5, 2) := by decide +kernel
theorem dX7_leastChanges_14 : decode cX7_leastChanges 14 = .ok (.iload 5, 2) := by decide +kernel
theorem dX7_leastChanges_16 : decode cX7_leastChanges 16 = .ok (.aload_n 3, 1) := by decide +kernel
theorem dX7_leastChanges_17 : decode cX7_leastChanges 17 = .ok (.arraylength, 1) := by decide +kernel
theorem dX7_leastChanges_18 : decode cX7_leastChanges 18 = .ok (.if_icmp .ge 29, 3) := by decide +kernel
theorem dX7_leastChanges_21 : decode cX7_leastChanges 21 = .ok (.iload 5, 2) := by decide +kernel
theorem dX7_leastChanges_23 : decode cX7_leastChanges 23 = .ok (.aload 4, 2) := by decide +kernel
theorem dX7_leastChanges_25 : decode cX7_leastChanges 25 = .ok (.arraylength, 1) := by decide +kernel
theorem dX7_leastChanges_26 : decode cX7_leastChanges 26 = .ok (.if_icmp .ge 21, 3) := by decide +kernel
theorem dX7_leastChanges_29 : decode cX7_leastChanges 29 = .ok (.aload_n 3, 1) := by decide +kernel
theorem dX7_leastChanges_30 : decode cX7_leastChanges 30 = .ok (.iload 5, 2) := by decide +kernel
theorem dX7_leastChanges_32 : decode cX7_leastChanges 32 = .ok (.iaload, 1) := by decide +kernel
theorem dX7_leastChanges_33 : decode cX7_leastChanges 33 = .ok (.aload 4, 2) := by decide +kernel
theorem dX7_leastChanges_35 : decode cX7_leastChanges 35 = .ok (.iload 5, 2) := by decide +kernel
theorem dX7_leastChanges_37 : decode cX7_leastChanges 37 = .ok (.iaload, 1) := by decide +kernel
theorem dX7_leastChanges_38 : decode cX7_leastChanges 38 = .ok (.if_icmp .ne 9, 3) := by decide +kernel
theorem dX7_leastChanges_41 : decode cX7_leastChanges 41 = .ok (.iinc 5 1, 3) := by decide +kernel
theorem dX7_leastChanges_44 : decode cX7_leastChanges 44 = .ok (.goto (-30), 3) := by decide +kernel
theorem dX7_leastChanges_47 : decode cX7_leastChanges 47 = .ok (.iconst 0, 1) := by decide +kernel
theorem dX7_leastChanges_48 : decode cX7_leastChanges 48 = .ok (.istore 6, 2) := by decide +kernel
theorem dX7_leastChanges_50 : decode cX7_leastChanges 50 = .ok (.iload 6, 2) := by decide +kernel
theorem dX7_leastChanges_52 : decode cX7_leastChanges 52 = .ok (.aload_n 3, 1) := by decide +kernel
theorem dX7_leastChanges_53 : decode cX7_leastChanges 53 = .ok (.arraylength, 1) := by decide +kernel
theorem dX7_leastChanges_54 : decode cX7_leastChanges 54 = .ok (.if_icmp .ge 22, 3) := by decide +kernel
theorem dX7_leastChanges_57 : decode cX7_leastChanges 57 = .ok (.aload_n 3, 1) := by decide +kernel
theorem dX7_leastChanges_58 : decode cX7_leastChanges 58 = .ok (.aload 4, 2) := by decide +kernel
theorem dX7_leastChanges_60 : decode cX7_leastChanges 60 = .ok (.iload 5, 2) := by decide +kernel
theorem dX7_leastChanges_62 : decode cX7_leastChanges 62 = .ok (.iload 6, 2) := by decide +kernel
theorem dX7_leastChanges_64 : decode cX7_leastChanges 64 = .ok (.invokestatic 37, 3) := by decide +kernel
theorem dX7_leastChanges_67 : decode cX7_leastChanges 67 = .ok (.ifCond .eq 9, 3) := by decide +kernel
theorem dX7_leastChanges_70 : decode cX7_leastChanges 70 = .ok (.iinc 6 1, 3) := by decide +kernel
theorem dX7_leastChanges_73 : decode cX7_leastChanges 73 = .ok (.goto (-23), 3) := by decide +kernel
theorem dX7_leastChanges_76 : decode cX7_leastChanges 76 = .ok (.aload 4, 2) := by decide +kernel
theorem dX7_leastChanges_78 : decode cX7_leastChanges 78 = .ok (.arraylength, 1) := by decide +kernel
theorem dX7_leastChanges_79 : decode cX7_leastChanges 79 = .ok (.iload 6, 2) := by decide +kernel
theorem dX7_leastChanges_81 : decode cX7_leastChanges 81 = .ok (.isub, 1) := by decide +kernel
theorem dX7_leastChanges_82 : decode cX7_leastChanges 82 = .ok (.iload 5, 2) := by decide +kernel
theorem dX7_leastChanges_84 : decode cX7_leastChanges 84 = .ok (.isub, 1) := by decide +kernel
theorem dX7_leastChanges_85 : decode cX7_leastChanges 85 = .ok (.istore 7, 2) := by decide +kernel
theorem dX7_leastChanges_87 : decode cX7_leastChanges 87 = .ok (.iconst 0, 1) := by decide +kernel
theorem dX7_leastChanges_88 : decode cX7_leastChanges 88 = .ok (.istore 8, 2) := by decide +kernel
theorem dX7_leastChanges_90 : decode cX7_leastChanges 90 = .ok (.iload 8, 2) := by decide +kernel
theorem dX7_leastChanges_92 : decode cX7_leastChanges 92 = .ok (.iload 7, 2) := by decide +kernel
theorem dX7_leastChanges_94 : decode cX7_leastChanges 94 = .ok (.if_icmp .gt 22, 3) := by decide +kernel
theorem dX7_leastChanges_97 : decode cX7_leastChanges 97 = .ok (.iload 8, 2) := by decide +kernel
theorem dX7_leastChanges_99 : decode cX7_leastChanges 99 = .ok (.aload_n 2, 1) := by decide +kernel
theorem dX7_leastChanges_100 : decode cX7_leastChanges 100 = .ok (.arraylength, 1) := by decide +kernel
theorem dX7_leastChanges_101 : decode cX7_leastChanges 101 = .ok (.if_icmp .ge 15, 3) := by decide +kernel
theorem dX7_leastChanges_104 : decode cX7_leastChanges 104 = .ok (.aload_n 2, 1) := by decide +kernel
theorem dX7_leastChanges_105 : decode cX7_leastChanges 105 = .ok (.iload 8, 2) := by decide +kernel
theorem dX7_leastChanges_107 : decode cX7_leastChanges 107 = .ok (.iload 8, 2) := by decide +kernel
theorem dX7_leastChanges_109 : decode cX7_leastChanges 109 = .ok (.iastore, 1) := by decide +kernel
theorem dX7_leastChanges_110 : decode cX7_leastChanges 110 = .ok (.iinc 8 1, 3) := by decide +kernel
theorem dX7_leastChanges_113 : decode cX7_leastChanges 113 = .ok (.goto (-23), 3) := by decide +kernel
theorem dX7_leastChanges_116 : decode cX7_leastChanges 116 = .ok (.iload 5, 2) := by decide +kernel
theorem dX7_leastChanges_118 : decode cX7_leastChanges 118 = .ok (.istore 8, 2) := by decide +kernel
theorem dX7_leastChanges_120 : decode cX7_leastChanges 120 = .ok (.iload 8, 2) := by decide +kernel
theorem dX7_leastChanges_122 : decode cX7_leastChanges 122 = .ok (.aload_n 3, 1) := by decide +kernel
theorem dX7_leastChanges_123 : decode cX7_leastChanges 123 = .ok (.arraylength, 1) := by decide +kernel
theorem dX7_leastChanges_124 : decode cX7_leastChanges 124 = .ok (.iload 6, 2) := by decide +kernel
theorem dX7_leastChanges_126 : decode cX7_leastChanges 126 = .ok (.isub, 1) := by decide +kernel
theorem dX7_leastChanges_127 : decode cX7_leastChanges 127 = .ok (.if_icmp .ge 23, 3) := by decide +kernel
theorem dX7_leastChanges_130 : decode cX7_leastChanges 130 = .ok (.aload_n 3, 1) := by decide +kernel
theorem dX7_leastChanges_131 : decode cX7_leastChanges 131 = .ok (.iload 8, 2) := by decide +kernel
theorem dX7_leastChanges_133 : decode cX7_leastChanges 133 = .ok (.iaload, 1) := by decide +kernel
theorem dX7_leastChanges_134 : decode cX7_leastChanges 134 = .ok (.aload 4, 2) := by decide +kernel
theorem dX7_leastChanges_136 : decode cX7_leastChanges 136 = .ok (.iload 5, 2) := by decide +kernel
theorem dX7_leastChanges_138 : decode cX7_leastChanges 138 = .ok (.aload_n 2, 1) := by decide +kernel
theorem dX7_leastChanges_139 : decode cX7_leastChanges 139 = .ok (.iload 7, 2) := by decide +kernel
theorem dX7_leastChanges_141 : decode cX7_leastChanges 141 = .ok (.invokestatic 41, 3) := by decide +kernel
theorem dX7_leastChanges_144 : decode cX7_leastChanges 144 = .ok (.iinc 8 1, 3) := by decide +kernel
theorem dX7_leastChanges_147 : decode cX7_leastChanges 147 = .ok (.goto (-27), 3) := by decide +kernel
theorem dX7_leastChanges_150 : decode cX7_leastChanges 150 = .ok (.iload 7, 2) := by decide +kernel
theorem dX7_leastChanges_152 : decode cX7_leastChanges 152 = .ok (.ifCond .lt 17, 3) := by decide +kernel
theorem dX7_leastChanges_155 : decode cX7_leastChanges 155 = .ok (.iload 7, 2) := by decide +kernel
theorem dX7_leastChanges_157 : decode cX7_leastChanges 157 = .ok (.aload_n 2, 1) := by decide +kernel
theorem dX7_leastChanges_158 : decode cX7_leastChanges 158 = .ok (.arraylength, 1) := by decide +kernel
theorem dX7_leastChanges_159 : decode cX7_leastChanges 159 = .ok (.if_icmp .ge 10, 3) := by decide +kernel
theorem dX7_leastChanges_162 : decode cX7_leastChanges 162 = .ok (.aload_n 2, 1) := by decide +kernel
theorem dX7_leastChanges_163 : decode cX7_leastChanges 163 = .ok (.iload 7, 2) := by decide +kernel
theorem dX7_leastChanges_165 : decode cX7_leastChanges 165 = .ok (.iaload, 1) := by decide +kernel
theorem dX7_leastChanges_166 : decode cX7_leastChanges 166 = .ok (.goto 4, 3) := by decide +kernel
theorem dX7_leastChanges_169 : decode cX7_leastChanges 169 = .ok (.iconst 0, 1) := by decide +kernel
theorem dX7_leastChanges_170 : decode cX7_leastChanges 170 = .ok (.ireturn, 1) := by decide +kernel
theorem dX7_isSameFromEnd_0 : decode cX7_isSameFromEnd 0 = .ok (.aload_n 0, 1) := by decide +kernel
theorem dX7_isSameFromEnd_1 : decode cX7_isSameFromEnd 1 = .ok (.arraylength, 1) := by decide +kernel
theorem dX7_isSameFromEnd_2 : decode cX7_isSameFromEnd 2 = .ok (.iconst 1, 1) := by decide +kernel
theorem dX7_isSameFromEnd_3 : decode cX7_isSameFromEnd 3 = .ok (.isub, 1) := by decide +kernel
theorem dX7_isSameFromEnd_4 : decode cX7_isSameFromEnd 4 = .ok (.iload_n 3, 1) := by decide +kernel
theorem dX7_isSameFromEnd_5 : decode cX7_isSameFromEnd 5 = .ok (.isub, 1) := by decide +kernel
theorem dX7_isSameFromEnd_6 : decode cX7_isSameFromEnd 6 = .ok (.istore 4, 2) := by decide +kernel
theorem dX7_isSameFromEnd_8 : decode cX7_isSameFromEnd 8 = .ok (.aload_n 1, 1) := by decide +kernel
theorem dX7_isSameFromEnd_9 : decode cX7_isSameFromEnd 9 = .ok (.arraylength, 1) := by decide +kernel
theorem dX7_isSameFromEnd_10 : decode cX7_isSameFromEnd 10 = .ok (.iconst 1, 1) := by decide +kernel
theorem dX7_isSameFromEnd_11 : decode cX7_isSameFromEnd 11 = .ok (.isub, 1) := by decide +kernel
theorem dX7_isSameFromEnd_12 : decode cX7_isSameFromEnd 12 = .ok (.iload_n 3, 1) := by decide +kernel
theorem dX7_isSameFromEnd_13 : decode cX7_isSameFromEnd 13 = .ok (.isub, 1) := by decide +kernel
theorem dX7_isSameFromEnd_14 : decode cX7_isSameFromEnd 14 = .ok (.istore 5, 2) := by decide +kernel
theorem dX7_isSameFromEnd_16 : decode cX7_isSameFromEnd 16 = .ok (.iload 4, 2) := by decide +kernel
theorem dX7_isSameFromEnd_18 : decode cX7_isSameFromEnd 18 = .ok (.iload_n 2, 1) := by decide +kernel
theorem dX7_isSameFromEnd_19 : decode cX7_isSameFromEnd 19 = .ok (.if_icmp .lt 38, 3) := by decide +kernel
theorem dX7_isSameFromEnd_22 : decode cX7_isSameFromEnd 22 = .ok (.iload 5, 2) := by decide +kernel
theorem dX7_isSameFromEnd_24 : decode cX7_isSameFromEnd 24 = .ok (.iload_n 2, 1) := by decide +kernel
theorem dX7_isSameFromEnd_25 : decode cX7_isSameFromEnd 25 = .ok (.if_icmp .lt 32, 3) := by decide +kernel
theorem dX7_isSameFromEnd_28 : decode cX7_isSameFromEnd 28 = .ok (.iload 4, 2) := by decide +kernel
theorem dX7_isSameFromEnd_30 : decode cX7_isSameFromEnd 30 = .ok (.aload_n 0, 1) := by decide +kernel
theorem dX7_isSameFromEnd_31 : decode cX7_isSameFromEnd 31 = .ok (.arraylength, 1) := by decide +kernel
theorem dX7_isSameFromEnd_32 : decode cX7_isSameFromEnd 32 = .ok (.if_icmp .ge 25, 3) := by decide +kernel
theorem dX7_isSameFromEnd_35 : decode cX7_isSameFromEnd 35 = .ok (.iload 5, 2) := by decide +kernel
theorem dX7_isSameFromEnd_37 : decode cX7_isSameFromEnd 37 = .ok (.aload_n 1, 1) := by decide +kernel
theorem dX7_isSameFromEnd_38 : decode cX7_isSameFromEnd 38 = .ok (.arraylength, 1) := by decide +kernel
theorem dX7_isSameFromEnd_39 : decode cX7_isSameFromEnd 39 = .ok (.if_icmp .ge 18, 3) := by decide +kernel
theorem dX7_isSameFromEnd_42 : decode cX7_isSameFromEnd 42 = .ok (.aload_n 0, 1) := by decide +kernel
theorem dX7_isSameFromEnd_43 : decode cX7_isSameFromEnd 43 = .ok (.iload 4, 2) := by decide +kernel
theorem dX7_isSameFromEnd_45 : decode cX7_isSameFromEnd 45 = .ok (.iaload, 1) := by decide +kernel
theorem dX7_isSameFromEnd_46 : decode cX7_isSameFromEnd 46 = .ok (.aload_n 1, 1) := by decide +kernel
theorem dX7_isSameFromEnd_47 : decode cX7_isSameFromEnd 47 = .ok (.iload 5, 2) := by decide +kernel
theorem dX7_isSameFromEnd_49 : decode cX7_isSameFromEnd 49 = .ok (.iaload, 1) := by decide +kernel
theorem dX7_isSameFromEnd_50 : decode cX7_isSameFromEnd 50 = .ok (.if_icmp .ne 7, 3) := by decide +kernel
theorem dX7_isSameFromEnd_53 : decode cX7_isSameFromEnd 53 = .ok (.iconst 1, 1) := by decide +kernel
theorem dX7_isSameFromEnd_54 : decode cX7_isSameFromEnd 54 = .ok (.goto 4, 3) := by decide +kernel
theorem dX7_isSameFromEnd_57 : decode cX7_isSameFromEnd 57 = .ok (.iconst 0, 1) := by decide +kernel
theorem dX7_isSameFromEnd_58 : decode cX7_isSameFromEnd 58 = .ok (.ireturn, 1) := by decide +kernel
theorem dX7_stepRow_0 : decode cX7_stepRow 0 = .ok (.aload_n 3, 1) := by decide +kernel
theorem dX7_stepRow_1 : decode cX7_stepRow 1 = .ok (.arraylength, 1) := by decide +kernel
theorem dX7_stepRow_2 : decode cX7_stepRow 2 = .ok (.ifCond .ne 4, 3) := by decide +kernel
theorem dX7_stepRow_5 : decode cX7_stepRow 5 = .ok (.return_, 1) := by decide +kernel
theorem dX7_stepRow_6 : decode cX7_stepRow 6 = .ok (.aload_n 3, 1) := by decide +kernel
theorem dX7_stepRow_7 : decode cX7_stepRow 7 = .ok (.iconst 0, 1) := by decide +kernel
theorem dX7_stepRow_8 : decode cX7_stepRow 8 = .ok (.iaload, 1) := by decide +kernel
theorem dX7_stepRow_9 : decode cX7_stepRow 9 = .ok (.istore 5, 2) := by decide +kernel
theorem dX7_stepRow_11 : decode cX7_stepRow 11 = .ok (.iload 5, 2) := by decide +kernel
theorem dX7_stepRow_13 : decode cX7_stepRow 13 = .ok (.iconst 1, 1) := by decide +kernel
theorem dX7_stepRow_14 : decode cX7_stepRow 14 = .ok (.iadd, 1) := by decide +kernel
theorem dX7_stepRow_15 : decode cX7_stepRow 15 = .ok (.istore 6, 2) := by decide +kernel
theorem dX7_stepRow_17 : decode cX7_stepRow 17 = .ok (.aload_n 3, 1) := by decide +kernel
theorem dX7_stepRow_18 : decode cX7_stepRow 18 = .ok (.iconst 0, 1) := by decide +kernel
theorem dX7_stepRow_19 : decode cX7_stepRow 19 = .ok (.iload 6, 2) := by decide +kernel
theorem dX7_stepRow_21 : decode cX7_stepRow 21 = .ok (.iastore, 1) := by decide +kernel
theorem dX7_stepRow_22 : decode cX7_stepRow 22 = .ok (.iconst 1, 1) := by decide +kernel
theorem dX7_stepRow_23 : decode cX7_stepRow 23 = .ok (.istore 7, 2) := by decide +kernel
theorem dX7_stepRow_25 : decode cX7_stepRow 25 = .ok (.iload 7, 2) := by decide +kernel
theorem dX7_stepRow_27 : decode cX7_stepRow 27 = .ok (.iload 4, 2) := by decide +kernel
theorem dX7_stepRow_29 : decode cX7_stepRow 29 = .ok (.if_icmp .gt 81, 3) := by decide +kernel
theorem dX7_stepRow_32 : decode cX7_stepRow 32 = .ok (.iload 7, 2) := by decide +kernel
theorem dX7_stepRow_34 : decode cX7_stepRow 34 = .ok (.aload_n 3, 1) := by decide +kernel
theorem dX7_stepRow_35 : decode cX7_stepRow 35 = .ok (.arraylength, 1) := by decide +kernel
theorem dX7_stepRow_36 : decode cX7_stepRow 36 = .ok (.if_icmp .ge 74, 3) := by decide +kernel
theorem dX7_stepRow_39 : decode cX7_stepRow 39 = .ok (.iload_n 2, 1) := by decide +kernel
theorem dX7_stepRow_40 : decode cX7_stepRow 40 = .ok (.iload 7, 2) := by decide +kernel
theorem dX7_stepRow_42 : decode cX7_stepRow 42 = .ok (.iadd, 1) := by decide +kernel
theorem dX7_stepRow_43 : decode cX7_stepRow 43 = .ok (.iconst 1, 1) := by decide +kernel
theorem dX7_stepRow_44 : decode cX7_stepRow 44 = .ok (.isub, 1) := by decide +kernel
theorem dX7_stepRow_45 : decode cX7_stepRow 45 = .ok (.aload_n 1, 1) := by decide +kernel
theorem dX7_stepRow_46 : decode cX7_stepRow 46 = .ok (.arraylength, 1) := by decide +kernel
theorem dX7_stepRow_47 : decode cX7_stepRow 47 = .ok (.if_icmp .ge 63, 3) := by decide +kernel
theorem dX7_stepRow_50 : decode cX7_stepRow 50 = .ok (.aload_n 3, 1) := by decide +kernel
theorem dX7_stepRow_51 : decode cX7_stepRow 51 = .ok (.iload 7, 2) := by decide +kernel
theorem dX7_stepRow_53 : decode cX7_stepRow 53 = .ok (.iaload, 1) := by decide +kernel
theorem dX7_stepRow_54 : decode cX7_stepRow 54 = .ok (.istore 8, 2) := by decide +kernel
theorem dX7_stepRow_56 : decode cX7_stepRow 56 = .ok (.iload 5, 2) := by decide +kernel
theorem dX7_stepRow_58 : decode cX7_stepRow 58 = .ok (.iload_n 0, 1) := by decide +kernel
theorem dX7_stepRow_59 : decode cX7_stepRow 59 = .ok (.aload_n 1, 1) := by decide +kernel
theorem dX7_stepRow_60 : decode cX7_stepRow 60 = .ok (.iload_n 2, 1) := by decide +kernel
theorem dX7_stepRow_61 : decode cX7_stepRow 61 = .ok (.iload 7, 2) := by decide +kernel
theorem dX7_stepRow_63 : decode cX7_stepRow 63 = .ok (.iadd, 1) := by decide +kernel
theorem dX7_stepRow_64 : decode cX7_stepRow 64 = .ok (.iconst 1, 1) := by decide +kernel
theorem dX7_stepRow_65 : decode cX7_stepRow 65 = .ok (.isub, 1) := by decide +kernel
theorem dX7_stepRow_66 : decode cX7_stepRow 66 = .ok (.iaload, 1) := by decide +kernel
theorem dX7_stepRow_67 : decode cX7_stepRow 67 = .ok (.if_icmp .ne 7, 3) := by decide +kernel
theorem dX7_stepRow_70 : decode cX7_stepRow 70 = .ok (.iconst 0, 1) := by decide +kernel
theorem dX7_stepRow_71 : decode cX7_stepRow 71 = .ok (.goto 4, 3) := by decide +kernel
theorem dX7_stepRow_74 : decode cX7_stepRow 74 = .ok (.iconst 1, 1) := by decide +kernel
theorem dX7_stepRow_75 : decode cX7_stepRow 75 = .ok (.iadd, 1) := by decide +kernel
theorem dX7_stepRow_76 : decode cX7_stepRow 76 = .ok (.istore 9, 2) := by decide +kernel
theorem dX7_stepRow_78 : decode cX7_stepRow 78 = .ok (.iload 9, 2) := by decide +kernel
theorem dX7_stepRow_80 : decode cX7_stepRow 80 = .ok (.iload 8, 2) := by decide +kernel
theorem dX7_stepRow_82 : decode cX7_stepRow 82 = .ok (.iload 6, 2) := by decide +kernel
theorem dX7_stepRow_84 : decode cX7_stepRow 84 = .ok (.invokestatic 45, 3) := by decide +kernel
theorem dX7_stepRow_87 : decode cX7_stepRow 87 = .ok (.iconst 1, 1) := by decide +kernel
theorem dX7_stepRow_88 : decode cX7_stepRow 88 = .ok (.iadd, 1) := by decide +kernel
theorem dX7_stepRow_89 : decode cX7_stepRow 89 = .ok (.invokestatic 45, 3) := by decide +kernel
theorem dX7_stepRow_92 : decode cX7_stepRow 92 = .ok (.istore 6, 2) := by decide +kernel
theorem dX7_stepRow_94 : decode cX7_stepRow 94 = .ok (.aload_n 3, 1) := by decide +kernel
theorem dX7_stepRow_95 : decode cX7_stepRow 95 = .ok (.iload 7, 2) := by decide +kernel
theorem dX7_stepRow_97 : decode cX7_stepRow 97 = .ok (.iload 6, 2) := by decide +kernel
theorem dX7_stepRow_99 : decode cX7_stepRow 99 = .ok (.iastore, 1) := by decide +kernel
theorem dX7_stepRow_100 : decode cX7_stepRow 100 = .ok (.iload 8, 2) := by decide +kernel
theorem dX7_stepRow_102 : decode cX7_stepRow 102 = .ok (.istore 5, 2) := by decide +kernel
theorem dX7_stepRow_104 : decode cX7_stepRow 104 = .ok (.iinc 7 1, 3) := by decide +kernel
theorem dX7_stepRow_107 : decode cX7_stepRow 107 = .ok (.goto (-82), 3) := by decide +kernel
theorem dX7_stepRow_110 : decode cX7_stepRow 110 = .ok (.return_, 1) := by decide +kernel
theorem dX8_isLetter_0 : decode cX8_isLetter 0 = .ok (.iload_n 0, 1) := by decide +kernel
theorem dX8_isLetter_1 : decode cX8_isLetter 1 = .ok (.bipush 97, 2) := by decide +kernel
theorem dX8_isLetter_3 : decode cX8_isLetter 3 = .ok (.if_icmp .lt 9, 3) := by decide +kernel
theorem dX8_isLetter_6 : decode cX8_isLetter 6 = .ok (.iload_n 0, 1) := by decide +kernel
theorem dX8_isLetter_7 : decode cX8_isLetter 7 = .ok (.bipush 122, 2) := by decide +kernel
theorem dX8_isLetter_9 : decode cX8_isLetter 9 = .ok (.if_icmp .le 15, 3) := by decide +kernel
theorem dX8_isLetter_12 : decode cX8_isLetter 12 = .ok (.iload_n 0, 1) := by decide +kernel
theorem dX8_isLetter_13 : decode cX8_isLetter 13 = .ok (.bipush 65, 2) := by decide +kernel
theorem dX8_isLetter_15 : decode cX8_isLetter 15 = .ok (.if_icmp .lt 13, 3) := by decide +kernel
theorem dX8_isLetter_18 : decode cX8_isLetter 18 = .ok (.iload_n 0, 1) := by decide +kernel
theorem dX8_isLetter_19 : decode cX8_isLetter 19 = .ok (.bipush 90, 2) := by decide +kernel
theorem dX8_isLetter_21 : decode cX8_isLetter 21 = .ok (.if_icmp .gt 7, 3) := by decide +kernel
theorem dX8_isLetter_24 : decode cX8_isLetter 24 = .ok (.iconst 1, 1) := by decide +kernel
theorem dX8_isLetter_25 : decode cX8_isLetter 25 = .ok (.goto 4, 3) := by decide +kernel
theorem dX8_isLetter_28 : decode cX8_isLetter 28 = .ok (.iconst 0, 1) := by decide +kernel
theorem dX8_isLetter_29 : decode cX8_isLetter 29 = .ok (.ireturn, 1) := by decide +kernel
theorem dX8_isDigit_0 : decode cX8_isDigit 0 = .ok (.iload_n 0, 1) := by decide +kernel
theorem dX8_isDigit_1 : decode cX8_isDigit 1 = .ok (.bipush 48, 2) := by decide +kernel
theorem dX8_isDigit_3 : decode cX8_isDigit 3 = .ok (.if_icmp .lt 13, 3) := by decide +kernel
theorem dX8_isDigit_6 : decode cX8_isDigit 6 = .ok (.iload_n 0, 1) := by decide +kernel
theorem dX8_isDigit_7 : decode cX8_isDigit 7 = .ok (.bipush 57, 2) := by decide +kernel
theorem dX8_isDigit_9 : decode cX8_isDigit 9 = .ok (.if_icmp .gt 7, 3) := by decide +kernel
theorem dX8_isDigit_12 : decode cX8_isDigit 12 = .ok (.iconst 1, 1) := by decide +kernel
theorem dX8_isDigit_13 : decode cX8_isDigit 13 = .ok (.goto 4, 3) := by decide +kernel
theorem dX8_isDigit_16 : decode cX8_isDigit 16 = .ok (.iconst 0, 1) := by decide +kernel
theorem dX8_isDigit_17 : decode cX8_isDigit 17 = .ok (.ireturn, 1) := by decide +kernel
theorem dX8_isBlank_0 : decode cX8_isBlank 0 = .ok (.iload_n 0, 1) := by decide +kernel
theorem dX8_isBlank_1 : decode cX8_isBlank 1 = .ok (.bipush 32, 2) := by decide +kernel
theorem dX8_isBlank_3 : decode cX8_isBlank 3 = .ok (.if_icmp .eq 9, 3) := by decide +kernel
theorem dX8_isBlank_6 : decode cX8_isBlank 6 = .ok (.iload_n 0, 1) := by decide +kernel
theorem dX8_isBlank_7 : decode cX8_isBlank 7 = .ok (.bipush 10, 2) := by decide +kernel
theorem dX8_isBlank_9 : decode cX8_isBlank 9 = .ok (.if_icmp .ne 7, 3) := by decide +kernel
theorem dX8_isBlank_12 : decode cX8_isBlank 12 = .ok (.iconst 1, 1) := by decide +kernel
theorem dX8_isBlank_13 : decode cX8_isBlank 13 = .ok (.goto 4, 3) := by decide +kernel
theorem dX8_isBlank_16 : decode cX8_isBlank 16 = .ok (.iconst 0, 1) := by decide +kernel
theorem dX8_isBlank_17 : decode cX8_isBlank 17 = .ok (.ireturn, 1) := by decide +kernel
theorem dX8_isSign_0 : decode cX8_isSign 0 = .ok (.iload_n 0, 1) := by decide +kernel
theorem dX8_isSign_1 : decode cX8_isSign 1 = .ok (.tableswitch 109 40 62 #[107, 107, 107, 107, 109, 107, 109, 107, 109, 109, 109, 109, 109, 109, 109, 109, 109, 109, 109, 107, 107, 107, 107], 107) := by decide +kernel
theorem dX8_isSign_108 : decode cX8_isSign 108 = .ok (.iconst 1, 1) := by decide +kernel
theorem dX8_isSign_109 : decode cX8_isSign 109 = .ok (.ireturn, 1) := by decide +kernel
theorem dX8_isSign_110 : decode cX8_isSign 110 = .ok (.iconst 0, 1) := by decide +kernel
theorem dX8_isSign_111 : decode cX8_isSign 111 = .ok (.ireturn, 1) := by decide +kernel
theorem dX8_isFact_0 : decode cX8_isFact 0 = .ok (.iload_n 0, 1) := by decide +kernel
theorem dX8_isFact_1 : decode cX8_isFact 1 = .ok (.sipush 307, 3) := by decide +kernel
theorem dX8_isFact_4 : decode cX8_isFact 4 = .ok (.if_icmp .lt 14, 3) := by decide +kernel
theorem dX8_isFact_7 : decode cX8_isFact 7 = .ok (.iload_n 0, 1) := by decide +kernel
theorem dX8_isFact_8 : decode cX8_isFact 8 = .ok (.sipush 311, 3) := by decide +kernel
theorem dX8_isFact_11 : decode cX8_isFact 11 = .ok (.if_icmp .gt 7, 3) := by decide +kernel
theorem dX8_isFact_14 : decode cX8_isFact 14 = .ok (.iconst 1, 1) := by decide +kernel
theorem dX8_isFact_15 : decode cX8_isFact 15 = .ok (.goto 4, 3) := by decide +kernel
theorem dX8_isFact_18 : decode cX8_isFact 18 = .ok (.iconst 0, 1) := by decide +kernel
theorem dX8_isFact_19 : decode cX8_isFact 19 = .ok (.ireturn, 1) := by decide +kernel
theorem dX8_isReckoning_0 : decode cX8_isReckoning 0 = .ok (.iload_n 0, 1) := by decide +kernel
theorem dX8_isReckoning_1 : decode cX8_isReckoning 1 = .ok (.bipush 43, 2) := by decide +kernel
theorem dX8_isReckoning_3 : decode cX8_isReckoning 3 = .ok (.if_icmp .eq 21, 3) := by decide +kernel
theorem dX8_isReckoning_6 : decode cX8_isReckoning 6 = .ok (.iload_n 0, 1) := by decide +kernel
theorem dX8_isReckoning_7 : decode cX8_isReckoning 7 = .ok (.bipush 45, 2) := by decide +kernel
theorem dX8_isReckoning_9 : decode cX8_isReckoning 9 = .ok (.if_icmp .eq 15, 3) := by decide +kernel
theorem dX8_isReckoning_12 : decode cX8_isReckoning 12 = .ok (.iload_n 0, 1) := by decide +kernel
theorem dX8_isReckoning_13 : decode cX8_isReckoning 13 = .ok (.bipush 42, 2) := by decide +kernel
theorem dX8_isReckoning_15 : decode cX8_isReckoning 15 = .ok (.if_icmp .eq 9, 3) := by decide +kernel
theorem dX8_isReckoning_18 : decode cX8_isReckoning 18 = .ok (.iload_n 0, 1) := by decide +kernel
theorem dX8_isReckoning_19 : decode cX8_isReckoning 19 = .ok (.bipush 47, 2) := by decide +kernel
theorem dX8_isReckoning_21 : decode cX8_isReckoning 21 = .ok (.if_icmp .ne 7, 3) := by decide +kernel
theorem dX8_isReckoning_24 : decode cX8_isReckoning 24 = .ok (.iconst 1, 1) := by decide +kernel
theorem dX8_isReckoning_25 : decode cX8_isReckoning 25 = .ok (.goto 4, 3) := by decide +kernel
theorem dX8_isReckoning_28 : decode cX8_isReckoning 28 = .ok (.iconst 0, 1) := by decide +kernel
theorem dX8_isReckoning_29 : decode cX8_isReckoning 29 = .ok (.ireturn, 1) := by decide +kernel
theorem dX8_keywordIn_0 : decode cX8_keywordIn 0 = .ok (.sipush 301, 3) := by decide +kernel
theorem dX8_keywordIn_3 : decode cX8_keywordIn 3 = .ok (.istore_n 3, 1) := by decide +kernel
theorem dX8_keywordIn_4 : decode cX8_keywordIn 4 = .ok (.iload_n 3, 1) := by decide +kernel
theorem dX8_keywordIn_5 : decode cX8_keywordIn 5 = .ok (.sipush 312, 3) := by decide +kernel
theorem dX8_keywordIn_8 : decode cX8_keywordIn 8 = .ok (.if_icmp .gt 24, 3) := by decide +kernel
theorem dX8_keywordIn_11 : decode cX8_keywordIn 11 = .ok (.iload_n 3, 1) := by decide +kernel
theorem dX8_keywordIn_12 : decode cX8_keywordIn 12 = .ok (.invokestatic 9, 3) := by decide +kernel
theorem dX8_keywordIn_15 : decode cX8_keywordIn 15 = .ok (.aload_n 0, 1) := by decide +kernel
theorem dX8_keywordIn_16 : decode cX8_keywordIn 16 = .ok (.iload_n 1, 1) := by decide +kernel
theorem dX8_keywordIn_17 : decode cX8_keywordIn 17 = .ok (.iload_n 2, 1) := by decide +kernel
theorem dX8_keywordIn_18 : decode cX8_keywordIn 18 = .ok (.invokestatic 13, 3) := by decide +kernel
theorem dX8_keywordIn_21 : decode cX8_keywordIn 21 = .ok (.ifCond .eq 5, 3) := by decide +kernel
theorem dX8_keywordIn_24 : decode cX8_keywordIn 24 = .ok (.iload_n 3, 1) := by decide +kernel
theorem dX8_keywordIn_25 : decode cX8_keywordIn 25 = .ok (.ireturn, 1) := by decide +kernel
theorem dX8_keywordIn_26 : decode cX8_keywordIn 26 = .ok (.iinc 3 1, 3) := by decide +kernel
theorem dX8_keywordIn_29 : decode cX8_keywordIn 29 = .ok (.goto (-25), 3) := by decide +kernel
theorem dX8_keywordIn_32 : decode cX8_keywordIn 32 = .ok (.iconst 2, 1) := by decide +kernel
theorem dX8_keywordIn_33 : decode cX8_keywordIn 33 = .ok (.ireturn, 1) := by decide +kernel
theorem dX8_isWord_0 : decode cX8_isWord 0 = .ok (.iload_n 2, 1) := by decide +kernel
theorem dX8_isWord_1 : decode cX8_isWord 1 = .ok (.ifCond .lt 19, 3) := by decide +kernel
theorem dX8_isWord_4 : decode cX8_isWord 4 = .ok (.iload_n 3, 1) := by decide +kernel
theorem dX8_isWord_5 : decode cX8_isWord 5 = .ok (.aload_n 1, 1) := by decide +kernel
theorem dX8_isWord_6 : decode cX8_isWord 6 = .ok (.arraylength, 1) := by decide +kernel
theorem dX8_isWord_7 : decode cX8_isWord 7 = .ok (.if_icmp .gt 13, 3) := by decide +kernel
theorem dX8_isWord_10 : decode cX8_isWord 10 = .ok (.iload_n 3, 1) := by decide +kernel
theorem dX8_isWord_11 : decode cX8_isWord 11 = .ok (.iload_n 2, 1) := by decide +kernel
theorem dX8_isWord_12 : decode cX8_isWord 12 = .ok (.isub, 1) := by decide +kernel
theorem dX8_isWord_13 : decode cX8_isWord 13 = .ok (.aload_n 0, 1) := by decide +kernel
theorem dX8_isWord_14 : decode cX8_isWord 14 = .ok (.invokevirtual 17, 3) := by decide +kernel
theorem dX8_isWord_17 : decode cX8_isWord 17 = .ok (.if_icmp .eq 5, 3) := by decide +kernel
theorem dX8_isWord_20 : decode cX8_isWord 20 = .ok (.iconst 0, 1) := by decide +kernel
theorem dX8_isWord_21 : decode cX8_isWord 21 = .ok (.ireturn, 1) := by decide +kernel
theorem dX8_isWord_22 : decode cX8_isWord 22 = .ok (.iconst 0, 1) := by decide +kernel
theorem dX8_isWord_23 : decode cX8_isWord 23 = .ok (.istore 4, 2) := by decide +kernel
theorem dX8_isWord_25 : decode cX8_isWord 25 = .ok (.iload 4, 2) := by decide +kernel
theorem dX8_isWord_27 : decode cX8_isWord 27 = .ok (.aload_n 0, 1) := by decide +kernel
theorem dX8_isWord_28 : decode cX8_isWord 28 = .ok (.invokevirtual 17, 3) := by decide +kernel
theorem dX8_isWord_31 : decode cX8_isWord 31 = .ok (.if_icmp .ge 26, 3) := by decide +kernel
theorem dX8_isWord_34 : decode cX8_isWord 34 = .ok (.aload_n 1, 1) := by decide +kernel
theorem dX8_isWord_35 : decode cX8_isWord 35 = .ok (.iload_n 2, 1) := by decide +kernel
theorem dX8_isWord_36 : decode cX8_isWord 36 = .ok (.iload 4, 2) := by decide +kernel
theorem dX8_isWord_38 : decode cX8_isWord 38 = .ok (.iadd, 1) := by decide +kernel
theorem dX8_isWord_39 : decode cX8_isWord 39 = .ok (.caload, 1) := by decide +kernel
theorem dX8_isWord_40 : decode cX8_isWord 40 = .ok (.aload_n 0, 1) := by decide +kernel
theorem dX8_isWord_41 : decode cX8_isWord 41 = .ok (.iload 4, 2) := by decide +kernel
theorem dX8_isWord_43 : decode cX8_isWord 43 = .ok (.invokevirtual 23, 3) := by decide +kernel
theorem dX8_isWord_46 : decode cX8_isWord 46 = .ok (.if_icmp .eq 5, 3) := by decide +kernel
theorem dX8_isWord_49 : decode cX8_isWord 49 = .ok (.iconst 0, 1) := by decide +kernel
theorem dX8_isWord_50 : decode cX8_isWord 50 = .ok (.ireturn, 1) := by decide +kernel
theorem dX8_isWord_51 : decode cX8_isWord 51 = .ok (.iinc 4 1, 3) := by decide +kernel
theorem dX8_isWord_54 : decode cX8_isWord 54 = .ok (.goto (-29), 3) := by decide +kernel
theorem dX8_isWord_57 : decode cX8_isWord 57 = .ok (.iconst 1, 1) := by decide +kernel
theorem dX8_isWord_58 : decode cX8_isWord 58 = .ok (.ireturn, 1) := by decide +kernel
theorem dX8_spelling_0 : decode cX8_spelling 0 = .ok (.iload_n 0, 1) := by decide +kernel
theorem dX8_spelling_1 : decode cX8_spelling 1 = .ok (.tableswitch 92 301 311 #[59, 62, 65, 68, 71, 74, 77, 80, 83, 86, 89], 59) := by decide +kernel
theorem dX8_spelling_60 : decode cX8_spelling 60 = .ok (.ldc 27, 2) := by decide +kernel
theorem dX8_spelling_62 : decode cX8_spelling 62 = .ok (.areturn, 1) := by decide +kernel
theorem dX8_spelling_63 : decode cX8_spelling 63 = .ok (.ldc 29, 2) := by decide +kernel
theorem dX8_spelling_65 : decode cX8_spelling 65 = .ok (.areturn, 1) := by decide +kernel
theorem dX8_spelling_66 : decode cX8_spelling 66 = .ok (.ldc 31, 2) := by decide +kernel
theorem dX8_spelling_68 : decode cX8_spelling 68 = .ok (.areturn, 1) := by decide +kernel
theorem dX8_spelling_69 : decode cX8_spelling 69 = .ok (.ldc 33, 2) := by decide +kernel
theorem dX8_spelling_71 : decode cX8_spelling 71 = .ok (.areturn, 1) := by decide +kernel
theorem dX8_spelling_72 : decode cX8_spelling 72 = .ok (.ldc 35, 2) := by decide +kernel
theorem dX8_spelling_74 : decode cX8_spelling 74 = .ok (.areturn, 1) := by decide +kernel
theorem dX8_spelling_75 : decode cX8_spelling 75 = .ok (.ldc 37, 2) := by decide +kernel
theorem dX8_spelling_77 : decode cX8_spelling 77 = .ok (.areturn, 1) := by decide +kernel
theorem dX8_spelling_78 : decode cX8_spelling 78 = .ok (.ldc 39, 2) := by decide +kernel
theorem dX8_spelling_80 : decode cX8_spelling 80 = .ok (.areturn, 1) := by decide +kernel
theorem dX8_spelling_81 : decode cX8_spelling 81 = .ok (.ldc 41, 2) := by decide +kernel
theorem dX8_spelling_83 : decode cX8_spelling 83 = .ok (.areturn, 1) := by decide +kernel
theorem dX8_spelling_84 : decode cX8_spelling 84 = .ok (.ldc 43, 2) := by decide +kernel
theorem dX8_spelling_86 : decode cX8_spelling 86 = .ok (.areturn, 1) := by decide +kernel
theorem dX8_spelling_87 : decode cX8_spelling 87 = .ok (.ldc 45, 2) := by decide +kernel
theorem dX8_spelling_89 : decode cX8_spelling 89 = .ok (.areturn, 1) := by decide +kernel
theorem dX8_spelling_90 : decode cX8_spelling 90 = .ok (.ldc 47, 2) := by decide +kernel
theorem dX8_spelling_92 : decode cX8_spelling 92 = .ok (.areturn, 1) := by decide +kernel
theorem dX8_spelling_93 : decode cX8_spelling 93 = .ok (.ldc 49, 2) := by decide +kernel
theorem dX8_spelling_95 : decode cX8_spelling 95 = .ok (.areturn, 1) := by decide +kernel
theorem dJ6_lowestOneBit_0f7a4_0 : decode cJ6_lowestOneBit_0f7a4 0 = .ok (.iload_n 0, 1) := by decide +kernel
theorem dJ6_lowestOneBit_0f7a4_1 : decode cJ6_lowestOneBit_0f7a4 1 = .ok (.iload_n 0, 1) := by decide +kernel
theorem dJ6_lowestOneBit_0f7a4_2 : decode cJ6_lowestOneBit_0f7a4 2 = .ok (.ineg, 1) := by decide +kernel
theorem dJ6_lowestOneBit_0f7a4_3 : decode cJ6_lowestOneBit_0f7a4 3 = .ok (.iand, 1) := by decide +kernel
theorem dJ6_lowestOneBit_0f7a4_4 : decode cJ6_lowestOneBit_0f7a4 4 = .ok (.ireturn, 1) := by decide +kernel
theorem dJ6_bitCount_0f7a4_0 : decode cJ6_bitCount_0f7a4 0 = .ok (.iload_n 0, 1) := by decide +kernel
theorem dJ6_bitCount_0f7a4_1 : decode cJ6_bitCount_0f7a4 1 = .ok (.iload_n 0, 1) := by decide +kernel
theorem dJ6_bitCount_0f7a4_2 : decode cJ6_bitCount_0f7a4 2 = .ok (.iconst 1, 1) := by decide +kernel
theorem dJ6_bitCount_0f7a4_3 : decode cJ6_bitCount_0f7a4 3 = .ok (.iushr, 1) := by decide +kernel
theorem dJ6_bitCount_0f7a4_4 : decode cJ6_bitCount_0f7a4 4 = .ok (.ldc_w 265, 3) := by decide +kernel
theorem dJ6_bitCount_0f7a4_7 : decode cJ6_bitCount_0f7a4 7 = .ok (.iand, 1) := by decide +kernel
theorem dJ6_bitCount_0f7a4_8 : decode cJ6_bitCount_0f7a4 8 = .ok (.isub, 1) := by decide +kernel
theorem dJ6_bitCount_0f7a4_9 : decode cJ6_bitCount_0f7a4 9 = .ok (.istore_n 0, 1) := by decide +kernel
theorem dJ6_bitCount_0f7a4_10 : decode cJ6_bitCount_0f7a4 10 = .ok (.iload_n 0, 1) := by decide +kernel
theorem dJ6_bitCount_0f7a4_11 : decode cJ6_bitCount_0f7a4 11 = .ok (.ldc_w 266, 3) := by decide +kernel
theorem dJ6_bitCount_0f7a4_14 : decode cJ6_bitCount_0f7a4 14 = .ok (.iand, 1) := by decide +kernel
theorem dJ6_bitCount_0f7a4_15 : decode cJ6_bitCount_0f7a4 15 = .ok (.iload_n 0, 1) := by decide +kernel
theorem dJ6_bitCount_0f7a4_16 : decode cJ6_bitCount_0f7a4 16 = .ok (.iconst 2, 1) := by decide +kernel
theorem dJ6_bitCount_0f7a4_17 : decode cJ6_bitCount_0f7a4 17 = .ok (.iushr, 1) := by decide +kernel
theorem dJ6_bitCount_0f7a4_18 : decode cJ6_bitCount_0f7a4 18 = .ok (.ldc_w 266, 3) := by decide +kernel
theorem dJ6_bitCount_0f7a4_21 : decode cJ6_bitCount_0f7a4 21 = .ok (.iand, 1) := by decide +kernel
theorem dJ6_bitCount_0f7a4_22 : decode cJ6_bitCount_0f7a4 22 = .ok (.iadd, 1) := by decide +kernel
theorem dJ6_bitCount_0f7a4_23 : decode cJ6_bitCount_0f7a4 23 = .ok (.istore_n 0, 1) := by decide +kernel
theorem dJ6_bitCount_0f7a4_24 : decode cJ6_bitCount_0f7a4 24 = .ok (.iload_n 0, 1) := by decide +kernel
theorem dJ6_bitCount_0f7a4_25 : decode cJ6_bitCount_0f7a4 25 = .ok (.iload_n 0, 1) := by decide +kernel
theorem dJ6_bitCount_0f7a4_26 : decode cJ6_bitCount_0f7a4 26 = .ok (.iconst 4, 1) := by decide +kernel
theorem dJ6_bitCount_0f7a4_27 : decode cJ6_bitCount_0f7a4 27 = .ok (.iushr, 1) := by decide +kernel
theorem dJ6_bitCount_0f7a4_28 : decode cJ6_bitCount_0f7a4 28 = .ok (.iadd, 1) := by decide +kernel
theorem dJ6_bitCount_0f7a4_29 : decode cJ6_bitCount_0f7a4 29 = .ok (.ldc_w 267, 3) := by decide +kernel
theorem dJ6_bitCount_0f7a4_32 : decode cJ6_bitCount_0f7a4 32 = .ok (.iand, 1) := by decide +kernel
theorem dJ6_bitCount_0f7a4_33 : decode cJ6_bitCount_0f7a4 33 = .ok (.istore_n 0, 1) := by decide +kernel
theorem dJ6_bitCount_0f7a4_34 : decode cJ6_bitCount_0f7a4 34 = .ok (.iload_n 0, 1) := by decide +kernel
theorem dJ6_bitCount_0f7a4_35 : decode cJ6_bitCount_0f7a4 35 = .ok (.iload_n 0, 1) := by decide +kernel
theorem dJ6_bitCount_0f7a4_36 : decode cJ6_bitCount_0f7a4 36 = .ok (.bipush 8, 2) := by decide +kernel
theorem dJ6_bitCount_0f7a4_38 : decode cJ6_bitCount_0f7a4 38 = .ok (.iushr, 1) := by decide +kernel
theorem dJ6_bitCount_0f7a4_39 : decode cJ6_bitCount_0f7a4 39 = .ok (.iadd, 1) := by decide +kernel
theorem dJ6_bitCount_0f7a4_40 : decode cJ6_bitCount_0f7a4 40 = .ok (.istore_n 0, 1) := by decide +kernel
theorem dJ6_bitCount_0f7a4_41 : decode cJ6_bitCount_0f7a4 41 = .ok (.iload_n 0, 1) := by decide +kernel
theorem dJ6_bitCount_0f7a4_42 : decode cJ6_bitCount_0f7a4 42 = .ok (.iload_n 0, 1) := by decide +kernel
theorem dJ6_bitCount_0f7a4_43 : decode cJ6_bitCount_0f7a4 43 = .ok (.bipush 16, 2) := by decide +kernel
theorem dJ6_bitCount_0f7a4_45 : decode cJ6_bitCount_0f7a4 45 = .ok (.iushr, 1) := by decide +kernel
theorem dJ6_bitCount_0f7a4_46 : decode cJ6_bitCount_0f7a4 46 = .ok (.iadd, 1) := by decide +kernel
theorem dJ6_bitCount_0f7a4_47 : decode cJ6_bitCount_0f7a4 47 = .ok (.istore_n 0, 1) := by decide +kernel
theorem dJ6_bitCount_0f7a4_48 : decode cJ6_bitCount_0f7a4 48 = .ok (.iload_n 0, 1) := by decide +kernel
theorem dJ6_bitCount_0f7a4_49 : decode cJ6_bitCount_0f7a4 49 = .ok (.bipush 63, 2) := by decide +kernel
theorem dJ6_bitCount_0f7a4_51 : decode cJ6_bitCount_0f7a4 51 = .ok (.iand, 1) := by decide +kernel
theorem dJ6_bitCount_0f7a4_52 : decode cJ6_bitCount_0f7a4 52 = .ok (.ireturn, 1) := by decide +kernel
theorem dJ9_max_7cf53_0 : decode cJ9_max_7cf53 0 = .ok (.iload_n 0, 1) := by decide +kernel
theorem dJ9_max_7cf53_1 : decode cJ9_max_7cf53 1 = .ok (.iload_n 1, 1) := by decide +kernel
theorem dJ9_max_7cf53_2 : decode cJ9_max_7cf53 2 = .ok (.if_icmp .lt 7, 3) := by decide +kernel
theorem dJ9_max_7cf53_5 : decode cJ9_max_7cf53 5 = .ok (.iload_n 0, 1) := by decide +kernel
theorem dJ9_max_7cf53_6 : decode cJ9_max_7cf53 6 = .ok (.goto 4, 3) := by decide +kernel
theorem dJ9_max_7cf53_9 : decode cJ9_max_7cf53 9 = .ok (.iload_n 1, 1) := by decide +kernel
theorem dJ9_max_7cf53_10 : decode cJ9_max_7cf53 10 = .ok (.ireturn, 1) := by decide +kernel
theorem dJ9_min_7cf53_0 : decode cJ9_min_7cf53 0 = .ok (.iload_n 0, 1) := by decide +kernel
theorem dJ9_min_7cf53_1 : decode cJ9_min_7cf53 1 = .ok (.iload_n 1, 1) := by decide +kernel
theorem dJ9_min_7cf53_2 : decode cJ9_min_7cf53 2 = .ok (.if_icmp .gt 7, 3) := by decide +kernel
theorem dJ9_min_7cf53_5 : decode cJ9_min_7cf53 5 = .ok (.iload_n 0, 1) := by decide +kernel
theorem dJ9_min_7cf53_6 : decode cJ9_min_7cf53 6 = .ok (.goto 4, 3) := by decide +kernel
theorem dJ9_min_7cf53_9 : decode cJ9_min_7cf53 9 = .ok (.iload_n 1, 1) := by decide +kernel
theorem dJ9_min_7cf53_10 : decode cJ9_min_7cf53 10 = .ok (.ireturn, 1) := by decide +kernel
theorem dJ0_length_8abf5_0 : decode cJ0_length_8abf5 0 = .ok (.aload_n 0, 1) := by decide +kernel
theorem dJ0_length_8abf5_1 : decode cJ0_length_8abf5 1 = .ok (.getfield 9, 3) := by decide +kernel
theorem dJ0_length_8abf5_4 : decode cJ0_length_8abf5 4 = .ok (.arraylength, 1) := by decide +kernel
theorem dJ0_length_8abf5_5 : decode cJ0_length_8abf5 5 = .ok (.aload_n 0, 1) := by decide +kernel
theorem dJ0_length_8abf5_6 : decode cJ0_length_8abf5 6 = .ok (.invokevirtual 335, 3) := by decide +kernel
theorem dJ0_length_8abf5_9 : decode cJ0_length_8abf5 9 = .ok (.ishr, 1) := by decide +kernel
theorem dJ0_length_8abf5_10 : decode cJ0_length_8abf5 10 = .ok (.ireturn, 1) := by decide +kernel
theorem dJ0_charAt_5068e_0 : decode cJ0_charAt_5068e 0 = .ok (.aload_n 0, 1) := by decide +kernel
theorem dJ0_charAt_5068e_1 : decode cJ0_charAt_5068e 1 = .ok (.invokevirtual 492, 3) := by decide +kernel
theorem dJ0_charAt_5068e_4 : decode cJ0_charAt_5068e 4 = .ok (.ifCond .eq 12, 3) := by decide +kernel
theorem dJ0_charAt_5068e_7 : decode cJ0_charAt_5068e 7 = .ok (.aload_n 0, 1) := by decide +kernel
theorem dJ0_charAt_5068e_8 : decode cJ0_charAt_5068e 8 = .ok (.getfield 9, 3) := by decide +kernel
theorem dJ0_charAt_5068e_11 : decode cJ0_charAt_5068e 11 = .ok (.iload_n 1, 1) := by decide +kernel
theorem dJ0_charAt_5068e_12 : decode cJ0_charAt_5068e 12 = .ok (.invokestatic 495, 3) := by decide +kernel
theorem dJ0_charAt_5068e_15 : decode cJ0_charAt_5068e 15 = .ok (.ireturn, 1) := by decide +kernel
theorem dJ0_charAt_5068e_16 : decode cJ0_charAt_5068e 16 = .ok (.aload_n 0, 1) := by decide +kernel
theorem dJ0_charAt_5068e_17 : decode cJ0_charAt_5068e 17 = .ok (.getfield 9, 3) := by decide +kernel
theorem dJ0_charAt_5068e_20 : decode cJ0_charAt_5068e 20 = .ok (.iload_n 1, 1) := by decide +kernel
theorem dJ0_charAt_5068e_21 : decode cJ0_charAt_5068e 21 = .ok (.invokestatic 498, 3) := by decide +kernel
theorem dJ0_charAt_5068e_24 : decode cJ0_charAt_5068e 24 = .ok (.ireturn, 1) := by decide +kernel
theorem dJ0_coder_7d493_0 : decode cJ0_coder_7d493 0 = .ok (.getstatic 38, 3) := by decide +kernel
theorem dJ0_coder_7d493_3 : decode cJ0_coder_7d493 3 = .ok (.ifCond .eq 10, 3) := by decide +kernel
theorem dJ0_coder_7d493_6 : decode cJ0_coder_7d493 6 = .ok (.aload_n 0, 1) := by decide +kernel
theorem dJ0_coder_7d493_7 : decode cJ0_coder_7d493 7 = .ok (.getfield 15, 3) := by decide +kernel
theorem dJ0_coder_7d493_10 : decode cJ0_coder_7d493 10 = .ok (.goto 4, 3) := by decide +kernel
theorem dJ0_coder_7d493_13 : decode cJ0_coder_7d493 13 = .ok (.iconst 1, 1) := by decide +kernel
theorem dJ0_coder_7d493_14 : decode cJ0_coder_7d493 14 = .ok (.ireturn, 1) := by decide +kernel
theorem dJ0_isLatin1_aae02_0 : decode cJ0_isLatin1_aae02 0 = .ok (.getstatic 38, 3) := by decide +kernel
theorem dJ0_isLatin1_aae02_3 : decode cJ0_isLatin1_aae02 3 = .ok (.ifCond .eq 14, 3) := by decide +kernel
theorem dJ0_isLatin1_aae02_6 : decode cJ0_isLatin1_aae02 6 = .ok (.aload_n 0, 1) := by decide +kernel
theorem dJ0_isLatin1_aae02_7 : decode cJ0_isLatin1_aae02 7 = .ok (.getfield 15, 3) := by decide +kernel
theorem dJ0_isLatin1_aae02_10 : decode cJ0_isLatin1_aae02 10 = .ok (.ifCond .ne 7, 3) := by decide +kernel
theorem dJ0_isLatin1_aae02_13 : decode cJ0_isLatin1_aae02 13 = .ok (.iconst 1, 1) := by decide +kernel
theorem dJ0_isLatin1_aae02_14 : decode cJ0_isLatin1_aae02 14 = .ok (.goto 4, 3) := by decide +kernel
theorem dJ0_isLatin1_aae02_17 : decode cJ0_isLatin1_aae02 17 = .ok (.iconst 0, 1) := by decide +kernel
theorem dJ0_isLatin1_aae02_18 : decode cJ0_isLatin1_aae02 18 = .ok (.ireturn, 1) := by decide +kernel
theorem dJ0_checkIndex_df160_0 : decode cJ0_checkIndex_df160 0 = .ok (.iload_n 0, 1) := by decide +kernel
theorem dJ0_checkIndex_df160_1 : decode cJ0_checkIndex_df160 1 = .ok (.iload_n 1, 1) := by decide +kernel
theorem dJ0_checkIndex_df160_2 : decode cJ0_checkIndex_df160 2 = .ok (.getstatic 1053, 3) := by decide +kernel
theorem dJ0_checkIndex_df160_5 : decode cJ0_checkIndex_df160 5 = .ok (.invokestatic 1059, 3) := by decide +kernel
theorem dJ0_checkIndex_df160_8 : decode cJ0_checkIndex_df160 8 = .ok (.pop, 1) := by decide +kernel
theorem dJ0_checkIndex_df160_9 : decode cJ0_checkIndex_df160 9 = .ok (.return_, 1) := by decide +kernel
theorem dJ1_charAt_3b067_0 : decode cJ1_charAt_3b067 0 = .ok (.iload_n 1, 1) := by decide +kernel
theorem dJ1_charAt_3b067_1 : decode cJ1_charAt_3b067 1 = .ok (.aload_n 0, 1) := by decide +kernel
theorem dJ1_charAt_3b067_2 : decode cJ1_charAt_3b067 2 = .ok (.arraylength, 1) := by decide +kernel
theorem dJ1_charAt_3b067_3 : decode cJ1_charAt_3b067 3 = .ok (.invokestatic 9, 3) := by decide +kernel
theorem dJ1_charAt_3b067_6 : decode cJ1_charAt_3b067 6 = .ok (.aload_n 0, 1) := by decide +kernel
theorem dJ1_charAt_3b067_7 : decode cJ1_charAt_3b067 7 = .ok (.iload_n 1, 1) := by decide +kernel
theorem dJ1_charAt_3b067_8 : decode cJ1_charAt_3b067 8 = .ok (.baload, 1) := by decide +kernel
theorem dJ1_charAt_3b067_9 : decode cJ1_charAt_3b067 9 = .ok (.sipush 255, 3) := by decide +kernel
theorem dJ1_charAt_3b067_12 : decode cJ1_charAt_3b067 12 = .ok (.iand, 1) := by decide +kernel
theorem dJ1_charAt_3b067_13 : decode cJ1_charAt_3b067 13 = .ok (.i2c, 1) := by decide +kernel
theorem dJ1_charAt_3b067_14 : decode cJ1_charAt_3b067 14 = .ok (.ireturn, 1) := by decide +kernel
theorem dJ2_getChar_3b067_0 : decode cJ2_getChar_3b067 0 = .ok (.getstatic 44, 3) := by decide +kernel
theorem dJ2_getChar_3b067_3 : decode cJ2_getChar_3b067 3 = .ok (.ifCond .ne 25, 3) := by decide +kernel
theorem dJ2_getChar_3b067_6 : decode cJ2_getChar_3b067 6 = .ok (.iload_n 1, 1) := by decide +kernel
theorem dJ2_getChar_3b067_7 : decode cJ2_getChar_3b067 7 = .ok (.ifCond .lt 11, 3) := by decide +kernel
theorem dJ2_getChar_3b067_10 : decode cJ2_getChar_3b067 10 = .ok (.iload_n 1, 1) := by decide +kernel
theorem dJ2_getChar_3b067_11 : decode cJ2_getChar_3b067 11 = .ok (.aload_n 0, 1) := by decide +kernel
theorem dJ2_getChar_3b067_12 : decode cJ2_getChar_3b067 12 = .ok (.invokestatic 48, 3) := by decide +kernel
theorem dJ2_getChar_3b067_15 : decode cJ2_getChar_3b067 15 = .ok (.if_icmp .lt 13, 3) := by decide +kernel
theorem dJ2_getChar_3b067_18 : decode cJ2_getChar_3b067 18 = .ok (.new 52, 3) := by decide +kernel
theorem dJ2_getChar_3b067_21 : decode cJ2_getChar_3b067 21 = .ok (.dup, 1) := by decide +kernel
theorem dJ2_getChar_3b067_22 : decode cJ2_getChar_3b067 22 = .ok (.ldc 54, 2) := by decide +kernel
theorem dJ2_getChar_3b067_24 : decode cJ2_getChar_3b067 24 = .ok (.invokespecial 56, 3) := by decide +kernel
theorem dJ2_getChar_3b067_27 : decode cJ2_getChar_3b067 27 = .ok (.athrow, 1) := by decide +kernel
theorem dJ2_getChar_3b067_28 : decode cJ2_getChar_3b067 28 = .ok (.iload_n 1, 1) := by decide +kernel
theorem dJ2_getChar_3b067_29 : decode cJ2_getChar_3b067 29 = .ok (.iconst 1, 1) := by decide +kernel
theorem dJ2_getChar_3b067_30 : decode cJ2_getChar_3b067 30 = .ok (.ishl, 1) := by decide +kernel
theorem dJ2_getChar_3b067_31 : decode cJ2_getChar_3b067 31 = .ok (.istore_n 1, 1) := by decide +kernel
theorem dJ2_getChar_3b067_32 : decode cJ2_getChar_3b067 32 = .ok (.aload_n 0, 1) := by decide +kernel
theorem dJ2_getChar_3b067_33 : decode cJ2_getChar_3b067 33 = .ok (.iload_n 1, 1) := by decide +kernel
theorem dJ2_getChar_3b067_34 : decode cJ2_getChar_3b067 34 = .ok (.iinc 1 1, 3) := by decide +kernel
theorem dJ2_getChar_3b067_37 : decode cJ2_getChar_3b067 37 = .ok (.baload, 1) := by decide +kernel
theorem dJ2_getChar_3b067_38 : decode cJ2_getChar_3b067 38 = .ok (.sipush 255, 3) := by decide +kernel
theorem dJ2_getChar_3b067_41 : decode cJ2_getChar_3b067 41 = .ok (.iand, 1) := by decide +kernel
theorem dJ2_getChar_3b067_42 : decode cJ2_getChar_3b067 42 = .ok (.getstatic 59, 3) := by decide +kernel
theorem dJ2_getChar_3b067_45 : decode cJ2_getChar_3b067 45 = .ok (.ishl, 1) := by decide +kernel
theorem dJ2_getChar_3b067_46 : decode cJ2_getChar_3b067 46 = .ok (.aload_n 0, 1) := by decide +kernel
theorem dJ2_getChar_3b067_47 : decode cJ2_getChar_3b067 47 = .ok (.iload_n 1, 1) := by decide +kernel
theorem dJ2_getChar_3b067_48 : decode cJ2_getChar_3b067 48 = .ok (.baload, 1) := by decide +kernel
theorem dJ2_getChar_3b067_49 : decode cJ2_getChar_3b067 49 = .ok (.sipush 255, 3) := by decide +kernel
theorem dJ2_getChar_3b067_52 : decode cJ2_getChar_3b067 52 = .ok (.iand, 1) := by decide +kernel
theorem dJ2_getChar_3b067_53 : decode cJ2_getChar_3b067 53 = .ok (.getstatic 63, 3) := by decide +kernel
theorem dJ2_getChar_3b067_56 : decode cJ2_getChar_3b067 56 = .ok (.ishl, 1) := by decide +kernel
theorem dJ2_getChar_3b067_57 : decode cJ2_getChar_3b067 57 = .ok (.ior, 1) := by decide +kernel
theorem dJ2_getChar_3b067_58 : decode cJ2_getChar_3b067 58 = .ok (.i2c, 1) := by decide +kernel
theorem dJ2_getChar_3b067_59 : decode cJ2_getChar_3b067 59 = .ok (.ireturn, 1) := by decide +kernel
theorem dJ2_length_9d52b_0 : decode cJ2_length_9d52b 0 = .ok (.aload_n 0, 1) := by decide +kernel
theorem dJ2_length_9d52b_1 : decode cJ2_length_9d52b 1 = .ok (.arraylength, 1) := by decide +kernel
theorem dJ2_length_9d52b_2 : decode cJ2_length_9d52b 2 = .ok (.iconst 1, 1) := by decide +kernel
theorem dJ2_length_9d52b_3 : decode cJ2_length_9d52b 3 = .ok (.ishr, 1) := by decide +kernel
theorem dJ2_length_9d52b_4 : decode cJ2_length_9d52b 4 = .ok (.ireturn, 1) := by decide +kernel
theorem dJ2_charAt_3b067_0 : decode cJ2_charAt_3b067 0 = .ok (.iload_n 1, 1) := by decide +kernel
theorem dJ2_charAt_3b067_1 : decode cJ2_charAt_3b067 1 = .ok (.aload_n 0, 1) := by decide +kernel
theorem dJ2_charAt_3b067_2 : decode cJ2_charAt_3b067 2 = .ok (.invokestatic 67, 3) := by decide +kernel
theorem dJ2_charAt_3b067_5 : decode cJ2_charAt_3b067 5 = .ok (.aload_n 0, 1) := by decide +kernel
theorem dJ2_charAt_3b067_6 : decode cJ2_charAt_3b067 6 = .ok (.iload_n 1, 1) := by decide +kernel
theorem dJ2_charAt_3b067_7 : decode cJ2_charAt_3b067 7 = .ok (.invokestatic 71, 3) := by decide +kernel
theorem dJ2_charAt_3b067_10 : decode cJ2_charAt_3b067 10 = .ok (.ireturn, 1) := by decide +kernel
theorem dJ2_checkIndex_2214a_0 : decode cJ2_checkIndex_2214a 0 = .ok (.iload_n 0, 1) := by decide +kernel
theorem dJ2_checkIndex_2214a_1 : decode cJ2_checkIndex_2214a 1 = .ok (.aload_n 1, 1) := by decide +kernel
theorem dJ2_checkIndex_2214a_2 : decode cJ2_checkIndex_2214a 2 = .ok (.invokestatic 48, 3) := by decide +kernel
theorem dJ2_checkIndex_2214a_5 : decode cJ2_checkIndex_2214a 5 = .ok (.invokestatic 414, 3) := by decide +kernel
theorem dJ2_checkIndex_2214a_8 : decode cJ2_checkIndex_2214a 8 = .ok (.return_, 1) := by decide +kernel
theorem dJxa1e45_init_da8c8_0 : decode cJxa1e45_init_da8c8 0 = .ok (.aload_n 0, 1) := by decide +kernel
theorem dJxa1e45_init_da8c8_1 : decode cJxa1e45_init_da8c8 1 = .ok (.invokespecial 1, 3) := by decide +kernel
theorem dJxa1e45_init_da8c8_4 : decode cJxa1e45_init_da8c8 4 = .ok (.return_, 1) := by decide +kernel
theorem dJxc12de_init_da8c8_0 : decode cJxc12de_init_da8c8 0 = .ok (.aload_n 0, 1) := by decide +kernel
theorem dJxc12de_init_da8c8_1 : decode cJxc12de_init_da8c8 1 = .ok (.invokespecial 1, 3) := by decide +kernel
theorem dJxc12de_init_da8c8_4 : decode cJxc12de_init_da8c8 4 = .ok (.aload_n 0, 1) := by decide +kernel
theorem dJxc12de_init_da8c8_5 : decode cJxc12de_init_da8c8 5 = .ok (.iconst 0, 1) := by decide +kernel
theorem dJxc12de_init_da8c8_6 : decode cJxc12de_init_da8c8 6 = .ok (.putfield 7, 3) := by decide +kernel
theorem dJxc12de_init_da8c8_9 : decode cJxc12de_init_da8c8 9 = .ok (.return_, 1) := by decide +kernel
theorem dJx4a65c_init_da8c8_0 : decode cJx4a65c_init_da8c8 0 = .ok (.aload_n 0, 1) := by decide +kernel
theorem dJx4a65c_init_da8c8_1 : decode cJx4a65c_init_da8c8 1 = .ok (.invokespecial 1, 3) := by decide +kernel
theorem dJx4a65c_init_da8c8_4 : decode cJx4a65c_init_da8c8 4 = .ok (.aload_n 0, 1) := by decide +kernel
theorem dJx4a65c_init_da8c8_5 : decode cJx4a65c_init_da8c8 5 = .ok (.getstatic 39, 3) := by decide +kernel
theorem dJx4a65c_init_da8c8_8 : decode cJx4a65c_init_da8c8 8 = .ok (.putfield 9, 3) := by decide +kernel
theorem dJx4a65c_init_da8c8_11 : decode cJx4a65c_init_da8c8 11 = .ok (.return_, 1) := by decide +kernel
theorem dJx4a65c_grow_92f84_0 : decode cJx4a65c_grow_92f84 0 = .ok (.aload_n 0, 1) := by decide +kernel
theorem dJx4a65c_grow_92f84_1 : decode cJx4a65c_grow_92f84 1 = .ok (.getfield 9, 3) := by decide +kernel
theorem dJx4a65c_grow_92f84_4 : decode cJx4a65c_grow_92f84 4 = .ok (.arraylength, 1) := by decide +kernel
theorem dJx4a65c_grow_92f84_5 : decode cJx4a65c_grow_92f84 5 = .ok (.istore_n 2, 1) := by decide +kernel
theorem dJx4a65c_grow_92f84_6 : decode cJx4a65c_grow_92f84 6 = .ok (.iload_n 2, 1) := by decide +kernel
theorem dJx4a65c_grow_92f84_7 : decode cJx4a65c_grow_92f84 7 = .ok (.ifCond .gt 13, 3) := by decide +kernel
theorem dJx4a65c_grow_92f84_10 : decode cJx4a65c_grow_92f84 10 = .ok (.aload_n 0, 1) := by decide +kernel
theorem dJx4a65c_grow_92f84_11 : decode cJx4a65c_grow_92f84 11 = .ok (.getfield 9, 3) := by decide +kernel
theorem dJx4a65c_grow_92f84_14 : decode cJx4a65c_grow_92f84 14 = .ok (.getstatic 39, 3) := by decide +kernel
theorem dJx4a65c_grow_92f84_17 : decode cJx4a65c_grow_92f84 17 = .ok (.if_acmp .eq 28, 3) := by decide +kernel
theorem dJx4a65c_grow_92f84_20 : decode cJx4a65c_grow_92f84 20 = .ok (.iload_n 2, 1) := by decide +kernel
theorem dJx4a65c_grow_92f84_21 : decode cJx4a65c_grow_92f84 21 = .ok (.iload_n 1, 1) := by decide +kernel
theorem dJx4a65c_grow_92f84_22 : decode cJx4a65c_grow_92f84 22 = .ok (.iload_n 2, 1) := by decide +kernel
theorem dJx4a65c_grow_92f84_23 : decode cJx4a65c_grow_92f84 23 = .ok (.isub, 1) := by decide +kernel
theorem dJx4a65c_grow_92f84_24 : decode cJx4a65c_grow_92f84 24 = .ok (.iload_n 2, 1) := by decide +kernel
theorem dJx4a65c_grow_92f84_25 : decode cJx4a65c_grow_92f84 25 = .ok (.iconst 1, 1) := by decide +kernel
theorem dJx4a65c_grow_92f84_26 : decode cJx4a65c_grow_92f84 26 = .ok (.ishr, 1) := by decide +kernel
theorem dJx4a65c_grow_92f84_27 : decode cJx4a65c_grow_92f84 27 = .ok (.invokestatic 73, 3) := by decide +kernel
theorem dJx4a65c_grow_92f84_30 : decode cJx4a65c_grow_92f84 30 = .ok (.istore_n 3, 1) := by decide +kernel
theorem dJx4a65c_grow_92f84_31 : decode cJx4a65c_grow_92f84 31 = .ok (.aload_n 0, 1) := by decide +kernel
theorem dJx4a65c_grow_92f84_32 : decode cJx4a65c_grow_92f84 32 = .ok (.aload_n 0, 1) := by decide +kernel
theorem dJx4a65c_grow_92f84_33 : decode cJx4a65c_grow_92f84 33 = .ok (.getfield 9, 3) := by decide +kernel
theorem dJx4a65c_grow_92f84_36 : decode cJx4a65c_grow_92f84 36 = .ok (.iload_n 3, 1) := by decide +kernel
theorem dJx4a65c_grow_92f84_37 : decode cJx4a65c_grow_92f84 37 = .ok (.invokestatic 66, 3) := by decide +kernel
theorem dJx4a65c_grow_92f84_40 : decode cJx4a65c_grow_92f84 40 = .ok (.dup_x1, 1) := by decide +kernel
theorem dJx4a65c_grow_92f84_41 : decode cJx4a65c_grow_92f84 41 = .ok (.putfield 9, 3) := by decide +kernel
theorem dJx4a65c_grow_92f84_44 : decode cJx4a65c_grow_92f84 44 = .ok (.areturn, 1) := by decide +kernel
theorem dJx4a65c_grow_92f84_45 : decode cJx4a65c_grow_92f84 45 = .ok (.aload_n 0, 1) := by decide +kernel
theorem dJx4a65c_grow_92f84_46 : decode cJx4a65c_grow_92f84 46 = .ok (.bipush 10, 2) := by decide +kernel
theorem dJx4a65c_grow_92f84_48 : decode cJx4a65c_grow_92f84 48 = .ok (.iload_n 1, 1) := by decide +kernel
theorem dJx4a65c_grow_92f84_49 : decode cJx4a65c_grow_92f84 49 = .ok (.invokestatic 79, 3) := by decide +kernel
theorem dJx4a65c_grow_92f84_52 : decode cJx4a65c_grow_92f84 52 = .ok (.anewarray 7, 3) := by decide +kernel
theorem dJx4a65c_grow_92f84_55 : decode cJx4a65c_grow_92f84 55 = .ok (.dup_x1, 1) := by decide +kernel
theorem dJx4a65c_grow_92f84_56 : decode cJx4a65c_grow_92f84 56 = .ok (.putfield 9, 3) := by decide +kernel
theorem dJx4a65c_grow_92f84_59 : decode cJx4a65c_grow_92f84 59 = .ok (.areturn, 1) := by decide +kernel
theorem dJx4a65c_grow_d5877_0 : decode cJx4a65c_grow_d5877 0 = .ok (.aload_n 0, 1) := by decide +kernel
theorem dJx4a65c_grow_d5877_1 : decode cJx4a65c_grow_d5877 1 = .ok (.aload_n 0, 1) := by decide +kernel
theorem dJx4a65c_grow_d5877_2 : decode cJx4a65c_grow_d5877 2 = .ok (.getfield 48, 3) := by decide +kernel
theorem dJx4a65c_grow_d5877_5 : decode cJx4a65c_grow_d5877 5 = .ok (.iconst 1, 1) := by decide +kernel
theorem dJx4a65c_grow_d5877_6 : decode cJx4a65c_grow_d5877 6 = .ok (.iadd, 1) := by decide +kernel
theorem dJx4a65c_grow_d5877_7 : decode cJx4a65c_grow_d5877 7 = .ok (.invokevirtual 69, 3) := by decide +kernel
theorem dJx4a65c_grow_d5877_10 : decode cJx4a65c_grow_d5877 10 = .ok (.areturn, 1) := by decide +kernel
theorem dJx4a65c_size_8abf5_0 : decode cJx4a65c_size_8abf5 0 = .ok (.aload_n 0, 1) := by decide +kernel
theorem dJx4a65c_size_8abf5_1 : decode cJx4a65c_size_8abf5 1 = .ok (.getfield 48, 3) := by decide +kernel
theorem dJx4a65c_size_8abf5_4 : decode cJx4a65c_size_8abf5 4 = .ok (.ireturn, 1) := by decide +kernel
theorem dJx4a65c_elementData_915e3_0 : decode cJx4a65c_elementData_915e3 0 = .ok (.aload_n 0, 1) := by decide +kernel
theorem dJx4a65c_elementData_915e3_1 : decode cJx4a65c_elementData_915e3 1 = .ok (.getfield 9, 3) := by decide +kernel
theorem dJx4a65c_elementData_915e3_4 : decode cJx4a65c_elementData_915e3 4 = .ok (.iload_n 1, 1) := by decide +kernel
theorem dJx4a65c_elementData_915e3_5 : decode cJx4a65c_elementData_915e3 5 = .ok (.aaload, 1) := by decide +kernel
theorem dJx4a65c_elementData_915e3_6 : decode cJx4a65c_elementData_915e3 6 = .ok (.areturn, 1) := by decide +kernel
theorem dJx4a65c_get_915e3_0 : decode cJx4a65c_get_915e3 0 = .ok (.iload_n 1, 1) := by decide +kernel
theorem dJx4a65c_get_915e3_1 : decode cJx4a65c_get_915e3 1 = .ok (.aload_n 0, 1) := by decide +kernel
theorem dJx4a65c_get_915e3_2 : decode cJx4a65c_get_915e3 2 = .ok (.getfield 48, 3) := by decide +kernel
theorem dJx4a65c_get_915e3_5 : decode cJx4a65c_get_915e3 5 = .ok (.invokestatic 118, 3) := by decide +kernel
theorem dJx4a65c_get_915e3_8 : decode cJx4a65c_get_915e3 8 = .ok (.pop, 1) := by decide +kernel
theorem dJx4a65c_get_915e3_9 : decode cJx4a65c_get_915e3 9 = .ok (.aload_n 0, 1) := by decide +kernel
theorem dJx4a65c_get_915e3_10 : decode cJx4a65c_get_915e3 10 = .ok (.iload_n 1, 1) := by decide +kernel
theorem dJx4a65c_get_915e3_11 : decode cJx4a65c_get_915e3 11 = .ok (.invokevirtual 123, 3) := by decide +kernel
theorem dJx4a65c_get_915e3_14 : decode cJx4a65c_get_915e3 14 = .ok (.areturn, 1) := by decide +kernel
theorem dJx4a65c_add_72be8_0 : decode cJx4a65c_add_72be8 0 = .ok (.iload_n 3, 1) := by decide +kernel
theorem dJx4a65c_add_72be8_1 : decode cJx4a65c_add_72be8 1 = .ok (.aload_n 2, 1) := by decide +kernel
theorem dJx4a65c_add_72be8_2 : decode cJx4a65c_add_72be8 2 = .ok (.arraylength, 1) := by decide +kernel
theorem dJx4a65c_add_72be8_3 : decode cJx4a65c_add_72be8 3 = .ok (.if_icmp .ne 8, 3) := by decide +kernel
theorem dJx4a65c_add_72be8_6 : decode cJx4a65c_add_72be8 6 = .ok (.aload_n 0, 1) := by decide +kernel
theorem dJx4a65c_add_72be8_7 : decode cJx4a65c_add_72be8 7 = .ok (.invokevirtual 129, 3) := by decide +kernel
theorem dJx4a65c_add_72be8_10 : decode cJx4a65c_add_72be8 10 = .ok (.astore_n 2, 1) := by decide +kernel
theorem dJx4a65c_add_72be8_11 : decode cJx4a65c_add_72be8 11 = .ok (.aload_n 2, 1) := by decide +kernel
theorem dJx4a65c_add_72be8_12 : decode cJx4a65c_add_72be8 12 = .ok (.iload_n 3, 1) := by decide +kernel
theorem dJx4a65c_add_72be8_13 : decode cJx4a65c_add_72be8 13 = .ok (.aload_n 1, 1) := by decide +kernel
theorem dJx4a65c_add_72be8_14 : decode cJx4a65c_add_72be8 14 = .ok (.aastore, 1) := by decide +kernel
theorem dJx4a65c_add_72be8_15 : decode cJx4a65c_add_72be8 15 = .ok (.aload_n 0, 1) := by decide +kernel
theorem dJx4a65c_add_72be8_16 : decode cJx4a65c_add_72be8 16 = .ok (.iload_n 3, 1) := by decide +kernel
theorem dJx4a65c_add_72be8_17 : decode cJx4a65c_add_72be8 17 = .ok (.iconst 1, 1) := by decide +kernel
theorem dJx4a65c_add_72be8_18 : decode cJx4a65c_add_72be8 18 = .ok (.iadd, 1) := by decide +kernel
theorem dJx4a65c_add_72be8_19 : decode cJx4a65c_add_72be8 19 = .ok (.putfield 48, 3) := by decide +kernel
theorem dJx4a65c_add_72be8_22 : decode cJx4a65c_add_72be8 22 = .ok (.return_, 1) := by decide +kernel
theorem dJx4a65c_add_9ea2d_0 : decode cJx4a65c_add_9ea2d 0 = .ok (.aload_n 0, 1) := by decide +kernel
theorem dJx4a65c_add_9ea2d_1 : decode cJx4a65c_add_9ea2d 1 = .ok (.dup, 1) := by decide +kernel
theorem dJx4a65c_add_9ea2d_2 : decode cJx4a65c_add_9ea2d 2 = .ok (.getfield 63, 3) := by decide +kernel
theorem dJx4a65c_add_9ea2d_5 : decode cJx4a65c_add_9ea2d 5 = .ok (.iconst 1, 1) := by decide +kernel
theorem dJx4a65c_add_9ea2d_6 : decode cJx4a65c_add_9ea2d 6 = .ok (.iadd, 1) := by decide +kernel
theorem dJx4a65c_add_9ea2d_7 : decode cJx4a65c_add_9ea2d 7 = .ok (.putfield 63, 3) := by decide +kernel
theorem dJx4a65c_add_9ea2d_10 : decode cJx4a65c_add_9ea2d 10 = .ok (.aload_n 0, 1) := by decide +kernel
theorem dJx4a65c_add_9ea2d_11 : decode cJx4a65c_add_9ea2d 11 = .ok (.aload_n 1, 1) := by decide +kernel
theorem dJx4a65c_add_9ea2d_12 : decode cJx4a65c_add_9ea2d 12 = .ok (.aload_n 0, 1) := by decide +kernel
theorem dJx4a65c_add_9ea2d_13 : decode cJx4a65c_add_9ea2d 13 = .ok (.getfield 9, 3) := by decide +kernel
theorem dJx4a65c_add_9ea2d_16 : decode cJx4a65c_add_9ea2d 16 = .ok (.aload_n 0, 1) := by decide +kernel
theorem dJx4a65c_add_9ea2d_17 : decode cJx4a65c_add_9ea2d 17 = .ok (.getfield 48, 3) := by decide +kernel
theorem dJx4a65c_add_9ea2d_20 : decode cJx4a65c_add_9ea2d 20 = .ok (.invokevirtual 131, 3) := by decide +kernel
theorem dJx4a65c_add_9ea2d_23 : decode cJx4a65c_add_9ea2d 23 = .ok (.iconst 1, 1) := by decide +kernel
theorem dJx4a65c_add_9ea2d_24 : decode cJx4a65c_add_9ea2d 24 = .ok (.ireturn, 1) := by decide +kernel
theorem dJ7_fill_53178_0 : decode cJ7_fill_53178 0 = .ok (.iconst 0, 1) := by decide +kernel
theorem dJ7_fill_53178_1 : decode cJ7_fill_53178 1 = .ok (.istore_n 2, 1) := by decide +kernel
theorem dJ7_fill_53178_2 : decode cJ7_fill_53178 2 = .ok (.aload_n 0, 1) := by decide +kernel
theorem dJ7_fill_53178_3 : decode cJ7_fill_53178 3 = .ok (.arraylength, 1) := by decide +kernel
theorem dJ7_fill_53178_4 : decode cJ7_fill_53178 4 = .ok (.istore_n 3, 1) := by decide +kernel
theorem dJ7_fill_53178_5 : decode cJ7_fill_53178 5 = .ok (.iload_n 2, 1) := by decide +kernel
theorem dJ7_fill_53178_6 : decode cJ7_fill_53178 6 = .ok (.iload_n 3, 1) := by decide +kernel
theorem dJ7_fill_53178_7 : decode cJ7_fill_53178 7 = .ok (.if_icmp .ge 13, 3) := by decide +kernel
theorem dJ7_fill_53178_10 : decode cJ7_fill_53178 10 = .ok (.aload_n 0, 1) := by decide +kernel
theorem dJ7_fill_53178_11 : decode cJ7_fill_53178 11 = .ok (.iload_n 2, 1) := by decide +kernel
theorem dJ7_fill_53178_12 : decode cJ7_fill_53178 12 = .ok (.iload_n 1, 1) := by decide +kernel
theorem dJ7_fill_53178_13 : decode cJ7_fill_53178 13 = .ok (.iastore, 1) := by decide +kernel
theorem dJ7_fill_53178_14 : decode cJ7_fill_53178 14 = .ok (.iinc 2 1, 3) := by decide +kernel
theorem dJ7_fill_53178_17 : decode cJ7_fill_53178 17 = .ok (.goto (-12), 3) := by decide +kernel
theorem dJ7_fill_53178_20 : decode cJ7_fill_53178 20 = .ok (.return_, 1) := by decide +kernel
theorem dJ7_fill_031fb_0 : decode cJ7_fill_031fb 0 = .ok (.iconst 0, 1) := by decide +kernel
theorem dJ7_fill_031fb_1 : decode cJ7_fill_031fb 1 = .ok (.istore_n 2, 1) := by decide +kernel
theorem dJ7_fill_031fb_2 : decode cJ7_fill_031fb 2 = .ok (.aload_n 0, 1) := by decide +kernel
theorem dJ7_fill_031fb_3 : decode cJ7_fill_031fb 3 = .ok (.arraylength, 1) := by decide +kernel
theorem dJ7_fill_031fb_4 : decode cJ7_fill_031fb 4 = .ok (.istore_n 3, 1) := by decide +kernel
theorem dJ7_fill_031fb_5 : decode cJ7_fill_031fb 5 = .ok (.iload_n 2, 1) := by decide +kernel
theorem dJ7_fill_031fb_6 : decode cJ7_fill_031fb 6 = .ok (.iload_n 3, 1) := by decide +kernel
theorem dJ7_fill_031fb_7 : decode cJ7_fill_031fb 7 = .ok (.if_icmp .ge 13, 3) := by decide +kernel
theorem dJ7_fill_031fb_10 : decode cJ7_fill_031fb 10 = .ok (.aload_n 0, 1) := by decide +kernel
theorem dJ7_fill_031fb_11 : decode cJ7_fill_031fb 11 = .ok (.iload_n 2, 1) := by decide +kernel
theorem dJ7_fill_031fb_12 : decode cJ7_fill_031fb 12 = .ok (.iload_n 1, 1) := by decide +kernel
theorem dJ7_fill_031fb_13 : decode cJ7_fill_031fb 13 = .ok (.bastore, 1) := by decide +kernel
theorem dJ7_fill_031fb_14 : decode cJ7_fill_031fb 14 = .ok (.iinc 2 1, 3) := by decide +kernel
theorem dJ7_fill_031fb_17 : decode cJ7_fill_031fb 17 = .ok (.goto (-12), 3) := by decide +kernel
theorem dJ7_fill_031fb_20 : decode cJ7_fill_031fb 20 = .ok (.return_, 1) := by decide +kernel
theorem dJ7_copyOf_1904c_0 : decode cJ7_copyOf_1904c 0 = .ok (.aload_n 0, 1) := by decide +kernel
theorem dJ7_copyOf_1904c_1 : decode cJ7_copyOf_1904c 1 = .ok (.iload_n 1, 1) := by decide +kernel
theorem dJ7_copyOf_1904c_2 : decode cJ7_copyOf_1904c 2 = .ok (.aload_n 0, 1) := by decide +kernel
theorem dJ7_copyOf_1904c_3 : decode cJ7_copyOf_1904c 3 = .ok (.invokevirtual 86, 3) := by decide +kernel
theorem dJ7_copyOf_1904c_6 : decode cJ7_copyOf_1904c 6 = .ok (.invokestatic 300, 3) := by decide +kernel
theorem dJ7_copyOf_1904c_9 : decode cJ7_copyOf_1904c 9 = .ok (.areturn, 1) := by decide +kernel
theorem dJ7_copyOf_6403c_0 : decode cJ7_copyOf_6403c 0 = .ok (.aload_n 2, 1) := by decide +kernel
theorem dJ7_copyOf_6403c_1 : decode cJ7_copyOf_6403c 1 = .ok (.ldc 110, 2) := by decide +kernel
theorem dJ7_copyOf_6403c_3 : decode cJ7_copyOf_6403c 3 = .ok (.if_acmp .ne 10, 3) := by decide +kernel
theorem dJ7_copyOf_6403c_6 : decode cJ7_copyOf_6403c 6 = .ok (.iload_n 1, 1) := by decide +kernel
theorem dJ7_copyOf_6403c_7 : decode cJ7_copyOf_6403c 7 = .ok (.anewarray 2, 3) := by decide +kernel
theorem dJ7_copyOf_6403c_10 : decode cJ7_copyOf_6403c 10 = .ok (.goto 14, 3) := by decide +kernel
theorem dJ7_copyOf_6403c_13 : decode cJ7_copyOf_6403c 13 = .ok (.aload_n 2, 1) := by decide +kernel
theorem dJ7_copyOf_6403c_14 : decode cJ7_copyOf_6403c 14 = .ok (.invokevirtual 90, 3) := by decide +kernel
theorem dJ7_copyOf_6403c_17 : decode cJ7_copyOf_6403c 17 = .ok (.iload_n 1, 1) := by decide +kernel
theorem dJ7_copyOf_6403c_18 : decode cJ7_copyOf_6403c 18 = .ok (.invokestatic 95, 3) := by decide +kernel
theorem dJ7_copyOf_6403c_21 : decode cJ7_copyOf_6403c 21 = .ok (.checkcast 110, 3) := by decide +kernel
theorem dJ7_copyOf_6403c_24 : decode cJ7_copyOf_6403c 24 = .ok (.astore_n 3, 1) := by decide +kernel
theorem dJ7_copyOf_6403c_25 : decode cJ7_copyOf_6403c 25 = .ok (.aload_n 0, 1) := by decide +kernel
theorem dJ7_copyOf_6403c_26 : decode cJ7_copyOf_6403c 26 = .ok (.iconst 0, 1) := by decide +kernel
theorem dJ7_copyOf_6403c_27 : decode cJ7_copyOf_6403c 27 = .ok (.aload_n 3, 1) := by decide +kernel
theorem dJ7_copyOf_6403c_28 : decode cJ7_copyOf_6403c 28 = .ok (.iconst 0, 1) := by decide +kernel
theorem dJ7_copyOf_6403c_29 : decode cJ7_copyOf_6403c 29 = .ok (.aload_n 0, 1) := by decide +kernel
theorem dJ7_copyOf_6403c_30 : decode cJ7_copyOf_6403c 30 = .ok (.arraylength, 1) := by decide +kernel
theorem dJ7_copyOf_6403c_31 : decode cJ7_copyOf_6403c 31 = .ok (.iload_n 1, 1) := by decide +kernel
theorem dJ7_copyOf_6403c_32 : decode cJ7_copyOf_6403c 32 = .ok (.invokestatic 304, 3) := by decide +kernel
theorem dJ7_copyOf_6403c_35 : decode cJ7_copyOf_6403c 35 = .ok (.invokestatic 150, 3) := by decide +kernel
theorem dJ7_copyOf_6403c_38 : decode cJ7_copyOf_6403c 38 = .ok (.aload_n 3, 1) := by decide +kernel
theorem dJ7_copyOf_6403c_39 : decode cJ7_copyOf_6403c 39 = .ok (.areturn, 1) := by decide +kernel
theorem dJ7_copyOf_59c91_0 : decode cJ7_copyOf_59c91 0 = .ok (.iload_n 1, 1) := by decide +kernel
theorem dJ7_copyOf_59c91_1 : decode cJ7_copyOf_59c91 1 = .ok (.aload_n 0, 1) := by decide +kernel
theorem dJ7_copyOf_59c91_2 : decode cJ7_copyOf_59c91 2 = .ok (.arraylength, 1) := by decide +kernel
theorem dJ7_copyOf_59c91_3 : decode cJ7_copyOf_59c91 3 = .ok (.if_icmp .ne 11, 3) := by decide +kernel
theorem dJ7_copyOf_59c91_6 : decode cJ7_copyOf_59c91 6 = .ok (.aload_n 0, 1) := by decide +kernel
theorem dJ7_copyOf_59c91_7 : decode cJ7_copyOf_59c91 7 = .ok (.invokevirtual 316, 3) := by decide +kernel
theorem dJ7_copyOf_59c91_10 : decode cJ7_copyOf_59c91 10 = .ok (.checkcast 317, 3) := by decide +kernel
theorem dJ7_copyOf_59c91_13 : decode cJ7_copyOf_59c91 13 = .ok (.areturn, 1) := by decide +kernel
theorem dJ7_copyOf_59c91_14 : decode cJ7_copyOf_59c91 14 = .ok (.iload_n 1, 1) := by decide +kernel
theorem dJ7_copyOf_59c91_15 : decode cJ7_copyOf_59c91 15 = .ok (.newarray .int, 2) := by decide +kernel
theorem dJ7_copyOf_59c91_17 : decode cJ7_copyOf_59c91 17 = .ok (.astore_n 2, 1) := by decide +kernel
theorem dJ7_copyOf_59c91_18 : decode cJ7_copyOf_59c91 18 = .ok (.aload_n 0, 1) := by decide +kernel
theorem dJ7_copyOf_59c91_19 : decode cJ7_copyOf_59c91 19 = .ok (.iconst 0, 1) := by decide +kernel
theorem dJ7_copyOf_59c91_20 : decode cJ7_copyOf_59c91 20 = .ok (.aload_n 2, 1) := by decide +kernel
theorem dJ7_copyOf_59c91_21 : decode cJ7_copyOf_59c91 21 = .ok (.iconst 0, 1) := by decide +kernel
theorem dJ7_copyOf_59c91_22 : decode cJ7_copyOf_59c91 22 = .ok (.aload_n 0, 1) := by decide +kernel
theorem dJ7_copyOf_59c91_23 : decode cJ7_copyOf_59c91 23 = .ok (.arraylength, 1) := by decide +kernel
theorem dJ7_copyOf_59c91_24 : decode cJ7_copyOf_59c91 24 = .ok (.iload_n 1, 1) := by decide +kernel
theorem dJ7_copyOf_59c91_25 : decode cJ7_copyOf_59c91 25 = .ok (.invokestatic 304, 3) := by decide +kernel
theorem dJ7_copyOf_59c91_28 : decode cJ7_copyOf_59c91 28 = .ok (.invokestatic 150, 3) := by decide +kernel
theorem dJ7_copyOf_59c91_31 : decode cJ7_copyOf_59c91 31 = .ok (.aload_n 2, 1) := by decide +kernel
theorem dJ7_copyOf_59c91_32 : decode cJ7_copyOf_59c91 32 = .ok (.areturn, 1) := by decide +kernel
theorem dJ15_checkIndex_7cf53_0 : decode cJ15_checkIndex_7cf53 0 = .ok (.iload_n 0, 1) := by decide +kernel
theorem dJ15_checkIndex_7cf53_1 : decode cJ15_checkIndex_7cf53 1 = .ok (.iload_n 1, 1) := by decide +kernel
theorem dJ15_checkIndex_7cf53_2 : decode cJ15_checkIndex_7cf53 2 = .ok (.aconst_null, 1) := by decide +kernel
theorem dJ15_checkIndex_7cf53_3 : decode cJ15_checkIndex_7cf53 3 = .ok (.invokestatic 105, 3) := by decide +kernel
theorem dJ15_checkIndex_7cf53_6 : decode cJ15_checkIndex_7cf53 6 = .ok (.ireturn, 1) := by decide +kernel
theorem dJ8_newLength_cabcc_0 : decode cJ8_newLength_cabcc 0 = .ok (.iload_n 0, 1) := by decide +kernel
theorem dJ8_newLength_cabcc_1 : decode cJ8_newLength_cabcc 1 = .ok (.iload_n 1, 1) := by decide +kernel
theorem dJ8_newLength_cabcc_2 : decode cJ8_newLength_cabcc 2 = .ok (.iload_n 2, 1) := by decide +kernel
theorem dJ8_newLength_cabcc_3 : decode cJ8_newLength_cabcc 3 = .ok (.invokestatic 194, 3) := by decide +kernel
theorem dJ8_newLength_cabcc_6 : decode cJ8_newLength_cabcc 6 = .ok (.iadd, 1) := by decide +kernel
theorem dJ8_newLength_cabcc_7 : decode cJ8_newLength_cabcc 7 = .ok (.istore_n 3, 1) := by decide +kernel
theorem dJ8_newLength_cabcc_8 : decode cJ8_newLength_cabcc 8 = .ok (.iconst 0, 1) := by decide +kernel
theorem dJ8_newLength_cabcc_9 : decode cJ8_newLength_cabcc 9 = .ok (.iload_n 3, 1) := by decide +kernel
theorem dJ8_newLength_cabcc_10 : decode cJ8_newLength_cabcc 10 = .ok (.if_icmp .ge 11, 3) := by decide +kernel
theorem dJ8_newLength_cabcc_13 : decode cJ8_newLength_cabcc 13 = .ok (.iload_n 3, 1) := by decide +kernel
theorem dJ8_newLength_cabcc_14 : decode cJ8_newLength_cabcc 14 = .ok (.ldc 200, 2) := by decide +kernel
theorem dJ8_newLength_cabcc_16 : decode cJ8_newLength_cabcc 16 = .ok (.if_icmp .gt 5, 3) := by decide +kernel
theorem dJ8_newLength_cabcc_19 : decode cJ8_newLength_cabcc 19 = .ok (.iload_n 3, 1) := by decide +kernel
theorem dJ8_newLength_cabcc_20 : decode cJ8_newLength_cabcc 20 = .ok (.ireturn, 1) := by decide +kernel
theorem dJ8_newLength_cabcc_21 : decode cJ8_newLength_cabcc 21 = .ok (.iload_n 0, 1) := by decide +kernel
theorem dJ8_newLength_cabcc_22 : decode cJ8_newLength_cabcc 22 = .ok (.iload_n 1, 1) := by decide +kernel
theorem dJ8_newLength_cabcc_23 : decode cJ8_newLength_cabcc 23 = .ok (.invokestatic 201, 3) := by decide +kernel
theorem dJ8_newLength_cabcc_26 : decode cJ8_newLength_cabcc 26 = .ok (.ireturn, 1) := by decide +kernel
theorem dJ8_hugeLength_7cf53_0 : decode cJ8_hugeLength_7cf53 0 = .ok (.iload_n 0, 1) := by decide +kernel
theorem dJ8_hugeLength_7cf53_1 : decode cJ8_hugeLength_7cf53 1 = .ok (.iload_n 1, 1) := by decide +kernel
theorem dJ8_hugeLength_7cf53_2 : decode cJ8_hugeLength_7cf53 2 = .ok (.iadd, 1) := by decide +kernel
theorem dJ8_hugeLength_7cf53_3 : decode cJ8_hugeLength_7cf53 3 = .ok (.istore_n 2, 1) := by decide +kernel
theorem dJ8_hugeLength_7cf53_4 : decode cJ8_hugeLength_7cf53 4 = .ok (.iload_n 2, 1) := by decide +kernel
theorem dJ8_hugeLength_7cf53_5 : decode cJ8_hugeLength_7cf53 5 = .ok (.ifCond .ge 44, 3) := by decide +kernel
theorem dJ8_hugeLength_7cf53_8 : decode cJ8_hugeLength_7cf53 8 = .ok (.new 204, 3) := by decide +kernel
theorem dJ8_hugeLength_7cf53_11 : decode cJ8_hugeLength_7cf53 11 = .ok (.dup, 1) := by decide +kernel
theorem dJ8_hugeLength_7cf53_12 : decode cJ8_hugeLength_7cf53 12 = .ok (.new 89, 3) := by decide +kernel
theorem dJ8_hugeLength_7cf53_15 : decode cJ8_hugeLength_7cf53 15 = .ok (.dup, 1) := by decide +kernel
theorem dJ8_hugeLength_7cf53_16 : decode cJ8_hugeLength_7cf53 16 = .ok (.invokespecial 91, 3) := by decide +kernel
theorem dJ8_hugeLength_7cf53_19 : decode cJ8_hugeLength_7cf53 19 = .ok (.ldc 206, 2) := by decide +kernel
theorem dJ8_hugeLength_7cf53_21 : decode cJ8_hugeLength_7cf53 21 = .ok (.invokevirtual 94, 3) := by decide +kernel
theorem dJ8_hugeLength_7cf53_24 : decode cJ8_hugeLength_7cf53 24 = .ok (.iload_n 0, 1) := by decide +kernel
theorem dJ8_hugeLength_7cf53_25 : decode cJ8_hugeLength_7cf53 25 = .ok (.invokevirtual 98, 3) := by decide +kernel
theorem dJ8_hugeLength_7cf53_28 : decode cJ8_hugeLength_7cf53 28 = .ok (.ldc 208, 2) := by decide +kernel
theorem dJ8_hugeLength_7cf53_30 : decode cJ8_hugeLength_7cf53 30 = .ok (.invokevirtual 94, 3) := by decide +kernel
theorem dJ8_hugeLength_7cf53_33 : decode cJ8_hugeLength_7cf53 33 = .ok (.iload_n 1, 1) := by decide +kernel
theorem dJ8_hugeLength_7cf53_34 : decode cJ8_hugeLength_7cf53 34 = .ok (.invokevirtual 98, 3) := by decide +kernel
theorem dJ8_hugeLength_7cf53_37 : decode cJ8_hugeLength_7cf53 37 = .ok (.ldc 210, 2) := by decide +kernel
theorem dJ8_hugeLength_7cf53_39 : decode cJ8_hugeLength_7cf53 39 = .ok (.invokevirtual 94, 3) := by decide +kernel
theorem dJ8_hugeLength_7cf53_42 : decode cJ8_hugeLength_7cf53 42 = .ok (.invokevirtual 101, 3) := by decide +kernel
theorem dJ8_hugeLength_7cf53_45 : decode cJ8_hugeLength_7cf53 45 = .ok (.invokespecial 212, 3) := by decide +kernel
theorem dJ8_hugeLength_7cf53_48 : decode cJ8_hugeLength_7cf53 48 = .ok (.athrow, 1) := by decide +kernel
theorem dJ8_hugeLength_7cf53_49 : decode cJ8_hugeLength_7cf53 49 = .ok (.iload_n 2, 1) := by decide +kernel
theorem dJ8_hugeLength_7cf53_50 : decode cJ8_hugeLength_7cf53 50 = .ok (.ldc 200, 2) := by decide +kernel
theorem dJ8_hugeLength_7cf53_52 : decode cJ8_hugeLength_7cf53 52 = .ok (.if_icmp .gt 6, 3) := by decide +kernel
theorem dJ8_hugeLength_7cf53_55 : decode cJ8_hugeLength_7cf53 55 = .ok (.ldc 200, 2) := by decide +kernel
theorem dJ8_hugeLength_7cf53_57 : decode cJ8_hugeLength_7cf53 57 = .ok (.ireturn, 1) := by decide +kernel
theorem dJ8_hugeLength_7cf53_58 : decode cJ8_hugeLength_7cf53 58 = .ok (.iload_n 2, 1) := by decide +kernel
theorem dJ8_hugeLength_7cf53_59 : decode cJ8_hugeLength_7cf53 59 = .ok (.ireturn, 1) := by decide +kernel
theorem dJ3_checkIndex_8e157_0 : decode cJ3_checkIndex_8e157 0 = .ok (.iload_n 0, 1) := by decide +kernel
theorem dJ3_checkIndex_8e157_1 : decode cJ3_checkIndex_8e157 1 = .ok (.ifCond .lt 8, 3) := by decide +kernel
theorem dJ3_checkIndex_8e157_4 : decode cJ3_checkIndex_8e157 4 = .ok (.iload_n 0, 1) := by decide +kernel
theorem dJ3_checkIndex_8e157_5 : decode cJ3_checkIndex_8e157 5 = .ok (.iload_n 1, 1) := by decide +kernel
theorem dJ3_checkIndex_8e157_6 : decode cJ3_checkIndex_8e157 6 = .ok (.if_icmp .lt 10, 3) := by decide +kernel
theorem dJ3_checkIndex_8e157_9 : decode cJ3_checkIndex_8e157 9 = .ok (.aload_n 2, 1) := by decide +kernel
theorem dJ3_checkIndex_8e157_10 : decode cJ3_checkIndex_8e157 10 = .ok (.iload_n 0, 1) := by decide +kernel
theorem dJ3_checkIndex_8e157_11 : decode cJ3_checkIndex_8e157 11 = .ok (.iload_n 1, 1) := by decide +kernel
theorem dJ3_checkIndex_8e157_12 : decode cJ3_checkIndex_8e157 12 = .ok (.invokestatic 95, 3) := by decide +kernel
theorem dJ3_checkIndex_8e157_15 : decode cJ3_checkIndex_8e157 15 = .ok (.athrow, 1) := by decide +kernel
theorem dJ3_checkIndex_8e157_16 : decode cJ3_checkIndex_8e157 16 = .ok (.iload_n 0, 1) := by decide +kernel
theorem dJ3_checkIndex_8e157_17 : decode cJ3_checkIndex_8e157 17 = .ok (.ireturn, 1) := by decide +kernel
