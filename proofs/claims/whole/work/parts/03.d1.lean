theorem dX0_init_0 : decode cX0_init 0 = .ok (.aload_n 0, 1) := by decide +kernel
theorem dX0_init_1 : decode cX0_init 1 = .ok (.invokespecial 3, 3) := by decide +kernel
theorem dX0_init_4 : decode cX0_init 4 = .ok (.aload_n 0, 1) := by decide +kernel
theorem dX0_init_5 : decode cX0_init 5 = .ok (.new 9, 3) := by decide +kernel
theorem dX0_init_8 : decode cX0_init 8 = .ok (.dup, 1) := by decide +kernel
theorem dX0_init_9 : decode cX0_init 9 = .ok (.invokespecial 11, 3) := by decide +kernel
theorem dX0_init_12 : decode cX0_init 12 = .ok (.putfield 12, 3) := by decide +kernel
theorem dX0_init_15 : decode cX0_init 15 = .ok (.aload_n 0, 1) := by decide +kernel
theorem dX0_init_16 : decode cX0_init 16 = .ok (.new 18, 3) := by decide +kernel
theorem dX0_init_19 : decode cX0_init 19 = .ok (.dup, 1) := by decide +kernel
theorem dX0_init_20 : decode cX0_init 20 = .ok (.invokespecial 20, 3) := by decide +kernel
theorem dX0_init_23 : decode cX0_init 23 = .ok (.putfield 21, 3) := by decide +kernel
theorem dX0_init_26 : decode cX0_init 26 = .ok (.aload_n 0, 1) := by decide +kernel
theorem dX0_init_27 : decode cX0_init 27 = .ok (.iconst 2, 1) := by decide +kernel
theorem dX0_init_28 : decode cX0_init 28 = .ok (.putfield 25, 3) := by decide +kernel
theorem dX0_init_31 : decode cX0_init 31 = .ok (.aload_n 0, 1) := by decide +kernel
theorem dX0_init_32 : decode cX0_init 32 = .ok (.iconst 1, 1) := by decide +kernel
theorem dX0_init_33 : decode cX0_init 33 = .ok (.putfield 29, 3) := by decide +kernel
theorem dX0_init_36 : decode cX0_init 36 = .ok (.return_, 1) := by decide +kernel
theorem dX0_takeFrom_0 : decode cX0_takeFrom 0 = .ok (.aload_n 0, 1) := by decide +kernel
theorem dX0_takeFrom_1 : decode cX0_takeFrom 1 = .ok (.getfield 12, 3) := by decide +kernel
theorem dX0_takeFrom_4 : decode cX0_takeFrom 4 = .ok (.aload_n 1, 1) := by decide +kernel
theorem dX0_takeFrom_5 : decode cX0_takeFrom 5 = .ok (.getfield 12, 3) := by decide +kernel
theorem dX0_takeFrom_8 : decode cX0_takeFrom 8 = .ok (.invokevirtual 32, 3) := by decide +kernel
theorem dX0_takeFrom_11 : decode cX0_takeFrom 11 = .ok (.aload_n 0, 1) := by decide +kernel
theorem dX0_takeFrom_12 : decode cX0_takeFrom 12 = .ok (.getfield 21, 3) := by decide +kernel
theorem dX0_takeFrom_15 : decode cX0_takeFrom 15 = .ok (.aload_n 1, 1) := by decide +kernel
theorem dX0_takeFrom_16 : decode cX0_takeFrom 16 = .ok (.getfield 21, 3) := by decide +kernel
theorem dX0_takeFrom_19 : decode cX0_takeFrom 19 = .ok (.invokevirtual 36, 3) := by decide +kernel
theorem dX0_takeFrom_22 : decode cX0_takeFrom 22 = .ok (.aload_n 0, 1) := by decide +kernel
theorem dX0_takeFrom_23 : decode cX0_takeFrom 23 = .ok (.aload_n 1, 1) := by decide +kernel
theorem dX0_takeFrom_24 : decode cX0_takeFrom 24 = .ok (.getfield 39, 3) := by decide +kernel
theorem dX0_takeFrom_27 : decode cX0_takeFrom 27 = .ok (.putfield 39, 3) := by decide +kernel
theorem dX0_takeFrom_30 : decode cX0_takeFrom 30 = .ok (.aload_n 0, 1) := by decide +kernel
theorem dX0_takeFrom_31 : decode cX0_takeFrom 31 = .ok (.aload_n 1, 1) := by decide +kernel
theorem dX0_takeFrom_32 : decode cX0_takeFrom 32 = .ok (.getfield 25, 3) := by decide +kernel
theorem dX0_takeFrom_35 : decode cX0_takeFrom 35 = .ok (.putfield 25, 3) := by decide +kernel
theorem dX0_takeFrom_38 : decode cX0_takeFrom 38 = .ok (.aload_n 0, 1) := by decide +kernel
theorem dX0_takeFrom_39 : decode cX0_takeFrom 39 = .ok (.aload_n 1, 1) := by decide +kernel
theorem dX0_takeFrom_40 : decode cX0_takeFrom 40 = .ok (.getfield 42, 3) := by decide +kernel
theorem dX0_takeFrom_43 : decode cX0_takeFrom 43 = .ok (.putfield 42, 3) := by decide +kernel
theorem dX0_takeFrom_46 : decode cX0_takeFrom 46 = .ok (.aload_n 0, 1) := by decide +kernel
theorem dX0_takeFrom_47 : decode cX0_takeFrom 47 = .ok (.aload_n 1, 1) := by decide +kernel
theorem dX0_takeFrom_48 : decode cX0_takeFrom 48 = .ok (.getfield 45, 3) := by decide +kernel
theorem dX0_takeFrom_51 : decode cX0_takeFrom 51 = .ok (.putfield 45, 3) := by decide +kernel
theorem dX0_takeFrom_54 : decode cX0_takeFrom 54 = .ok (.aload_n 0, 1) := by decide +kernel
theorem dX0_takeFrom_55 : decode cX0_takeFrom 55 = .ok (.aload_n 1, 1) := by decide +kernel
theorem dX0_takeFrom_56 : decode cX0_takeFrom 56 = .ok (.getfield 49, 3) := by decide +kernel
theorem dX0_takeFrom_59 : decode cX0_takeFrom 59 = .ok (.putfield 49, 3) := by decide +kernel
theorem dX0_takeFrom_62 : decode cX0_takeFrom 62 = .ok (.aload_n 0, 1) := by decide +kernel
theorem dX0_takeFrom_63 : decode cX0_takeFrom 63 = .ok (.aload_n 1, 1) := by decide +kernel
theorem dX0_takeFrom_64 : decode cX0_takeFrom 64 = .ok (.getfield 29, 3) := by decide +kernel
theorem dX0_takeFrom_67 : decode cX0_takeFrom 67 = .ok (.putfield 29, 3) := by decide +kernel
theorem dX0_takeFrom_70 : decode cX0_takeFrom 70 = .ok (.return_, 1) := by decide +kernel
theorem dX0_hasRoom_0 : decode cX0_hasRoom 0 = .ok (.aload_n 0, 1) := by decide +kernel
theorem dX0_hasRoom_1 : decode cX0_hasRoom 1 = .ok (.getfield 49, 3) := by decide +kernel
theorem dX0_hasRoom_4 : decode cX0_hasRoom 4 = .ok (.bipush 40, 2) := by decide +kernel
theorem dX0_hasRoom_6 : decode cX0_hasRoom 6 = .ok (.if_icmp .ge 7, 3) := by decide +kernel
theorem dX0_hasRoom_9 : decode cX0_hasRoom 9 = .ok (.iconst 1, 1) := by decide +kernel
theorem dX0_hasRoom_10 : decode cX0_hasRoom 10 = .ok (.goto 4, 3) := by decide +kernel
theorem dX0_hasRoom_13 : decode cX0_hasRoom 13 = .ok (.iconst 0, 1) := by decide +kernel
theorem dX0_hasRoom_14 : decode cX0_hasRoom 14 = .ok (.ireturn, 1) := by decide +kernel
theorem dX0_addStep_0 : decode cX0_addStep 0 = .ok (.aload_n 0, 1) := by decide +kernel
theorem dX0_addStep_1 : decode cX0_addStep 1 = .ok (.invokevirtual 52, 3) := by decide +kernel
theorem dX0_addStep_4 : decode cX0_addStep 4 = .ok (.ifCond .eq 36, 3) := by decide +kernel
theorem dX0_addStep_7 : decode cX0_addStep 7 = .ok (.aload_n 0, 1) := by decide +kernel
theorem dX0_addStep_8 : decode cX0_addStep 8 = .ok (.dup, 1) := by decide +kernel
theorem dX0_addStep_9 : decode cX0_addStep 9 = .ok (.getfield 45, 3) := by decide +kernel
theorem dX0_addStep_12 : decode cX0_addStep 12 = .ok (.iload_n 1, 1) := by decide +kernel
theorem dX0_addStep_13 : decode cX0_addStep 13 = .ok (.ifCond .eq 12, 3) := by decide +kernel
theorem dX0_addStep_16 : decode cX0_addStep 16 = .ok (.lconst 1, 1) := by decide +kernel
theorem dX0_addStep_17 : decode cX0_addStep 17 = .ok (.aload_n 0, 1) := by decide +kernel
theorem dX0_addStep_18 : decode cX0_addStep 18 = .ok (.getfield 49, 3) := by decide +kernel
theorem dX0_addStep_21 : decode cX0_addStep 21 = .ok (.lshl, 1) := by decide +kernel
theorem dX0_addStep_22 : decode cX0_addStep 22 = .ok (.goto 4, 3) := by decide +kernel
theorem dX0_addStep_25 : decode cX0_addStep 25 = .ok (.lconst 0, 1) := by decide +kernel
theorem dX0_addStep_26 : decode cX0_addStep 26 = .ok (.lor, 1) := by decide +kernel
theorem dX0_addStep_27 : decode cX0_addStep 27 = .ok (.putfield 45, 3) := by decide +kernel
theorem dX0_addStep_30 : decode cX0_addStep 30 = .ok (.aload_n 0, 1) := by decide +kernel
theorem dX0_addStep_31 : decode cX0_addStep 31 = .ok (.dup, 1) := by decide +kernel
theorem dX0_addStep_32 : decode cX0_addStep 32 = .ok (.getfield 49, 3) := by decide +kernel
theorem dX0_addStep_35 : decode cX0_addStep 35 = .ok (.iconst 1, 1) := by decide +kernel
theorem dX0_addStep_36 : decode cX0_addStep 36 = .ok (.iadd, 1) := by decide +kernel
theorem dX0_addStep_37 : decode cX0_addStep 37 = .ok (.putfield 49, 3) := by decide +kernel
theorem dX0_addStep_40 : decode cX0_addStep 40 = .ok (.return_, 1) := by decide +kernel
theorem dX0_clearRing_0 : decode cX0_clearRing 0 = .ok (.aload_n 0, 1) := by decide +kernel
theorem dX0_clearRing_1 : decode cX0_clearRing 1 = .ok (.lconst 0, 1) := by decide +kernel
theorem dX0_clearRing_2 : decode cX0_clearRing 2 = .ok (.putfield 45, 3) := by decide +kernel
theorem dX0_clearRing_5 : decode cX0_clearRing 5 = .ok (.aload_n 0, 1) := by decide +kernel
theorem dX0_clearRing_6 : decode cX0_clearRing 6 = .ok (.iconst 0, 1) := by decide +kernel
theorem dX0_clearRing_7 : decode cX0_clearRing 7 = .ok (.putfield 49, 3) := by decide +kernel
theorem dX0_clearRing_10 : decode cX0_clearRing 10 = .ok (.return_, 1) := by decide +kernel
theorem dX0_wouldStrike_0 : decode cX0_wouldStrike 0 = .ok (.aload_n 0, 1) := by decide +kernel
theorem dX0_wouldStrike_1 : decode cX0_wouldStrike 1 = .ok (.getfield 12, 3) := by decide +kernel
theorem dX0_wouldStrike_4 : decode cX0_wouldStrike 4 = .ok (.aload_n 0, 1) := by decide +kernel
theorem dX0_wouldStrike_5 : decode cX0_wouldStrike 5 = .ok (.getfield 39, 3) := by decide +kernel
theorem dX0_wouldStrike_8 : decode cX0_wouldStrike 8 = .ok (.aload_n 0, 1) := by decide +kernel
theorem dX0_wouldStrike_9 : decode cX0_wouldStrike 9 = .ok (.getfield 45, 3) := by decide +kernel
theorem dX0_wouldStrike_12 : decode cX0_wouldStrike 12 = .ok (.aload_n 0, 1) := by decide +kernel
theorem dX0_wouldStrike_13 : decode cX0_wouldStrike 13 = .ok (.getfield 49, 3) := by decide +kernel
theorem dX0_wouldStrike_16 : decode cX0_wouldStrike 16 = .ok (.iload_n 1, 1) := by decide +kernel
theorem dX0_wouldStrike_17 : decode cX0_wouldStrike 17 = .ok (.invokevirtual 56, 3) := by decide +kernel
theorem dX0_wouldStrike_20 : decode cX0_wouldStrike 20 = .ok (.ireturn, 1) := by decide +kernel
theorem dX0_struck_0 : decode cX0_struck 0 = .ok (.aload_n 0, 1) := by decide +kernel
theorem dX0_struck_1 : decode cX0_struck 1 = .ok (.getfield 12, 3) := by decide +kernel
theorem dX0_struck_4 : decode cX0_struck 4 = .ok (.iload_n 1, 1) := by decide +kernel
theorem dX0_struck_5 : decode cX0_struck 5 = .ok (.lload_n 2, 1) := by decide +kernel
theorem dX0_struck_6 : decode cX0_struck 6 = .ok (.aload_n 0, 1) := by decide +kernel
theorem dX0_struck_7 : decode cX0_struck 7 = .ok (.getfield 49, 3) := by decide +kernel
theorem dX0_struck_10 : decode cX0_struck 10 = .ok (.iconst 0, 1) := by decide +kernel
theorem dX0_struck_11 : decode cX0_struck 11 = .ok (.invokevirtual 60, 3) := by decide +kernel
theorem dX0_struck_14 : decode cX0_struck 14 = .ok (.lreturn, 1) := by decide +kernel
theorem dX0_timesStruck_0 : decode cX0_timesStruck 0 = .ok (.aload_n 0, 1) := by decide +kernel
theorem dX0_timesStruck_1 : decode cX0_timesStruck 1 = .ok (.iload_n 1, 1) := by decide +kernel
theorem dX0_timesStruck_2 : decode cX0_timesStruck 2 = .ok (.lload_n 2, 1) := by decide +kernel
theorem dX0_timesStruck_3 : decode cX0_timesStruck 3 = .ok (.invokevirtual 64, 3) := by decide +kernel
theorem dX0_timesStruck_6 : decode cX0_timesStruck 6 = .ok (.invokestatic 67, 3) := by decide +kernel
theorem dX0_timesStruck_9 : decode cX0_timesStruck 9 = .ok (.ireturn, 1) := by decide +kernel
theorem dX0_struckInRepetition_0 : decode cX0_struckInRepetition 0 = .ok (.aload_n 0, 1) := by decide +kernel
theorem dX0_struckInRepetition_1 : decode cX0_struckInRepetition 1 = .ok (.getfield 12, 3) := by decide +kernel
theorem dX0_struckInRepetition_4 : decode cX0_struckInRepetition 4 = .ok (.aload_n 0, 1) := by decide +kernel
theorem dX0_struckInRepetition_5 : decode cX0_struckInRepetition 5 = .ok (.getfield 39, 3) := by decide +kernel
theorem dX0_struckInRepetition_8 : decode cX0_struckInRepetition 8 = .ok (.aload_n 0, 1) := by decide +kernel
theorem dX0_struckInRepetition_9 : decode cX0_struckInRepetition 9 = .ok (.getfield 45, 3) := by decide +kernel
theorem dX0_struckInRepetition_12 : decode cX0_struckInRepetition 12 = .ok (.aload_n 0, 1) := by decide +kernel
theorem dX0_struckInRepetition_13 : decode cX0_struckInRepetition 13 = .ok (.getfield 49, 3) := by decide +kernel
theorem dX0_struckInRepetition_16 : decode cX0_struckInRepetition 16 = .ok (.iload_n 1, 1) := by decide +kernel
theorem dX0_struckInRepetition_17 : decode cX0_struckInRepetition 17 = .ok (.aload_n 0, 1) := by decide +kernel
theorem dX0_struckInRepetition_18 : decode cX0_struckInRepetition 18 = .ok (.getfield 49, 3) := by decide +kernel
theorem dX0_struckInRepetition_21 : decode cX0_struckInRepetition 21 = .ok (.imul, 1) := by decide +kernel
theorem dX0_struckInRepetition_22 : decode cX0_struckInRepetition 22 = .ok (.invokevirtual 60, 3) := by decide +kernel
theorem dX0_struckInRepetition_25 : decode cX0_struckInRepetition 25 = .ok (.lreturn, 1) := by decide +kernel
theorem dX0_risen_0 : decode cX0_risen 0 = .ok (.aload_n 0, 1) := by decide +kernel
theorem dX0_risen_1 : decode cX0_risen 1 = .ok (.iload_n 1, 1) := by decide +kernel
theorem dX0_risen_2 : decode cX0_risen 2 = .ok (.aload_n 0, 1) := by decide +kernel
theorem dX0_risen_3 : decode cX0_risen 3 = .ok (.getfield 45, 3) := by decide +kernel
theorem dX0_risen_6 : decode cX0_risen 6 = .ok (.invokevirtual 64, 3) := by decide +kernel
theorem dX0_risen_9 : decode cX0_risen 9 = .ok (.iload_n 2, 1) := by decide +kernel
theorem dX0_risen_10 : decode cX0_risen 10 = .ok (.lshl, 1) := by decide +kernel
theorem dX0_risen_11 : decode cX0_risen 11 = .ok (.aload_n 0, 1) := by decide +kernel
theorem dX0_risen_12 : decode cX0_risen 12 = .ok (.getfield 49, 3) := by decide +kernel
theorem dX0_risen_15 : decode cX0_risen 15 = .ok (.invokestatic 73, 3) := by decide +kernel
theorem dX0_risen_18 : decode cX0_risen 18 = .ok (.land, 1) := by decide +kernel
theorem dX0_risen_19 : decode cX0_risen 19 = .ok (.lreturn, 1) := by decide +kernel
theorem dX0_sounds_0 : decode cX0_sounds 0 = .ok (.aload_n 0, 1) := by decide +kernel
theorem dX0_sounds_1 : decode cX0_sounds 1 = .ok (.getfield 12, 3) := by decide +kernel
theorem dX0_sounds_4 : decode cX0_sounds 4 = .ok (.aload_n 0, 1) := by decide +kernel
theorem dX0_sounds_5 : decode cX0_sounds 5 = .ok (.getfield 39, 3) := by decide +kernel
theorem dX0_sounds_8 : decode cX0_sounds 8 = .ok (.lload_n 1, 1) := by decide +kernel
theorem dX0_sounds_9 : decode cX0_sounds 9 = .ok (.iload_n 3, 1) := by decide +kernel
theorem dX0_sounds_10 : decode cX0_sounds 10 = .ok (.iconst 0, 1) := by decide +kernel
theorem dX0_sounds_11 : decode cX0_sounds 11 = .ok (.invokevirtual 60, 3) := by decide +kernel
theorem dX0_sounds_14 : decode cX0_sounds 14 = .ok (.aload_n 0, 1) := by decide +kernel
theorem dX0_sounds_15 : decode cX0_sounds 15 = .ok (.getfield 25, 3) := by decide +kernel
theorem dX0_sounds_18 : decode cX0_sounds 18 = .ok (.lshl, 1) := by decide +kernel
theorem dX0_sounds_19 : decode cX0_sounds 19 = .ok (.iload_n 3, 1) := by decide +kernel
theorem dX0_sounds_20 : decode cX0_sounds 20 = .ok (.invokestatic 73, 3) := by decide +kernel
theorem dX0_sounds_23 : decode cX0_sounds 23 = .ok (.land, 1) := by decide +kernel
theorem dX0_sounds_24 : decode cX0_sounds 24 = .ok (.lstore 5, 2) := by decide +kernel
theorem dX0_sounds_26 : decode cX0_sounds 26 = .ok (.iload 4, 2) := by decide +kernel
theorem dX0_sounds_28 : decode cX0_sounds 28 = .ok (.lookupswitch 47 #[(0, 28), (2, 33)], 28) := by decide +kernel
theorem dX0_sounds_56 : decode cX0_sounds 56 = .ok (.lload_n 1, 1) := by decide +kernel
theorem dX0_sounds_57 : decode cX0_sounds 57 = .ok (.lload 5, 2) := by decide +kernel
theorem dX0_sounds_59 : decode cX0_sounds 59 = .ok (.lor, 1) := by decide +kernel
theorem dX0_sounds_60 : decode cX0_sounds 60 = .ok (.lreturn, 1) := by decide +kernel
theorem dX0_sounds_61 : decode cX0_sounds 61 = .ok (.lload_n 1, 1) := by decide +kernel
theorem dX0_sounds_62 : decode cX0_sounds 62 = .ok (.lload 5, 2) := by decide +kernel
theorem dX0_sounds_64 : decode cX0_sounds 64 = .ok (.lor, 1) := by decide +kernel
theorem dX0_sounds_65 : decode cX0_sounds 65 = .ok (.ldc2_w 77, 3) := by decide +kernel
theorem dX0_sounds_68 : decode cX0_sounds 68 = .ok (.lxor, 1) := by decide +kernel
theorem dX0_sounds_69 : decode cX0_sounds 69 = .ok (.iload_n 3, 1) := by decide +kernel
theorem dX0_sounds_70 : decode cX0_sounds 70 = .ok (.invokestatic 73, 3) := by decide +kernel
theorem dX0_sounds_73 : decode cX0_sounds 73 = .ok (.land, 1) := by decide +kernel
theorem dX0_sounds_74 : decode cX0_sounds 74 = .ok (.lreturn, 1) := by decide +kernel
theorem dX0_sounds_75 : decode cX0_sounds 75 = .ok (.lload_n 1, 1) := by decide +kernel
theorem dX0_sounds_76 : decode cX0_sounds 76 = .ok (.lload 5, 2) := by decide +kernel
theorem dX0_sounds_78 : decode cX0_sounds 78 = .ok (.land, 1) := by decide +kernel
theorem dX0_sounds_79 : decode cX0_sounds 79 = .ok (.lreturn, 1) := by decide +kernel
theorem dX0_turnedAbout_0 : decode cX0_turnedAbout 0 = .ok (.lconst 0, 1) := by decide +kernel
theorem dX0_turnedAbout_1 : decode cX0_turnedAbout 1 = .ok (.lstore_n 1, 1) := by decide +kernel
theorem dX0_turnedAbout_2 : decode cX0_turnedAbout 2 = .ok (.iconst 0, 1) := by decide +kernel
theorem dX0_turnedAbout_3 : decode cX0_turnedAbout 3 = .ok (.istore_n 3, 1) := by decide +kernel
theorem dX0_turnedAbout_4 : decode cX0_turnedAbout 4 = .ok (.iload_n 3, 1) := by decide +kernel
theorem dX0_turnedAbout_5 : decode cX0_turnedAbout 5 = .ok (.aload_n 0, 1) := by decide +kernel
theorem dX0_turnedAbout_6 : decode cX0_turnedAbout 6 = .ok (.getfield 49, 3) := by decide +kernel
theorem dX0_turnedAbout_9 : decode cX0_turnedAbout 9 = .ok (.if_icmp .ge 22, 3) := by decide +kernel
theorem dX0_turnedAbout_12 : decode cX0_turnedAbout 12 = .ok (.lload_n 1, 1) := by decide +kernel
theorem dX0_turnedAbout_13 : decode cX0_turnedAbout 13 = .ok (.iconst 1, 1) := by decide +kernel
theorem dX0_turnedAbout_14 : decode cX0_turnedAbout 14 = .ok (.lshl, 1) := by decide +kernel
theorem dX0_turnedAbout_15 : decode cX0_turnedAbout 15 = .ok (.aload_n 0, 1) := by decide +kernel
theorem dX0_turnedAbout_16 : decode cX0_turnedAbout 16 = .ok (.getfield 45, 3) := by decide +kernel
theorem dX0_turnedAbout_19 : decode cX0_turnedAbout 19 = .ok (.iload_n 3, 1) := by decide +kernel
theorem dX0_turnedAbout_20 : decode cX0_turnedAbout 20 = .ok (.lushr, 1) := by decide +kernel
theorem dX0_turnedAbout_21 : decode cX0_turnedAbout 21 = .ok (.lconst 1, 1) := by decide +kernel
theorem dX0_turnedAbout_22 : decode cX0_turnedAbout 22 = .ok (.land, 1) := by decide +kernel
theorem dX0_turnedAbout_23 : decode cX0_turnedAbout 23 = .ok (.lor, 1) := by decide +kernel
theorem dX0_turnedAbout_24 : decode cX0_turnedAbout 24 = .ok (.lstore_n 1, 1) := by decide +kernel
theorem dX0_turnedAbout_25 : decode cX0_turnedAbout 25 = .ok (.iinc 3 1, 3) := by decide +kernel
theorem dX0_turnedAbout_28 : decode cX0_turnedAbout 28 = .ok (.goto (-24), 3) := by decide +kernel
theorem dX0_turnedAbout_31 : decode cX0_turnedAbout 31 = .ok (.lload_n 1, 1) := by decide +kernel
theorem dX0_turnedAbout_32 : decode cX0_turnedAbout 32 = .ok (.lreturn, 1) := by decide +kernel
theorem dX0_partedBy_0 : decode cX0_partedBy 0 = .ok (.aload_n 0, 1) := by decide +kernel
theorem dX0_partedBy_1 : decode cX0_partedBy 1 = .ok (.getfield 45, 3) := by decide +kernel
theorem dX0_partedBy_4 : decode cX0_partedBy 4 = .ok (.iload_n 2, 1) := by decide +kernel
theorem dX0_partedBy_5 : decode cX0_partedBy 5 = .ok (.ifCond .eq 12, 3) := by decide +kernel
theorem dX0_partedBy_8 : decode cX0_partedBy 8 = .ok (.lconst 1, 1) := by decide +kernel
theorem dX0_partedBy_9 : decode cX0_partedBy 9 = .ok (.aload_n 0, 1) := by decide +kernel
theorem dX0_partedBy_10 : decode cX0_partedBy 10 = .ok (.getfield 49, 3) := by decide +kernel
theorem dX0_partedBy_13 : decode cX0_partedBy 13 = .ok (.lshl, 1) := by decide +kernel
theorem dX0_partedBy_14 : decode cX0_partedBy 14 = .ok (.goto 4, 3) := by decide +kernel
theorem dX0_partedBy_17 : decode cX0_partedBy 17 = .ok (.lconst 0, 1) := by decide +kernel
theorem dX0_partedBy_18 : decode cX0_partedBy 18 = .ok (.lor, 1) := by decide +kernel
theorem dX0_partedBy_19 : decode cX0_partedBy 19 = .ok (.lstore_n 3, 1) := by decide +kernel
theorem dX0_partedBy_20 : decode cX0_partedBy 20 = .ok (.iconst 0, 1) := by decide +kernel
theorem dX0_partedBy_21 : decode cX0_partedBy 21 = .ok (.istore 5, 2) := by decide +kernel
theorem dX0_partedBy_23 : decode cX0_partedBy 23 = .ok (.iconst 0, 1) := by decide +kernel
theorem dX0_partedBy_24 : decode cX0_partedBy 24 = .ok (.istore 6, 2) := by decide +kernel
theorem dX0_partedBy_26 : decode cX0_partedBy 26 = .ok (.iconst 0, 1) := by decide +kernel
theorem dX0_partedBy_27 : decode cX0_partedBy 27 = .ok (.istore 7, 2) := by decide +kernel
theorem dX0_partedBy_29 : decode cX0_partedBy 29 = .ok (.iload 7, 2) := by decide +kernel
theorem dX0_partedBy_31 : decode cX0_partedBy 31 = .ok (.aload_n 0, 1) := by decide +kernel
theorem dX0_partedBy_32 : decode cX0_partedBy 32 = .ok (.getfield 12, 3) := by decide +kernel
theorem dX0_partedBy_35 : decode cX0_partedBy 35 = .ok (.getfield 79, 3) := by decide +kernel
theorem dX0_partedBy_38 : decode cX0_partedBy 38 = .ok (.if_icmp .ge 71, 3) := by decide +kernel
theorem dX0_partedBy_41 : decode cX0_partedBy 41 = .ok (.iload_n 1, 1) := by decide +kernel
theorem dX0_partedBy_42 : decode cX0_partedBy 42 = .ok (.i2l, 1) := by decide +kernel
theorem dX0_partedBy_43 : decode cX0_partedBy 43 = .ok (.iload 7, 2) := by decide +kernel
theorem dX0_partedBy_45 : decode cX0_partedBy 45 = .ok (.invokestatic 82, 3) := by decide +kernel
theorem dX0_partedBy_48 : decode cX0_partedBy 48 = .ok (.ifCond .eq 55, 3) := by decide +kernel
theorem dX0_partedBy_51 : decode cX0_partedBy 51 = .ok (.aload_n 0, 1) := by decide +kernel
theorem dX0_partedBy_52 : decode cX0_partedBy 52 = .ok (.getfield 12, 3) := by decide +kernel
theorem dX0_partedBy_55 : decode cX0_partedBy 55 = .ok (.iload 7, 2) := by decide +kernel
theorem dX0_partedBy_57 : decode cX0_partedBy 57 = .ok (.lload_n 3, 1) := by decide +kernel
theorem dX0_partedBy_58 : decode cX0_partedBy 58 = .ok (.aload_n 0, 1) := by decide +kernel
theorem dX0_partedBy_59 : decode cX0_partedBy 59 = .ok (.getfield 49, 3) := by decide +kernel
theorem dX0_partedBy_62 : decode cX0_partedBy 62 = .ok (.iconst 1, 1) := by decide +kernel
theorem dX0_partedBy_63 : decode cX0_partedBy 63 = .ok (.iadd, 1) := by decide +kernel
theorem dX0_partedBy_64 : decode cX0_partedBy 64 = .ok (.aload_n 0, 1) := by decide +kernel
theorem dX0_partedBy_65 : decode cX0_partedBy 65 = .ok (.getfield 49, 3) := by decide +kernel
theorem dX0_partedBy_68 : decode cX0_partedBy 68 = .ok (.invokevirtual 56, 3) := by decide +kernel
theorem dX0_partedBy_71 : decode cX0_partedBy 71 = .ok (.istore 8, 2) := by decide +kernel
theorem dX0_partedBy_73 : decode cX0_partedBy 73 = .ok (.iload 5, 2) := by decide +kernel
theorem dX0_partedBy_75 : decode cX0_partedBy 75 = .ok (.iload 8, 2) := by decide +kernel
theorem dX0_partedBy_77 : decode cX0_partedBy 77 = .ok (.ifCond .eq 7, 3) := by decide +kernel
theorem dX0_partedBy_80 : decode cX0_partedBy 80 = .ok (.iconst 1, 1) := by decide +kernel
theorem dX0_partedBy_81 : decode cX0_partedBy 81 = .ok (.goto 4, 3) := by decide +kernel
theorem dX0_partedBy_84 : decode cX0_partedBy 84 = .ok (.iconst 0, 1) := by decide +kernel
theorem dX0_partedBy_85 : decode cX0_partedBy 85 = .ok (.iadd, 1) := by decide +kernel
theorem dX0_partedBy_86 : decode cX0_partedBy 86 = .ok (.istore 5, 2) := by decide +kernel
theorem dX0_partedBy_88 : decode cX0_partedBy 88 = .ok (.iload 6, 2) := by decide +kernel
theorem dX0_partedBy_90 : decode cX0_partedBy 90 = .ok (.iload 8, 2) := by decide +kernel
theorem dX0_partedBy_92 : decode cX0_partedBy 92 = .ok (.ifCond .eq 7, 3) := by decide +kernel
theorem dX0_partedBy_95 : decode cX0_partedBy 95 = .ok (.iconst 0, 1) := by decide +kernel
theorem dX0_partedBy_96 : decode cX0_partedBy 96 = .ok (.goto 4, 3) := by decide +kernel
theorem dX0_partedBy_99 : decode cX0_partedBy 99 = .ok (.iconst 1, 1) := by decide +kernel
theorem dX0_partedBy_100 : decode cX0_partedBy 100 = .ok (.iadd, 1) := by decide +kernel
theorem dX0_partedBy_101 : decode cX0_partedBy 101 = .ok (.istore 6, 2) := by decide +kernel
theorem dX0_partedBy_103 : decode cX0_partedBy 103 = .ok (.iinc 7 1, 3) := by decide +kernel
theorem dX0_partedBy_106 : decode cX0_partedBy 106 = .ok (.goto (-77), 3) := by decide +kernel
theorem dX0_partedBy_109 : decode cX0_partedBy 109 = .ok (.iload 5, 2) := by decide +kernel
theorem dX0_partedBy_111 : decode cX0_partedBy 111 = .ok (.iload 6, 2) := by decide +kernel
theorem dX0_partedBy_113 : decode cX0_partedBy 113 = .ok (.invokestatic 86, 3) := by decide +kernel
theorem dX0_partedBy_116 : decode cX0_partedBy 116 = .ok (.ireturn, 1) := by decide +kernel
theorem dX0_loudestRing_0 : decode cX0_loudestRing 0 = .ok (.iconst (-1), 1) := by decide +kernel
theorem dX0_loudestRing_1 : decode cX0_loudestRing 1 = .ok (.istore_n 3, 1) := by decide +kernel
theorem dX0_loudestRing_2 : decode cX0_loudestRing 2 = .ok (.iconst (-1), 1) := by decide +kernel
theorem dX0_loudestRing_3 : decode cX0_loudestRing 3 = .ok (.istore 4, 2) := by decide +kernel
theorem dX0_loudestRing_5 : decode cX0_loudestRing 5 = .ok (.iconst 0, 1) := by decide +kernel
theorem dX0_loudestRing_6 : decode cX0_loudestRing 6 = .ok (.istore 5, 2) := by decide +kernel
theorem dX0_loudestRing_8 : decode cX0_loudestRing 8 = .ok (.iload 5, 2) := by decide +kernel
theorem dX0_loudestRing_10 : decode cX0_loudestRing 10 = .ok (.iconst 1, 1) := by decide +kernel
theorem dX0_loudestRing_11 : decode cX0_loudestRing 11 = .ok (.iload_n 1, 1) := by decide +kernel
theorem dX0_loudestRing_12 : decode cX0_loudestRing 12 = .ok (.ishl, 1) := by decide +kernel
theorem dX0_loudestRing_13 : decode cX0_loudestRing 13 = .ok (.if_icmp .ge 46, 3) := by decide +kernel
theorem dX0_loudestRing_16 : decode cX0_loudestRing 16 = .ok (.iload 5, 2) := by decide +kernel
theorem dX0_loudestRing_18 : decode cX0_loudestRing 18 = .ok (.invokestatic 92, 3) := by decide +kernel
theorem dX0_loudestRing_21 : decode cX0_loudestRing 21 = .ok (.iload_n 2, 1) := by decide +kernel
theorem dX0_loudestRing_22 : decode cX0_loudestRing 22 = .ok (.if_icmp .ne 31, 3) := by decide +kernel
theorem dX0_loudestRing_25 : decode cX0_loudestRing 25 = .ok (.aload_n 0, 1) := by decide +kernel
theorem dX0_loudestRing_26 : decode cX0_loudestRing 26 = .ok (.iload 5, 2) := by decide +kernel
theorem dX0_loudestRing_28 : decode cX0_loudestRing 28 = .ok (.i2l, 1) := by decide +kernel
theorem dX0_loudestRing_29 : decode cX0_loudestRing 29 = .ok (.iload_n 1, 1) := by decide +kernel
theorem dX0_loudestRing_30 : decode cX0_loudestRing 30 = .ok (.iconst 0, 1) := by decide +kernel
theorem dX0_loudestRing_31 : decode cX0_loudestRing 31 = .ok (.invokevirtual 97, 3) := by decide +kernel
theorem dX0_loudestRing_34 : decode cX0_loudestRing 34 = .ok (.invokestatic 67, 3) := by decide +kernel
theorem dX0_loudestRing_37 : decode cX0_loudestRing 37 = .ok (.istore 6, 2) := by decide +kernel
theorem dX0_loudestRing_39 : decode cX0_loudestRing 39 = .ok (.iload 6, 2) := by decide +kernel
theorem dX0_loudestRing_41 : decode cX0_loudestRing 41 = .ok (.iload 4, 2) := by decide +kernel
theorem dX0_loudestRing_43 : decode cX0_loudestRing 43 = .ok (.if_icmp .le 10, 3) := by decide +kernel
theorem dX0_loudestRing_46 : decode cX0_loudestRing 46 = .ok (.iload 5, 2) := by decide +kernel
theorem dX0_loudestRing_48 : decode cX0_loudestRing 48 = .ok (.istore_n 3, 1) := by decide +kernel
theorem dX0_loudestRing_49 : decode cX0_loudestRing 49 = .ok (.iload 6, 2) := by decide +kernel
theorem dX0_loudestRing_51 : decode cX0_loudestRing 51 = .ok (.istore 4, 2) := by decide +kernel
theorem dX0_loudestRing_53 : decode cX0_loudestRing 53 = .ok (.iinc 5 1, 3) := by decide +kernel
theorem dX0_loudestRing_56 : decode cX0_loudestRing 56 = .ok (.goto (-48), 3) := by decide +kernel
theorem dX0_loudestRing_59 : decode cX0_loudestRing 59 = .ok (.iload_n 3, 1) := by decide +kernel
theorem dX0_loudestRing_60 : decode cX0_loudestRing 60 = .ok (.ireturn, 1) := by decide +kernel
theorem dX0_leastRingHeardAt_0 : decode cX0_leastRingHeardAt 0 = .ok (.iconst (-1), 1) := by decide +kernel
theorem dX0_leastRingHeardAt_1 : decode cX0_leastRingHeardAt 1 = .ok (.istore_n 3, 1) := by decide +kernel
theorem dX0_leastRingHeardAt_2 : decode cX0_leastRingHeardAt 2 = .ok (.iload_n 1, 1) := by decide +kernel
theorem dX0_leastRingHeardAt_3 : decode cX0_leastRingHeardAt 3 = .ok (.iconst 1, 1) := by decide +kernel
theorem dX0_leastRingHeardAt_4 : decode cX0_leastRingHeardAt 4 = .ok (.iadd, 1) := by decide +kernel
theorem dX0_leastRingHeardAt_5 : decode cX0_leastRingHeardAt 5 = .ok (.istore 4, 2) := by decide +kernel
theorem dX0_leastRingHeardAt_7 : decode cX0_leastRingHeardAt 7 = .ok (.iconst 0, 1) := by decide +kernel
theorem dX0_leastRingHeardAt_8 : decode cX0_leastRingHeardAt 8 = .ok (.istore 5, 2) := by decide +kernel
theorem dX0_leastRingHeardAt_10 : decode cX0_leastRingHeardAt 10 = .ok (.iload 5, 2) := by decide +kernel
theorem dX0_leastRingHeardAt_12 : decode cX0_leastRingHeardAt 12 = .ok (.iconst 1, 1) := by decide +kernel
theorem dX0_leastRingHeardAt_13 : decode cX0_leastRingHeardAt 13 = .ok (.iload_n 1, 1) := by decide +kernel
theorem dX0_leastRingHeardAt_14 : decode cX0_leastRingHeardAt 14 = .ok (.ishl, 1) := by decide +kernel
theorem dX0_leastRingHeardAt_15 : decode cX0_leastRingHeardAt 15 = .ok (.if_icmp .ge 45, 3) := by decide +kernel
theorem dX0_leastRingHeardAt_18 : decode cX0_leastRingHeardAt 18 = .ok (.iload 5, 2) := by decide +kernel
theorem dX0_leastRingHeardAt_20 : decode cX0_leastRingHeardAt 20 = .ok (.invokestatic 92, 3) := by decide +kernel
theorem dX0_leastRingHeardAt_23 : decode cX0_leastRingHeardAt 23 = .ok (.istore 6, 2) := by decide +kernel
theorem dX0_leastRingHeardAt_25 : decode cX0_leastRingHeardAt 25 = .ok (.iload 6, 2) := by decide +kernel
theorem dX0_leastRingHeardAt_27 : decode cX0_leastRingHeardAt 27 = .ok (.iload 4, 2) := by decide +kernel
theorem dX0_leastRingHeardAt_29 : decode cX0_leastRingHeardAt 29 = .ok (.if_icmp .ge 25, 3) := by decide +kernel
theorem dX0_leastRingHeardAt_32 : decode cX0_leastRingHeardAt 32 = .ok (.aload_n 0, 1) := by decide +kernel
theorem dX0_leastRingHeardAt_33 : decode cX0_leastRingHeardAt 33 = .ok (.iload 5, 2) := by decide +kernel
theorem dX0_leastRingHeardAt_35 : decode cX0_leastRingHeardAt 35 = .ok (.i2l, 1) := by decide +kernel
theorem dX0_leastRingHeardAt_36 : decode cX0_leastRingHeardAt 36 = .ok (.iload_n 1, 1) := by decide +kernel
theorem dX0_leastRingHeardAt_37 : decode cX0_leastRingHeardAt 37 = .ok (.iconst 0, 1) := by decide +kernel
theorem dX0_leastRingHeardAt_38 : decode cX0_leastRingHeardAt 38 = .ok (.invokevirtual 97, 3) := by decide +kernel
theorem dX0_leastRingHeardAt_41 : decode cX0_leastRingHeardAt 41 = .ok (.iload_n 2, 1) := by decide +kernel
theorem dX0_leastRingHeardAt_42 : decode cX0_leastRingHeardAt 42 = .ok (.i2l, 1) := by decide +kernel
theorem dX0_leastRingHeardAt_43 : decode cX0_leastRingHeardAt 43 = .ok (.lcmp, 1) := by decide +kernel
theorem dX0_leastRingHeardAt_44 : decode cX0_leastRingHeardAt 44 = .ok (.ifCond .ne 10, 3) := by decide +kernel
theorem dX0_leastRingHeardAt_47 : decode cX0_leastRingHeardAt 47 = .ok (.iload 5, 2) := by decide +kernel
theorem dX0_leastRingHeardAt_49 : decode cX0_leastRingHeardAt 49 = .ok (.istore_n 3, 1) := by decide +kernel
theorem dX0_leastRingHeardAt_50 : decode cX0_leastRingHeardAt 50 = .ok (.iload 6, 2) := by decide +kernel
theorem dX0_leastRingHeardAt_52 : decode cX0_leastRingHeardAt 52 = .ok (.istore 4, 2) := by decide +kernel
theorem dX0_leastRingHeardAt_54 : decode cX0_leastRingHeardAt 54 = .ok (.iinc 5 1, 3) := by decide +kernel
theorem dX0_leastRingHeardAt_57 : decode cX0_leastRingHeardAt 57 = .ok (.goto (-47), 3) := by decide +kernel
theorem dX0_leastRingHeardAt_60 : decode cX0_leastRingHeardAt 60 = .ok (.iload_n 3, 1) := by decide +kernel
theorem dX0_leastRingHeardAt_61 : decode cX0_leastRingHeardAt 61 = .ok (.ireturn, 1) := by decide +kernel
theorem dX0_draw_0 : decode cX0_draw 0 = .ok (.aload_n 0, 1) := by decide +kernel
theorem dX0_draw_1 : decode cX0_draw 1 = .ok (.aload_n 0, 1) := by decide +kernel
theorem dX0_draw_2 : decode cX0_draw 2 = .ok (.getfield 29, 3) := by decide +kernel
theorem dX0_draw_5 : decode cX0_draw 5 = .ok (.ldc 101, 2) := by decide +kernel
theorem dX0_draw_7 : decode cX0_draw 7 = .ok (.imul, 1) := by decide +kernel
theorem dX0_draw_8 : decode cX0_draw 8 = .ok (.sipush 12345, 3) := by decide +kernel
theorem dX0_draw_11 : decode cX0_draw 11 = .ok (.iadd, 1) := by decide +kernel
theorem dX0_draw_12 : decode cX0_draw 12 = .ok (.putfield 29, 3) := by decide +kernel
theorem dX0_draw_15 : decode cX0_draw 15 = .ok (.iload_n 1, 1) := by decide +kernel
theorem dX0_draw_16 : decode cX0_draw 16 = .ok (.ifCond .le 15, 3) := by decide +kernel
theorem dX0_draw_19 : decode cX0_draw 19 = .ok (.aload_n 0, 1) := by decide +kernel
theorem dX0_draw_20 : decode cX0_draw 20 = .ok (.getfield 29, 3) := by decide +kernel
theorem dX0_draw_23 : decode cX0_draw 23 = .ok (.bipush 16, 2) := by decide +kernel
theorem dX0_draw_25 : decode cX0_draw 25 = .ok (.iushr, 1) := by decide +kernel
theorem dX0_draw_26 : decode cX0_draw 26 = .ok (.iload_n 1, 1) := by decide +kernel
theorem dX0_draw_27 : decode cX0_draw 27 = .ok (.irem, 1) := by decide +kernel
theorem dX0_draw_28 : decode cX0_draw 28 = .ok (.goto 4, 3) := by decide +kernel
theorem dX0_draw_31 : decode cX0_draw 31 = .ok (.iconst 0, 1) := by decide +kernel
theorem dX0_draw_32 : decode cX0_draw 32 = .ok (.ireturn, 1) := by decide +kernel
theorem dX0_strikesInTruth_0 : decode cX0_strikesInTruth 0 = .ok (.aload_n 0, 1) := by decide +kernel
theorem dX0_strikesInTruth_1 : decode cX0_strikesInTruth 1 = .ok (.iload_n 1, 1) := by decide +kernel
theorem dX0_strikesInTruth_2 : decode cX0_strikesInTruth 2 = .ok (.invokevirtual 102, 3) := by decide +kernel
theorem dX0_strikesInTruth_5 : decode cX0_strikesInTruth 5 = .ok (.aload_n 0, 1) := by decide +kernel
theorem dX0_strikesInTruth_6 : decode cX0_strikesInTruth 6 = .ok (.aload_n 0, 1) := by decide +kernel
theorem dX0_strikesInTruth_7 : decode cX0_strikesInTruth 7 = .ok (.getfield 49, 3) := by decide +kernel
theorem dX0_strikesInTruth_10 : decode cX0_strikesInTruth 10 = .ok (.iconst 1, 1) := by decide +kernel
theorem dX0_strikesInTruth_11 : decode cX0_strikesInTruth 11 = .ok (.isub, 1) := by decide +kernel
theorem dX0_strikesInTruth_12 : decode cX0_strikesInTruth 12 = .ok (.invokevirtual 106, 3) := by decide +kernel
theorem dX0_strikesInTruth_15 : decode cX0_strikesInTruth 15 = .ok (.ifCond .eq 20, 3) := by decide +kernel
theorem dX0_strikesInTruth_18 : decode cX0_strikesInTruth 18 = .ok (.aload_n 0, 1) := by decide +kernel
theorem dX0_strikesInTruth_19 : decode cX0_strikesInTruth 19 = .ok (.bipush 100, 2) := by decide +kernel
theorem dX0_strikesInTruth_21 : decode cX0_strikesInTruth 21 = .ok (.invokevirtual 110, 3) := by decide +kernel
theorem dX0_strikesInTruth_24 : decode cX0_strikesInTruth 24 = .ok (.aload_n 0, 1) := by decide +kernel
theorem dX0_strikesInTruth_25 : decode cX0_strikesInTruth 25 = .ok (.getfield 42, 3) := by decide +kernel
theorem dX0_strikesInTruth_28 : decode cX0_strikesInTruth 28 = .ok (.if_icmp .lt 7, 3) := by decide +kernel
theorem dX0_strikesInTruth_31 : decode cX0_strikesInTruth 31 = .ok (.iconst 1, 1) := by decide +kernel
theorem dX0_strikesInTruth_32 : decode cX0_strikesInTruth 32 = .ok (.goto 4, 3) := by decide +kernel
theorem dX0_strikesInTruth_35 : decode cX0_strikesInTruth 35 = .ok (.iconst 0, 1) := by decide +kernel
theorem dX0_strikesInTruth_36 : decode cX0_strikesInTruth 36 = .ok (.ireturn, 1) := by decide +kernel
theorem dX1_init_0 : decode cX1_init 0 = .ok (.aload_n 0, 1) := by decide +kernel
theorem dX1_init_1 : decode cX1_init 1 = .ok (.invokespecial 3, 3) := by decide +kernel
theorem dX1_init_4 : decode cX1_init 4 = .ok (.aload_n 0, 1) := by decide +kernel
theorem dX1_init_5 : decode cX1_init 5 = .ok (.new 9, 3) := by decide +kernel
theorem dX1_init_8 : decode cX1_init 8 = .ok (.dup, 1) := by decide +kernel
theorem dX1_init_9 : decode cX1_init 9 = .ok (.invokespecial 11, 3) := by decide +kernel
theorem dX1_init_12 : decode cX1_init 12 = .ok (.putfield 12, 3) := by decide +kernel
theorem dX1_init_15 : decode cX1_init 15 = .ok (.aload_n 0, 1) := by decide +kernel
theorem dX1_init_16 : decode cX1_init 16 = .ok (.new 18, 3) := by decide +kernel
theorem dX1_init_19 : decode cX1_init 19 = .ok (.dup, 1) := by decide +kernel
theorem dX1_init_20 : decode cX1_init 20 = .ok (.invokespecial 20, 3) := by decide +kernel
theorem dX1_init_23 : decode cX1_init 23 = .ok (.putfield 21, 3) := by decide +kernel
theorem dX1_init_26 : decode cX1_init 26 = .ok (.return_, 1) := by decide +kernel
theorem dX1_readLake_0 : decode cX1_readLake 0 = .ok (.aload_n 0, 1) := by decide +kernel
theorem dX1_readLake_1 : decode cX1_readLake 1 = .ok (.getfield 12, 3) := by decide +kernel
theorem dX1_readLake_4 : decode cX1_readLake 4 = .ok (.invokevirtual 25, 3) := by decide +kernel
theorem dX1_readLake_7 : decode cX1_readLake 7 = .ok (.iconst 0, 1) := by decide +kernel
theorem dX1_readLake_8 : decode cX1_readLake 8 = .ok (.istore_n 1, 1) := by decide +kernel
theorem dX1_readLake_9 : decode cX1_readLake 9 = .ok (.aload_n 0, 1) := by decide +kernel
theorem dX1_readLake_10 : decode cX1_readLake 10 = .ok (.getfield 12, 3) := by decide +kernel
theorem dX1_readLake_13 : decode cX1_readLake 13 = .ok (.invokevirtual 28, 3) := by decide +kernel
theorem dX1_readLake_16 : decode cX1_readLake 16 = .ok (.aload_n 0, 1) := by decide +kernel
theorem dX1_readLake_17 : decode cX1_readLake 17 = .ok (.invokevirtual 31, 3) := by decide +kernel
theorem dX1_readLake_20 : decode cX1_readLake 20 = .ok (.ifCond .ne 5, 3) := by decide +kernel
theorem dX1_readLake_23 : decode cX1_readLake 23 = .ok (.iconst (-1), 1) := by decide +kernel
theorem dX1_readLake_24 : decode cX1_readLake 24 = .ok (.ireturn, 1) := by decide +kernel
theorem dX1_readLake_25 : decode cX1_readLake 25 = .ok (.iinc 1 1, 3) := by decide +kernel
theorem dX1_readLake_28 : decode cX1_readLake 28 = .ok (.aload_n 0, 1) := by decide +kernel
theorem dX1_readLake_29 : decode cX1_readLake 29 = .ok (.getfield 12, 3) := by decide +kernel
theorem dX1_readLake_32 : decode cX1_readLake 32 = .ok (.invokevirtual 28, 3) := by decide +kernel
theorem dX1_readLake_35 : decode cX1_readLake 35 = .ok (.aload_n 0, 1) := by decide +kernel
theorem dX1_readLake_36 : decode cX1_readLake 36 = .ok (.getfield 12, 3) := by decide +kernel
theorem dX1_readLake_39 : decode cX1_readLake 39 = .ok (.getfield 35, 3) := by decide +kernel
theorem dX1_readLake_42 : decode cX1_readLake 42 = .ok (.iconst 3, 1) := by decide +kernel
theorem dX1_readLake_43 : decode cX1_readLake 43 = .ok (.if_icmp .ne 10, 3) := by decide +kernel
theorem dX1_readLake_46 : decode cX1_readLake 46 = .ok (.iload_n 1, 1) := by decide +kernel
theorem dX1_readLake_47 : decode cX1_readLake 47 = .ok (.sipush 250, 3) := by decide +kernel
theorem dX1_readLake_50 : decode cX1_readLake 50 = .ok (.if_icmp .lt (-41), 3) := by decide +kernel
theorem dX1_readLake_53 : decode cX1_readLake 53 = .ok (.aload_n 0, 1) := by decide +kernel
theorem dX1_readLake_54 : decode cX1_readLake 54 = .ok (.getfield 12, 3) := by decide +kernel
theorem dX1_readLake_57 : decode cX1_readLake 57 = .ok (.getfield 35, 3) := by decide +kernel
theorem dX1_readLake_60 : decode cX1_readLake 60 = .ok (.ifCond .ne 7, 3) := by decide +kernel
theorem dX1_readLake_63 : decode cX1_readLake 63 = .ok (.iload_n 1, 1) := by decide +kernel
theorem dX1_readLake_64 : decode cX1_readLake 64 = .ok (.goto 4, 3) := by decide +kernel
theorem dX1_readLake_67 : decode cX1_readLake 67 = .ok (.iconst (-1), 1) := by decide +kernel
theorem dX1_readLake_68 : decode cX1_readLake 68 = .ok (.ireturn, 1) := by decide +kernel
theorem dX1_readStatement_0 : decode cX1_readStatement 0 = .ok (.aload_n 0, 1) := by decide +kernel
theorem dX1_readStatement_1 : decode cX1_readStatement 1 = .ok (.getfield 12, 3) := by decide +kernel
theorem dX1_readStatement_4 : decode cX1_readStatement 4 = .ok (.ldc 39, 2) := by decide +kernel
theorem dX1_readStatement_6 : decode cX1_readStatement 6 = .ok (.invokevirtual 41, 3) := by decide +kernel
theorem dX1_readStatement_9 : decode cX1_readStatement 9 = .ok (.ifCond .eq 8, 3) := by decide +kernel
theorem dX1_readStatement_12 : decode cX1_readStatement 12 = .ok (.aload_n 0, 1) := by decide +kernel
theorem dX1_readStatement_13 : decode cX1_readStatement 13 = .ok (.invokevirtual 45, 3) := by decide +kernel
theorem dX1_readStatement_16 : decode cX1_readStatement 16 = .ok (.ireturn, 1) := by decide +kernel
theorem dX1_readStatement_17 : decode cX1_readStatement 17 = .ok (.aload_n 0, 1) := by decide +kernel
theorem dX1_readStatement_18 : decode cX1_readStatement 18 = .ok (.getfield 12, 3) := by decide +kernel
theorem dX1_readStatement_21 : decode cX1_readStatement 21 = .ok (.ldc 48, 2) := by decide +kernel
theorem dX1_readStatement_23 : decode cX1_readStatement 23 = .ok (.invokevirtual 41, 3) := by decide +kernel
theorem dX1_readStatement_26 : decode cX1_readStatement 26 = .ok (.ifCond .eq 8, 3) := by decide +kernel
theorem dX1_readStatement_29 : decode cX1_readStatement 29 = .ok (.aload_n 0, 1) := by decide +kernel
theorem dX1_readStatement_30 : decode cX1_readStatement 30 = .ok (.invokevirtual 50, 3) := by decide +kernel
theorem dX1_readStatement_33 : decode cX1_readStatement 33 = .ok (.ireturn, 1) := by decide +kernel
theorem dX1_readStatement_34 : decode cX1_readStatement 34 = .ok (.aload_n 0, 1) := by decide +kernel
theorem dX1_readStatement_35 : decode cX1_readStatement 35 = .ok (.getfield 12, 3) := by decide +kernel
theorem dX1_readStatement_38 : decode cX1_readStatement 38 = .ok (.ldc 53, 2) := by decide +kernel
theorem dX1_readStatement_40 : decode cX1_readStatement 40 = .ok (.invokevirtual 41, 3) := by decide +kernel
theorem dX1_readStatement_43 : decode cX1_readStatement 43 = .ok (.ifCond .eq 8, 3) := by decide +kernel
theorem dX1_readStatement_46 : decode cX1_readStatement 46 = .ok (.aload_n 0, 1) := by decide +kernel
theorem dX1_readStatement_47 : decode cX1_readStatement 47 = .ok (.invokevirtual 55, 3) := by decide +kernel
theorem dX1_readStatement_50 : decode cX1_readStatement 50 = .ok (.ireturn, 1) := by decide +kernel
theorem dX1_readStatement_51 : decode cX1_readStatement 51 = .ok (.aload_n 0, 1) := by decide +kernel
theorem dX1_readStatement_52 : decode cX1_readStatement 52 = .ok (.getfield 12, 3) := by decide +kernel
theorem dX1_readStatement_55 : decode cX1_readStatement 55 = .ok (.ldc 58, 2) := by decide +kernel
theorem dX1_readStatement_57 : decode cX1_readStatement 57 = .ok (.invokevirtual 41, 3) := by decide +kernel
theorem dX1_readStatement_60 : decode cX1_readStatement 60 = .ok (.ifCond .eq 8, 3) := by decide +kernel
theorem dX1_readStatement_63 : decode cX1_readStatement 63 = .ok (.aload_n 0, 1) := by decide +kernel
theorem dX1_readStatement_64 : decode cX1_readStatement 64 = .ok (.invokevirtual 60, 3) := by decide +kernel
theorem dX1_readStatement_67 : decode cX1_readStatement 67 = .ok (.ireturn, 1) := by decide +kernel
theorem dX1_readStatement_68 : decode cX1_readStatement 68 = .ok (.aload_n 0, 1) := by decide +kernel
theorem dX1_readStatement_69 : decode cX1_readStatement 69 = .ok (.getfield 12, 3) := by decide +kernel
theorem dX1_readStatement_72 : decode cX1_readStatement 72 = .ok (.ldc 63, 2) := by decide +kernel
theorem dX1_readStatement_74 : decode cX1_readStatement 74 = .ok (.invokevirtual 41, 3) := by decide +kernel
theorem dX1_readStatement_77 : decode cX1_readStatement 77 = .ok (.ifCond .eq 8, 3) := by decide +kernel
theorem dX1_readStatement_80 : decode cX1_readStatement 80 = .ok (.aload_n 0, 1) := by decide +kernel
theorem dX1_readStatement_81 : decode cX1_readStatement 81 = .ok (.invokevirtual 65, 3) := by decide +kernel
theorem dX1_readStatement_84 : decode cX1_readStatement 84 = .ok (.ireturn, 1) := by decide +kernel
theorem dX1_readStatement_85 : decode cX1_readStatement 85 = .ok (.aload_n 0, 1) := by decide +kernel
theorem dX1_readStatement_86 : decode cX1_readStatement 86 = .ok (.getfield 12, 3) := by decide +kernel
theorem dX1_readStatement_89 : decode cX1_readStatement 89 = .ok (.ldc 68, 2) := by decide +kernel
theorem dX1_readStatement_91 : decode cX1_readStatement 91 = .ok (.invokevirtual 41, 3) := by decide +kernel
theorem dX1_readStatement_94 : decode cX1_readStatement 94 = .ok (.ifCond .eq 8, 3) := by decide +kernel
theorem dX1_readStatement_97 : decode cX1_readStatement 97 = .ok (.aload_n 0, 1) := by decide +kernel
theorem dX1_readStatement_98 : decode cX1_readStatement 98 = .ok (.invokevirtual 70, 3) := by decide +kernel
theorem dX1_readStatement_101 : decode cX1_readStatement 101 = .ok (.ireturn, 1) := by decide +kernel
theorem dX1_readStatement_102 : decode cX1_readStatement 102 = .ok (.aload_n 0, 1) := by decide +kernel
theorem dX1_readStatement_103 : decode cX1_readStatement 103 = .ok (.getfield 12, 3) := by decide +kernel
theorem dX1_readStatement_106 : decode cX1_readStatement 106 = .ok (.ldc 73, 2) := by decide +kernel
theorem dX1_readStatement_108 : decode cX1_readStatement 108 = .ok (.invokevirtual 41, 3) := by decide +kernel
theorem dX1_readStatement_111 : decode cX1_readStatement 111 = .ok (.ifCond .eq 12, 3) := by decide +kernel
theorem dX1_readStatement_114 : decode cX1_readStatement 114 = .ok (.aload_n 0, 1) := by decide +kernel
theorem dX1_readStatement_115 : decode cX1_readStatement 115 = .ok (.getfield 21, 3) := by decide +kernel
theorem dX1_readStatement_118 : decode cX1_readStatement 118 = .ok (.invokevirtual 75, 3) := by decide +kernel
theorem dX1_readStatement_121 : decode cX1_readStatement 121 = .ok (.iconst 1, 1) := by decide +kernel
theorem dX1_readStatement_122 : decode cX1_readStatement 122 = .ok (.ireturn, 1) := by decide +kernel
theorem dX1_readStatement_123 : decode cX1_readStatement 123 = .ok (.iconst 0, 1) := by decide +kernel
theorem dX1_readStatement_124 : decode cX1_readStatement 124 = .ok (.ireturn, 1) := by decide +kernel
theorem dX1_readLaw_0 : decode cX1_readLaw 0 = .ok (.aload_n 0, 1) := by decide +kernel
theorem dX1_readLaw_1 : decode cX1_readLaw 1 = .ok (.getfield 21, 3) := by decide +kernel
theorem dX1_readLaw_4 : decode cX1_readLaw 4 = .ok (.getfield 78, 3) := by decide +kernel
theorem dX1_readLaw_7 : decode cX1_readLaw 7 = .ok (.invokevirtual 82, 3) := by decide +kernel
theorem dX1_readLaw_10 : decode cX1_readLaw 10 = .ok (.ifCond .eq 12, 3) := by decide +kernel
theorem dX1_readLaw_13 : decode cX1_readLaw 13 = .ok (.aload_n 0, 1) := by decide +kernel
theorem dX1_readLaw_14 : decode cX1_readLaw 14 = .ok (.iconst 0, 1) := by decide +kernel
theorem dX1_readLaw_15 : decode cX1_readLaw 15 = .ok (.iconst 5, 1) := by decide +kernel
theorem dX1_readLaw_16 : decode cX1_readLaw 16 = .ok (.invokevirtual 87, 3) := by decide +kernel
theorem dX1_readLaw_19 : decode cX1_readLaw 19 = .ok (.ifCond .ne 5, 3) := by decide +kernel
theorem dX1_readLaw_22 : decode cX1_readLaw 22 = .ok (.iconst 0, 1) := by decide +kernel
theorem dX1_readLaw_23 : decode cX1_readLaw 23 = .ok (.ireturn, 1) := by decide +kernel
theorem dX1_readLaw_24 : decode cX1_readLaw 24 = .ok (.aload_n 0, 1) := by decide +kernel
theorem dX1_readLaw_25 : decode cX1_readLaw 25 = .ok (.getfield 91, 3) := by decide +kernel
theorem dX1_readLaw_28 : decode cX1_readLaw 28 = .ok (.istore_n 1, 1) := by decide +kernel
theorem dX1_readLaw_29 : decode cX1_readLaw 29 = .ok (.aload_n 0, 1) := by decide +kernel
theorem dX1_readLaw_30 : decode cX1_readLaw 30 = .ok (.iconst 0, 1) := by decide +kernel
theorem dX1_readLaw_31 : decode cX1_readLaw 31 = .ok (.bipush 9, 2) := by decide +kernel
theorem dX1_readLaw_33 : decode cX1_readLaw 33 = .ok (.invokevirtual 87, 3) := by decide +kernel
theorem dX1_readLaw_36 : decode cX1_readLaw 36 = .ok (.ifCond .ne 5, 3) := by decide +kernel
theorem dX1_readLaw_39 : decode cX1_readLaw 39 = .ok (.iconst 0, 1) := by decide +kernel
theorem dX1_readLaw_40 : decode cX1_readLaw 40 = .ok (.ireturn, 1) := by decide +kernel
theorem dX1_readLaw_41 : decode cX1_readLaw 41 = .ok (.aload_n 0, 1) := by decide +kernel
theorem dX1_readLaw_42 : decode cX1_readLaw 42 = .ok (.getfield 21, 3) := by decide +kernel
theorem dX1_readLaw_45 : decode cX1_readLaw 45 = .ok (.getfield 78, 3) := by decide +kernel
theorem dX1_readLaw_48 : decode cX1_readLaw 48 = .ok (.iload_n 1, 1) := by decide +kernel
theorem dX1_readLaw_49 : decode cX1_readLaw 49 = .ok (.aload_n 0, 1) := by decide +kernel
theorem dX1_readLaw_50 : decode cX1_readLaw 50 = .ok (.getfield 91, 3) := by decide +kernel
theorem dX1_readLaw_53 : decode cX1_readLaw 53 = .ok (.invokevirtual 94, 3) := by decide +kernel
theorem dX1_readLaw_56 : decode cX1_readLaw 56 = .ok (.pop, 1) := by decide +kernel
theorem dX1_readLaw_57 : decode cX1_readLaw 57 = .ok (.iconst 1, 1) := by decide +kernel
theorem dX1_readLaw_58 : decode cX1_readLaw 58 = .ok (.ireturn, 1) := by decide +kernel
theorem dX1_readUse_0 : decode cX1_readUse 0 = .ok (.aload_n 0, 1) := by decide +kernel
theorem dX1_readUse_1 : decode cX1_readUse 1 = .ok (.iconst 0, 1) := by decide +kernel
theorem dX1_readUse_2 : decode cX1_readUse 2 = .ok (.aload_n 0, 1) := by decide +kernel
theorem dX1_readUse_3 : decode cX1_readUse 3 = .ok (.getfield 21, 3) := by decide +kernel
theorem dX1_readUse_6 : decode cX1_readUse 6 = .ok (.getfield 78, 3) := by decide +kernel
theorem dX1_readUse_9 : decode cX1_readUse 9 = .ok (.getfield 98, 3) := by decide +kernel
theorem dX1_readUse_12 : decode cX1_readUse 12 = .ok (.iconst 1, 1) := by decide +kernel
theorem dX1_readUse_13 : decode cX1_readUse 13 = .ok (.isub, 1) := by decide +kernel
theorem dX1_readUse_14 : decode cX1_readUse 14 = .ok (.invokevirtual 87, 3) := by decide +kernel
theorem dX1_readUse_17 : decode cX1_readUse 17 = .ok (.ifCond .ne 5, 3) := by decide +kernel
theorem dX1_readUse_20 : decode cX1_readUse 20 = .ok (.iconst 0, 1) := by decide +kernel
theorem dX1_readUse_21 : decode cX1_readUse 21 = .ok (.ireturn, 1) := by decide +kernel
theorem dX1_readUse_22 : decode cX1_readUse 22 = .ok (.aload_n 0, 1) := by decide +kernel
theorem dX1_readUse_23 : decode cX1_readUse 23 = .ok (.getfield 21, 3) := by decide +kernel
theorem dX1_readUse_26 : decode cX1_readUse 26 = .ok (.aload_n 0, 1) := by decide +kernel
theorem dX1_readUse_27 : decode cX1_readUse 27 = .ok (.getfield 91, 3) := by decide +kernel
theorem dX1_readUse_30 : decode cX1_readUse 30 = .ok (.putfield 101, 3) := by decide +kernel
theorem dX1_readUse_33 : decode cX1_readUse 33 = .ok (.iconst 1, 1) := by decide +kernel
theorem dX1_readUse_34 : decode cX1_readUse 34 = .ok (.ireturn, 1) := by decide +kernel
theorem dX1_readDepth_0 : decode cX1_readDepth 0 = .ok (.aload_n 0, 1) := by decide +kernel
theorem dX1_readDepth_1 : decode cX1_readDepth 1 = .ok (.iconst 0, 1) := by decide +kernel
theorem dX1_readDepth_2 : decode cX1_readDepth 2 = .ok (.bipush 9, 2) := by decide +kernel
theorem dX1_readDepth_4 : decode cX1_readDepth 4 = .ok (.invokevirtual 87, 3) := by decide +kernel
theorem dX1_readDepth_7 : decode cX1_readDepth 7 = .ok (.ifCond .ne 5, 3) := by decide +kernel
theorem dX1_readDepth_10 : decode cX1_readDepth 10 = .ok (.iconst 0, 1) := by decide +kernel
theorem dX1_readDepth_11 : decode cX1_readDepth 11 = .ok (.ireturn, 1) := by decide +kernel
theorem dX1_readDepth_12 : decode cX1_readDepth 12 = .ok (.aload_n 0, 1) := by decide +kernel
theorem dX1_readDepth_13 : decode cX1_readDepth 13 = .ok (.getfield 21, 3) := by decide +kernel
theorem dX1_readDepth_16 : decode cX1_readDepth 16 = .ok (.aload_n 0, 1) := by decide +kernel
theorem dX1_readDepth_17 : decode cX1_readDepth 17 = .ok (.getfield 91, 3) := by decide +kernel
theorem dX1_readDepth_20 : decode cX1_readDepth 20 = .ok (.putfield 104, 3) := by decide +kernel
theorem dX1_readDepth_23 : decode cX1_readDepth 23 = .ok (.iconst 1, 1) := by decide +kernel
theorem dX1_readDepth_24 : decode cX1_readDepth 24 = .ok (.ireturn, 1) := by decide +kernel
theorem dX1_readMiss_0 : decode cX1_readMiss 0 = .ok (.aload_n 0, 1) := by decide +kernel
theorem dX1_readMiss_1 : decode cX1_readMiss 1 = .ok (.iconst 0, 1) := by decide +kernel
theorem dX1_readMiss_2 : decode cX1_readMiss 2 = .ok (.bipush 100, 2) := by decide +kernel
theorem dX1_readMiss_4 : decode cX1_readMiss 4 = .ok (.invokevirtual 87, 3) := by decide +kernel
theorem dX1_readMiss_7 : decode cX1_readMiss 7 = .ok (.ifCond .ne 5, 3) := by decide +kernel
theorem dX1_readMiss_10 : decode cX1_readMiss 10 = .ok (.iconst 0, 1) := by decide +kernel
theorem dX1_readMiss_11 : decode cX1_readMiss 11 = .ok (.ireturn, 1) := by decide +kernel
theorem dX1_readMiss_12 : decode cX1_readMiss 12 = .ok (.aload_n 0, 1) := by decide +kernel
theorem dX1_readMiss_13 : decode cX1_readMiss 13 = .ok (.getfield 21, 3) := by decide +kernel
theorem dX1_readMiss_16 : decode cX1_readMiss 16 = .ok (.aload_n 0, 1) := by decide +kernel
theorem dX1_readMiss_17 : decode cX1_readMiss 17 = .ok (.getfield 91, 3) := by decide +kernel
theorem dX1_readMiss_20 : decode cX1_readMiss 20 = .ok (.putfield 106, 3) := by decide +kernel
theorem dX1_readMiss_23 : decode cX1_readMiss 23 = .ok (.iconst 1, 1) := by decide +kernel
theorem dX1_readMiss_24 : decode cX1_readMiss 24 = .ok (.ireturn, 1) := by decide +kernel
theorem dX1_readPerson_0 : decode cX1_readPerson 0 = .ok (.aload_n 0, 1) := by decide +kernel
theorem dX1_readPerson_1 : decode cX1_readPerson 1 = .ok (.getfield 21, 3) := by decide +kernel
theorem dX1_readPerson_4 : decode cX1_readPerson 4 = .ok (.getfield 108, 3) := by decide +kernel
theorem dX1_readPerson_7 : decode cX1_readPerson 7 = .ok (.invokevirtual 112, 3) := by decide +kernel
theorem dX1_readPerson_10 : decode cX1_readPerson 10 = .ok (.ifCond .eq 13, 3) := by decide +kernel
theorem dX1_readPerson_13 : decode cX1_readPerson 13 = .ok (.aload_n 0, 1) := by decide +kernel
theorem dX1_readPerson_14 : decode cX1_readPerson 14 = .ok (.iconst 1, 1) := by decide +kernel
theorem dX1_readPerson_15 : decode cX1_readPerson 15 = .ok (.bipush 99, 2) := by decide +kernel
theorem dX1_readPerson_17 : decode cX1_readPerson 17 = .ok (.invokevirtual 87, 3) := by decide +kernel
theorem dX1_readPerson_20 : decode cX1_readPerson 20 = .ok (.ifCond .ne 5, 3) := by decide +kernel
theorem dX1_readPerson_23 : decode cX1_readPerson 23 = .ok (.iconst 0, 1) := by decide +kernel
theorem dX1_readPerson_24 : decode cX1_readPerson 24 = .ok (.ireturn, 1) := by decide +kernel
theorem dX1_readPerson_25 : decode cX1_readPerson 25 = .ok (.aload_n 0, 1) := by decide +kernel
theorem dX1_readPerson_26 : decode cX1_readPerson 26 = .ok (.getfield 21, 3) := by decide +kernel
theorem dX1_readPerson_29 : decode cX1_readPerson 29 = .ok (.getfield 108, 3) := by decide +kernel
theorem dX1_readPerson_32 : decode cX1_readPerson 32 = .ok (.aload_n 0, 1) := by decide +kernel
theorem dX1_readPerson_33 : decode cX1_readPerson 33 = .ok (.getfield 91, 3) := by decide +kernel
theorem dX1_readPerson_36 : decode cX1_readPerson 36 = .ok (.invokevirtual 115, 3) := by decide +kernel
theorem dX1_readPerson_39 : decode cX1_readPerson 39 = .ok (.pop, 1) := by decide +kernel
theorem dX1_readPerson_40 : decode cX1_readPerson 40 = .ok (.iconst 1, 1) := by decide +kernel
theorem dX1_readPerson_41 : decode cX1_readPerson 41 = .ok (.ireturn, 1) := by decide +kernel
theorem dX1_readSteps_0 : decode cX1_readSteps 0 = .ok (.aload_n 0, 1) := by decide +kernel
theorem dX1_readSteps_1 : decode cX1_readSteps 1 = .ok (.getfield 21, 3) := by decide +kernel
theorem dX1_readSteps_4 : decode cX1_readSteps 4 = .ok (.invokevirtual 118, 3) := by decide +kernel
theorem dX1_readSteps_7 : decode cX1_readSteps 7 = .ok (.ifCond .ne 5, 3) := by decide +kernel
theorem dX1_readSteps_10 : decode cX1_readSteps 10 = .ok (.iconst 0, 1) := by decide +kernel
theorem dX1_readSteps_11 : decode cX1_readSteps 11 = .ok (.ireturn, 1) := by decide +kernel
theorem dX1_readSteps_12 : decode cX1_readSteps 12 = .ok (.aload_n 0, 1) := by decide +kernel
theorem dX1_readSteps_13 : decode cX1_readSteps 13 = .ok (.getfield 12, 3) := by decide +kernel
theorem dX1_readSteps_16 : decode cX1_readSteps 16 = .ok (.invokevirtual 28, 3) := by decide +kernel
theorem dX1_readSteps_19 : decode cX1_readSteps 19 = .ok (.aload_n 0, 1) := by decide +kernel
theorem dX1_readSteps_20 : decode cX1_readSteps 20 = .ok (.getfield 12, 3) := by decide +kernel
theorem dX1_readSteps_23 : decode cX1_readSteps 23 = .ok (.getfield 35, 3) := by decide +kernel
theorem dX1_readSteps_26 : decode cX1_readSteps 26 = .ok (.iconst 1, 1) := by decide +kernel
theorem dX1_readSteps_27 : decode cX1_readSteps 27 = .ok (.if_icmp .ne 23, 3) := by decide +kernel
theorem dX1_readSteps_30 : decode cX1_readSteps 30 = .ok (.aload_n 0, 1) := by decide +kernel
theorem dX1_readSteps_31 : decode cX1_readSteps 31 = .ok (.getfield 12, 3) := by decide +kernel
theorem dX1_readSteps_34 : decode cX1_readSteps 34 = .ok (.invokevirtual 119, 3) := by decide +kernel
theorem dX1_readSteps_37 : decode cX1_readSteps 37 = .ok (.bipush 40, 2) := by decide +kernel
theorem dX1_readSteps_39 : decode cX1_readSteps 39 = .ok (.aload_n 0, 1) := by decide +kernel
theorem dX1_readSteps_40 : decode cX1_readSteps 40 = .ok (.getfield 21, 3) := by decide +kernel
theorem dX1_readSteps_43 : decode cX1_readSteps 43 = .ok (.getfield 123, 3) := by decide +kernel
theorem dX1_readSteps_46 : decode cX1_readSteps 46 = .ok (.isub, 1) := by decide +kernel
theorem dX1_readSteps_47 : decode cX1_readSteps 47 = .ok (.if_icmp .le 5, 3) := by decide +kernel
theorem dX1_readSteps_50 : decode cX1_readSteps 50 = .ok (.iconst 0, 1) := by decide +kernel
theorem dX1_readSteps_51 : decode cX1_readSteps 51 = .ok (.ireturn, 1) := by decide +kernel
theorem dX1_readSteps_52 : decode cX1_readSteps 52 = .ok (.aload_n 0, 1) := by decide +kernel
theorem dX1_readSteps_53 : decode cX1_readSteps 53 = .ok (.getfield 12, 3) := by decide +kernel
theorem dX1_readSteps_56 : decode cX1_readSteps 56 = .ok (.getfield 126, 3) := by decide +kernel
theorem dX1_readSteps_59 : decode cX1_readSteps 59 = .ok (.istore_n 1, 1) := by decide +kernel
theorem dX1_readSteps_60 : decode cX1_readSteps 60 = .ok (.iload_n 1, 1) := by decide +kernel
theorem dX1_readSteps_61 : decode cX1_readSteps 61 = .ok (.aload_n 0, 1) := by decide +kernel
theorem dX1_readSteps_62 : decode cX1_readSteps 62 = .ok (.getfield 12, 3) := by decide +kernel
theorem dX1_readSteps_65 : decode cX1_readSteps 65 = .ok (.getfield 129, 3) := by decide +kernel
theorem dX1_readSteps_68 : decode cX1_readSteps 68 = .ok (.if_icmp .ge 50, 3) := by decide +kernel
theorem dX1_readSteps_71 : decode cX1_readSteps 71 = .ok (.aload_n 0, 1) := by decide +kernel
theorem dX1_readSteps_72 : decode cX1_readSteps 72 = .ok (.getfield 12, 3) := by decide +kernel
theorem dX1_readSteps_75 : decode cX1_readSteps 75 = .ok (.iload_n 1, 1) := by decide +kernel
theorem dX1_readSteps_76 : decode cX1_readSteps 76 = .ok (.invokevirtual 132, 3) := by decide +kernel
theorem dX1_readSteps_79 : decode cX1_readSteps 79 = .ok (.istore_n 2, 1) := by decide +kernel
theorem dX1_readSteps_80 : decode cX1_readSteps 80 = .ok (.iload_n 2, 1) := by decide +kernel
theorem dX1_readSteps_81 : decode cX1_readSteps 81 = .ok (.bipush 115, 2) := by decide +kernel
theorem dX1_readSteps_83 : decode cX1_readSteps 83 = .ok (.if_icmp .eq 11, 3) := by decide +kernel
theorem dX1_readSteps_86 : decode cX1_readSteps 86 = .ok (.iload_n 2, 1) := by decide +kernel
theorem dX1_readSteps_87 : decode cX1_readSteps 87 = .ok (.bipush 103, 2) := by decide +kernel
theorem dX1_readSteps_89 : decode cX1_readSteps 89 = .ok (.if_icmp .eq 5, 3) := by decide +kernel
theorem dX1_readSteps_92 : decode cX1_readSteps 92 = .ok (.iconst 0, 1) := by decide +kernel
theorem dX1_readSteps_93 : decode cX1_readSteps 93 = .ok (.ireturn, 1) := by decide +kernel
theorem dX1_readSteps_94 : decode cX1_readSteps 94 = .ok (.aload_n 0, 1) := by decide +kernel
theorem dX1_readSteps_95 : decode cX1_readSteps 95 = .ok (.getfield 21, 3) := by decide +kernel
theorem dX1_readSteps_98 : decode cX1_readSteps 98 = .ok (.iload_n 2, 1) := by decide +kernel
theorem dX1_readSteps_99 : decode cX1_readSteps 99 = .ok (.bipush 115, 2) := by decide +kernel
theorem dX1_readSteps_101 : decode cX1_readSteps 101 = .ok (.if_icmp .ne 7, 3) := by decide +kernel
theorem dX1_readSteps_104 : decode cX1_readSteps 104 = .ok (.iconst 1, 1) := by decide +kernel
theorem dX1_readSteps_105 : decode cX1_readSteps 105 = .ok (.goto 4, 3) := by decide +kernel
theorem dX1_readSteps_108 : decode cX1_readSteps 108 = .ok (.iconst 0, 1) := by decide +kernel
theorem dX1_readSteps_109 : decode cX1_readSteps 109 = .ok (.invokevirtual 135, 3) := by decide +kernel
theorem dX1_readSteps_112 : decode cX1_readSteps 112 = .ok (.iinc 1 1, 3) := by decide +kernel
theorem dX1_readSteps_115 : decode cX1_readSteps 115 = .ok (.goto (-55), 3) := by decide +kernel
theorem dX1_readSteps_118 : decode cX1_readSteps 118 = .ok (.iconst 1, 1) := by decide +kernel
theorem dX1_readSteps_119 : decode cX1_readSteps 119 = .ok (.ireturn, 1) := by decide +kernel
theorem dX1_readNumber_0 : decode cX1_readNumber 0 = .ok (.aload_n 0, 1) := by decide +kernel
theorem dX1_readNumber_1 : decode cX1_readNumber 1 = .ok (.getfield 12, 3) := by decide +kernel
theorem dX1_readNumber_4 : decode cX1_readNumber 4 = .ok (.invokevirtual 28, 3) := by decide +kernel
theorem dX1_readNumber_7 : decode cX1_readNumber 7 = .ok (.aload_n 0, 1) := by decide +kernel
theorem dX1_readNumber_8 : decode cX1_readNumber 8 = .ok (.getfield 12, 3) := by decide +kernel
theorem dX1_readNumber_11 : decode cX1_readNumber 11 = .ok (.getfield 35, 3) := by decide +kernel
theorem dX1_readNumber_14 : decode cX1_readNumber 14 = .ok (.iconst 2, 1) := by decide +kernel
theorem dX1_readNumber_15 : decode cX1_readNumber 15 = .ok (.if_icmp .ne 14, 3) := by decide +kernel
theorem dX1_readNumber_18 : decode cX1_readNumber 18 = .ok (.aload_n 0, 1) := by decide +kernel
theorem dX1_readNumber_19 : decode cX1_readNumber 19 = .ok (.getfield 12, 3) := by decide +kernel
theorem dX1_readNumber_22 : decode cX1_readNumber 22 = .ok (.invokevirtual 119, 3) := by decide +kernel
theorem dX1_readNumber_25 : decode cX1_readNumber 25 = .ok (.iconst 3, 1) := by decide +kernel
theorem dX1_readNumber_26 : decode cX1_readNumber 26 = .ok (.if_icmp .le 5, 3) := by decide +kernel
theorem dX1_readNumber_29 : decode cX1_readNumber 29 = .ok (.iconst 0, 1) := by decide +kernel
theorem dX1_readNumber_30 : decode cX1_readNumber 30 = .ok (.ireturn, 1) := by decide +kernel
theorem dX1_readNumber_31 : decode cX1_readNumber 31 = .ok (.aload_n 0, 1) := by decide +kernel
theorem dX1_readNumber_32 : decode cX1_readNumber 32 = .ok (.iconst 0, 1) := by decide +kernel
theorem dX1_readNumber_33 : decode cX1_readNumber 33 = .ok (.putfield 91, 3) := by decide +kernel
theorem dX1_readNumber_36 : decode cX1_readNumber 36 = .ok (.aload_n 0, 1) := by decide +kernel
theorem dX1_readNumber_37 : decode cX1_readNumber 37 = .ok (.getfield 12, 3) := by decide +kernel
theorem dX1_readNumber_40 : decode cX1_readNumber 40 = .ok (.getfield 126, 3) := by decide +kernel
theorem dX1_readNumber_43 : decode cX1_readNumber 43 = .ok (.istore_n 3, 1) := by decide +kernel
theorem dX1_readNumber_44 : decode cX1_readNumber 44 = .ok (.iload_n 3, 1) := by decide +kernel
theorem dX1_readNumber_45 : decode cX1_readNumber 45 = .ok (.aload_n 0, 1) := by decide +kernel
theorem dX1_readNumber_46 : decode cX1_readNumber 46 = .ok (.getfield 12, 3) := by decide +kernel
theorem dX1_readNumber_49 : decode cX1_readNumber 49 = .ok (.getfield 129, 3) := by decide +kernel
theorem dX1_readNumber_52 : decode cX1_readNumber 52 = .ok (.if_icmp .ge 32, 3) := by decide +kernel
theorem dX1_readNumber_55 : decode cX1_readNumber 55 = .ok (.aload_n 0, 1) := by decide +kernel
theorem dX1_readNumber_56 : decode cX1_readNumber 56 = .ok (.bipush 10, 2) := by decide +kernel
theorem dX1_readNumber_58 : decode cX1_readNumber 58 = .ok (.aload_n 0, 1) := by decide +kernel
theorem dX1_readNumber_59 : decode cX1_readNumber 59 = .ok (.getfield 91, 3) := by decide +kernel
theorem dX1_readNumber_62 : decode cX1_readNumber 62 = .ok (.imul, 1) := by decide +kernel
theorem dX1_readNumber_63 : decode cX1_readNumber 63 = .ok (.aload_n 0, 1) := by decide +kernel
theorem dX1_readNumber_64 : decode cX1_readNumber 64 = .ok (.getfield 12, 3) := by decide +kernel
theorem dX1_readNumber_67 : decode cX1_readNumber 67 = .ok (.iload_n 3, 1) := by decide +kernel
theorem dX1_readNumber_68 : decode cX1_readNumber 68 = .ok (.invokevirtual 132, 3) := by decide +kernel
theorem dX1_readNumber_71 : decode cX1_readNumber 71 = .ok (.iadd, 1) := by decide +kernel
theorem dX1_readNumber_72 : decode cX1_readNumber 72 = .ok (.bipush 48, 2) := by decide +kernel
theorem dX1_readNumber_74 : decode cX1_readNumber 74 = .ok (.isub, 1) := by decide +kernel
theorem dX1_readNumber_75 : decode cX1_readNumber 75 = .ok (.putfield 91, 3) := by decide +kernel
theorem dX1_readNumber_78 : decode cX1_readNumber 78 = .ok (.iinc 3 1, 3) := by decide +kernel
theorem dX1_readNumber_81 : decode cX1_readNumber 81 = .ok (.goto (-37), 3) := by decide +kernel
theorem dX1_readNumber_84 : decode cX1_readNumber 84 = .ok (.aload_n 0, 1) := by decide +kernel
theorem dX1_readNumber_85 : decode cX1_readNumber 85 = .ok (.getfield 91, 3) := by decide +kernel
theorem dX1_readNumber_88 : decode cX1_readNumber 88 = .ok (.iload_n 1, 1) := by decide +kernel
theorem dX1_readNumber_89 : decode cX1_readNumber 89 = .ok (.iload_n 2, 1) := by decide +kernel
theorem dX1_readNumber_90 : decode cX1_readNumber 90 = .ok (.invokestatic 139, 3) := by decide +kernel
theorem dX1_readNumber_93 : decode cX1_readNumber 93 = .ok (.ireturn, 1) := by decide +kernel
theorem dX2_init_0 : decode cX2_init 0 = .ok (.aload_n 0, 1) := by decide +kernel
theorem dX2_init_1 : decode cX2_init 1 = .ok (.invokespecial 3, 3) := by decide +kernel
theorem dX2_init_4 : decode cX2_init 4 = .ok (.aload_n 0, 1) := by decide +kernel
theorem dX2_init_5 : decode cX2_init 5 = .ok (.bipush 6, 2) := by decide +kernel
theorem dX2_init_7 : decode cX2_init 7 = .ok (.newarray .int, 2) := by decide +kernel
theorem dX2_init_9 : decode cX2_init 9 = .ok (.putfield 11, 3) := by decide +kernel
theorem dX2_init_12 : decode cX2_init 12 = .ok (.aload_n 0, 1) := by decide +kernel
theorem dX2_init_13 : decode cX2_init 13 = .ok (.bipush 6, 2) := by decide +kernel
theorem dX2_init_15 : decode cX2_init 15 = .ok (.newarray .int, 2) := by decide +kernel
theorem dX2_init_17 : decode cX2_init 17 = .ok (.putfield 15, 3) := by decide +kernel
theorem dX2_init_20 : decode cX2_init 20 = .ok (.return_, 1) := by decide +kernel
theorem dX2_isKind_0 : decode cX2_isKind 0 = .ok (.iload_n 0, 1) := by decide +kernel
theorem dX2_isKind_1 : decode cX2_isKind 1 = .ok (.iconst 0, 1) := by decide +kernel
theorem dX2_isKind_2 : decode cX2_isKind 2 = .ok (.iconst 5, 1) := by decide +kernel
theorem dX2_isKind_3 : decode cX2_isKind 3 = .ok (.invokestatic 18, 3) := by decide +kernel
theorem dX2_isKind_6 : decode cX2_isKind 6 = .ok (.ireturn, 1) := by decide +kernel
theorem dX2_isUnder_0 : decode cX2_isUnder 0 = .ok (.iload_n 1, 1) := by decide +kernel
theorem dX2_isUnder_1 : decode cX2_isUnder 1 = .ok (.ifCond .eq 8, 3) := by decide +kernel
theorem dX2_isUnder_4 : decode cX2_isUnder 4 = .ok (.iload_n 1, 1) := by decide +kernel
theorem dX2_isUnder_5 : decode cX2_isUnder 5 = .ok (.iload_n 0, 1) := by decide +kernel
theorem dX2_isUnder_6 : decode cX2_isUnder 6 = .ok (.if_icmp .ne 5, 3) := by decide +kernel
theorem dX2_isUnder_9 : decode cX2_isUnder 9 = .ok (.iconst 1, 1) := by decide +kernel
theorem dX2_isUnder_10 : decode cX2_isUnder 10 = .ok (.ireturn, 1) := by decide +kernel
theorem dX2_isUnder_11 : decode cX2_isUnder 11 = .ok (.iload_n 0, 1) := by decide +kernel
theorem dX2_isUnder_12 : decode cX2_isUnder 12 = .ok (.iconst 3, 1) := by decide +kernel
theorem dX2_isUnder_13 : decode cX2_isUnder 13 = .ok (.if_icmp .ne 8, 3) := by decide +kernel
theorem dX2_isUnder_16 : decode cX2_isUnder 16 = .ok (.iload_n 1, 1) := by decide +kernel
theorem dX2_isUnder_17 : decode cX2_isUnder 17 = .ok (.iconst 1, 1) := by decide +kernel
theorem dX2_isUnder_18 : decode cX2_isUnder 18 = .ok (.if_icmp .eq 13, 3) := by decide +kernel
theorem dX2_isUnder_21 : decode cX2_isUnder 21 = .ok (.iload_n 0, 1) := by decide +kernel
theorem dX2_isUnder_22 : decode cX2_isUnder 22 = .ok (.iconst 4, 1) := by decide +kernel
theorem dX2_isUnder_23 : decode cX2_isUnder 23 = .ok (.if_icmp .ne 12, 3) := by decide +kernel
theorem dX2_isUnder_26 : decode cX2_isUnder 26 = .ok (.iload_n 1, 1) := by decide +kernel
theorem dX2_isUnder_27 : decode cX2_isUnder 27 = .ok (.iconst 2, 1) := by decide +kernel
theorem dX2_isUnder_28 : decode cX2_isUnder 28 = .ok (.if_icmp .ne 7, 3) := by decide +kernel
theorem dX2_isUnder_31 : decode cX2_isUnder 31 = .ok (.iconst 1, 1) := by decide +kernel
theorem dX2_isUnder_32 : decode cX2_isUnder 32 = .ok (.goto 4, 3) := by decide +kernel
theorem dX2_isUnder_35 : decode cX2_isUnder 35 = .ok (.iconst 0, 1) := by decide +kernel
theorem dX2_isUnder_36 : decode cX2_isUnder 36 = .ok (.ireturn, 1) := by decide +kernel
theorem dX2_takeFrom_0 : decode cX2_takeFrom 0 = .ok (.aload_n 0, 1) := by decide +kernel
theorem dX2_takeFrom_1 : decode cX2_takeFrom 1 = .ok (.aload_n 1, 1) := by decide +kernel
theorem dX2_takeFrom_2 : decode cX2_takeFrom 2 = .ok (.getfield 22, 3) := by decide +kernel
theorem dX2_takeFrom_5 : decode cX2_takeFrom 5 = .ok (.putfield 22, 3) := by decide +kernel
theorem dX2_takeFrom_8 : decode cX2_takeFrom 8 = .ok (.iconst 0, 1) := by decide +kernel
theorem dX2_takeFrom_9 : decode cX2_takeFrom 9 = .ok (.istore_n 2, 1) := by decide +kernel
theorem dX2_takeFrom_10 : decode cX2_takeFrom 10 = .ok (.iload_n 2, 1) := by decide +kernel
theorem dX2_takeFrom_11 : decode cX2_takeFrom 11 = .ok (.bipush 6, 2) := by decide +kernel
theorem dX2_takeFrom_13 : decode cX2_takeFrom 13 = .ok (.if_icmp .ge 24, 3) := by decide +kernel
theorem dX2_takeFrom_16 : decode cX2_takeFrom 16 = .ok (.aload_n 0, 1) := by decide +kernel
theorem dX2_takeFrom_17 : decode cX2_takeFrom 17 = .ok (.iload_n 2, 1) := by decide +kernel
theorem dX2_takeFrom_18 : decode cX2_takeFrom 18 = .ok (.aload_n 1, 1) := by decide +kernel
theorem dX2_takeFrom_19 : decode cX2_takeFrom 19 = .ok (.iload_n 2, 1) := by decide +kernel
theorem dX2_takeFrom_20 : decode cX2_takeFrom 20 = .ok (.invokevirtual 26, 3) := by decide +kernel
theorem dX2_takeFrom_23 : decode cX2_takeFrom 23 = .ok (.aload_n 1, 1) := by decide +kernel
theorem dX2_takeFrom_24 : decode cX2_takeFrom 24 = .ok (.iload_n 2, 1) := by decide +kernel
theorem dX2_takeFrom_25 : decode cX2_takeFrom 25 = .ok (.invokevirtual 30, 3) := by decide +kernel
theorem dX2_takeFrom_28 : decode cX2_takeFrom 28 = .ok (.invokevirtual 33, 3) := by decide +kernel
theorem dX2_takeFrom_31 : decode cX2_takeFrom 31 = .ok (.iinc 2 1, 3) := by decide +kernel
theorem dX2_takeFrom_34 : decode cX2_takeFrom 34 = .ok (.goto (-24), 3) := by decide +kernel
theorem dX2_takeFrom_37 : decode cX2_takeFrom 37 = .ok (.return_, 1) := by decide +kernel
theorem dX2_hasRoom_0 : decode cX2_hasRoom 0 = .ok (.aload_n 0, 1) := by decide +kernel
theorem dX2_hasRoom_1 : decode cX2_hasRoom 1 = .ok (.getfield 22, 3) := by decide +kernel
theorem dX2_hasRoom_4 : decode cX2_hasRoom 4 = .ok (.bipush 6, 2) := by decide +kernel
theorem dX2_hasRoom_6 : decode cX2_hasRoom 6 = .ok (.if_icmp .ge 7, 3) := by decide +kernel
theorem dX2_hasRoom_9 : decode cX2_hasRoom 9 = .ok (.iconst 1, 1) := by decide +kernel
theorem dX2_hasRoom_10 : decode cX2_hasRoom 10 = .ok (.goto 4, 3) := by decide +kernel
theorem dX2_hasRoom_13 : decode cX2_hasRoom 13 = .ok (.iconst 0, 1) := by decide +kernel
theorem dX2_hasRoom_14 : decode cX2_hasRoom 14 = .ok (.ireturn, 1) := by decide +kernel
theorem dX2_isThere_0 : decode cX2_isThere 0 = .ok (.iload_n 1, 1) := by decide +kernel
theorem dX2_isThere_1 : decode cX2_isThere 1 = .ok (.iconst 0, 1) := by decide +kernel
theorem dX2_isThere_2 : decode cX2_isThere 2 = .ok (.aload_n 0, 1) := by decide +kernel
theorem dX2_isThere_3 : decode cX2_isThere 3 = .ok (.getfield 22, 3) := by decide +kernel
theorem dX2_isThere_6 : decode cX2_isThere 6 = .ok (.iconst 1, 1) := by decide +kernel
theorem dX2_isThere_7 : decode cX2_isThere 7 = .ok (.isub, 1) := by decide +kernel
theorem dX2_isThere_8 : decode cX2_isThere 8 = .ok (.invokestatic 18, 3) := by decide +kernel
theorem dX2_isThere_11 : decode cX2_isThere 11 = .ok (.ireturn, 1) := by decide +kernel
theorem dX2_add_0 : decode cX2_add 0 = .ok (.aload_n 0, 1) := by decide +kernel
theorem dX2_add_1 : decode cX2_add 1 = .ok (.aload_n 0, 1) := by decide +kernel
theorem dX2_add_2 : decode cX2_add 2 = .ok (.getfield 22, 3) := by decide +kernel
theorem dX2_add_5 : decode cX2_add 5 = .ok (.iload_n 1, 1) := by decide +kernel
theorem dX2_add_6 : decode cX2_add 6 = .ok (.iload_n 2, 1) := by decide +kernel
theorem dX2_add_7 : decode cX2_add 7 = .ok (.invokevirtual 33, 3) := by decide +kernel
theorem dX2_add_10 : decode cX2_add 10 = .ok (.aload_n 0, 1) := by decide +kernel
theorem dX2_add_11 : decode cX2_add 11 = .ok (.dup, 1) := by decide +kernel
theorem dX2_add_12 : decode cX2_add 12 = .ok (.getfield 22, 3) := by decide +kernel
theorem dX2_add_15 : decode cX2_add 15 = .ok (.iconst 1, 1) := by decide +kernel
theorem dX2_add_16 : decode cX2_add 16 = .ok (.iadd, 1) := by decide +kernel
theorem dX2_add_17 : decode cX2_add 17 = .ok (.putfield 22, 3) := by decide +kernel
theorem dX2_add_20 : decode cX2_add 20 = .ok (.aload_n 0, 1) := by decide +kernel
theorem dX2_add_21 : decode cX2_add 21 = .ok (.getfield 22, 3) := by decide +kernel
theorem dX2_add_24 : decode cX2_add 24 = .ok (.iconst 1, 1) := by decide +kernel
theorem dX2_add_25 : decode cX2_add 25 = .ok (.isub, 1) := by decide +kernel
theorem dX2_add_26 : decode cX2_add 26 = .ok (.ireturn, 1) := by decide +kernel
theorem dX2_write_0 : decode cX2_write 0 = .ok (.iload_n 1, 1) := by decide +kernel
theorem dX2_write_1 : decode cX2_write 1 = .ok (.ifCond .lt 35, 3) := by decide +kernel
theorem dX2_write_4 : decode cX2_write 4 = .ok (.iload_n 1, 1) := by decide +kernel
theorem dX2_write_5 : decode cX2_write 5 = .ok (.aload_n 0, 1) := by decide +kernel
theorem dX2_write_6 : decode cX2_write 6 = .ok (.getfield 11, 3) := by decide +kernel
theorem dX2_write_9 : decode cX2_write 9 = .ok (.arraylength, 1) := by decide +kernel
theorem dX2_write_10 : decode cX2_write 10 = .ok (.if_icmp .ge 26, 3) := by decide +kernel
theorem dX2_write_13 : decode cX2_write 13 = .ok (.iload_n 1, 1) := by decide +kernel
theorem dX2_write_14 : decode cX2_write 14 = .ok (.aload_n 0, 1) := by decide +kernel
theorem dX2_write_15 : decode cX2_write 15 = .ok (.getfield 15, 3) := by decide +kernel
theorem dX2_write_18 : decode cX2_write 18 = .ok (.arraylength, 1) := by decide +kernel
theorem dX2_write_19 : decode cX2_write 19 = .ok (.if_icmp .ge 17, 3) := by decide +kernel
theorem dX2_write_22 : decode cX2_write 22 = .ok (.aload_n 0, 1) := by decide +kernel
theorem dX2_write_23 : decode cX2_write 23 = .ok (.getfield 11, 3) := by decide +kernel
theorem dX2_write_26 : decode cX2_write 26 = .ok (.iload_n 1, 1) := by decide +kernel
theorem dX2_write_27 : decode cX2_write 27 = .ok (.iload_n 2, 1) := by decide +kernel
theorem dX2_write_28 : decode cX2_write 28 = .ok (.iastore, 1) := by decide +kernel
theorem dX2_write_29 : decode cX2_write 29 = .ok (.aload_n 0, 1) := by decide +kernel
theorem dX2_write_30 : decode cX2_write 30 = .ok (.getfield 15, 3) := by decide +kernel
theorem dX2_write_33 : decode cX2_write 33 = .ok (.iload_n 1, 1) := by decide +kernel
theorem dX2_write_34 : decode cX2_write 34 = .ok (.iload_n 3, 1) := by decide +kernel
theorem dX2_write_35 : decode cX2_write 35 = .ok (.iastore, 1) := by decide +kernel
theorem dX2_write_36 : decode cX2_write 36 = .ok (.return_, 1) := by decide +kernel
theorem dX2_kindOf_0 : decode cX2_kindOf 0 = .ok (.aload_n 0, 1) := by decide +kernel
theorem dX2_kindOf_1 : decode cX2_kindOf 1 = .ok (.getfield 11, 3) := by decide +kernel
theorem dX2_kindOf_4 : decode cX2_kindOf 4 = .ok (.iload_n 1, 1) := by decide +kernel
theorem dX2_kindOf_5 : decode cX2_kindOf 5 = .ok (.iconst 0, 1) := by decide +kernel
theorem dX2_kindOf_6 : decode cX2_kindOf 6 = .ok (.invokestatic 37, 3) := by decide +kernel
theorem dX2_kindOf_9 : decode cX2_kindOf 9 = .ok (.ireturn, 1) := by decide +kernel
theorem dX2_tuneOf_0 : decode cX2_tuneOf 0 = .ok (.aload_n 0, 1) := by decide +kernel
theorem dX2_tuneOf_1 : decode cX2_tuneOf 1 = .ok (.getfield 15, 3) := by decide +kernel
theorem dX2_tuneOf_4 : decode cX2_tuneOf 4 = .ok (.iload_n 1, 1) := by decide +kernel
theorem dX2_tuneOf_5 : decode cX2_tuneOf 5 = .ok (.iconst 0, 1) := by decide +kernel
theorem dX2_tuneOf_6 : decode cX2_tuneOf 6 = .ok (.invokestatic 37, 3) := by decide +kernel
theorem dX2_tuneOf_9 : decode cX2_tuneOf 9 = .ok (.ireturn, 1) := by decide +kernel
theorem dX2_stepsLookedAhead_0 : decode cX2_stepsLookedAhead 0 = .ok (.iload_n 0, 1) := by decide +kernel
theorem dX2_stepsLookedAhead_1 : decode cX2_stepsLookedAhead 1 = .ok (.iconst 3, 1) := by decide +kernel
theorem dX2_stepsLookedAhead_2 : decode cX2_stepsLookedAhead 2 = .ok (.if_icmp .ne 9, 3) := by decide +kernel
theorem dX2_stepsLookedAhead_5 : decode cX2_stepsLookedAhead 5 = .ok (.iload_n 1, 1) := by decide +kernel
theorem dX2_stepsLookedAhead_6 : decode cX2_stepsLookedAhead 6 = .ok (.iconst 2, 1) := by decide +kernel
theorem dX2_stepsLookedAhead_7 : decode cX2_stepsLookedAhead 7 = .ok (.iadd, 1) := by decide +kernel
theorem dX2_stepsLookedAhead_8 : decode cX2_stepsLookedAhead 8 = .ok (.goto 6, 3) := by decide +kernel
theorem dX2_stepsLookedAhead_11 : decode cX2_stepsLookedAhead 11 = .ok (.iload_n 1, 1) := by decide +kernel
theorem dX2_stepsLookedAhead_12 : decode cX2_stepsLookedAhead 12 = .ok (.iconst 1, 1) := by decide +kernel
theorem dX2_stepsLookedAhead_13 : decode cX2_stepsLookedAhead 13 = .ok (.iadd, 1) := by decide +kernel
theorem dX2_stepsLookedAhead_14 : decode cX2_stepsLookedAhead 14 = .ok (.ireturn, 1) := by decide +kernel
theorem dX2_strikesAt_0 : decode cX2_strikesAt 0 = .ok (.aload_n 0, 1) := by decide +kernel
theorem dX2_strikesAt_1 : decode cX2_strikesAt 1 = .ok (.iload_n 1, 1) := by decide +kernel
theorem dX2_strikesAt_2 : decode cX2_strikesAt 2 = .ok (.invokevirtual 41, 3) := by decide +kernel
theorem dX2_strikesAt_5 : decode cX2_strikesAt 5 = .ok (.ifCond .ne 5, 3) := by decide +kernel
theorem dX2_strikesAt_8 : decode cX2_strikesAt 8 = .ok (.iconst 0, 1) := by decide +kernel
theorem dX2_strikesAt_9 : decode cX2_strikesAt 9 = .ok (.ireturn, 1) := by decide +kernel
theorem dX2_strikesAt_10 : decode cX2_strikesAt 10 = .ok (.aload_n 0, 1) := by decide +kernel
theorem dX2_strikesAt_11 : decode cX2_strikesAt 11 = .ok (.iload_n 1, 1) := by decide +kernel
theorem dX2_strikesAt_12 : decode cX2_strikesAt 12 = .ok (.invokevirtual 26, 3) := by decide +kernel
theorem dX2_strikesAt_15 : decode cX2_strikesAt 15 = .ok (.istore 6, 2) := by decide +kernel
theorem dX2_strikesAt_17 : decode cX2_strikesAt 17 = .ok (.aload_n 0, 1) := by decide +kernel
theorem dX2_strikesAt_18 : decode cX2_strikesAt 18 = .ok (.iload_n 1, 1) := by decide +kernel
theorem dX2_strikesAt_19 : decode cX2_strikesAt 19 = .ok (.invokevirtual 30, 3) := by decide +kernel
theorem dX2_strikesAt_22 : decode cX2_strikesAt 22 = .ok (.istore 7, 2) := by decide +kernel
theorem dX2_strikesAt_24 : decode cX2_strikesAt 24 = .ok (.iload 6, 2) := by decide +kernel
theorem dX2_strikesAt_26 : decode cX2_strikesAt 26 = .ok (.tableswitch 110 1 5 #[34, 51, 34, 65, 100], 34) := by decide +kernel
theorem dX2_strikesAt_60 : decode cX2_strikesAt 60 = .ok (.lload_n 2, 1) := by decide +kernel
theorem dX2_strikesAt_61 : decode cX2_strikesAt 61 = .ok (.iload 4, 2) := by decide +kernel
theorem dX2_strikesAt_63 : decode cX2_strikesAt 63 = .ok (.iload 5, 2) := by decide +kernel
theorem dX2_strikesAt_65 : decode cX2_strikesAt 65 = .ok (.iload 6, 2) := by decide +kernel
theorem dX2_strikesAt_67 : decode cX2_strikesAt 67 = .ok (.iload 7, 2) := by decide +kernel
theorem dX2_strikesAt_69 : decode cX2_strikesAt 69 = .ok (.invokestatic 45, 3) := by decide +kernel
theorem dX2_strikesAt_72 : decode cX2_strikesAt 72 = .ok (.isub, 1) := by decide +kernel
theorem dX2_strikesAt_73 : decode cX2_strikesAt 73 = .ok (.invokestatic 49, 3) := by decide +kernel
theorem dX2_strikesAt_76 : decode cX2_strikesAt 76 = .ok (.ireturn, 1) := by decide +kernel
theorem dX2_strikesAt_77 : decode cX2_strikesAt 77 = .ok (.lload_n 2, 1) := by decide +kernel
theorem dX2_strikesAt_78 : decode cX2_strikesAt 78 = .ok (.iload 4, 2) := by decide +kernel
theorem dX2_strikesAt_80 : decode cX2_strikesAt 80 = .ok (.iload 5, 2) := by decide +kernel
theorem dX2_strikesAt_82 : decode cX2_strikesAt 82 = .ok (.iload 7, 2) := by decide +kernel
theorem dX2_strikesAt_84 : decode cX2_strikesAt 84 = .ok (.isub, 1) := by decide +kernel
theorem dX2_strikesAt_85 : decode cX2_strikesAt 85 = .ok (.iload 5, 2) := by decide +kernel
theorem dX2_strikesAt_87 : decode cX2_strikesAt 87 = .ok (.invokestatic 53, 3) := by decide +kernel
theorem dX2_strikesAt_90 : decode cX2_strikesAt 90 = .ok (.ireturn, 1) := by decide +kernel
theorem dX2_strikesAt_91 : decode cX2_strikesAt 91 = .ok (.lload_n 2, 1) := by decide +kernel
theorem dX2_strikesAt_92 : decode cX2_strikesAt 92 = .ok (.iload 4, 2) := by decide +kernel
theorem dX2_strikesAt_94 : decode cX2_strikesAt 94 = .ok (.iload 5, 2) := by decide +kernel
theorem dX2_strikesAt_96 : decode cX2_strikesAt 96 = .ok (.invokestatic 57, 3) := by decide +kernel
theorem dX2_strikesAt_99 : decode cX2_strikesAt 99 = .ok (.ifCond .eq 25, 3) := by decide +kernel
theorem dX2_strikesAt_102 : decode cX2_strikesAt 102 = .ok (.lload_n 2, 1) := by decide +kernel
theorem dX2_strikesAt_103 : decode cX2_strikesAt 103 = .ok (.iload 4, 2) := by decide +kernel
theorem dX2_strikesAt_105 : decode cX2_strikesAt 105 = .ok (.iload 5, 2) := by decide +kernel
theorem dX2_strikesAt_107 : decode cX2_strikesAt 107 = .ok (.invokestatic 60, 3) := by decide +kernel
theorem dX2_strikesAt_110 : decode cX2_strikesAt 110 = .ok (.iload 7, 2) := by decide +kernel
theorem dX2_strikesAt_112 : decode cX2_strikesAt 112 = .ok (.iconst 1, 1) := by decide +kernel
theorem dX2_strikesAt_113 : decode cX2_strikesAt 113 = .ok (.iadd, 1) := by decide +kernel
theorem dX2_strikesAt_114 : decode cX2_strikesAt 114 = .ok (.invokestatic 64, 3) := by decide +kernel
theorem dX2_strikesAt_117 : decode cX2_strikesAt 117 = .ok (.ifCond .eq 7, 3) := by decide +kernel
theorem dX2_strikesAt_120 : decode cX2_strikesAt 120 = .ok (.iconst 1, 1) := by decide +kernel
theorem dX2_strikesAt_121 : decode cX2_strikesAt 121 = .ok (.goto 4, 3) := by decide +kernel
theorem dX2_strikesAt_124 : decode cX2_strikesAt 124 = .ok (.iconst 0, 1) := by decide +kernel
theorem dX2_strikesAt_125 : decode cX2_strikesAt 125 = .ok (.ireturn, 1) := by decide +kernel
theorem dX2_strikesAt_126 : decode cX2_strikesAt 126 = .ok (.iload 5, 2) := by decide +kernel
theorem dX2_strikesAt_128 : decode cX2_strikesAt 128 = .ok (.iload 7, 2) := by decide +kernel
theorem dX2_strikesAt_130 : decode cX2_strikesAt 130 = .ok (.iconst 2, 1) := by decide +kernel
theorem dX2_strikesAt_131 : decode cX2_strikesAt 131 = .ok (.iadd, 1) := by decide +kernel
theorem dX2_strikesAt_132 : decode cX2_strikesAt 132 = .ok (.invokestatic 64, 3) := by decide +kernel
theorem dX2_strikesAt_135 : decode cX2_strikesAt 135 = .ok (.ireturn, 1) := by decide +kernel
theorem dX2_strikesAt_136 : decode cX2_strikesAt 136 = .ok (.lload_n 2, 1) := by decide +kernel
theorem dX2_strikesAt_137 : decode cX2_strikesAt 137 = .ok (.iload 4, 2) := by decide +kernel
theorem dX2_strikesAt_139 : decode cX2_strikesAt 139 = .ok (.iload 5, 2) := by decide +kernel
theorem dX2_strikesAt_141 : decode cX2_strikesAt 141 = .ok (.invokestatic 57, 3) := by decide +kernel
theorem dX2_strikesAt_144 : decode cX2_strikesAt 144 = .ok (.ireturn, 1) := by decide +kernel
theorem dX2_isStrokeAt_0 : decode cX2_isStrokeAt 0 = .ok (.iload_n 2, 1) := by decide +kernel
theorem dX2_isStrokeAt_1 : decode cX2_isStrokeAt 1 = .ok (.ifCond .le 21, 3) := by decide +kernel
theorem dX2_isStrokeAt_4 : decode cX2_isStrokeAt 4 = .ok (.iload_n 3, 1) := by decide +kernel
theorem dX2_isStrokeAt_5 : decode cX2_isStrokeAt 5 = .ok (.ifCond .lt 17, 3) := by decide +kernel
theorem dX2_isStrokeAt_8 : decode cX2_isStrokeAt 8 = .ok (.lload_n 0, 1) := by decide +kernel
theorem dX2_isStrokeAt_9 : decode cX2_isStrokeAt 9 = .ok (.iload_n 3, 1) := by decide +kernel
theorem dX2_isStrokeAt_10 : decode cX2_isStrokeAt 10 = .ok (.iload_n 2, 1) := by decide +kernel
theorem dX2_isStrokeAt_11 : decode cX2_isStrokeAt 11 = .ok (.irem, 1) := by decide +kernel
theorem dX2_isStrokeAt_12 : decode cX2_isStrokeAt 12 = .ok (.invokestatic 68, 3) := by decide +kernel
theorem dX2_isStrokeAt_15 : decode cX2_isStrokeAt 15 = .ok (.ifCond .eq 7, 3) := by decide +kernel
theorem dX2_isStrokeAt_18 : decode cX2_isStrokeAt 18 = .ok (.iconst 1, 1) := by decide +kernel
theorem dX2_isStrokeAt_19 : decode cX2_isStrokeAt 19 = .ok (.goto 4, 3) := by decide +kernel
theorem dX2_isStrokeAt_22 : decode cX2_isStrokeAt 22 = .ok (.iconst 0, 1) := by decide +kernel
theorem dX2_isStrokeAt_23 : decode cX2_isStrokeAt 23 = .ok (.ireturn, 1) := by decide +kernel
theorem dX2_isGapAt_0 : decode cX2_isGapAt 0 = .ok (.iload_n 2, 1) := by decide +kernel
theorem dX2_isGapAt_1 : decode cX2_isGapAt 1 = .ok (.ifCond .le 21, 3) := by decide +kernel
theorem dX2_isGapAt_4 : decode cX2_isGapAt 4 = .ok (.iload_n 3, 1) := by decide +kernel
theorem dX2_isGapAt_5 : decode cX2_isGapAt 5 = .ok (.ifCond .lt 17, 3) := by decide +kernel
theorem dX2_isGapAt_8 : decode cX2_isGapAt 8 = .ok (.lload_n 0, 1) := by decide +kernel
theorem dX2_isGapAt_9 : decode cX2_isGapAt 9 = .ok (.iload_n 3, 1) := by decide +kernel
theorem dX2_isGapAt_10 : decode cX2_isGapAt 10 = .ok (.iload_n 2, 1) := by decide +kernel
theorem dX2_isGapAt_11 : decode cX2_isGapAt 11 = .ok (.irem, 1) := by decide +kernel
theorem dX2_isGapAt_12 : decode cX2_isGapAt 12 = .ok (.invokestatic 68, 3) := by decide +kernel
theorem dX2_isGapAt_15 : decode cX2_isGapAt 15 = .ok (.ifCond .ne 7, 3) := by decide +kernel
theorem dX2_isGapAt_18 : decode cX2_isGapAt 18 = .ok (.iconst 1, 1) := by decide +kernel
theorem dX2_isGapAt_19 : decode cX2_isGapAt 19 = .ok (.goto 4, 3) := by decide +kernel
theorem dX2_isGapAt_22 : decode cX2_isGapAt 22 = .ok (.iconst 0, 1) := by decide +kernel
theorem dX2_isGapAt_23 : decode cX2_isGapAt 23 = .ok (.ireturn, 1) := by decide +kernel
theorem dX2_areGaps_0 : decode cX2_areGaps 0 = .ok (.iload_n 2, 1) := by decide +kernel
theorem dX2_areGaps_1 : decode cX2_areGaps 1 = .ok (.ifCond .le 7, 3) := by decide +kernel
theorem dX2_areGaps_4 : decode cX2_areGaps 4 = .ok (.iload_n 3, 1) := by decide +kernel
theorem dX2_areGaps_5 : decode cX2_areGaps 5 = .ok (.ifCond .ge 5, 3) := by decide +kernel
theorem dX2_areGaps_8 : decode cX2_areGaps 8 = .ok (.iconst 0, 1) := by decide +kernel
theorem dX2_areGaps_9 : decode cX2_areGaps 9 = .ok (.ireturn, 1) := by decide +kernel
theorem dX2_areGaps_10 : decode cX2_areGaps 10 = .ok (.iload_n 3, 1) := by decide +kernel
theorem dX2_areGaps_11 : decode cX2_areGaps 11 = .ok (.istore 5, 2) := by decide +kernel
theorem dX2_areGaps_13 : decode cX2_areGaps 13 = .ok (.iload 5, 2) := by decide +kernel
theorem dX2_areGaps_15 : decode cX2_areGaps 15 = .ok (.iload 4, 2) := by decide +kernel
theorem dX2_areGaps_17 : decode cX2_areGaps 17 = .ok (.if_icmp .gt 22, 3) := by decide +kernel
theorem dX2_areGaps_20 : decode cX2_areGaps 20 = .ok (.lload_n 0, 1) := by decide +kernel
theorem dX2_areGaps_21 : decode cX2_areGaps 21 = .ok (.iload 5, 2) := by decide +kernel
theorem dX2_areGaps_23 : decode cX2_areGaps 23 = .ok (.iload_n 2, 1) := by decide +kernel
theorem dX2_areGaps_24 : decode cX2_areGaps 24 = .ok (.irem, 1) := by decide +kernel
theorem dX2_areGaps_25 : decode cX2_areGaps 25 = .ok (.invokestatic 68, 3) := by decide +kernel
theorem dX2_areGaps_28 : decode cX2_areGaps 28 = .ok (.ifCond .eq 5, 3) := by decide +kernel
theorem dX2_areGaps_31 : decode cX2_areGaps 31 = .ok (.iconst 0, 1) := by decide +kernel
theorem dX2_areGaps_32 : decode cX2_areGaps 32 = .ok (.ireturn, 1) := by decide +kernel
theorem dX2_areGaps_33 : decode cX2_areGaps 33 = .ok (.iinc 5 1, 3) := by decide +kernel
theorem dX2_areGaps_36 : decode cX2_areGaps 36 = .ok (.goto (-23), 3) := by decide +kernel
theorem dX2_areGaps_39 : decode cX2_areGaps 39 = .ok (.iconst 1, 1) := by decide +kernel
theorem dX2_areGaps_40 : decode cX2_areGaps 40 = .ok (.ireturn, 1) := by decide +kernel
theorem dX2_strokesAhead_0 : decode cX2_strokesAhead 0 = .ok (.iload_n 2, 1) := by decide +kernel
theorem dX2_strokesAhead_1 : decode cX2_strokesAhead 1 = .ok (.ifCond .le 7, 3) := by decide +kernel
theorem dX2_strokesAhead_4 : decode cX2_strokesAhead 4 = .ok (.iload_n 3, 1) := by decide +kernel
theorem dX2_strokesAhead_5 : decode cX2_strokesAhead 5 = .ok (.ifCond .ge 5, 3) := by decide +kernel
theorem dX2_strokesAhead_8 : decode cX2_strokesAhead 8 = .ok (.iconst 0, 1) := by decide +kernel
theorem dX2_strokesAhead_9 : decode cX2_strokesAhead 9 = .ok (.ireturn, 1) := by decide +kernel
theorem dX2_strokesAhead_10 : decode cX2_strokesAhead 10 = .ok (.iload_n 3, 1) := by decide +kernel
theorem dX2_strokesAhead_11 : decode cX2_strokesAhead 11 = .ok (.iload_n 2, 1) := by decide +kernel
theorem dX2_strokesAhead_12 : decode cX2_strokesAhead 12 = .ok (.idiv, 1) := by decide +kernel
theorem dX2_strokesAhead_13 : decode cX2_strokesAhead 13 = .ok (.lload_n 0, 1) := by decide +kernel
theorem dX2_strokesAhead_14 : decode cX2_strokesAhead 14 = .ok (.invokestatic 72, 3) := by decide +kernel
theorem dX2_strokesAhead_17 : decode cX2_strokesAhead 17 = .ok (.imul, 1) := by decide +kernel
theorem dX2_strokesAhead_18 : decode cX2_strokesAhead 18 = .ok (.lload_n 0, 1) := by decide +kernel
theorem dX2_strokesAhead_19 : decode cX2_strokesAhead 19 = .ok (.iload_n 3, 1) := by decide +kernel
theorem dX2_strokesAhead_20 : decode cX2_strokesAhead 20 = .ok (.iload_n 2, 1) := by decide +kernel
theorem dX2_strokesAhead_21 : decode cX2_strokesAhead 21 = .ok (.irem, 1) := by decide +kernel
theorem dX2_strokesAhead_22 : decode cX2_strokesAhead 22 = .ok (.invokestatic 78, 3) := by decide +kernel
theorem dX2_strokesAhead_25 : decode cX2_strokesAhead 25 = .ok (.land, 1) := by decide +kernel
theorem dX2_strokesAhead_26 : decode cX2_strokesAhead 26 = .ok (.invokestatic 72, 3) := by decide +kernel
theorem dX2_strokesAhead_29 : decode cX2_strokesAhead 29 = .ok (.iadd, 1) := by decide +kernel
theorem dX2_strokesAhead_30 : decode cX2_strokesAhead 30 = .ok (.ireturn, 1) := by decide +kernel
theorem dX2_struck_0 : decode cX2_struck 0 = .ok (.lconst 0, 1) := by decide +kernel
theorem dX2_struck_1 : decode cX2_struck 1 = .ok (.lstore 6, 2) := by decide +kernel
theorem dX2_struck_3 : decode cX2_struck 3 = .ok (.iconst 0, 1) := by decide +kernel
theorem dX2_struck_4 : decode cX2_struck 4 = .ok (.istore 8, 2) := by decide +kernel
theorem dX2_struck_6 : decode cX2_struck 6 = .ok (.iload 8, 2) := by decide +kernel
theorem dX2_struck_8 : decode cX2_struck 8 = .ok (.iload 4, 2) := by decide +kernel
theorem dX2_struck_10 : decode cX2_struck 10 = .ok (.if_icmp .ge 34, 3) := by decide +kernel
theorem dX2_struck_13 : decode cX2_struck 13 = .ok (.aload_n 0, 1) := by decide +kernel
theorem dX2_struck_14 : decode cX2_struck 14 = .ok (.iload_n 1, 1) := by decide +kernel
theorem dX2_struck_15 : decode cX2_struck 15 = .ok (.lload_n 2, 1) := by decide +kernel
theorem dX2_struck_16 : decode cX2_struck 16 = .ok (.iload 4, 2) := by decide +kernel
theorem dX2_struck_18 : decode cX2_struck 18 = .ok (.iload 5, 2) := by decide +kernel
theorem dX2_struck_20 : decode cX2_struck 20 = .ok (.iload 8, 2) := by decide +kernel
theorem dX2_struck_22 : decode cX2_struck 22 = .ok (.iadd, 1) := by decide +kernel
theorem dX2_struck_23 : decode cX2_struck 23 = .ok (.invokevirtual 82, 3) := by decide +kernel
theorem dX2_struck_26 : decode cX2_struck 26 = .ok (.ifCond .eq 12, 3) := by decide +kernel
theorem dX2_struck_29 : decode cX2_struck 29 = .ok (.lload 6, 2) := by decide +kernel
theorem dX2_struck_31 : decode cX2_struck 31 = .ok (.lconst 1, 1) := by decide +kernel
theorem dX2_struck_32 : decode cX2_struck 32 = .ok (.iload 8, 2) := by decide +kernel
theorem dX2_struck_34 : decode cX2_struck 34 = .ok (.lshl, 1) := by decide +kernel
theorem dX2_struck_35 : decode cX2_struck 35 = .ok (.lor, 1) := by decide +kernel
theorem dX2_struck_36 : decode cX2_struck 36 = .ok (.lstore 6, 2) := by decide +kernel
theorem dX2_struck_38 : decode cX2_struck 38 = .ok (.iinc 8 1, 3) := by decide +kernel
theorem dX2_struck_41 : decode cX2_struck 41 = .ok (.goto (-35), 3) := by decide +kernel
theorem dX2_struck_44 : decode cX2_struck 44 = .ok (.lload 6, 2) := by decide +kernel
theorem dX2_struck_46 : decode cX2_struck 46 = .ok (.lreturn, 1) := by decide +kernel
theorem dX2_strikesJustAt_0 : decode cX2_strikesJustAt 0 = .ok (.iconst 0, 1) := by decide +kernel
theorem dX2_strikesJustAt_1 : decode cX2_strikesJustAt 1 = .ok (.istore 6, 2) := by decide +kernel
theorem dX2_strikesJustAt_3 : decode cX2_strikesJustAt 3 = .ok (.iload 6, 2) := by decide +kernel
theorem dX2_strikesJustAt_5 : decode cX2_strikesJustAt 5 = .ok (.iload 4, 2) := by decide +kernel
theorem dX2_strikesJustAt_7 : decode cX2_strikesJustAt 7 = .ok (.if_icmp .ge 32, 3) := by decide +kernel
theorem dX2_strikesJustAt_10 : decode cX2_strikesJustAt 10 = .ok (.aload_n 0, 1) := by decide +kernel
theorem dX2_strikesJustAt_11 : decode cX2_strikesJustAt 11 = .ok (.iload_n 1, 1) := by decide +kernel
theorem dX2_strikesJustAt_12 : decode cX2_strikesJustAt 12 = .ok (.lload_n 2, 1) := by decide +kernel
theorem dX2_strikesJustAt_13 : decode cX2_strikesJustAt 13 = .ok (.iload 4, 2) := by decide +kernel
theorem dX2_strikesJustAt_15 : decode cX2_strikesJustAt 15 = .ok (.iload 6, 2) := by decide +kernel
theorem dX2_strikesJustAt_17 : decode cX2_strikesJustAt 17 = .ok (.invokevirtual 82, 3) := by decide +kernel
theorem dX2_strikesJustAt_20 : decode cX2_strikesJustAt 20 = .ok (.iload 5, 2) := by decide +kernel
theorem dX2_strikesJustAt_22 : decode cX2_strikesJustAt 22 = .ok (.i2l, 1) := by decide +kernel
theorem dX2_strikesJustAt_23 : decode cX2_strikesJustAt 23 = .ok (.iload 6, 2) := by decide +kernel
theorem dX2_strikesJustAt_25 : decode cX2_strikesJustAt 25 = .ok (.invokestatic 68, 3) := by decide +kernel
theorem dX2_strikesJustAt_28 : decode cX2_strikesJustAt 28 = .ok (.if_icmp .eq 5, 3) := by decide +kernel
theorem dX2_strikesJustAt_31 : decode cX2_strikesJustAt 31 = .ok (.iconst 0, 1) := by decide +kernel
theorem dX2_strikesJustAt_32 : decode cX2_strikesJustAt 32 = .ok (.ireturn, 1) := by decide +kernel
theorem dX2_strikesJustAt_33 : decode cX2_strikesJustAt 33 = .ok (.iinc 6 1, 3) := by decide +kernel
theorem dX2_strikesJustAt_36 : decode cX2_strikesJustAt 36 = .ok (.goto (-33), 3) := by decide +kernel
theorem dX2_strikesJustAt_39 : decode cX2_strikesJustAt 39 = .ok (.iconst 1, 1) := by decide +kernel
theorem dX2_strikesJustAt_40 : decode cX2_strikesJustAt 40 = .ok (.ireturn, 1) := by decide +kernel
theorem dX2_leastRingStruckAt_0 : decode cX2_leastRingStruckAt 0 = .ok (.iconst (-1), 1) := by decide +kernel
theorem dX2_leastRingStruckAt_1 : decode cX2_leastRingStruckAt 1 = .ok (.istore 4, 2) := by decide +kernel
theorem dX2_leastRingStruckAt_3 : decode cX2_leastRingStruckAt 3 = .ok (.iload_n 2, 1) := by decide +kernel
theorem dX2_leastRingStruckAt_4 : decode cX2_leastRingStruckAt 4 = .ok (.iconst 1, 1) := by decide +kernel
theorem dX2_leastRingStruckAt_5 : decode cX2_leastRingStruckAt 5 = .ok (.iadd, 1) := by decide +kernel
theorem dX2_leastRingStruckAt_6 : decode cX2_leastRingStruckAt 6 = .ok (.istore 5, 2) := by decide +kernel
theorem dX2_leastRingStruckAt_8 : decode cX2_leastRingStruckAt 8 = .ok (.iconst 0, 1) := by decide +kernel
theorem dX2_leastRingStruckAt_9 : decode cX2_leastRingStruckAt 9 = .ok (.istore 6, 2) := by decide +kernel
theorem dX2_leastRingStruckAt_11 : decode cX2_leastRingStruckAt 11 = .ok (.iload 6, 2) := by decide +kernel
theorem dX2_leastRingStruckAt_13 : decode cX2_leastRingStruckAt 13 = .ok (.iconst 1, 1) := by decide +kernel
theorem dX2_leastRingStruckAt_14 : decode cX2_leastRingStruckAt 14 = .ok (.iload_n 2, 1) := by decide +kernel
theorem dX2_leastRingStruckAt_15 : decode cX2_leastRingStruckAt 15 = .ok (.ishl, 1) := by decide +kernel
theorem dX2_leastRingStruckAt_16 : decode cX2_leastRingStruckAt 16 = .ok (.if_icmp .ge 44, 3) := by decide +kernel
theorem dX2_leastRingStruckAt_19 : decode cX2_leastRingStruckAt 19 = .ok (.iload 6, 2) := by decide +kernel
theorem dX2_leastRingStruckAt_21 : decode cX2_leastRingStruckAt 21 = .ok (.invokestatic 86, 3) := by decide +kernel
theorem dX2_leastRingStruckAt_24 : decode cX2_leastRingStruckAt 24 = .ok (.istore 7, 2) := by decide +kernel
theorem dX2_leastRingStruckAt_26 : decode cX2_leastRingStruckAt 26 = .ok (.iload 7, 2) := by decide +kernel
theorem dX2_leastRingStruckAt_28 : decode cX2_leastRingStruckAt 28 = .ok (.iload 5, 2) := by decide +kernel
theorem dX2_leastRingStruckAt_30 : decode cX2_leastRingStruckAt 30 = .ok (.if_icmp .ge 24, 3) := by decide +kernel
theorem dX2_leastRingStruckAt_33 : decode cX2_leastRingStruckAt 33 = .ok (.aload_n 0, 1) := by decide +kernel
theorem dX2_leastRingStruckAt_34 : decode cX2_leastRingStruckAt 34 = .ok (.iload_n 1, 1) := by decide +kernel
theorem dX2_leastRingStruckAt_35 : decode cX2_leastRingStruckAt 35 = .ok (.iload 6, 2) := by decide +kernel
theorem dX2_leastRingStruckAt_37 : decode cX2_leastRingStruckAt 37 = .ok (.i2l, 1) := by decide +kernel
theorem dX2_leastRingStruckAt_38 : decode cX2_leastRingStruckAt 38 = .ok (.iload_n 2, 1) := by decide +kernel
theorem dX2_leastRingStruckAt_39 : decode cX2_leastRingStruckAt 39 = .ok (.iload_n 3, 1) := by decide +kernel
theorem dX2_leastRingStruckAt_40 : decode cX2_leastRingStruckAt 40 = .ok (.invokevirtual 90, 3) := by decide +kernel
theorem dX2_leastRingStruckAt_43 : decode cX2_leastRingStruckAt 43 = .ok (.ifCond .eq 11, 3) := by decide +kernel
theorem dX2_leastRingStruckAt_46 : decode cX2_leastRingStruckAt 46 = .ok (.iload 6, 2) := by decide +kernel
theorem dX2_leastRingStruckAt_48 : decode cX2_leastRingStruckAt 48 = .ok (.istore 4, 2) := by decide +kernel
theorem dX2_leastRingStruckAt_50 : decode cX2_leastRingStruckAt 50 = .ok (.iload 7, 2) := by decide +kernel
theorem dX2_leastRingStruckAt_52 : decode cX2_leastRingStruckAt 52 = .ok (.istore 5, 2) := by decide +kernel
theorem dX2_leastRingStruckAt_54 : decode cX2_leastRingStruckAt 54 = .ok (.iinc 6 1, 3) := by decide +kernel
theorem dX2_leastRingStruckAt_57 : decode cX2_leastRingStruckAt 57 = .ok (.goto (-46), 3) := by decide +kernel
theorem dX2_leastRingStruckAt_60 : decode cX2_leastRingStruckAt 60 = .ok (.iload 4, 2) := by decide +kernel
theorem dX2_leastRingStruckAt_62 : decode cX2_leastRingStruckAt 62 = .ok (.ireturn, 1) := by decide +kernel
theorem dX2_firstPartingRing_0 : decode cX2_firstPartingRing 0 = .ok (.iconst 0, 1) := by decide +kernel
theorem dX2_firstPartingRing_1 : decode cX2_firstPartingRing 1 = .ok (.istore 4, 2) := by decide +kernel
theorem dX2_firstPartingRing_3 : decode cX2_firstPartingRing 3 = .ok (.iload 4, 2) := by decide +kernel
theorem dX2_firstPartingRing_5 : decode cX2_firstPartingRing 5 = .ok (.iconst 1, 1) := by decide +kernel
theorem dX2_firstPartingRing_6 : decode cX2_firstPartingRing 6 = .ok (.iload_n 3, 1) := by decide +kernel
theorem dX2_firstPartingRing_7 : decode cX2_firstPartingRing 7 = .ok (.ishl, 1) := by decide +kernel
theorem dX2_firstPartingRing_8 : decode cX2_firstPartingRing 8 = .ok (.if_icmp .ge 39, 3) := by decide +kernel
theorem dX2_firstPartingRing_11 : decode cX2_firstPartingRing 11 = .ok (.aload_n 0, 1) := by decide +kernel
theorem dX2_firstPartingRing_12 : decode cX2_firstPartingRing 12 = .ok (.iload_n 1, 1) := by decide +kernel
theorem dX2_firstPartingRing_13 : decode cX2_firstPartingRing 13 = .ok (.iload 4, 2) := by decide +kernel
theorem dX2_firstPartingRing_15 : decode cX2_firstPartingRing 15 = .ok (.i2l, 1) := by decide +kernel
theorem dX2_firstPartingRing_16 : decode cX2_firstPartingRing 16 = .ok (.iload_n 3, 1) := by decide +kernel
theorem dX2_firstPartingRing_17 : decode cX2_firstPartingRing 17 = .ok (.iload_n 3, 1) := by decide +kernel
theorem dX2_firstPartingRing_18 : decode cX2_firstPartingRing 18 = .ok (.iconst 1, 1) := by decide +kernel
theorem dX2_firstPartingRing_19 : decode cX2_firstPartingRing 19 = .ok (.isub, 1) := by decide +kernel
theorem dX2_firstPartingRing_20 : decode cX2_firstPartingRing 20 = .ok (.invokevirtual 82, 3) := by decide +kernel
theorem dX2_firstPartingRing_23 : decode cX2_firstPartingRing 23 = .ok (.aload_n 0, 1) := by decide +kernel
theorem dX2_firstPartingRing_24 : decode cX2_firstPartingRing 24 = .ok (.iload_n 2, 1) := by decide +kernel
theorem dX2_firstPartingRing_25 : decode cX2_firstPartingRing 25 = .ok (.iload 4, 2) := by decide +kernel
theorem dX2_firstPartingRing_27 : decode cX2_firstPartingRing 27 = .ok (.i2l, 1) := by decide +kernel
theorem dX2_firstPartingRing_28 : decode cX2_firstPartingRing 28 = .ok (.iload_n 3, 1) := by decide +kernel
theorem dX2_firstPartingRing_29 : decode cX2_firstPartingRing 29 = .ok (.iload_n 3, 1) := by decide +kernel
theorem dX2_firstPartingRing_30 : decode cX2_firstPartingRing 30 = .ok (.iconst 1, 1) := by decide +kernel
theorem dX2_firstPartingRing_31 : decode cX2_firstPartingRing 31 = .ok (.isub, 1) := by decide +kernel
theorem dX2_firstPartingRing_32 : decode cX2_firstPartingRing 32 = .ok (.invokevirtual 82, 3) := by decide +kernel
theorem dX2_firstPartingRing_35 : decode cX2_firstPartingRing 35 = .ok (.if_icmp .eq 6, 3) := by decide +kernel
theorem dX2_firstPartingRing_38 : decode cX2_firstPartingRing 38 = .ok (.iload 4, 2) := by decide +kernel
theorem dX2_firstPartingRing_40 : decode cX2_firstPartingRing 40 = .ok (.ireturn, 1) := by decide +kernel
theorem dX2_firstPartingRing_41 : decode cX2_firstPartingRing 41 = .ok (.iinc 4 1, 3) := by decide +kernel
theorem dX2_firstPartingRing_44 : decode cX2_firstPartingRing 44 = .ok (.goto (-41), 3) := by decide +kernel
theorem dX2_firstPartingRing_47 : decode cX2_firstPartingRing 47 = .ok (.iconst (-1), 1) := by decide +kernel
theorem dX2_firstPartingRing_48 : decode cX2_firstPartingRing 48 = .ok (.ireturn, 1) := by decide +kernel
theorem dX3_init_0 : decode cX3_init 0 = .ok (.aload_n 0, 1) := by decide +kernel
theorem dX3_init_1 : decode cX3_init 1 = .ok (.invokespecial 3, 3) := by decide +kernel
theorem dX3_init_4 : decode cX3_init 4 = .ok (.aload_n 0, 1) := by decide +kernel
theorem dX3_init_5 : decode cX3_init 5 = .ok (.bipush 10, 2) := by decide +kernel
theorem dX3_init_7 : decode cX3_init 7 = .ok (.newarray .int, 2) := by decide +kernel
theorem dX3_init_9 : decode cX3_init 9 = .ok (.putfield 11, 3) := by decide +kernel
theorem dX3_init_12 : decode cX3_init 12 = .ok (.aload_n 0, 1) := by decide +kernel
theorem dX3_init_13 : decode cX3_init 13 = .ok (.bipush 16, 2) := by decide +kernel
theorem dX3_init_15 : decode cX3_init 15 = .ok (.newarray .long, 2) := by decide +kernel
theorem dX3_init_17 : decode cX3_init 17 = .ok (.putfield 15, 3) := by decide +kernel
theorem dX3_init_20 : decode cX3_init 20 = .ok (.return_, 1) := by decide +kernel
theorem dX3_takeFrom_0 : decode cX3_takeFrom 0 = .ok (.aload_n 0, 1) := by decide +kernel
theorem dX3_takeFrom_1 : decode cX3_takeFrom 1 = .ok (.aload_n 1, 1) := by decide +kernel
theorem dX3_takeFrom_2 : decode cX3_takeFrom 2 = .ok (.getfield 19, 3) := by decide +kernel
theorem dX3_takeFrom_5 : decode cX3_takeFrom 5 = .ok (.putfield 19, 3) := by decide +kernel
theorem dX3_takeFrom_8 : decode cX3_takeFrom 8 = .ok (.iconst 0, 1) := by decide +kernel
theorem dX3_takeFrom_9 : decode cX3_takeFrom 9 = .ok (.istore_n 2, 1) := by decide +kernel
theorem dX3_takeFrom_10 : decode cX3_takeFrom 10 = .ok (.iload_n 2, 1) := by decide +kernel
theorem dX3_takeFrom_11 : decode cX3_takeFrom 11 = .ok (.bipush 10, 2) := by decide +kernel
theorem dX3_takeFrom_13 : decode cX3_takeFrom 13 = .ok (.if_icmp .ge 19, 3) := by decide +kernel
theorem dX3_takeFrom_16 : decode cX3_takeFrom 16 = .ok (.aload_n 0, 1) := by decide +kernel
theorem dX3_takeFrom_17 : decode cX3_takeFrom 17 = .ok (.iload_n 2, 1) := by decide +kernel
theorem dX3_takeFrom_18 : decode cX3_takeFrom 18 = .ok (.aload_n 1, 1) := by decide +kernel
theorem dX3_takeFrom_19 : decode cX3_takeFrom 19 = .ok (.iload_n 2, 1) := by decide +kernel
theorem dX3_takeFrom_20 : decode cX3_takeFrom 20 = .ok (.invokevirtual 23, 3) := by decide +kernel
theorem dX3_takeFrom_23 : decode cX3_takeFrom 23 = .ok (.invokevirtual 27, 3) := by decide +kernel
theorem dX3_takeFrom_26 : decode cX3_takeFrom 26 = .ok (.iinc 2 1, 3) := by decide +kernel
theorem dX3_takeFrom_29 : decode cX3_takeFrom 29 = .ok (.goto (-19), 3) := by decide +kernel
theorem dX3_takeFrom_32 : decode cX3_takeFrom 32 = .ok (.return_, 1) := by decide +kernel
theorem dX3_hasRoom_0 : decode cX3_hasRoom 0 = .ok (.aload_n 0, 1) := by decide +kernel
theorem dX3_hasRoom_1 : decode cX3_hasRoom 1 = .ok (.getfield 19, 3) := by decide +kernel
theorem dX3_hasRoom_4 : decode cX3_hasRoom 4 = .ok (.bipush 10, 2) := by decide +kernel
theorem dX3_hasRoom_6 : decode cX3_hasRoom 6 = .ok (.if_icmp .ge 7, 3) := by decide +kernel
theorem dX3_hasRoom_9 : decode cX3_hasRoom 9 = .ok (.iconst 1, 1) := by decide +kernel
theorem dX3_hasRoom_10 : decode cX3_hasRoom 10 = .ok (.goto 4, 3) := by decide +kernel
theorem dX3_hasRoom_13 : decode cX3_hasRoom 13 = .ok (.iconst 0, 1) := by decide +kernel
theorem dX3_hasRoom_14 : decode cX3_hasRoom 14 = .ok (.ireturn, 1) := by decide +kernel
theorem dX3_isThere_0 : decode cX3_isThere 0 = .ok (.iload_n 1, 1) := by decide +kernel
theorem dX3_isThere_1 : decode cX3_isThere 1 = .ok (.iconst 0, 1) := by decide +kernel
theorem dX3_isThere_2 : decode cX3_isThere 2 = .ok (.aload_n 0, 1) := by decide +kernel
theorem dX3_isThere_3 : decode cX3_isThere 3 = .ok (.getfield 19, 3) := by decide +kernel
theorem dX3_isThere_6 : decode cX3_isThere 6 = .ok (.iconst 1, 1) := by decide +kernel
theorem dX3_isThere_7 : decode cX3_isThere 7 = .ok (.isub, 1) := by decide +kernel
theorem dX3_isThere_8 : decode cX3_isThere 8 = .ok (.invokestatic 31, 3) := by decide +kernel
theorem dX3_isThere_11 : decode cX3_isThere 11 = .ok (.ireturn, 1) := by decide +kernel
theorem dX3_add_0 : decode cX3_add 0 = .ok (.aload_n 0, 1) := by decide +kernel
theorem dX3_add_1 : decode cX3_add 1 = .ok (.aload_n 0, 1) := by decide +kernel
theorem dX3_add_2 : decode cX3_add 2 = .ok (.getfield 19, 3) := by decide +kernel
theorem dX3_add_5 : decode cX3_add 5 = .ok (.iload_n 1, 1) := by decide +kernel
theorem dX3_add_6 : decode cX3_add 6 = .ok (.invokevirtual 27, 3) := by decide +kernel
theorem dX3_add_9 : decode cX3_add 9 = .ok (.aload_n 0, 1) := by decide +kernel
theorem dX3_add_10 : decode cX3_add 10 = .ok (.dup, 1) := by decide +kernel
theorem dX3_add_11 : decode cX3_add 11 = .ok (.getfield 19, 3) := by decide +kernel
theorem dX3_add_14 : decode cX3_add 14 = .ok (.iconst 1, 1) := by decide +kernel
theorem dX3_add_15 : decode cX3_add 15 = .ok (.iadd, 1) := by decide +kernel
theorem dX3_add_16 : decode cX3_add 16 = .ok (.putfield 19, 3) := by decide +kernel
theorem dX3_add_19 : decode cX3_add 19 = .ok (.aload_n 0, 1) := by decide +kernel
theorem dX3_add_20 : decode cX3_add 20 = .ok (.getfield 19, 3) := by decide +kernel
theorem dX3_add_23 : decode cX3_add 23 = .ok (.iconst 1, 1) := by decide +kernel
theorem dX3_add_24 : decode cX3_add 24 = .ok (.isub, 1) := by decide +kernel
theorem dX3_add_25 : decode cX3_add 25 = .ok (.ireturn, 1) := by decide +kernel
theorem dX3_write_0 : decode cX3_write 0 = .ok (.iload_n 1, 1) := by decide +kernel
theorem dX3_write_1 : decode cX3_write 1 = .ok (.ifCond .lt 19, 3) := by decide +kernel
theorem dX3_write_4 : decode cX3_write 4 = .ok (.iload_n 1, 1) := by decide +kernel
theorem dX3_write_5 : decode cX3_write 5 = .ok (.aload_n 0, 1) := by decide +kernel
theorem dX3_write_6 : decode cX3_write 6 = .ok (.getfield 11, 3) := by decide +kernel
theorem dX3_write_9 : decode cX3_write 9 = .ok (.arraylength, 1) := by decide +kernel
theorem dX3_write_10 : decode cX3_write 10 = .ok (.if_icmp .ge 10, 3) := by decide +kernel
theorem dX3_write_13 : decode cX3_write 13 = .ok (.aload_n 0, 1) := by decide +kernel
theorem dX3_write_14 : decode cX3_write 14 = .ok (.getfield 11, 3) := by decide +kernel
theorem dX3_write_17 : decode cX3_write 17 = .ok (.iload_n 1, 1) := by decide +kernel
theorem dX3_write_18 : decode cX3_write 18 = .ok (.iload_n 2, 1) := by decide +kernel
theorem dX3_write_19 : decode cX3_write 19 = .ok (.iastore, 1) := by decide +kernel
theorem dX3_write_20 : decode cX3_write 20 = .ok (.return_, 1) := by decide +kernel
theorem dX3_ageOf_0 : decode cX3_ageOf 0 = .ok (.aload_n 0, 1) := by decide +kernel
theorem dX3_ageOf_1 : decode cX3_ageOf 1 = .ok (.getfield 11, 3) := by decide +kernel
theorem dX3_ageOf_4 : decode cX3_ageOf 4 = .ok (.iload_n 1, 1) := by decide +kernel
theorem dX3_ageOf_5 : decode cX3_ageOf 5 = .ok (.iconst 0, 1) := by decide +kernel
theorem dX3_ageOf_6 : decode cX3_ageOf 6 = .ok (.invokestatic 35, 3) := by decide +kernel
theorem dX3_ageOf_9 : decode cX3_ageOf 9 = .ok (.ireturn, 1) := by decide +kernel
theorem dX3_agesOf_0 : decode cX3_agesOf 0 = .ok (.iconst 0, 1) := by decide +kernel
theorem dX3_agesOf_1 : decode cX3_agesOf 1 = .ok (.istore_n 2, 1) := by decide +kernel
theorem dX3_agesOf_2 : decode cX3_agesOf 2 = .ok (.iconst 0, 1) := by decide +kernel
theorem dX3_agesOf_3 : decode cX3_agesOf 3 = .ok (.istore_n 3, 1) := by decide +kernel
theorem dX3_agesOf_4 : decode cX3_agesOf 4 = .ok (.iload_n 3, 1) := by decide +kernel
theorem dX3_agesOf_5 : decode cX3_agesOf 5 = .ok (.aload_n 0, 1) := by decide +kernel
theorem dX3_agesOf_6 : decode cX3_agesOf 6 = .ok (.getfield 19, 3) := by decide +kernel
theorem dX3_agesOf_9 : decode cX3_agesOf 9 = .ok (.if_icmp .ge 26, 3) := by decide +kernel
theorem dX3_agesOf_12 : decode cX3_agesOf 12 = .ok (.iload_n 1, 1) := by decide +kernel
theorem dX3_agesOf_13 : decode cX3_agesOf 13 = .ok (.i2l, 1) := by decide +kernel
theorem dX3_agesOf_14 : decode cX3_agesOf 14 = .ok (.iload_n 3, 1) := by decide +kernel
theorem dX3_agesOf_15 : decode cX3_agesOf 15 = .ok (.invokestatic 39, 3) := by decide +kernel
theorem dX3_agesOf_18 : decode cX3_agesOf 18 = .ok (.ifCond .eq 11, 3) := by decide +kernel
theorem dX3_agesOf_21 : decode cX3_agesOf 21 = .ok (.iload_n 2, 1) := by decide +kernel
theorem dX3_agesOf_22 : decode cX3_agesOf 22 = .ok (.aload_n 0, 1) := by decide +kernel
theorem dX3_agesOf_23 : decode cX3_agesOf 23 = .ok (.iload_n 3, 1) := by decide +kernel
theorem dX3_agesOf_24 : decode cX3_agesOf 24 = .ok (.invokevirtual 23, 3) := by decide +kernel
theorem dX3_agesOf_27 : decode cX3_agesOf 27 = .ok (.iadd, 1) := by decide +kernel
theorem dX3_agesOf_28 : decode cX3_agesOf 28 = .ok (.istore_n 2, 1) := by decide +kernel
theorem dX3_agesOf_29 : decode cX3_agesOf 29 = .ok (.iinc 3 1, 3) := by decide +kernel
theorem dX3_agesOf_32 : decode cX3_agesOf 32 = .ok (.goto (-28), 3) := by decide +kernel
theorem dX3_agesOf_35 : decode cX3_agesOf 35 = .ok (.iload_n 2, 1) := by decide +kernel
theorem dX3_agesOf_36 : decode cX3_agesOf 36 = .ok (.ireturn, 1) := by decide +kernel
theorem dX3_agesOfAll_0 : decode cX3_agesOfAll 0 = .ok (.aload_n 0, 1) := by decide +kernel
theorem dX3_agesOfAll_1 : decode cX3_agesOfAll 1 = .ok (.iconst 1, 1) := by decide +kernel
theorem dX3_agesOfAll_2 : decode cX3_agesOfAll 2 = .ok (.aload_n 0, 1) := by decide +kernel
theorem dX3_agesOfAll_3 : decode cX3_agesOfAll 3 = .ok (.getfield 19, 3) := by decide +kernel
theorem dX3_agesOfAll_6 : decode cX3_agesOfAll 6 = .ok (.ishl, 1) := by decide +kernel
theorem dX3_agesOfAll_7 : decode cX3_agesOfAll 7 = .ok (.iconst 1, 1) := by decide +kernel
theorem dX3_agesOfAll_8 : decode cX3_agesOfAll 8 = .ok (.isub, 1) := by decide +kernel
theorem dX3_agesOfAll_9 : decode cX3_agesOfAll 9 = .ok (.invokevirtual 43, 3) := by decide +kernel
theorem dX3_agesOfAll_12 : decode cX3_agesOfAll 12 = .ok (.ireturn, 1) := by decide +kernel
theorem dX3_howManySets_0 : decode cX3_howManySets 0 = .ok (.iconst 0, 1) := by decide +kernel
theorem dX3_howManySets_1 : decode cX3_howManySets 1 = .ok (.istore_n 2, 1) := by decide +kernel
theorem dX3_howManySets_2 : decode cX3_howManySets 2 = .ok (.iconst 0, 1) := by decide +kernel
theorem dX3_howManySets_3 : decode cX3_howManySets 3 = .ok (.istore_n 3, 1) := by decide +kernel
theorem dX3_howManySets_4 : decode cX3_howManySets 4 = .ok (.iload_n 3, 1) := by decide +kernel
theorem dX3_howManySets_5 : decode cX3_howManySets 5 = .ok (.iconst 1, 1) := by decide +kernel
theorem dX3_howManySets_6 : decode cX3_howManySets 6 = .ok (.aload_n 0, 1) := by decide +kernel
theorem dX3_howManySets_7 : decode cX3_howManySets 7 = .ok (.getfield 19, 3) := by decide +kernel
theorem dX3_howManySets_10 : decode cX3_howManySets 10 = .ok (.ishl, 1) := by decide +kernel
theorem dX3_howManySets_11 : decode cX3_howManySets 11 = .ok (.if_icmp .ge 21, 3) := by decide +kernel
theorem dX3_howManySets_14 : decode cX3_howManySets 14 = .ok (.aload_n 0, 1) := by decide +kernel
theorem dX3_howManySets_15 : decode cX3_howManySets 15 = .ok (.iload_n 3, 1) := by decide +kernel
theorem dX3_howManySets_16 : decode cX3_howManySets 16 = .ok (.invokevirtual 43, 3) := by decide +kernel
theorem dX3_howManySets_19 : decode cX3_howManySets 19 = .ok (.iload_n 1, 1) := by decide +kernel
theorem dX3_howManySets_20 : decode cX3_howManySets 20 = .ok (.if_icmp .ne 6, 3) := by decide +kernel
theorem dX3_howManySets_23 : decode cX3_howManySets 23 = .ok (.iinc 2 1, 3) := by decide +kernel
theorem dX3_howManySets_26 : decode cX3_howManySets 26 = .ok (.iinc 3 1, 3) := by decide +kernel
theorem dX3_howManySets_29 : decode cX3_howManySets 29 = .ok (.goto (-25), 3) := by decide +kernel
theorem dX3_howManySets_32 : decode cX3_howManySets 32 = .ok (.iload_n 2, 1) := by decide +kernel
theorem dX3_howManySets_33 : decode cX3_howManySets 33 = .ok (.ireturn, 1) := by decide +kernel
theorem dX3_smallestSet_0 : decode cX3_smallestSet 0 = .ok (.iconst (-1), 1) := by decide +kernel
theorem dX3_smallestSet_1 : decode cX3_smallestSet 1 = .ok (.istore_n 2, 1) := by decide +kernel
theorem dX3_smallestSet_2 : decode cX3_smallestSet 2 = .ok (.aload_n 0, 1) := by decide +kernel
theorem dX3_smallestSet_3 : decode cX3_smallestSet 3 = .ok (.getfield 19, 3) := by decide +kernel
theorem dX3_smallestSet_6 : decode cX3_smallestSet 6 = .ok (.iconst 1, 1) := by decide +kernel
theorem dX3_smallestSet_7 : decode cX3_smallestSet 7 = .ok (.iadd, 1) := by decide +kernel
theorem dX3_smallestSet_8 : decode cX3_smallestSet 8 = .ok (.istore_n 3, 1) := by decide +kernel
theorem dX3_smallestSet_9 : decode cX3_smallestSet 9 = .ok (.iconst 0, 1) := by decide +kernel
theorem dX3_smallestSet_10 : decode cX3_smallestSet 10 = .ok (.istore 4, 2) := by decide +kernel
theorem dX3_smallestSet_12 : decode cX3_smallestSet 12 = .ok (.iload 4, 2) := by decide +kernel
theorem dX3_smallestSet_14 : decode cX3_smallestSet 14 = .ok (.iconst 1, 1) := by decide +kernel
theorem dX3_smallestSet_15 : decode cX3_smallestSet 15 = .ok (.aload_n 0, 1) := by decide +kernel
theorem dX3_smallestSet_16 : decode cX3_smallestSet 16 = .ok (.getfield 19, 3) := by decide +kernel
theorem dX3_smallestSet_19 : decode cX3_smallestSet 19 = .ok (.ishl, 1) := by decide +kernel
theorem dX3_smallestSet_20 : decode cX3_smallestSet 20 = .ok (.if_icmp .ge 38, 3) := by decide +kernel
theorem dX3_smallestSet_23 : decode cX3_smallestSet 23 = .ok (.iload 4, 2) := by decide +kernel
theorem dX3_smallestSet_25 : decode cX3_smallestSet 25 = .ok (.invokestatic 46, 3) := by decide +kernel
theorem dX3_smallestSet_28 : decode cX3_smallestSet 28 = .ok (.istore 5, 2) := by decide +kernel
theorem dX3_smallestSet_30 : decode cX3_smallestSet 30 = .ok (.iload 5, 2) := by decide +kernel
theorem dX3_smallestSet_32 : decode cX3_smallestSet 32 = .ok (.iload_n 3, 1) := by decide +kernel
theorem dX3_smallestSet_33 : decode cX3_smallestSet 33 = .ok (.if_icmp .ge 19, 3) := by decide +kernel
theorem dX3_smallestSet_36 : decode cX3_smallestSet 36 = .ok (.aload_n 0, 1) := by decide +kernel
theorem dX3_smallestSet_37 : decode cX3_smallestSet 37 = .ok (.iload 4, 2) := by decide +kernel
theorem dX3_smallestSet_39 : decode cX3_smallestSet 39 = .ok (.invokevirtual 43, 3) := by decide +kernel
theorem dX3_smallestSet_42 : decode cX3_smallestSet 42 = .ok (.iload_n 1, 1) := by decide +kernel
theorem dX3_smallestSet_43 : decode cX3_smallestSet 43 = .ok (.if_icmp .ne 9, 3) := by decide +kernel
theorem dX3_smallestSet_46 : decode cX3_smallestSet 46 = .ok (.iload 4, 2) := by decide +kernel
theorem dX3_smallestSet_48 : decode cX3_smallestSet 48 = .ok (.istore_n 2, 1) := by decide +kernel
theorem dX3_smallestSet_49 : decode cX3_smallestSet 49 = .ok (.iload 5, 2) := by decide +kernel
theorem dX3_smallestSet_51 : decode cX3_smallestSet 51 = .ok (.istore_n 3, 1) := by decide +kernel
theorem dX3_smallestSet_52 : decode cX3_smallestSet 52 = .ok (.iinc 4 1, 3) := by decide +kernel
theorem dX3_smallestSet_55 : decode cX3_smallestSet 55 = .ok (.goto (-43), 3) := by decide +kernel
theorem dX3_smallestSet_58 : decode cX3_smallestSet 58 = .ok (.iload_n 2, 1) := by decide +kernel
theorem dX3_smallestSet_59 : decode cX3_smallestSet 59 = .ok (.ireturn, 1) := by decide +kernel
theorem dX3_howManySums_0 : decode cX3_howManySums 0 = .ok (.iconst 0, 1) := by decide +kernel
theorem dX3_howManySums_1 : decode cX3_howManySums 1 = .ok (.istore_n 2, 1) := by decide +kernel
theorem dX3_howManySums_2 : decode cX3_howManySums 2 = .ok (.iload_n 2, 1) := by decide +kernel
theorem dX3_howManySums_3 : decode cX3_howManySums 3 = .ok (.aload_n 0, 1) := by decide +kernel
theorem dX3_howManySums_4 : decode cX3_howManySums 4 = .ok (.getfield 15, 3) := by decide +kernel
theorem dX3_howManySums_7 : decode cX3_howManySums 7 = .ok (.arraylength, 1) := by decide +kernel
theorem dX3_howManySums_8 : decode cX3_howManySums 8 = .ok (.if_icmp .ge 16, 3) := by decide +kernel
theorem dX3_howManySums_11 : decode cX3_howManySums 11 = .ok (.aload_n 0, 1) := by decide +kernel
theorem dX3_howManySums_12 : decode cX3_howManySums 12 = .ok (.getfield 15, 3) := by decide +kernel
theorem dX3_howManySums_15 : decode cX3_howManySums 15 = .ok (.iload_n 2, 1) := by decide +kernel
theorem dX3_howManySums_16 : decode cX3_howManySums 16 = .ok (.lconst 0, 1) := by decide +kernel
theorem dX3_howManySums_17 : decode cX3_howManySums 17 = .ok (.lastore, 1) := by decide +kernel
theorem dX3_howManySums_18 : decode cX3_howManySums 18 = .ok (.iinc 2 1, 3) := by decide +kernel
theorem dX3_howManySums_21 : decode cX3_howManySums 21 = .ok (.goto (-19), 3) := by decide +kernel
theorem dX3_howManySums_24 : decode cX3_howManySums 24 = .ok (.iconst 0, 1) := by decide +kernel
theorem dX3_howManySums_25 : decode cX3_howManySums 25 = .ok (.istore_n 2, 1) := by decide +kernel
theorem dX3_howManySums_26 : decode cX3_howManySums 26 = .ok (.iload_n 2, 1) := by decide +kernel
theorem dX3_howManySums_27 : decode cX3_howManySums 27 = .ok (.iconst 1, 1) := by decide +kernel
theorem dX3_howManySums_28 : decode cX3_howManySums 28 = .ok (.aload_n 0, 1) := by decide +kernel
theorem dX3_howManySums_29 : decode cX3_howManySums 29 = .ok (.getfield 19, 3) := by decide +kernel
theorem dX3_howManySums_32 : decode cX3_howManySums 32 = .ok (.ishl, 1) := by decide +kernel
theorem dX3_howManySums_33 : decode cX3_howManySums 33 = .ok (.if_icmp .ge 25, 3) := by decide +kernel
theorem dX3_howManySums_36 : decode cX3_howManySums 36 = .ok (.aload_n 0, 1) := by decide +kernel
theorem dX3_howManySums_37 : decode cX3_howManySums 37 = .ok (.iload_n 2, 1) := by decide +kernel
theorem dX3_howManySums_38 : decode cX3_howManySums 38 = .ok (.invokevirtual 43, 3) := by decide +kernel
theorem dX3_howManySums_41 : decode cX3_howManySums 41 = .ok (.istore_n 3, 1) := by decide +kernel
theorem dX3_howManySums_42 : decode cX3_howManySums 42 = .ok (.iload_n 3, 1) := by decide +kernel
theorem dX3_howManySums_43 : decode cX3_howManySums 43 = .ok (.iload_n 1, 1) := by decide +kernel
theorem dX3_howManySums_44 : decode cX3_howManySums 44 = .ok (.if_icmp .gt 8, 3) := by decide +kernel
theorem dX3_howManySums_47 : decode cX3_howManySums 47 = .ok (.aload_n 0, 1) := by decide +kernel
theorem dX3_howManySums_48 : decode cX3_howManySums 48 = .ok (.iload_n 3, 1) := by decide +kernel
theorem dX3_howManySums_49 : decode cX3_howManySums 49 = .ok (.invokevirtual 51, 3) := by decide +kernel
theorem dX3_howManySums_52 : decode cX3_howManySums 52 = .ok (.iinc 2 1, 3) := by decide +kernel
theorem dX3_howManySums_55 : decode cX3_howManySums 55 = .ok (.goto (-29), 3) := by decide +kernel
theorem dX3_howManySums_58 : decode cX3_howManySums 58 = .ok (.iconst 0, 1) := by decide +kernel
theorem dX3_howManySums_59 : decode cX3_howManySums 59 = .ok (.istore_n 2, 1) := by decide +kernel
theorem dX3_howManySums_60 : decode cX3_howManySums 60 = .ok (.iconst 0, 1) := by decide +kernel
theorem dX3_howManySums_61 : decode cX3_howManySums 61 = .ok (.istore_n 3, 1) := by decide +kernel
theorem dX3_howManySums_62 : decode cX3_howManySums 62 = .ok (.iload_n 3, 1) := by decide +kernel
theorem dX3_howManySums_63 : decode cX3_howManySums 63 = .ok (.aload_n 0, 1) := by decide +kernel
theorem dX3_howManySums_64 : decode cX3_howManySums 64 = .ok (.getfield 15, 3) := by decide +kernel
theorem dX3_howManySums_67 : decode cX3_howManySums 67 = .ok (.arraylength, 1) := by decide +kernel
theorem dX3_howManySums_68 : decode cX3_howManySums 68 = .ok (.if_icmp .ge 21, 3) := by decide +kernel
theorem dX3_howManySums_71 : decode cX3_howManySums 71 = .ok (.iload_n 2, 1) := by decide +kernel
theorem dX3_howManySums_72 : decode cX3_howManySums 72 = .ok (.aload_n 0, 1) := by decide +kernel
theorem dX3_howManySums_73 : decode cX3_howManySums 73 = .ok (.getfield 15, 3) := by decide +kernel
theorem dX3_howManySums_76 : decode cX3_howManySums 76 = .ok (.iload_n 3, 1) := by decide +kernel
theorem dX3_howManySums_77 : decode cX3_howManySums 77 = .ok (.laload, 1) := by decide +kernel
theorem dX3_howManySums_78 : decode cX3_howManySums 78 = .ok (.invokestatic 55, 3) := by decide +kernel
theorem dX3_howManySums_81 : decode cX3_howManySums 81 = .ok (.iadd, 1) := by decide +kernel
theorem dX3_howManySums_82 : decode cX3_howManySums 82 = .ok (.istore_n 2, 1) := by decide +kernel
theorem dX3_howManySums_83 : decode cX3_howManySums 83 = .ok (.iinc 3 1, 3) := by decide +kernel
theorem dX3_howManySums_86 : decode cX3_howManySums 86 = .ok (.goto (-24), 3) := by decide +kernel
theorem dX3_howManySums_89 : decode cX3_howManySums 89 = .ok (.iload_n 2, 1) := by decide +kernel
theorem dX3_howManySums_90 : decode cX3_howManySums 90 = .ok (.ireturn, 1) := by decide +kernel
theorem dX3_mark_0 : decode cX3_mark 0 = .ok (.iload_n 1, 1) := by decide +kernel
theorem dX3_mark_1 : decode cX3_mark 1 = .ok (.bipush 6, 2) := by decide +kernel
theorem dX3_mark_3 : decode cX3_mark 3 = .ok (.ishr, 1) := by decide +kernel
theorem dX3_mark_4 : decode cX3_mark 4 = .ok (.istore_n 2, 1) := by decide +kernel
theorem dX3_mark_5 : decode cX3_mark 5 = .ok (.iload_n 2, 1) := by decide +kernel
theorem dX3_mark_6 : decode cX3_mark 6 = .ok (.ifCond .lt 27, 3) := by decide +kernel
theorem dX3_mark_9 : decode cX3_mark 9 = .ok (.iload_n 2, 1) := by decide +kernel
theorem dX3_mark_10 : decode cX3_mark 10 = .ok (.aload_n 0, 1) := by decide +kernel
theorem dX3_mark_11 : decode cX3_mark 11 = .ok (.getfield 15, 3) := by decide +kernel
theorem dX3_mark_14 : decode cX3_mark 14 = .ok (.arraylength, 1) := by decide +kernel
theorem dX3_mark_15 : decode cX3_mark 15 = .ok (.if_icmp .ge 18, 3) := by decide +kernel
theorem dX3_mark_18 : decode cX3_mark 18 = .ok (.aload_n 0, 1) := by decide +kernel
theorem dX3_mark_19 : decode cX3_mark 19 = .ok (.getfield 15, 3) := by decide +kernel
theorem dX3_mark_22 : decode cX3_mark 22 = .ok (.iload_n 2, 1) := by decide +kernel
theorem dX3_mark_23 : decode cX3_mark 23 = .ok (.dup2, 1) := by decide +kernel
theorem dX3_mark_24 : decode cX3_mark 24 = .ok (.laload, 1) := by decide +kernel
theorem dX3_mark_25 : decode cX3_mark 25 = .ok (.lconst 1, 1) := by decide +kernel
theorem dX3_mark_26 : decode cX3_mark 26 = .ok (.iload_n 1, 1) := by decide +kernel
theorem dX3_mark_27 : decode cX3_mark 27 = .ok (.bipush 63, 2) := by decide +kernel
theorem dX3_mark_29 : decode cX3_mark 29 = .ok (.iand, 1) := by decide +kernel
theorem dX3_mark_30 : decode cX3_mark 30 = .ok (.lshl, 1) := by decide +kernel
theorem dX3_mark_31 : decode cX3_mark 31 = .ok (.lor, 1) := by decide +kernel
theorem dX3_mark_32 : decode cX3_mark 32 = .ok (.lastore, 1) := by decide +kernel
theorem dX3_mark_33 : decode cX3_mark 33 = .ok (.return_, 1) := by decide +kernel
theorem dX3_nearestToHalf_0 : decode cX3_nearestToHalf 0 = .ok (.aload_n 0, 1) := by decide +kernel
theorem dX3_nearestToHalf_1 : decode cX3_nearestToHalf 1 = .ok (.invokevirtual 60, 3) := by decide +kernel
theorem dX3_nearestToHalf_4 : decode cX3_nearestToHalf 4 = .ok (.istore_n 1, 1) := by decide +kernel
theorem dX3_nearestToHalf_5 : decode cX3_nearestToHalf 5 = .ok (.iconst 0, 1) := by decide +kernel
theorem dX3_nearestToHalf_6 : decode cX3_nearestToHalf 6 = .ok (.istore_n 2, 1) := by decide +kernel
theorem dX3_nearestToHalf_7 : decode cX3_nearestToHalf 7 = .ok (.iload_n 1, 1) := by decide +kernel
theorem dX3_nearestToHalf_8 : decode cX3_nearestToHalf 8 = .ok (.istore_n 3, 1) := by decide +kernel
theorem dX3_nearestToHalf_9 : decode cX3_nearestToHalf 9 = .ok (.iconst 1, 1) := by decide +kernel
theorem dX3_nearestToHalf_10 : decode cX3_nearestToHalf 10 = .ok (.istore 4, 2) := by decide +kernel
theorem dX3_nearestToHalf_12 : decode cX3_nearestToHalf 12 = .ok (.iload 4, 2) := by decide +kernel
theorem dX3_nearestToHalf_14 : decode cX3_nearestToHalf 14 = .ok (.iconst 1, 1) := by decide +kernel
theorem dX3_nearestToHalf_15 : decode cX3_nearestToHalf 15 = .ok (.aload_n 0, 1) := by decide +kernel
theorem dX3_nearestToHalf_16 : decode cX3_nearestToHalf 16 = .ok (.getfield 19, 3) := by decide +kernel
theorem dX3_nearestToHalf_19 : decode cX3_nearestToHalf 19 = .ok (.ishl, 1) := by decide +kernel
theorem dX3_nearestToHalf_20 : decode cX3_nearestToHalf 20 = .ok (.if_icmp .ge 36, 3) := by decide +kernel
theorem dX3_nearestToHalf_23 : decode cX3_nearestToHalf 23 = .ok (.iconst 2, 1) := by decide +kernel
theorem dX3_nearestToHalf_24 : decode cX3_nearestToHalf 24 = .ok (.aload_n 0, 1) := by decide +kernel
theorem dX3_nearestToHalf_25 : decode cX3_nearestToHalf 25 = .ok (.iload 4, 2) := by decide +kernel
theorem dX3_nearestToHalf_27 : decode cX3_nearestToHalf 27 = .ok (.invokevirtual 43, 3) := by decide +kernel
theorem dX3_nearestToHalf_30 : decode cX3_nearestToHalf 30 = .ok (.imul, 1) := by decide +kernel
theorem dX3_nearestToHalf_31 : decode cX3_nearestToHalf 31 = .ok (.iload_n 1, 1) := by decide +kernel
theorem dX3_nearestToHalf_32 : decode cX3_nearestToHalf 32 = .ok (.isub, 1) := by decide +kernel
theorem dX3_nearestToHalf_33 : decode cX3_nearestToHalf 33 = .ok (.invokestatic 64, 3) := by decide +kernel
theorem dX3_nearestToHalf_36 : decode cX3_nearestToHalf 36 = .ok (.istore 5, 2) := by decide +kernel
theorem dX3_nearestToHalf_38 : decode cX3_nearestToHalf 38 = .ok (.iload 5, 2) := by decide +kernel
theorem dX3_nearestToHalf_40 : decode cX3_nearestToHalf 40 = .ok (.iload_n 3, 1) := by decide +kernel
theorem dX3_nearestToHalf_41 : decode cX3_nearestToHalf 41 = .ok (.if_icmp .ge 9, 3) := by decide +kernel
theorem dX3_nearestToHalf_44 : decode cX3_nearestToHalf 44 = .ok (.iload 4, 2) := by decide +kernel
theorem dX3_nearestToHalf_46 : decode cX3_nearestToHalf 46 = .ok (.istore_n 2, 1) := by decide +kernel
theorem dX3_nearestToHalf_47 : decode cX3_nearestToHalf 47 = .ok (.iload 5, 2) := by decide +kernel
theorem dX3_nearestToHalf_49 : decode cX3_nearestToHalf 49 = .ok (.istore_n 3, 1) := by decide +kernel
theorem dX3_nearestToHalf_50 : decode cX3_nearestToHalf 50 = .ok (.iinc 4 1, 3) := by decide +kernel
theorem dX3_nearestToHalf_53 : decode cX3_nearestToHalf 53 = .ok (.goto (-41), 3) := by decide +kernel
theorem dX3_nearestToHalf_56 : decode cX3_nearestToHalf 56 = .ok (.iload_n 2, 1) := by decide +kernel
theorem dX3_nearestToHalf_57 : decode cX3_nearestToHalf 57 = .ok (.ireturn, 1) := by decide +kernel
theorem dX3_withRank_0 : decode cX3_withRank 0 = .ok (.iconst 0, 1) := by decide +kernel
theorem dX3_withRank_1 : decode cX3_withRank 1 = .ok (.istore_n 2, 1) := by decide +kernel
theorem dX3_withRank_2 : decode cX3_withRank 2 = .ok (.iload_n 2, 1) := by decide +kernel
theorem dX3_withRank_3 : decode cX3_withRank 3 = .ok (.aload_n 0, 1) := by decide +kernel
theorem dX3_withRank_4 : decode cX3_withRank 4 = .ok (.getfield 19, 3) := by decide +kernel
theorem dX3_withRank_7 : decode cX3_withRank 7 = .ok (.if_icmp .ge 20, 3) := by decide +kernel
theorem dX3_withRank_10 : decode cX3_withRank 10 = .ok (.aload_n 0, 1) := by decide +kernel
theorem dX3_withRank_11 : decode cX3_withRank 11 = .ok (.iload_n 2, 1) := by decide +kernel
theorem dX3_withRank_12 : decode cX3_withRank 12 = .ok (.invokevirtual 69, 3) := by decide +kernel
theorem dX3_withRank_15 : decode cX3_withRank 15 = .ok (.iload_n 1, 1) := by decide +kernel
theorem dX3_withRank_16 : decode cX3_withRank 16 = .ok (.if_icmp .ne 5, 3) := by decide +kernel
theorem dX3_withRank_19 : decode cX3_withRank 19 = .ok (.iload_n 2, 1) := by decide +kernel
theorem dX3_withRank_20 : decode cX3_withRank 20 = .ok (.ireturn, 1) := by decide +kernel
theorem dX3_withRank_21 : decode cX3_withRank 21 = .ok (.iinc 2 1, 3) := by decide +kernel
theorem dX3_withRank_24 : decode cX3_withRank 24 = .ok (.goto (-22), 3) := by decide +kernel
theorem dX3_withRank_27 : decode cX3_withRank 27 = .ok (.iconst (-1), 1) := by decide +kernel
theorem dX3_withRank_28 : decode cX3_withRank 28 = .ok (.ireturn, 1) := by decide +kernel
theorem dX3_rankOf_0 : decode cX3_rankOf 0 = .ok (.iconst 0, 1) := by decide +kernel
theorem dX3_rankOf_1 : decode cX3_rankOf 1 = .ok (.istore_n 2, 1) := by decide +kernel
theorem dX3_rankOf_2 : decode cX3_rankOf 2 = .ok (.iconst 0, 1) := by decide +kernel
theorem dX3_rankOf_3 : decode cX3_rankOf 3 = .ok (.istore_n 3, 1) := by decide +kernel
theorem dX3_rankOf_4 : decode cX3_rankOf 4 = .ok (.iload_n 3, 1) := by decide +kernel
theorem dX3_rankOf_5 : decode cX3_rankOf 5 = .ok (.aload_n 0, 1) := by decide +kernel
theorem dX3_rankOf_6 : decode cX3_rankOf 6 = .ok (.getfield 19, 3) := by decide +kernel
theorem dX3_rankOf_9 : decode cX3_rankOf 9 = .ok (.if_icmp .ge 43, 3) := by decide +kernel
theorem dX3_rankOf_12 : decode cX3_rankOf 12 = .ok (.aload_n 0, 1) := by decide +kernel
theorem dX3_rankOf_13 : decode cX3_rankOf 13 = .ok (.iload_n 3, 1) := by decide +kernel
theorem dX3_rankOf_14 : decode cX3_rankOf 14 = .ok (.invokevirtual 23, 3) := by decide +kernel
theorem dX3_rankOf_17 : decode cX3_rankOf 17 = .ok (.aload_n 0, 1) := by decide +kernel
theorem dX3_rankOf_18 : decode cX3_rankOf 18 = .ok (.iload_n 1, 1) := by decide +kernel
theorem dX3_rankOf_19 : decode cX3_rankOf 19 = .ok (.invokevirtual 23, 3) := by decide +kernel
theorem dX3_rankOf_22 : decode cX3_rankOf 22 = .ok (.if_icmp .lt 21, 3) := by decide +kernel
theorem dX3_rankOf_25 : decode cX3_rankOf 25 = .ok (.aload_n 0, 1) := by decide +kernel
theorem dX3_rankOf_26 : decode cX3_rankOf 26 = .ok (.iload_n 3, 1) := by decide +kernel
theorem dX3_rankOf_27 : decode cX3_rankOf 27 = .ok (.invokevirtual 23, 3) := by decide +kernel
theorem dX3_rankOf_30 : decode cX3_rankOf 30 = .ok (.aload_n 0, 1) := by decide +kernel
theorem dX3_rankOf_31 : decode cX3_rankOf 31 = .ok (.iload_n 1, 1) := by decide +kernel
theorem dX3_rankOf_32 : decode cX3_rankOf 32 = .ok (.invokevirtual 23, 3) := by decide +kernel
theorem dX3_rankOf_35 : decode cX3_rankOf 35 = .ok (.if_icmp .ne 11, 3) := by decide +kernel
theorem dX3_rankOf_38 : decode cX3_rankOf 38 = .ok (.iload_n 3, 1) := by decide +kernel
theorem dX3_rankOf_39 : decode cX3_rankOf 39 = .ok (.iload_n 1, 1) := by decide +kernel
theorem dX3_rankOf_40 : decode cX3_rankOf 40 = .ok (.if_icmp .ge 6, 3) := by decide +kernel
theorem dX3_rankOf_43 : decode cX3_rankOf 43 = .ok (.iinc 2 1, 3) := by decide +kernel
theorem dX3_rankOf_46 : decode cX3_rankOf 46 = .ok (.iinc 3 1, 3) := by decide +kernel
theorem dX3_rankOf_49 : decode cX3_rankOf 49 = .ok (.goto (-45), 3) := by decide +kernel
theorem dX3_rankOf_52 : decode cX3_rankOf 52 = .ok (.iload_n 2, 1) := by decide +kernel
theorem dX3_rankOf_53 : decode cX3_rankOf 53 = .ok (.ireturn, 1) := by decide +kernel
theorem dX3_firstOldest_0 : decode cX3_firstOldest 0 = .ok (.iconst 0, 1) := by decide +kernel
theorem dX3_firstOldest_1 : decode cX3_firstOldest 1 = .ok (.istore_n 1, 1) := by decide +kernel
theorem dX3_firstOldest_2 : decode cX3_firstOldest 2 = .ok (.iconst 1, 1) := by decide +kernel
theorem dX3_firstOldest_3 : decode cX3_firstOldest 3 = .ok (.istore_n 2, 1) := by decide +kernel
theorem dX3_firstOldest_4 : decode cX3_firstOldest 4 = .ok (.iload_n 2, 1) := by decide +kernel
theorem dX3_firstOldest_5 : decode cX3_firstOldest 5 = .ok (.aload_n 0, 1) := by decide +kernel
theorem dX3_firstOldest_6 : decode cX3_firstOldest 6 = .ok (.getfield 19, 3) := by decide +kernel
theorem dX3_firstOldest_9 : decode cX3_firstOldest 9 = .ok (.if_icmp .ge 24, 3) := by decide +kernel
theorem dX3_firstOldest_12 : decode cX3_firstOldest 12 = .ok (.aload_n 0, 1) := by decide +kernel
theorem dX3_firstOldest_13 : decode cX3_firstOldest 13 = .ok (.iload_n 2, 1) := by decide +kernel
theorem dX3_firstOldest_14 : decode cX3_firstOldest 14 = .ok (.invokevirtual 23, 3) := by decide +kernel
theorem dX3_firstOldest_17 : decode cX3_firstOldest 17 = .ok (.aload_n 0, 1) := by decide +kernel
theorem dX3_firstOldest_18 : decode cX3_firstOldest 18 = .ok (.iload_n 1, 1) := by decide +kernel
theorem dX3_firstOldest_19 : decode cX3_firstOldest 19 = .ok (.invokevirtual 23, 3) := by decide +kernel
theorem dX3_firstOldest_22 : decode cX3_firstOldest 22 = .ok (.if_icmp .le 5, 3) := by decide +kernel
theorem dX3_firstOldest_25 : decode cX3_firstOldest 25 = .ok (.iload_n 2, 1) := by decide +kernel
theorem dX3_firstOldest_26 : decode cX3_firstOldest 26 = .ok (.istore_n 1, 1) := by decide +kernel
theorem dX3_firstOldest_27 : decode cX3_firstOldest 27 = .ok (.iinc 2 1, 3) := by decide +kernel
theorem dX3_firstOldest_30 : decode cX3_firstOldest 30 = .ok (.goto (-26), 3) := by decide +kernel
theorem dX3_firstOldest_33 : decode cX3_firstOldest 33 = .ok (.iload_n 1, 1) := by decide +kernel
theorem dX3_firstOldest_34 : decode cX3_firstOldest 34 = .ok (.ireturn, 1) := by decide +kernel
theorem dX4_init_0 : decode cX4_init 0 = .ok (.aload_n 0, 1) := by decide +kernel
theorem dX4_init_1 : decode cX4_init 1 = .ok (.invokespecial 3, 3) := by decide +kernel
theorem dX4_init_4 : decode cX4_init 4 = .ok (.aload_n 0, 1) := by decide +kernel
theorem dX4_init_5 : decode cX4_init 5 = .ok (.bipush 8, 2) := by decide +kernel
theorem dX4_init_7 : decode cX4_init 7 = .ok (.newarray .int, 2) := by decide +kernel
theorem dX4_init_9 : decode cX4_init 9 = .ok (.putfield 11, 3) := by decide +kernel
theorem dX4_init_12 : decode cX4_init 12 = .ok (.aload_n 0, 1) := by decide +kernel
theorem dX4_init_13 : decode cX4_init 13 = .ok (.bipush 8, 2) := by decide +kernel
theorem dX4_init_15 : decode cX4_init 15 = .ok (.newarray .int, 2) := by decide +kernel
theorem dX4_init_17 : decode cX4_init 17 = .ok (.putfield 15, 3) := by decide +kernel
theorem dX4_init_20 : decode cX4_init 20 = .ok (.aload_n 0, 1) := by decide +kernel
theorem dX4_init_21 : decode cX4_init 21 = .ok (.sipush 320, 3) := by decide +kernel
theorem dX4_init_24 : decode cX4_init 24 = .ok (.newarray .long, 2) := by decide +kernel
theorem dX4_init_26 : decode cX4_init 26 = .ok (.putfield 18, 3) := by decide +kernel
theorem dX4_init_29 : decode cX4_init 29 = .ok (.iconst 0, 1) := by decide +kernel
theorem dX4_init_30 : decode cX4_init 30 = .ok (.istore_n 1, 1) := by decide +kernel
theorem dX4_init_31 : decode cX4_init 31 = .ok (.iload_n 1, 1) := by decide +kernel
theorem dX4_init_32 : decode cX4_init 32 = .ok (.aload_n 0, 1) := by decide +kernel
theorem dX4_init_33 : decode cX4_init 33 = .ok (.getfield 11, 3) := by decide +kernel
theorem dX4_init_36 : decode cX4_init 36 = .ok (.arraylength, 1) := by decide +kernel
theorem dX4_init_37 : decode cX4_init 37 = .ok (.if_icmp .ge 16, 3) := by decide +kernel
theorem dX4_init_40 : decode cX4_init 40 = .ok (.aload_n 0, 1) := by decide +kernel
theorem dX4_init_41 : decode cX4_init 41 = .ok (.getfield 11, 3) := by decide +kernel
theorem dX4_init_44 : decode cX4_init 44 = .ok (.iload_n 1, 1) := by decide +kernel
theorem dX4_init_45 : decode cX4_init 45 = .ok (.iconst (-1), 1) := by decide +kernel
theorem dX4_init_46 : decode cX4_init 46 = .ok (.iastore, 1) := by decide +kernel
theorem dX4_init_47 : decode cX4_init 47 = .ok (.iinc 1 1, 3) := by decide +kernel
theorem dX4_init_50 : decode cX4_init 50 = .ok (.goto (-19), 3) := by decide +kernel
theorem dX4_init_53 : decode cX4_init 53 = .ok (.return_, 1) := by decide +kernel
theorem dX4_isShelf_0 : decode cX4_isShelf 0 = .ok (.iload_n 0, 1) := by decide +kernel
theorem dX4_isShelf_1 : decode cX4_isShelf 1 = .ok (.iconst 0, 1) := by decide +kernel
theorem dX4_isShelf_2 : decode cX4_isShelf 2 = .ok (.bipush 7, 2) := by decide +kernel
theorem dX4_isShelf_4 : decode cX4_isShelf 4 = .ok (.invokestatic 22, 3) := by decide +kernel
theorem dX4_isShelf_7 : decode cX4_isShelf 7 = .ok (.ireturn, 1) := by decide +kernel
theorem dX4_heldOn_0 : decode cX4_heldOn 0 = .ok (.aload_n 0, 1) := by decide +kernel
theorem dX4_heldOn_1 : decode cX4_heldOn 1 = .ok (.getfield 11, 3) := by decide +kernel
theorem dX4_heldOn_4 : decode cX4_heldOn 4 = .ok (.iload_n 1, 1) := by decide +kernel
theorem dX4_heldOn_5 : decode cX4_heldOn 5 = .ok (.iconst (-1), 1) := by decide +kernel
theorem dX4_heldOn_6 : decode cX4_heldOn 6 = .ok (.invokestatic 26, 3) := by decide +kernel
theorem dX4_heldOn_9 : decode cX4_heldOn 9 = .ok (.ireturn, 1) := by decide +kernel
theorem dX4_holdsRow_0 : decode cX4_holdsRow 0 = .ok (.aload_n 0, 1) := by decide +kernel
theorem dX4_holdsRow_1 : decode cX4_holdsRow 1 = .ok (.iload_n 1, 1) := by decide +kernel
theorem dX4_holdsRow_2 : decode cX4_holdsRow 2 = .ok (.invokevirtual 30, 3) := by decide +kernel
theorem dX4_holdsRow_5 : decode cX4_holdsRow 5 = .ok (.iconst 0, 1) := by decide +kernel
theorem dX4_holdsRow_6 : decode cX4_holdsRow 6 = .ok (.iconst 4, 1) := by decide +kernel
theorem dX4_holdsRow_7 : decode cX4_holdsRow 7 = .ok (.invokestatic 22, 3) := by decide +kernel
theorem dX4_holdsRow_10 : decode cX4_holdsRow 10 = .ok (.ireturn, 1) := by decide +kernel
theorem dX4_lawOn_0 : decode cX4_lawOn 0 = .ok (.aload_n 0, 1) := by decide +kernel
theorem dX4_lawOn_1 : decode cX4_lawOn 1 = .ok (.iload_n 1, 1) := by decide +kernel
theorem dX4_lawOn_2 : decode cX4_lawOn 2 = .ok (.invokevirtual 30, 3) := by decide +kernel
theorem dX4_lawOn_5 : decode cX4_lawOn 5 = .ok (.bipush 10, 2) := by decide +kernel
theorem dX4_lawOn_7 : decode cX4_lawOn 7 = .ok (.if_icmp .lt 14, 3) := by decide +kernel
theorem dX4_lawOn_10 : decode cX4_lawOn 10 = .ok (.aload_n 0, 1) := by decide +kernel
theorem dX4_lawOn_11 : decode cX4_lawOn 11 = .ok (.iload_n 1, 1) := by decide +kernel
theorem dX4_lawOn_12 : decode cX4_lawOn 12 = .ok (.invokevirtual 30, 3) := by decide +kernel
theorem dX4_lawOn_15 : decode cX4_lawOn 15 = .ok (.bipush 10, 2) := by decide +kernel
theorem dX4_lawOn_17 : decode cX4_lawOn 17 = .ok (.isub, 1) := by decide +kernel
theorem dX4_lawOn_18 : decode cX4_lawOn 18 = .ok (.goto 4, 3) := by decide +kernel
theorem dX4_lawOn_21 : decode cX4_lawOn 21 = .ok (.iconst (-1), 1) := by decide +kernel
theorem dX4_lawOn_22 : decode cX4_lawOn 22 = .ok (.ireturn, 1) := by decide +kernel
theorem dX4_sizeOf_0 : decode cX4_sizeOf 0 = .ok (.aload_n 0, 1) := by decide +kernel
theorem dX4_sizeOf_1 : decode cX4_sizeOf 1 = .ok (.getfield 15, 3) := by decide +kernel
theorem dX4_sizeOf_4 : decode cX4_sizeOf 4 = .ok (.iload_n 1, 1) := by decide +kernel
theorem dX4_sizeOf_5 : decode cX4_sizeOf 5 = .ok (.iconst 0, 1) := by decide +kernel
theorem dX4_sizeOf_6 : decode cX4_sizeOf 6 = .ok (.invokestatic 26, 3) := by decide +kernel
theorem dX4_sizeOf_9 : decode cX4_sizeOf 9 = .ok (.ireturn, 1) := by decide +kernel
theorem dX4_howManyHold_0 : decode cX4_howManyHold 0 = .ok (.iconst 0, 1) := by decide +kernel
theorem dX4_howManyHold_1 : decode cX4_howManyHold 1 = .ok (.istore_n 1, 1) := by decide +kernel
theorem dX4_howManyHold_2 : decode cX4_howManyHold 2 = .ok (.iconst 0, 1) := by decide +kernel
theorem dX4_howManyHold_3 : decode cX4_howManyHold 3 = .ok (.istore_n 2, 1) := by decide +kernel
theorem dX4_howManyHold_4 : decode cX4_howManyHold 4 = .ok (.iload_n 2, 1) := by decide +kernel
theorem dX4_howManyHold_5 : decode cX4_howManyHold 5 = .ok (.bipush 8, 2) := by decide +kernel
theorem dX4_howManyHold_7 : decode cX4_howManyHold 7 = .ok (.if_icmp .ge 26, 3) := by decide +kernel
theorem dX4_howManyHold_10 : decode cX4_howManyHold 10 = .ok (.iload_n 1, 1) := by decide +kernel
theorem dX4_howManyHold_11 : decode cX4_howManyHold 11 = .ok (.aload_n 0, 1) := by decide +kernel
theorem dX4_howManyHold_12 : decode cX4_howManyHold 12 = .ok (.iload_n 2, 1) := by decide +kernel
theorem dX4_howManyHold_13 : decode cX4_howManyHold 13 = .ok (.invokevirtual 30, 3) := by decide +kernel
theorem dX4_howManyHold_16 : decode cX4_howManyHold 16 = .ok (.iconst (-1), 1) := by decide +kernel
theorem dX4_howManyHold_17 : decode cX4_howManyHold 17 = .ok (.if_icmp .ne 7, 3) := by decide +kernel
theorem dX4_howManyHold_20 : decode cX4_howManyHold 20 = .ok (.iconst 0, 1) := by decide +kernel
theorem dX4_howManyHold_21 : decode cX4_howManyHold 21 = .ok (.goto 4, 3) := by decide +kernel
theorem dX4_howManyHold_24 : decode cX4_howManyHold 24 = .ok (.iconst 1, 1) := by decide +kernel
theorem dX4_howManyHold_25 : decode cX4_howManyHold 25 = .ok (.iadd, 1) := by decide +kernel
theorem dX4_howManyHold_26 : decode cX4_howManyHold 26 = .ok (.istore_n 1, 1) := by decide +kernel
theorem dX4_howManyHold_27 : decode cX4_howManyHold 27 = .ok (.iinc 2 1, 3) := by decide +kernel
theorem dX4_howManyHold_30 : decode cX4_howManyHold 30 = .ok (.goto (-26), 3) := by decide +kernel
theorem dX4_howManyHold_33 : decode cX4_howManyHold 33 = .ok (.iload_n 1, 1) := by decide +kernel
theorem dX4_howManyHold_34 : decode cX4_howManyHold 34 = .ok (.ireturn, 1) := by decide +kernel
theorem dX4_put_0 : decode cX4_put 0 = .ok (.iload_n 1, 1) := by decide +kernel
theorem dX4_put_1 : decode cX4_put 1 = .ok (.ifCond .lt 35, 3) := by decide +kernel
theorem dX4_put_4 : decode cX4_put 4 = .ok (.iload_n 1, 1) := by decide +kernel
theorem dX4_put_5 : decode cX4_put 5 = .ok (.aload_n 0, 1) := by decide +kernel
theorem dX4_put_6 : decode cX4_put 6 = .ok (.getfield 11, 3) := by decide +kernel
theorem dX4_put_9 : decode cX4_put 9 = .ok (.arraylength, 1) := by decide +kernel
theorem dX4_put_10 : decode cX4_put 10 = .ok (.if_icmp .ge 26, 3) := by decide +kernel
theorem dX4_put_13 : decode cX4_put 13 = .ok (.iload_n 1, 1) := by decide +kernel
theorem dX4_put_14 : decode cX4_put 14 = .ok (.aload_n 0, 1) := by decide +kernel
theorem dX4_put_15 : decode cX4_put 15 = .ok (.getfield 15, 3) := by decide +kernel
theorem dX4_put_18 : decode cX4_put 18 = .ok (.arraylength, 1) := by decide +kernel
theorem dX4_put_19 : decode cX4_put 19 = .ok (.if_icmp .ge 17, 3) := by decide +kernel
theorem dX4_put_22 : decode cX4_put 22 = .ok (.aload_n 0, 1) := by decide +kernel
theorem dX4_put_23 : decode cX4_put 23 = .ok (.getfield 11, 3) := by decide +kernel
theorem dX4_put_26 : decode cX4_put 26 = .ok (.iload_n 1, 1) := by decide +kernel
theorem dX4_put_27 : decode cX4_put 27 = .ok (.iload_n 2, 1) := by decide +kernel
theorem dX4_put_28 : decode cX4_put 28 = .ok (.iastore, 1) := by decide +kernel
theorem dX4_put_29 : decode cX4_put 29 = .ok (.aload_n 0, 1) := by decide +kernel
theorem dX4_put_30 : decode cX4_put 30 = .ok (.getfield 15, 3) := by decide +kernel
theorem dX4_put_33 : decode cX4_put 33 = .ok (.iload_n 1, 1) := by decide +kernel
theorem dX4_put_34 : decode cX4_put 34 = .ok (.iload_n 3, 1) := by decide +kernel
theorem dX4_put_35 : decode cX4_put 35 = .ok (.iastore, 1) := by decide +kernel
theorem dX4_put_36 : decode cX4_put 36 = .ok (.return_, 1) := by decide +kernel
theorem dX4_putNothing_0 : decode cX4_putNothing 0 = .ok (.aload_n 0, 1) := by decide +kernel
theorem dX4_putNothing_1 : decode cX4_putNothing 1 = .ok (.iload_n 1, 1) := by decide +kernel
theorem dX4_putNothing_2 : decode cX4_putNothing 2 = .ok (.iconst (-1), 1) := by decide +kernel
theorem dX4_putNothing_3 : decode cX4_putNothing 3 = .ok (.iconst 0, 1) := by decide +kernel
theorem dX4_putNothing_4 : decode cX4_putNothing 4 = .ok (.invokevirtual 34, 3) := by decide +kernel
theorem dX4_putNothing_7 : decode cX4_putNothing 7 = .ok (.return_, 1) := by decide +kernel
theorem dX4_putLaw_0 : decode cX4_putLaw 0 = .ok (.aload_n 0, 1) := by decide +kernel
theorem dX4_putLaw_1 : decode cX4_putLaw 1 = .ok (.iload_n 1, 1) := by decide +kernel
theorem dX4_putLaw_2 : decode cX4_putLaw 2 = .ok (.bipush 10, 2) := by decide +kernel
theorem dX4_putLaw_4 : decode cX4_putLaw 4 = .ok (.iload_n 2, 1) := by decide +kernel
theorem dX4_putLaw_5 : decode cX4_putLaw 5 = .ok (.iadd, 1) := by decide +kernel
theorem dX4_putLaw_6 : decode cX4_putLaw 6 = .ok (.iconst 0, 1) := by decide +kernel
theorem dX4_putLaw_7 : decode cX4_putLaw 7 = .ok (.invokevirtual 34, 3) := by decide +kernel
theorem dX4_putLaw_10 : decode cX4_putLaw 10 = .ok (.return_, 1) := by decide +kernel
theorem dX4_putRow_0 : decode cX4_putRow 0 = .ok (.aload_n 0, 1) := by decide +kernel
theorem dX4_putRow_1 : decode cX4_putRow 1 = .ok (.iload_n 1, 1) := by decide +kernel
theorem dX4_putRow_2 : decode cX4_putRow 2 = .ok (.iload_n 2, 1) := by decide +kernel
theorem dX4_putRow_3 : decode cX4_putRow 3 = .ok (.iload_n 3, 1) := by decide +kernel
theorem dX4_putRow_4 : decode cX4_putRow 4 = .ok (.invokevirtual 34, 3) := by decide +kernel
theorem dX4_putRow_7 : decode cX4_putRow 7 = .ok (.iconst 0, 1) := by decide +kernel
theorem dX4_putRow_8 : decode cX4_putRow 8 = .ok (.istore 4, 2) := by decide +kernel
theorem dX4_putRow_10 : decode cX4_putRow 10 = .ok (.iload 4, 2) := by decide +kernel
theorem dX4_putRow_12 : decode cX4_putRow 12 = .ok (.iload_n 3, 1) := by decide +kernel
theorem dX4_putRow_13 : decode cX4_putRow 13 = .ok (.if_icmp .ge 17, 3) := by decide +kernel
theorem dX4_putRow_16 : decode cX4_putRow 16 = .ok (.aload_n 0, 1) := by decide +kernel
theorem dX4_putRow_17 : decode cX4_putRow 17 = .ok (.iload_n 1, 1) := by decide +kernel
theorem dX4_putRow_18 : decode cX4_putRow 18 = .ok (.iload 4, 2) := by decide +kernel
theorem dX4_putRow_20 : decode cX4_putRow 20 = .ok (.lconst 0, 1) := by decide +kernel
theorem dX4_putRow_21 : decode cX4_putRow 21 = .ok (.invokevirtual 38, 3) := by decide +kernel
theorem dX4_putRow_24 : decode cX4_putRow 24 = .ok (.iinc 4 1, 3) := by decide +kernel
theorem dX4_putRow_27 : decode cX4_putRow 27 = .ok (.goto (-17), 3) := by decide +kernel
theorem dX4_putRow_30 : decode cX4_putRow 30 = .ok (.return_, 1) := by decide +kernel
theorem dX4_putElement_0 : decode cX4_putElement 0 = .ok (.aload_n 0, 1) := by decide +kernel
theorem dX4_putElement_1 : decode cX4_putElement 1 = .ok (.iload_n 1, 1) := by decide +kernel
theorem dX4_putElement_2 : decode cX4_putElement 2 = .ok (.iload_n 2, 1) := by decide +kernel
theorem dX4_putElement_3 : decode cX4_putElement 3 = .ok (.invokevirtual 42, 3) := by decide +kernel
theorem dX4_putElement_6 : decode cX4_putElement 6 = .ok (.istore 5, 2) := by decide +kernel
theorem dX4_putElement_8 : decode cX4_putElement 8 = .ok (.iload 5, 2) := by decide +kernel
theorem dX4_putElement_10 : decode cX4_putElement 10 = .ok (.ifCond .lt 29, 3) := by decide +kernel
theorem dX4_putElement_13 : decode cX4_putElement 13 = .ok (.iload 5, 2) := by decide +kernel
theorem dX4_putElement_15 : decode cX4_putElement 15 = .ok (.aload_n 0, 1) := by decide +kernel
theorem dX4_putElement_16 : decode cX4_putElement 16 = .ok (.getfield 18, 3) := by decide +kernel
theorem dX4_putElement_19 : decode cX4_putElement 19 = .ok (.arraylength, 1) := by decide +kernel
theorem dX4_putElement_20 : decode cX4_putElement 20 = .ok (.if_icmp .ge 19, 3) := by decide +kernel
theorem dX4_putElement_23 : decode cX4_putElement 23 = .ok (.aload_n 0, 1) := by decide +kernel
theorem dX4_putElement_24 : decode cX4_putElement 24 = .ok (.getfield 18, 3) := by decide +kernel
theorem dX4_putElement_27 : decode cX4_putElement 27 = .ok (.iload 5, 2) := by decide +kernel
theorem dX4_putElement_29 : decode cX4_putElement 29 = .ok (.aload_n 0, 1) := by decide +kernel
theorem dX4_putElement_30 : decode cX4_putElement 30 = .ok (.iload_n 1, 1) := by decide +kernel
theorem dX4_putElement_31 : decode cX4_putElement 31 = .ok (.invokevirtual 30, 3) := by decide +kernel
theorem dX4_putElement_34 : decode cX4_putElement 34 = .ok (.lload_n 3, 1) := by decide +kernel
theorem dX4_putElement_35 : decode cX4_putElement 35 = .ok (.invokestatic 46, 3) := by decide +kernel
theorem dX4_putElement_38 : decode cX4_putElement 38 = .ok (.lastore, 1) := by decide +kernel
theorem dX4_putElement_39 : decode cX4_putElement 39 = .ok (.return_, 1) := by decide +kernel
theorem dX4_elementAt_0 : decode cX4_elementAt 0 = .ok (.aload_n 0, 1) := by decide +kernel
theorem dX4_elementAt_1 : decode cX4_elementAt 1 = .ok (.iload_n 1, 1) := by decide +kernel
theorem dX4_elementAt_2 : decode cX4_elementAt 2 = .ok (.iload_n 2, 1) := by decide +kernel
theorem dX4_elementAt_3 : decode cX4_elementAt 3 = .ok (.invokevirtual 42, 3) := by decide +kernel
theorem dX4_elementAt_6 : decode cX4_elementAt 6 = .ok (.istore_n 3, 1) := by decide +kernel
theorem dX4_elementAt_7 : decode cX4_elementAt 7 = .ok (.iload_n 3, 1) := by decide +kernel
theorem dX4_elementAt_8 : decode cX4_elementAt 8 = .ok (.ifCond .lt 21, 3) := by decide +kernel
theorem dX4_elementAt_11 : decode cX4_elementAt 11 = .ok (.iload_n 3, 1) := by decide +kernel
theorem dX4_elementAt_12 : decode cX4_elementAt 12 = .ok (.aload_n 0, 1) := by decide +kernel
theorem dX4_elementAt_13 : decode cX4_elementAt 13 = .ok (.getfield 18, 3) := by decide +kernel
theorem dX4_elementAt_16 : decode cX4_elementAt 16 = .ok (.arraylength, 1) := by decide +kernel
theorem dX4_elementAt_17 : decode cX4_elementAt 17 = .ok (.if_icmp .ge 12, 3) := by decide +kernel
theorem dX4_elementAt_20 : decode cX4_elementAt 20 = .ok (.aload_n 0, 1) := by decide +kernel
theorem dX4_elementAt_21 : decode cX4_elementAt 21 = .ok (.getfield 18, 3) := by decide +kernel
theorem dX4_elementAt_24 : decode cX4_elementAt 24 = .ok (.iload_n 3, 1) := by decide +kernel
theorem dX4_elementAt_25 : decode cX4_elementAt 25 = .ok (.laload, 1) := by decide +kernel
theorem dX4_elementAt_26 : decode cX4_elementAt 26 = .ok (.goto 4, 3) := by decide +kernel
theorem dX4_elementAt_29 : decode cX4_elementAt 29 = .ok (.lconst 0, 1) := by decide +kernel
theorem dX4_elementAt_30 : decode cX4_elementAt 30 = .ok (.lreturn, 1) := by decide +kernel
theorem dX4_placeOf_0 : decode cX4_placeOf 0 = .ok (.iload_n 2, 1) := by decide +kernel
theorem dX4_placeOf_1 : decode cX4_placeOf 1 = .ok (.iconst 0, 1) := by decide +kernel
theorem dX4_placeOf_2 : decode cX4_placeOf 2 = .ok (.aload_n 0, 1) := by decide +kernel
theorem dX4_placeOf_3 : decode cX4_placeOf 3 = .ok (.iload_n 1, 1) := by decide +kernel
theorem dX4_placeOf_4 : decode cX4_placeOf 4 = .ok (.invokevirtual 50, 3) := by decide +kernel
theorem dX4_placeOf_7 : decode cX4_placeOf 7 = .ok (.iconst 1, 1) := by decide +kernel
theorem dX4_placeOf_8 : decode cX4_placeOf 8 = .ok (.isub, 1) := by decide +kernel
theorem dX4_placeOf_9 : decode cX4_placeOf 9 = .ok (.invokestatic 22, 3) := by decide +kernel
theorem dX4_placeOf_12 : decode cX4_placeOf 12 = .ok (.ifCond .eq 12, 3) := by decide +kernel
theorem dX4_placeOf_15 : decode cX4_placeOf 15 = .ok (.iload_n 1, 1) := by decide +kernel
theorem dX4_placeOf_16 : decode cX4_placeOf 16 = .ok (.bipush 40, 2) := by decide +kernel
theorem dX4_placeOf_18 : decode cX4_placeOf 18 = .ok (.imul, 1) := by decide +kernel
theorem dX4_placeOf_19 : decode cX4_placeOf 19 = .ok (.iload_n 2, 1) := by decide +kernel
theorem dX4_placeOf_20 : decode cX4_placeOf 20 = .ok (.iadd, 1) := by decide +kernel
theorem dX4_placeOf_21 : decode cX4_placeOf 21 = .ok (.goto 4, 3) := by decide +kernel
theorem dX4_placeOf_24 : decode cX4_placeOf 24 = .ok (.iconst (-1), 1) := by decide +kernel
theorem dX4_placeOf_25 : decode cX4_placeOf 25 = .ok (.ireturn, 1) := by decide +kernel
theorem dX4_lowestBits_0 : decode cX4_lowestBits 0 = .ok (.iload_n 0, 1) := by decide +kernel
theorem dX4_lowestBits_1 : decode cX4_lowestBits 1 = .ok (.tableswitch 61 0 4 #[35, 40, 45, 61, 49], 35) := by decide +kernel
theorem dX4_lowestBits_36 : decode cX4_lowestBits 36 = .ok (.lload_n 1, 1) := by decide +kernel
theorem dX4_lowestBits_37 : decode cX4_lowestBits 37 = .ok (.l2i, 1) := by decide +kernel
theorem dX4_lowestBits_38 : decode cX4_lowestBits 38 = .ok (.i2b, 1) := by decide +kernel
theorem dX4_lowestBits_39 : decode cX4_lowestBits 39 = .ok (.i2l, 1) := by decide +kernel
theorem dX4_lowestBits_40 : decode cX4_lowestBits 40 = .ok (.lreturn, 1) := by decide +kernel
theorem dX4_lowestBits_41 : decode cX4_lowestBits 41 = .ok (.lload_n 1, 1) := by decide +kernel
theorem dX4_lowestBits_42 : decode cX4_lowestBits 42 = .ok (.l2i, 1) := by decide +kernel
theorem dX4_lowestBits_43 : decode cX4_lowestBits 43 = .ok (.i2s, 1) := by decide +kernel
theorem dX4_lowestBits_44 : decode cX4_lowestBits 44 = .ok (.i2l, 1) := by decide +kernel
theorem dX4_lowestBits_45 : decode cX4_lowestBits 45 = .ok (.lreturn, 1) := by decide +kernel
theorem dX4_lowestBits_46 : decode cX4_lowestBits 46 = .ok (.lload_n 1, 1) := by decide +kernel
theorem dX4_lowestBits_47 : decode cX4_lowestBits 47 = .ok (.l2i, 1) := by decide +kernel
theorem dX4_lowestBits_48 : decode cX4_lowestBits 48 = .ok (.i2l, 1) := by decide +kernel
theorem dX4_lowestBits_49 : decode cX4_lowestBits 49 = .ok (.lreturn, 1) := by decide +kernel
theorem dX4_lowestBits_50 : decode cX4_lowestBits 50 = .ok (.lload_n 1, 1) := by decide +kernel
theorem dX4_lowestBits_51 : decode cX4_lowestBits 51 = .ok (.lconst 0, 1) := by decide +kernel
theorem dX4_lowestBits_52 : decode cX4_lowestBits 52 = .ok (.lcmp, 1) := by decide +kernel
theorem dX4_lowestBits_53 : decode cX4_lowestBits 53 = .ok (.ifCond .eq 7, 3) := by decide +kernel
theorem dX4_lowestBits_56 : decode cX4_lowestBits 56 = .ok (.lconst 1, 1) := by decide +kernel
theorem dX4_lowestBits_57 : decode cX4_lowestBits 57 = .ok (.goto 4, 3) := by decide +kernel
theorem dX4_lowestBits_60 : decode cX4_lowestBits 60 = .ok (.lconst 0, 1) := by decide +kernel
theorem dX4_lowestBits_61 : decode cX4_lowestBits 61 = .ok (.lreturn, 1) := by decide +kernel
theorem dX4_lowestBits_62 : decode cX4_lowestBits 62 = .ok (.lload_n 1, 1) := by decide +kernel
theorem dX4_lowestBits_63 : decode cX4_lowestBits 63 = .ok (.lreturn, 1) := by decide +kernel
theorem dX4_hasElements_0 : decode cX4_hasElements 0 = .ok (.aload_n 0, 1) := by decide +kernel
theorem dX4_hasElements_1 : decode cX4_hasElements 1 = .ok (.iload_n 1, 1) := by decide +kernel
theorem dX4_hasElements_2 : decode cX4_hasElements 2 = .ok (.invokevirtual 50, 3) := by decide +kernel
theorem dX4_hasElements_5 : decode cX4_hasElements 5 = .ok (.istore 4, 2) := by decide +kernel
theorem dX4_hasElements_7 : decode cX4_hasElements 7 = .ok (.iload_n 2, 1) := by decide +kernel
theorem dX4_hasElements_8 : decode cX4_hasElements 8 = .ok (.iconst 0, 1) := by decide +kernel
theorem dX4_hasElements_9 : decode cX4_hasElements 9 = .ok (.iload 4, 2) := by decide +kernel
theorem dX4_hasElements_11 : decode cX4_hasElements 11 = .ok (.invokestatic 22, 3) := by decide +kernel
theorem dX4_hasElements_14 : decode cX4_hasElements 14 = .ok (.ifCond .eq 19, 3) := by decide +kernel
theorem dX4_hasElements_17 : decode cX4_hasElements 17 = .ok (.iload_n 3, 1) := by decide +kernel
theorem dX4_hasElements_18 : decode cX4_hasElements 18 = .ok (.iconst 0, 1) := by decide +kernel
theorem dX4_hasElements_19 : decode cX4_hasElements 19 = .ok (.iload 4, 2) := by decide +kernel
theorem dX4_hasElements_21 : decode cX4_hasElements 21 = .ok (.iload_n 2, 1) := by decide +kernel
theorem dX4_hasElements_22 : decode cX4_hasElements 22 = .ok (.isub, 1) := by decide +kernel
theorem dX4_hasElements_23 : decode cX4_hasElements 23 = .ok (.invokestatic 22, 3) := by decide +kernel
theorem dX4_hasElements_26 : decode cX4_hasElements 26 = .ok (.ifCond .eq 7, 3) := by decide +kernel
theorem dX4_hasElements_29 : decode cX4_hasElements 29 = .ok (.iconst 1, 1) := by decide +kernel
theorem dX4_hasElements_30 : decode cX4_hasElements 30 = .ok (.goto 4, 3) := by decide +kernel
theorem dX4_hasElements_33 : decode cX4_hasElements 33 = .ok (.iconst 0, 1) := by decide +kernel
theorem dX4_hasElements_34 : decode cX4_hasElements 34 = .ok (.ireturn, 1) := by decide +kernel
theorem dX4_copyElements_0 : decode cX4_copyElements 0 = .ok (.iload 4, 2) := by decide +kernel
theorem dX4_copyElements_2 : decode cX4_copyElements 2 = .ok (.iload_n 3, 1) := by decide +kernel
theorem dX4_copyElements_3 : decode cX4_copyElements 3 = .ok (.if_icmp .le 7, 3) := by decide +kernel
theorem dX4_copyElements_6 : decode cX4_copyElements 6 = .ok (.iconst 1, 1) := by decide +kernel
theorem dX4_copyElements_7 : decode cX4_copyElements 7 = .ok (.goto 4, 3) := by decide +kernel
theorem dX4_copyElements_10 : decode cX4_copyElements 10 = .ok (.iconst 0, 1) := by decide +kernel
theorem dX4_copyElements_11 : decode cX4_copyElements 11 = .ok (.istore 6, 2) := by decide +kernel
theorem dX4_copyElements_13 : decode cX4_copyElements 13 = .ok (.iconst 0, 1) := by decide +kernel
theorem dX4_copyElements_14 : decode cX4_copyElements 14 = .ok (.istore 7, 2) := by decide +kernel
theorem dX4_copyElements_16 : decode cX4_copyElements 16 = .ok (.iload 7, 2) := by decide +kernel
theorem dX4_copyElements_18 : decode cX4_copyElements 18 = .ok (.iload 5, 2) := by decide +kernel
theorem dX4_copyElements_20 : decode cX4_copyElements 20 = .ok (.if_icmp .ge 47, 3) := by decide +kernel
theorem dX4_copyElements_23 : decode cX4_copyElements 23 = .ok (.iload 6, 2) := by decide +kernel
theorem dX4_copyElements_25 : decode cX4_copyElements 25 = .ok (.ifCond .eq 13, 3) := by decide +kernel
theorem dX4_copyElements_28 : decode cX4_copyElements 28 = .ok (.iload 5, 2) := by decide +kernel
theorem dX4_copyElements_30 : decode cX4_copyElements 30 = .ok (.iconst 1, 1) := by decide +kernel
theorem dX4_copyElements_31 : decode cX4_copyElements 31 = .ok (.isub, 1) := by decide +kernel
theorem dX4_copyElements_32 : decode cX4_copyElements 32 = .ok (.iload 7, 2) := by decide +kernel
theorem dX4_copyElements_34 : decode cX4_copyElements 34 = .ok (.isub, 1) := by decide +kernel
theorem dX4_copyElements_35 : decode cX4_copyElements 35 = .ok (.goto 5, 3) := by decide +kernel
theorem dX4_copyElements_38 : decode cX4_copyElements 38 = .ok (.iload 7, 2) := by decide +kernel
theorem dX4_copyElements_40 : decode cX4_copyElements 40 = .ok (.istore 8, 2) := by decide +kernel
theorem dX4_copyElements_42 : decode cX4_copyElements 42 = .ok (.aload_n 0, 1) := by decide +kernel
theorem dX4_copyElements_43 : decode cX4_copyElements 43 = .ok (.iload_n 2, 1) := by decide +kernel
theorem dX4_copyElements_44 : decode cX4_copyElements 44 = .ok (.iload 4, 2) := by decide +kernel
theorem dX4_copyElements_46 : decode cX4_copyElements 46 = .ok (.iload 8, 2) := by decide +kernel
theorem dX4_copyElements_48 : decode cX4_copyElements 48 = .ok (.iadd, 1) := by decide +kernel
theorem dX4_copyElements_49 : decode cX4_copyElements 49 = .ok (.aload_n 0, 1) := by decide +kernel
theorem dX4_copyElements_50 : decode cX4_copyElements 50 = .ok (.iload_n 1, 1) := by decide +kernel
theorem dX4_copyElements_51 : decode cX4_copyElements 51 = .ok (.iload_n 3, 1) := by decide +kernel
theorem dX4_copyElements_52 : decode cX4_copyElements 52 = .ok (.iload 8, 2) := by decide +kernel
theorem dX4_copyElements_54 : decode cX4_copyElements 54 = .ok (.iadd, 1) := by decide +kernel
theorem dX4_copyElements_55 : decode cX4_copyElements 55 = .ok (.invokevirtual 53, 3) := by decide +kernel
theorem dX4_copyElements_58 : decode cX4_copyElements 58 = .ok (.invokevirtual 38, 3) := by decide +kernel
theorem dX4_copyElements_61 : decode cX4_copyElements 61 = .ok (.iinc 7 1, 3) := by decide +kernel
theorem dX4_copyElements_64 : decode cX4_copyElements 64 = .ok (.goto (-48), 3) := by decide +kernel
theorem dX4_copyElements_67 : decode cX4_copyElements 67 = .ok (.return_, 1) := by decide +kernel
theorem dX4_elementsAsBits_0 : decode cX4_elementsAsBits 0 = .ok (.lconst 0, 1) := by decide +kernel
theorem dX4_elementsAsBits_1 : decode cX4_elementsAsBits 1 = .ok (.lstore_n 3, 1) := by decide +kernel
theorem dX4_elementsAsBits_2 : decode cX4_elementsAsBits 2 = .ok (.iconst 0, 1) := by decide +kernel
theorem dX4_elementsAsBits_3 : decode cX4_elementsAsBits 3 = .ok (.istore 5, 2) := by decide +kernel
theorem dX4_elementsAsBits_5 : decode cX4_elementsAsBits 5 = .ok (.iload 5, 2) := by decide +kernel
theorem dX4_elementsAsBits_7 : decode cX4_elementsAsBits 7 = .ok (.iload_n 2, 1) := by decide +kernel
theorem dX4_elementsAsBits_8 : decode cX4_elementsAsBits 8 = .ok (.if_icmp .ge 28, 3) := by decide +kernel
