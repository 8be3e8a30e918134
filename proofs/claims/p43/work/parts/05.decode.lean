theorem dX0_init_0 : decode cX0_init 0 = .ok (.aload_n 0, 1) := by decide +kernel
theorem dX0_init_1 : decode cX0_init 1 = .ok (.invokespecial 3, 3) := by decide +kernel
theorem dX0_init_4 : decode cX0_init 4 = .ok (.aload_n 0, 1) := by decide +kernel
theorem dX0_init_5 : decode cX0_init 5 = .ok (.sipush 200, 3) := by decide +kernel
theorem dX0_init_8 : decode cX0_init 8 = .ok (.newarray .int, 2) := by decide +kernel
theorem dX0_init_10 : decode cX0_init 10 = .ok (.putfield 9, 3) := by decide +kernel
theorem dX0_init_13 : decode cX0_init 13 = .ok (.aload_n 0, 1) := by decide +kernel
theorem dX0_init_14 : decode cX0_init 14 = .ok (.sipush 200, 3) := by decide +kernel
theorem dX0_init_17 : decode cX0_init 17 = .ok (.newarray .int, 2) := by decide +kernel
theorem dX0_init_19 : decode cX0_init 19 = .ok (.putfield 15, 3) := by decide +kernel
theorem dX0_init_22 : decode cX0_init 22 = .ok (.aload_n 0, 1) := by decide +kernel
theorem dX0_init_23 : decode cX0_init 23 = .ok (.sipush 200, 3) := by decide +kernel
theorem dX0_init_26 : decode cX0_init 26 = .ok (.newarray .int, 2) := by decide +kernel
theorem dX0_init_28 : decode cX0_init 28 = .ok (.putfield 18, 3) := by decide +kernel
theorem dX0_init_31 : decode cX0_init 31 = .ok (.aload_n 0, 1) := by decide +kernel
theorem dX0_init_32 : decode cX0_init 32 = .ok (.sipush 200, 3) := by decide +kernel
theorem dX0_init_35 : decode cX0_init 35 = .ok (.newarray .int, 2) := by decide +kernel
theorem dX0_init_37 : decode cX0_init 37 = .ok (.putfield 21, 3) := by decide +kernel
theorem dX0_init_40 : decode cX0_init 40 = .ok (.aload_n 0, 1) := by decide +kernel
theorem dX0_init_41 : decode cX0_init 41 = .ok (.sipush 200, 3) := by decide +kernel
theorem dX0_init_44 : decode cX0_init 44 = .ok (.newarray .int, 2) := by decide +kernel
theorem dX0_init_46 : decode cX0_init 46 = .ok (.putfield 24, 3) := by decide +kernel
theorem dX0_init_49 : decode cX0_init 49 = .ok (.aload_n 0, 1) := by decide +kernel
theorem dX0_init_50 : decode cX0_init 50 = .ok (.sipush 200, 3) := by decide +kernel
theorem dX0_init_53 : decode cX0_init 53 = .ok (.newarray .int, 2) := by decide +kernel
theorem dX0_init_55 : decode cX0_init 55 = .ok (.putfield 27, 3) := by decide +kernel
theorem dX0_init_58 : decode cX0_init 58 = .ok (.iconst 0, 1) := by decide +kernel
theorem dX0_init_59 : decode cX0_init 59 = .ok (.istore_n 1, 1) := by decide +kernel
theorem dX0_init_60 : decode cX0_init 60 = .ok (.iload_n 1, 1) := by decide +kernel
theorem dX0_init_61 : decode cX0_init 61 = .ok (.sipush 200, 3) := by decide +kernel
theorem dX0_init_64 : decode cX0_init 64 = .ok (.if_icmp .ge 57, 3) := by decide +kernel
theorem dX0_init_67 : decode cX0_init 67 = .ok (.aload_n 0, 1) := by decide +kernel
theorem dX0_init_68 : decode cX0_init 68 = .ok (.getfield 9, 3) := by decide +kernel
theorem dX0_init_71 : decode cX0_init 71 = .ok (.iload_n 1, 1) := by decide +kernel
theorem dX0_init_72 : decode cX0_init 72 = .ok (.iconst 5, 1) := by decide +kernel
theorem dX0_init_73 : decode cX0_init 73 = .ok (.iload_n 1, 1) := by decide +kernel
theorem dX0_init_74 : decode cX0_init 74 = .ok (.imul, 1) := by decide +kernel
theorem dX0_init_75 : decode cX0_init 75 = .ok (.sipush 1000, 3) := by decide +kernel
theorem dX0_init_78 : decode cX0_init 78 = .ok (.irem, 1) := by decide +kernel
theorem dX0_init_79 : decode cX0_init 79 = .ok (.iastore, 1) := by decide +kernel
theorem dX0_init_80 : decode cX0_init 80 = .ok (.aload_n 0, 1) := by decide +kernel
theorem dX0_init_81 : decode cX0_init 81 = .ok (.getfield 15, 3) := by decide +kernel
theorem dX0_init_84 : decode cX0_init 84 = .ok (.iload_n 1, 1) := by decide +kernel
theorem dX0_init_85 : decode cX0_init 85 = .ok (.iconst (-1), 1) := by decide +kernel
theorem dX0_init_86 : decode cX0_init 86 = .ok (.iastore, 1) := by decide +kernel
theorem dX0_init_87 : decode cX0_init 87 = .ok (.aload_n 0, 1) := by decide +kernel
theorem dX0_init_88 : decode cX0_init 88 = .ok (.getfield 18, 3) := by decide +kernel
theorem dX0_init_91 : decode cX0_init 91 = .ok (.iload_n 1, 1) := by decide +kernel
theorem dX0_init_92 : decode cX0_init 92 = .ok (.iconst (-1), 1) := by decide +kernel
theorem dX0_init_93 : decode cX0_init 93 = .ok (.iastore, 1) := by decide +kernel
theorem dX0_init_94 : decode cX0_init 94 = .ok (.aload_n 0, 1) := by decide +kernel
theorem dX0_init_95 : decode cX0_init 95 = .ok (.getfield 21, 3) := by decide +kernel
theorem dX0_init_98 : decode cX0_init 98 = .ok (.iload_n 1, 1) := by decide +kernel
theorem dX0_init_99 : decode cX0_init 99 = .ok (.iconst (-1), 1) := by decide +kernel
theorem dX0_init_100 : decode cX0_init 100 = .ok (.iastore, 1) := by decide +kernel
theorem dX0_init_101 : decode cX0_init 101 = .ok (.aload_n 0, 1) := by decide +kernel
theorem dX0_init_102 : decode cX0_init 102 = .ok (.getfield 24, 3) := by decide +kernel
theorem dX0_init_105 : decode cX0_init 105 = .ok (.iload_n 1, 1) := by decide +kernel
theorem dX0_init_106 : decode cX0_init 106 = .ok (.iconst (-1), 1) := by decide +kernel
theorem dX0_init_107 : decode cX0_init 107 = .ok (.iastore, 1) := by decide +kernel
theorem dX0_init_108 : decode cX0_init 108 = .ok (.aload_n 0, 1) := by decide +kernel
theorem dX0_init_109 : decode cX0_init 109 = .ok (.getfield 27, 3) := by decide +kernel
theorem dX0_init_112 : decode cX0_init 112 = .ok (.iload_n 1, 1) := by decide +kernel
theorem dX0_init_113 : decode cX0_init 113 = .ok (.iconst (-1), 1) := by decide +kernel
theorem dX0_init_114 : decode cX0_init 114 = .ok (.iastore, 1) := by decide +kernel
theorem dX0_init_115 : decode cX0_init 115 = .ok (.iinc 1 1, 3) := by decide +kernel
theorem dX0_init_118 : decode cX0_init 118 = .ok (.goto (-58), 3) := by decide +kernel
theorem dX0_init_121 : decode cX0_init 121 = .ok (.return_, 1) := by decide +kernel
theorem dX0_storedOf_0 : decode cX0_storedOf 0 = .ok (.iload_n 1, 1) := by decide +kernel
theorem dX0_storedOf_1 : decode cX0_storedOf 1 = .ok (.ifCond .lt 19, 3) := by decide +kernel
theorem dX0_storedOf_4 : decode cX0_storedOf 4 = .ok (.iload_n 1, 1) := by decide +kernel
theorem dX0_storedOf_5 : decode cX0_storedOf 5 = .ok (.sipush 200, 3) := by decide +kernel
theorem dX0_storedOf_8 : decode cX0_storedOf 8 = .ok (.if_icmp .ge 12, 3) := by decide +kernel
theorem dX0_storedOf_11 : decode cX0_storedOf 11 = .ok (.aload_n 0, 1) := by decide +kernel
theorem dX0_storedOf_12 : decode cX0_storedOf 12 = .ok (.getfield 9, 3) := by decide +kernel
theorem dX0_storedOf_15 : decode cX0_storedOf 15 = .ok (.iload_n 1, 1) := by decide +kernel
theorem dX0_storedOf_16 : decode cX0_storedOf 16 = .ok (.iaload, 1) := by decide +kernel
theorem dX0_storedOf_17 : decode cX0_storedOf 17 = .ok (.goto 4, 3) := by decide +kernel
theorem dX0_storedOf_20 : decode cX0_storedOf 20 = .ok (.iconst (-1), 1) := by decide +kernel
theorem dX0_storedOf_21 : decode cX0_storedOf 21 = .ok (.ireturn, 1) := by decide +kernel
theorem dX0_valueOf_0 : decode cX0_valueOf 0 = .ok (.iload_n 1, 1) := by decide +kernel
theorem dX0_valueOf_1 : decode cX0_valueOf 1 = .ok (.ifCond .lt 19, 3) := by decide +kernel
theorem dX0_valueOf_4 : decode cX0_valueOf 4 = .ok (.iload_n 1, 1) := by decide +kernel
theorem dX0_valueOf_5 : decode cX0_valueOf 5 = .ok (.sipush 200, 3) := by decide +kernel
theorem dX0_valueOf_8 : decode cX0_valueOf 8 = .ok (.if_icmp .ge 12, 3) := by decide +kernel
theorem dX0_valueOf_11 : decode cX0_valueOf 11 = .ok (.aload_n 0, 1) := by decide +kernel
theorem dX0_valueOf_12 : decode cX0_valueOf 12 = .ok (.getfield 15, 3) := by decide +kernel
theorem dX0_valueOf_15 : decode cX0_valueOf 15 = .ok (.iload_n 1, 1) := by decide +kernel
theorem dX0_valueOf_16 : decode cX0_valueOf 16 = .ok (.iaload, 1) := by decide +kernel
theorem dX0_valueOf_17 : decode cX0_valueOf 17 = .ok (.goto 4, 3) := by decide +kernel
theorem dX0_valueOf_20 : decode cX0_valueOf 20 = .ok (.iconst (-1), 1) := by decide +kernel
theorem dX0_valueOf_21 : decode cX0_valueOf 21 = .ok (.ireturn, 1) := by decide +kernel
theorem dX0_ownerOf_0 : decode cX0_ownerOf 0 = .ok (.iload_n 1, 1) := by decide +kernel
theorem dX0_ownerOf_1 : decode cX0_ownerOf 1 = .ok (.ifCond .lt 19, 3) := by decide +kernel
theorem dX0_ownerOf_4 : decode cX0_ownerOf 4 = .ok (.iload_n 1, 1) := by decide +kernel
theorem dX0_ownerOf_5 : decode cX0_ownerOf 5 = .ok (.sipush 200, 3) := by decide +kernel
theorem dX0_ownerOf_8 : decode cX0_ownerOf 8 = .ok (.if_icmp .ge 12, 3) := by decide +kernel
theorem dX0_ownerOf_11 : decode cX0_ownerOf 11 = .ok (.aload_n 0, 1) := by decide +kernel
theorem dX0_ownerOf_12 : decode cX0_ownerOf 12 = .ok (.getfield 18, 3) := by decide +kernel
theorem dX0_ownerOf_15 : decode cX0_ownerOf 15 = .ok (.iload_n 1, 1) := by decide +kernel
theorem dX0_ownerOf_16 : decode cX0_ownerOf 16 = .ok (.iaload, 1) := by decide +kernel
theorem dX0_ownerOf_17 : decode cX0_ownerOf 17 = .ok (.goto 4, 3) := by decide +kernel
theorem dX0_ownerOf_20 : decode cX0_ownerOf 20 = .ok (.iconst (-1), 1) := by decide +kernel
theorem dX0_ownerOf_21 : decode cX0_ownerOf 21 = .ok (.ireturn, 1) := by decide +kernel
theorem dX0_sinceOf_0 : decode cX0_sinceOf 0 = .ok (.iload_n 1, 1) := by decide +kernel
theorem dX0_sinceOf_1 : decode cX0_sinceOf 1 = .ok (.ifCond .lt 19, 3) := by decide +kernel
theorem dX0_sinceOf_4 : decode cX0_sinceOf 4 = .ok (.iload_n 1, 1) := by decide +kernel
theorem dX0_sinceOf_5 : decode cX0_sinceOf 5 = .ok (.sipush 200, 3) := by decide +kernel
theorem dX0_sinceOf_8 : decode cX0_sinceOf 8 = .ok (.if_icmp .ge 12, 3) := by decide +kernel
theorem dX0_sinceOf_11 : decode cX0_sinceOf 11 = .ok (.aload_n 0, 1) := by decide +kernel
theorem dX0_sinceOf_12 : decode cX0_sinceOf 12 = .ok (.getfield 21, 3) := by decide +kernel
theorem dX0_sinceOf_15 : decode cX0_sinceOf 15 = .ok (.iload_n 1, 1) := by decide +kernel
theorem dX0_sinceOf_16 : decode cX0_sinceOf 16 = .ok (.iaload, 1) := by decide +kernel
theorem dX0_sinceOf_17 : decode cX0_sinceOf 17 = .ok (.goto 4, 3) := by decide +kernel
theorem dX0_sinceOf_20 : decode cX0_sinceOf 20 = .ok (.iconst (-1), 1) := by decide +kernel
theorem dX0_sinceOf_21 : decode cX0_sinceOf 21 = .ok (.ireturn, 1) := by decide +kernel
theorem dX0_isDirty_0 : decode cX0_isDirty 0 = .ok (.iload_n 1, 1) := by decide +kernel
theorem dX0_isDirty_1 : decode cX0_isDirty 1 = .ok (.ifCond .lt 24, 3) := by decide +kernel
theorem dX0_isDirty_4 : decode cX0_isDirty 4 = .ok (.iload_n 1, 1) := by decide +kernel
theorem dX0_isDirty_5 : decode cX0_isDirty 5 = .ok (.sipush 200, 3) := by decide +kernel
theorem dX0_isDirty_8 : decode cX0_isDirty 8 = .ok (.if_icmp .ge 17, 3) := by decide +kernel
theorem dX0_isDirty_11 : decode cX0_isDirty 11 = .ok (.aload_n 0, 1) := by decide +kernel
theorem dX0_isDirty_12 : decode cX0_isDirty 12 = .ok (.getfield 21, 3) := by decide +kernel
theorem dX0_isDirty_15 : decode cX0_isDirty 15 = .ok (.iload_n 1, 1) := by decide +kernel
theorem dX0_isDirty_16 : decode cX0_isDirty 16 = .ok (.iaload, 1) := by decide +kernel
theorem dX0_isDirty_17 : decode cX0_isDirty 17 = .ok (.iconst (-1), 1) := by decide +kernel
theorem dX0_isDirty_18 : decode cX0_isDirty 18 = .ok (.if_icmp .eq 7, 3) := by decide +kernel
theorem dX0_isDirty_21 : decode cX0_isDirty 21 = .ok (.iconst 1, 1) := by decide +kernel
theorem dX0_isDirty_22 : decode cX0_isDirty 22 = .ok (.goto 4, 3) := by decide +kernel
theorem dX0_isDirty_25 : decode cX0_isDirty 25 = .ok (.iconst 0, 1) := by decide +kernel
theorem dX0_isDirty_26 : decode cX0_isDirty 26 = .ok (.ireturn, 1) := by decide +kernel
theorem dX0_listOf_0 : decode cX0_listOf 0 = .ok (.iload_n 1, 1) := by decide +kernel
theorem dX0_listOf_1 : decode cX0_listOf 1 = .ok (.ifCond .lt 19, 3) := by decide +kernel
theorem dX0_listOf_4 : decode cX0_listOf 4 = .ok (.iload_n 1, 1) := by decide +kernel
theorem dX0_listOf_5 : decode cX0_listOf 5 = .ok (.sipush 200, 3) := by decide +kernel
theorem dX0_listOf_8 : decode cX0_listOf 8 = .ok (.if_icmp .ge 12, 3) := by decide +kernel
theorem dX0_listOf_11 : decode cX0_listOf 11 = .ok (.aload_n 0, 1) := by decide +kernel
theorem dX0_listOf_12 : decode cX0_listOf 12 = .ok (.getfield 24, 3) := by decide +kernel
theorem dX0_listOf_15 : decode cX0_listOf 15 = .ok (.iload_n 1, 1) := by decide +kernel
theorem dX0_listOf_16 : decode cX0_listOf 16 = .ok (.iaload, 1) := by decide +kernel
theorem dX0_listOf_17 : decode cX0_listOf 17 = .ok (.goto 4, 3) := by decide +kernel
theorem dX0_listOf_20 : decode cX0_listOf 20 = .ok (.iconst (-1), 1) := by decide +kernel
theorem dX0_listOf_21 : decode cX0_listOf 21 = .ok (.ireturn, 1) := by decide +kernel
theorem dX0_ghostListOf_0 : decode cX0_ghostListOf 0 = .ok (.iload_n 1, 1) := by decide +kernel
theorem dX0_ghostListOf_1 : decode cX0_ghostListOf 1 = .ok (.ifCond .lt 19, 3) := by decide +kernel
theorem dX0_ghostListOf_4 : decode cX0_ghostListOf 4 = .ok (.iload_n 1, 1) := by decide +kernel
theorem dX0_ghostListOf_5 : decode cX0_ghostListOf 5 = .ok (.sipush 200, 3) := by decide +kernel
theorem dX0_ghostListOf_8 : decode cX0_ghostListOf 8 = .ok (.if_icmp .ge 12, 3) := by decide +kernel
theorem dX0_ghostListOf_11 : decode cX0_ghostListOf 11 = .ok (.aload_n 0, 1) := by decide +kernel
theorem dX0_ghostListOf_12 : decode cX0_ghostListOf 12 = .ok (.getfield 27, 3) := by decide +kernel
theorem dX0_ghostListOf_15 : decode cX0_ghostListOf 15 = .ok (.iload_n 1, 1) := by decide +kernel
theorem dX0_ghostListOf_16 : decode cX0_ghostListOf 16 = .ok (.iaload, 1) := by decide +kernel
theorem dX0_ghostListOf_17 : decode cX0_ghostListOf 17 = .ok (.goto 4, 3) := by decide +kernel
theorem dX0_ghostListOf_20 : decode cX0_ghostListOf 20 = .ok (.iconst (-1), 1) := by decide +kernel
theorem dX0_ghostListOf_21 : decode cX0_ghostListOf 21 = .ok (.ireturn, 1) := by decide +kernel
theorem dX0_makeCleanUnit_0 : decode cX0_makeCleanUnit 0 = .ok (.iload_n 1, 1) := by decide +kernel
theorem dX0_makeCleanUnit_1 : decode cX0_makeCleanUnit 1 = .ok (.ifCond .lt 29, 3) := by decide +kernel
theorem dX0_makeCleanUnit_4 : decode cX0_makeCleanUnit 4 = .ok (.iload_n 1, 1) := by decide +kernel
theorem dX0_makeCleanUnit_5 : decode cX0_makeCleanUnit 5 = .ok (.sipush 200, 3) := by decide +kernel
theorem dX0_makeCleanUnit_8 : decode cX0_makeCleanUnit 8 = .ok (.if_icmp .ge 22, 3) := by decide +kernel
theorem dX0_makeCleanUnit_11 : decode cX0_makeCleanUnit 11 = .ok (.aload_n 0, 1) := by decide +kernel
theorem dX0_makeCleanUnit_12 : decode cX0_makeCleanUnit 12 = .ok (.getfield 15, 3) := by decide +kernel
theorem dX0_makeCleanUnit_15 : decode cX0_makeCleanUnit 15 = .ok (.iload_n 1, 1) := by decide +kernel
theorem dX0_makeCleanUnit_16 : decode cX0_makeCleanUnit 16 = .ok (.aload_n 0, 1) := by decide +kernel
theorem dX0_makeCleanUnit_17 : decode cX0_makeCleanUnit 17 = .ok (.getfield 9, 3) := by decide +kernel
theorem dX0_makeCleanUnit_20 : decode cX0_makeCleanUnit 20 = .ok (.iload_n 1, 1) := by decide +kernel
theorem dX0_makeCleanUnit_21 : decode cX0_makeCleanUnit 21 = .ok (.iaload, 1) := by decide +kernel
theorem dX0_makeCleanUnit_22 : decode cX0_makeCleanUnit 22 = .ok (.iastore, 1) := by decide +kernel
theorem dX0_makeCleanUnit_23 : decode cX0_makeCleanUnit 23 = .ok (.aload_n 0, 1) := by decide +kernel
theorem dX0_makeCleanUnit_24 : decode cX0_makeCleanUnit 24 = .ok (.getfield 21, 3) := by decide +kernel
theorem dX0_makeCleanUnit_27 : decode cX0_makeCleanUnit 27 = .ok (.iload_n 1, 1) := by decide +kernel
theorem dX0_makeCleanUnit_28 : decode cX0_makeCleanUnit 28 = .ok (.iconst (-1), 1) := by decide +kernel
theorem dX0_makeCleanUnit_29 : decode cX0_makeCleanUnit 29 = .ok (.iastore, 1) := by decide +kernel
theorem dX0_makeCleanUnit_30 : decode cX0_makeCleanUnit 30 = .ok (.return_, 1) := by decide +kernel
theorem dX0_putUnitIn_0 : decode cX0_putUnitIn 0 = .ok (.iload_n 1, 1) := by decide +kernel
theorem dX0_putUnitIn_1 : decode cX0_putUnitIn 1 = .ok (.ifCond .lt 17, 3) := by decide +kernel
theorem dX0_putUnitIn_4 : decode cX0_putUnitIn 4 = .ok (.iload_n 1, 1) := by decide +kernel
theorem dX0_putUnitIn_5 : decode cX0_putUnitIn 5 = .ok (.sipush 200, 3) := by decide +kernel
theorem dX0_putUnitIn_8 : decode cX0_putUnitIn 8 = .ok (.if_icmp .ge 10, 3) := by decide +kernel
theorem dX0_putUnitIn_11 : decode cX0_putUnitIn 11 = .ok (.aload_n 0, 1) := by decide +kernel
theorem dX0_putUnitIn_12 : decode cX0_putUnitIn 12 = .ok (.getfield 24, 3) := by decide +kernel
theorem dX0_putUnitIn_15 : decode cX0_putUnitIn 15 = .ok (.iload_n 1, 1) := by decide +kernel
theorem dX0_putUnitIn_16 : decode cX0_putUnitIn 16 = .ok (.iload_n 2, 1) := by decide +kernel
theorem dX0_putUnitIn_17 : decode cX0_putUnitIn 17 = .ok (.iastore, 1) := by decide +kernel
theorem dX0_putUnitIn_18 : decode cX0_putUnitIn 18 = .ok (.return_, 1) := by decide +kernel
theorem dX0_dropUnit_0 : decode cX0_dropUnit 0 = .ok (.iload_n 1, 1) := by decide +kernel
theorem dX0_dropUnit_1 : decode cX0_dropUnit 1 = .ok (.ifCond .lt 38, 3) := by decide +kernel
theorem dX0_dropUnit_4 : decode cX0_dropUnit 4 = .ok (.iload_n 1, 1) := by decide +kernel
theorem dX0_dropUnit_5 : decode cX0_dropUnit 5 = .ok (.sipush 200, 3) := by decide +kernel
theorem dX0_dropUnit_8 : decode cX0_dropUnit 8 = .ok (.if_icmp .ge 31, 3) := by decide +kernel
theorem dX0_dropUnit_11 : decode cX0_dropUnit 11 = .ok (.aload_n 0, 1) := by decide +kernel
theorem dX0_dropUnit_12 : decode cX0_dropUnit 12 = .ok (.getfield 15, 3) := by decide +kernel
theorem dX0_dropUnit_15 : decode cX0_dropUnit 15 = .ok (.iload_n 1, 1) := by decide +kernel
theorem dX0_dropUnit_16 : decode cX0_dropUnit 16 = .ok (.iconst (-1), 1) := by decide +kernel
theorem dX0_dropUnit_17 : decode cX0_dropUnit 17 = .ok (.iastore, 1) := by decide +kernel
theorem dX0_dropUnit_18 : decode cX0_dropUnit 18 = .ok (.aload_n 0, 1) := by decide +kernel
theorem dX0_dropUnit_19 : decode cX0_dropUnit 19 = .ok (.getfield 18, 3) := by decide +kernel
theorem dX0_dropUnit_22 : decode cX0_dropUnit 22 = .ok (.iload_n 1, 1) := by decide +kernel
theorem dX0_dropUnit_23 : decode cX0_dropUnit 23 = .ok (.iconst (-1), 1) := by decide +kernel
theorem dX0_dropUnit_24 : decode cX0_dropUnit 24 = .ok (.iastore, 1) := by decide +kernel
theorem dX0_dropUnit_25 : decode cX0_dropUnit 25 = .ok (.aload_n 0, 1) := by decide +kernel
theorem dX0_dropUnit_26 : decode cX0_dropUnit 26 = .ok (.getfield 21, 3) := by decide +kernel
theorem dX0_dropUnit_29 : decode cX0_dropUnit 29 = .ok (.iload_n 1, 1) := by decide +kernel
theorem dX0_dropUnit_30 : decode cX0_dropUnit 30 = .ok (.iconst (-1), 1) := by decide +kernel
theorem dX0_dropUnit_31 : decode cX0_dropUnit 31 = .ok (.iastore, 1) := by decide +kernel
theorem dX0_dropUnit_32 : decode cX0_dropUnit 32 = .ok (.aload_n 0, 1) := by decide +kernel
theorem dX0_dropUnit_33 : decode cX0_dropUnit 33 = .ok (.getfield 24, 3) := by decide +kernel
theorem dX0_dropUnit_36 : decode cX0_dropUnit 36 = .ok (.iload_n 1, 1) := by decide +kernel
theorem dX0_dropUnit_37 : decode cX0_dropUnit 37 = .ok (.iconst (-1), 1) := by decide +kernel
theorem dX0_dropUnit_38 : decode cX0_dropUnit 38 = .ok (.iastore, 1) := by decide +kernel
theorem dX0_dropUnit_39 : decode cX0_dropUnit 39 = .ok (.return_, 1) := by decide +kernel
theorem dX0_dropAll_0 : decode cX0_dropAll 0 = .ok (.iconst 0, 1) := by decide +kernel
theorem dX0_dropAll_1 : decode cX0_dropAll 1 = .ok (.istore_n 1, 1) := by decide +kernel
theorem dX0_dropAll_2 : decode cX0_dropAll 2 = .ok (.iload_n 1, 1) := by decide +kernel
theorem dX0_dropAll_3 : decode cX0_dropAll 3 = .ok (.sipush 200, 3) := by decide +kernel
theorem dX0_dropAll_6 : decode cX0_dropAll 6 = .ok (.if_icmp .ge 44, 3) := by decide +kernel
theorem dX0_dropAll_9 : decode cX0_dropAll 9 = .ok (.aload_n 0, 1) := by decide +kernel
theorem dX0_dropAll_10 : decode cX0_dropAll 10 = .ok (.getfield 15, 3) := by decide +kernel
theorem dX0_dropAll_13 : decode cX0_dropAll 13 = .ok (.iload_n 1, 1) := by decide +kernel
theorem dX0_dropAll_14 : decode cX0_dropAll 14 = .ok (.iconst (-1), 1) := by decide +kernel
theorem dX0_dropAll_15 : decode cX0_dropAll 15 = .ok (.iastore, 1) := by decide +kernel
theorem dX0_dropAll_16 : decode cX0_dropAll 16 = .ok (.aload_n 0, 1) := by decide +kernel
theorem dX0_dropAll_17 : decode cX0_dropAll 17 = .ok (.getfield 18, 3) := by decide +kernel
theorem dX0_dropAll_20 : decode cX0_dropAll 20 = .ok (.iload_n 1, 1) := by decide +kernel
theorem dX0_dropAll_21 : decode cX0_dropAll 21 = .ok (.iconst (-1), 1) := by decide +kernel
theorem dX0_dropAll_22 : decode cX0_dropAll 22 = .ok (.iastore, 1) := by decide +kernel
theorem dX0_dropAll_23 : decode cX0_dropAll 23 = .ok (.aload_n 0, 1) := by decide +kernel
theorem dX0_dropAll_24 : decode cX0_dropAll 24 = .ok (.getfield 21, 3) := by decide +kernel
theorem dX0_dropAll_27 : decode cX0_dropAll 27 = .ok (.iload_n 1, 1) := by decide +kernel
theorem dX0_dropAll_28 : decode cX0_dropAll 28 = .ok (.iconst (-1), 1) := by decide +kernel
theorem dX0_dropAll_29 : decode cX0_dropAll 29 = .ok (.iastore, 1) := by decide +kernel
theorem dX0_dropAll_30 : decode cX0_dropAll 30 = .ok (.aload_n 0, 1) := by decide +kernel
theorem dX0_dropAll_31 : decode cX0_dropAll 31 = .ok (.getfield 24, 3) := by decide +kernel
theorem dX0_dropAll_34 : decode cX0_dropAll 34 = .ok (.iload_n 1, 1) := by decide +kernel
theorem dX0_dropAll_35 : decode cX0_dropAll 35 = .ok (.iconst (-1), 1) := by decide +kernel
theorem dX0_dropAll_36 : decode cX0_dropAll 36 = .ok (.iastore, 1) := by decide +kernel
theorem dX0_dropAll_37 : decode cX0_dropAll 37 = .ok (.aload_n 0, 1) := by decide +kernel
theorem dX0_dropAll_38 : decode cX0_dropAll 38 = .ok (.getfield 27, 3) := by decide +kernel
theorem dX0_dropAll_41 : decode cX0_dropAll 41 = .ok (.iload_n 1, 1) := by decide +kernel
theorem dX0_dropAll_42 : decode cX0_dropAll 42 = .ok (.iconst (-1), 1) := by decide +kernel
theorem dX0_dropAll_43 : decode cX0_dropAll 43 = .ok (.iastore, 1) := by decide +kernel
theorem dX0_dropAll_44 : decode cX0_dropAll 44 = .ok (.iinc 1 1, 3) := by decide +kernel
theorem dX0_dropAll_47 : decode cX0_dropAll 47 = .ok (.goto (-45), 3) := by decide +kernel
theorem dX0_dropAll_50 : decode cX0_dropAll 50 = .ok (.return_, 1) := by decide +kernel
theorem dX0_makeGhostOf_0 : decode cX0_makeGhostOf 0 = .ok (.iload_n 1, 1) := by decide +kernel
theorem dX0_makeGhostOf_1 : decode cX0_makeGhostOf 1 = .ok (.ifCond .lt 17, 3) := by decide +kernel
theorem dX0_makeGhostOf_4 : decode cX0_makeGhostOf 4 = .ok (.iload_n 1, 1) := by decide +kernel
theorem dX0_makeGhostOf_5 : decode cX0_makeGhostOf 5 = .ok (.sipush 200, 3) := by decide +kernel
theorem dX0_makeGhostOf_8 : decode cX0_makeGhostOf 8 = .ok (.if_icmp .ge 10, 3) := by decide +kernel
theorem dX0_makeGhostOf_11 : decode cX0_makeGhostOf 11 = .ok (.aload_n 0, 1) := by decide +kernel
theorem dX0_makeGhostOf_12 : decode cX0_makeGhostOf 12 = .ok (.getfield 27, 3) := by decide +kernel
theorem dX0_makeGhostOf_15 : decode cX0_makeGhostOf 15 = .ok (.iload_n 1, 1) := by decide +kernel
theorem dX0_makeGhostOf_16 : decode cX0_makeGhostOf 16 = .ok (.iload_n 2, 1) := by decide +kernel
theorem dX0_makeGhostOf_17 : decode cX0_makeGhostOf 17 = .ok (.iastore, 1) := by decide +kernel
theorem dX0_makeGhostOf_18 : decode cX0_makeGhostOf 18 = .ok (.return_, 1) := by decide +kernel
theorem dX0_giveTo_0 : decode cX0_giveTo 0 = .ok (.iload_n 1, 1) := by decide +kernel
theorem dX0_giveTo_1 : decode cX0_giveTo 1 = .ok (.ifCond .lt 17, 3) := by decide +kernel
theorem dX0_giveTo_4 : decode cX0_giveTo 4 = .ok (.iload_n 1, 1) := by decide +kernel
theorem dX0_giveTo_5 : decode cX0_giveTo 5 = .ok (.sipush 200, 3) := by decide +kernel
theorem dX0_giveTo_8 : decode cX0_giveTo 8 = .ok (.if_icmp .ge 10, 3) := by decide +kernel
theorem dX0_giveTo_11 : decode cX0_giveTo 11 = .ok (.aload_n 0, 1) := by decide +kernel
theorem dX0_giveTo_12 : decode cX0_giveTo 12 = .ok (.getfield 18, 3) := by decide +kernel
theorem dX0_giveTo_15 : decode cX0_giveTo 15 = .ok (.iload_n 1, 1) := by decide +kernel
theorem dX0_giveTo_16 : decode cX0_giveTo 16 = .ok (.iload_n 2, 1) := by decide +kernel
theorem dX0_giveTo_17 : decode cX0_giveTo 17 = .ok (.iastore, 1) := by decide +kernel
theorem dX0_giveTo_18 : decode cX0_giveTo 18 = .ok (.return_, 1) := by decide +kernel
theorem dX0_changeValue_0 : decode cX0_changeValue 0 = .ok (.iload_n 1, 1) := by decide +kernel
theorem dX0_changeValue_1 : decode cX0_changeValue 1 = .ok (.ifCond .lt 34, 3) := by decide +kernel
theorem dX0_changeValue_4 : decode cX0_changeValue 4 = .ok (.iload_n 1, 1) := by decide +kernel
theorem dX0_changeValue_5 : decode cX0_changeValue 5 = .ok (.sipush 200, 3) := by decide +kernel
theorem dX0_changeValue_8 : decode cX0_changeValue 8 = .ok (.if_icmp .ge 27, 3) := by decide +kernel
theorem dX0_changeValue_11 : decode cX0_changeValue 11 = .ok (.aload_n 0, 1) := by decide +kernel
theorem dX0_changeValue_12 : decode cX0_changeValue 12 = .ok (.getfield 15, 3) := by decide +kernel
theorem dX0_changeValue_15 : decode cX0_changeValue 15 = .ok (.iload_n 1, 1) := by decide +kernel
theorem dX0_changeValue_16 : decode cX0_changeValue 16 = .ok (.iload_n 2, 1) := by decide +kernel
theorem dX0_changeValue_17 : decode cX0_changeValue 17 = .ok (.iastore, 1) := by decide +kernel
theorem dX0_changeValue_18 : decode cX0_changeValue 18 = .ok (.aload_n 0, 1) := by decide +kernel
theorem dX0_changeValue_19 : decode cX0_changeValue 19 = .ok (.getfield 21, 3) := by decide +kernel
theorem dX0_changeValue_22 : decode cX0_changeValue 22 = .ok (.iload_n 1, 1) := by decide +kernel
theorem dX0_changeValue_23 : decode cX0_changeValue 23 = .ok (.iaload, 1) := by decide +kernel
theorem dX0_changeValue_24 : decode cX0_changeValue 24 = .ok (.iconst (-1), 1) := by decide +kernel
theorem dX0_changeValue_25 : decode cX0_changeValue 25 = .ok (.if_icmp .ne 10, 3) := by decide +kernel
theorem dX0_changeValue_28 : decode cX0_changeValue 28 = .ok (.aload_n 0, 1) := by decide +kernel
theorem dX0_changeValue_29 : decode cX0_changeValue 29 = .ok (.getfield 21, 3) := by decide +kernel
theorem dX0_changeValue_32 : decode cX0_changeValue 32 = .ok (.iload_n 1, 1) := by decide +kernel
theorem dX0_changeValue_33 : decode cX0_changeValue 33 = .ok (.iload_n 3, 1) := by decide +kernel
theorem dX0_changeValue_34 : decode cX0_changeValue 34 = .ok (.iastore, 1) := by decide +kernel
theorem dX0_changeValue_35 : decode cX0_changeValue 35 = .ok (.return_, 1) := by decide +kernel
theorem dX0_writeBack_0 : decode cX0_writeBack 0 = .ok (.iload_n 1, 1) := by decide +kernel
theorem dX0_writeBack_1 : decode cX0_writeBack 1 = .ok (.ifCond .lt 59, 3) := by decide +kernel
theorem dX0_writeBack_4 : decode cX0_writeBack 4 = .ok (.iload_n 1, 1) := by decide +kernel
theorem dX0_writeBack_5 : decode cX0_writeBack 5 = .ok (.sipush 200, 3) := by decide +kernel
theorem dX0_writeBack_8 : decode cX0_writeBack 8 = .ok (.if_icmp .ge 52, 3) := by decide +kernel
theorem dX0_writeBack_11 : decode cX0_writeBack 11 = .ok (.aload_n 0, 1) := by decide +kernel
theorem dX0_writeBack_12 : decode cX0_writeBack 12 = .ok (.getfield 9, 3) := by decide +kernel
theorem dX0_writeBack_15 : decode cX0_writeBack 15 = .ok (.iload_n 1, 1) := by decide +kernel
theorem dX0_writeBack_16 : decode cX0_writeBack 16 = .ok (.aload_n 0, 1) := by decide +kernel
theorem dX0_writeBack_17 : decode cX0_writeBack 17 = .ok (.getfield 15, 3) := by decide +kernel
theorem dX0_writeBack_20 : decode cX0_writeBack 20 = .ok (.iload_n 1, 1) := by decide +kernel
theorem dX0_writeBack_21 : decode cX0_writeBack 21 = .ok (.iaload, 1) := by decide +kernel
theorem dX0_writeBack_22 : decode cX0_writeBack 22 = .ok (.iastore, 1) := by decide +kernel
theorem dX0_writeBack_23 : decode cX0_writeBack 23 = .ok (.aload_n 0, 1) := by decide +kernel
theorem dX0_writeBack_24 : decode cX0_writeBack 24 = .ok (.getfield 21, 3) := by decide +kernel
theorem dX0_writeBack_27 : decode cX0_writeBack 27 = .ok (.iload_n 1, 1) := by decide +kernel
theorem dX0_writeBack_28 : decode cX0_writeBack 28 = .ok (.iconst (-1), 1) := by decide +kernel
theorem dX0_writeBack_29 : decode cX0_writeBack 29 = .ok (.iastore, 1) := by decide +kernel
theorem dX0_writeBack_30 : decode cX0_writeBack 30 = .ok (.aload_n 0, 1) := by decide +kernel
theorem dX0_writeBack_31 : decode cX0_writeBack 31 = .ok (.iload_n 1, 1) := by decide +kernel
theorem dX0_writeBack_32 : decode cX0_writeBack 32 = .ok (.iconst 1, 1) := by decide +kernel
theorem dX0_writeBack_33 : decode cX0_writeBack 33 = .ok (.iadd, 1) := by decide +kernel
theorem dX0_writeBack_34 : decode cX0_writeBack 34 = .ok (.sipush 200, 3) := by decide +kernel
theorem dX0_writeBack_37 : decode cX0_writeBack 37 = .ok (.if_icmp .ne 7, 3) := by decide +kernel
theorem dX0_writeBack_40 : decode cX0_writeBack 40 = .ok (.iconst 0, 1) := by decide +kernel
theorem dX0_writeBack_41 : decode cX0_writeBack 41 = .ok (.goto 6, 3) := by decide +kernel
theorem dX0_writeBack_44 : decode cX0_writeBack 44 = .ok (.iload_n 1, 1) := by decide +kernel
theorem dX0_writeBack_45 : decode cX0_writeBack 45 = .ok (.iconst 1, 1) := by decide +kernel
theorem dX0_writeBack_46 : decode cX0_writeBack 46 = .ok (.iadd, 1) := by decide +kernel
theorem dX0_writeBack_47 : decode cX0_writeBack 47 = .ok (.putfield 30, 3) := by decide +kernel
theorem dX0_writeBack_50 : decode cX0_writeBack 50 = .ok (.aload_n 0, 1) := by decide +kernel
theorem dX0_writeBack_51 : decode cX0_writeBack 51 = .ok (.dup, 1) := by decide +kernel
theorem dX0_writeBack_52 : decode cX0_writeBack 52 = .ok (.getfield 34, 3) := by decide +kernel
theorem dX0_writeBack_55 : decode cX0_writeBack 55 = .ok (.iconst 1, 1) := by decide +kernel
theorem dX0_writeBack_56 : decode cX0_writeBack 56 = .ok (.iadd, 1) := by decide +kernel
theorem dX0_writeBack_57 : decode cX0_writeBack 57 = .ok (.putfield 34, 3) := by decide +kernel
theorem dX0_writeBack_60 : decode cX0_writeBack 60 = .ok (.return_, 1) := by decide +kernel
theorem dX0_writeBackSome_0 : decode cX0_writeBackSome 0 = .ok (.iconst 0, 1) := by decide +kernel
theorem dX0_writeBackSome_1 : decode cX0_writeBackSome 1 = .ok (.istore_n 2, 1) := by decide +kernel
theorem dX0_writeBackSome_2 : decode cX0_writeBackSome 2 = .ok (.iload_n 2, 1) := by decide +kernel
theorem dX0_writeBackSome_3 : decode cX0_writeBackSome 3 = .ok (.iload_n 1, 1) := by decide +kernel
theorem dX0_writeBackSome_4 : decode cX0_writeBackSome 4 = .ok (.if_icmp .ge 34, 3) := by decide +kernel
theorem dX0_writeBackSome_7 : decode cX0_writeBackSome 7 = .ok (.iload_n 2, 1) := by decide +kernel
theorem dX0_writeBackSome_8 : decode cX0_writeBackSome 8 = .ok (.sipush 200, 3) := by decide +kernel
theorem dX0_writeBackSome_11 : decode cX0_writeBackSome 11 = .ok (.if_icmp .ge 27, 3) := by decide +kernel
theorem dX0_writeBackSome_14 : decode cX0_writeBackSome 14 = .ok (.aload_n 0, 1) := by decide +kernel
theorem dX0_writeBackSome_15 : decode cX0_writeBackSome 15 = .ok (.iconst 0, 1) := by decide +kernel
theorem dX0_writeBackSome_16 : decode cX0_writeBackSome 16 = .ok (.invokevirtual 37, 3) := by decide +kernel
theorem dX0_writeBackSome_19 : decode cX0_writeBackSome 19 = .ok (.istore_n 3, 1) := by decide +kernel
theorem dX0_writeBackSome_20 : decode cX0_writeBackSome 20 = .ok (.iload_n 3, 1) := by decide +kernel
theorem dX0_writeBackSome_21 : decode cX0_writeBackSome 21 = .ok (.iconst (-1), 1) := by decide +kernel
theorem dX0_writeBackSome_22 : decode cX0_writeBackSome 22 = .ok (.if_icmp .ne 5, 3) := by decide +kernel
theorem dX0_writeBackSome_25 : decode cX0_writeBackSome 25 = .ok (.iload_n 2, 1) := by decide +kernel
theorem dX0_writeBackSome_26 : decode cX0_writeBackSome 26 = .ok (.ireturn, 1) := by decide +kernel
theorem dX0_writeBackSome_27 : decode cX0_writeBackSome 27 = .ok (.aload_n 0, 1) := by decide +kernel
theorem dX0_writeBackSome_28 : decode cX0_writeBackSome 28 = .ok (.iload_n 3, 1) := by decide +kernel
theorem dX0_writeBackSome_29 : decode cX0_writeBackSome 29 = .ok (.invokevirtual 41, 3) := by decide +kernel
theorem dX0_writeBackSome_32 : decode cX0_writeBackSome 32 = .ok (.iinc 2 1, 3) := by decide +kernel
theorem dX0_writeBackSome_35 : decode cX0_writeBackSome 35 = .ok (.goto (-33), 3) := by decide +kernel
theorem dX0_writeBackSome_38 : decode cX0_writeBackSome 38 = .ok (.iload_n 2, 1) := by decide +kernel
theorem dX0_writeBackSome_39 : decode cX0_writeBackSome 39 = .ok (.ireturn, 1) := by decide +kernel
theorem dX0_howManyDirty_0 : decode cX0_howManyDirty 0 = .ok (.iconst 0, 1) := by decide +kernel
theorem dX0_howManyDirty_1 : decode cX0_howManyDirty 1 = .ok (.istore_n 1, 1) := by decide +kernel
theorem dX0_howManyDirty_2 : decode cX0_howManyDirty 2 = .ok (.iconst 0, 1) := by decide +kernel
theorem dX0_howManyDirty_3 : decode cX0_howManyDirty 3 = .ok (.istore_n 2, 1) := by decide +kernel
theorem dX0_howManyDirty_4 : decode cX0_howManyDirty 4 = .ok (.iload_n 2, 1) := by decide +kernel
theorem dX0_howManyDirty_5 : decode cX0_howManyDirty 5 = .ok (.sipush 200, 3) := by decide +kernel
theorem dX0_howManyDirty_8 : decode cX0_howManyDirty 8 = .ok (.if_icmp .ge 22, 3) := by decide +kernel
theorem dX0_howManyDirty_11 : decode cX0_howManyDirty 11 = .ok (.aload_n 0, 1) := by decide +kernel
theorem dX0_howManyDirty_12 : decode cX0_howManyDirty 12 = .ok (.getfield 21, 3) := by decide +kernel
theorem dX0_howManyDirty_15 : decode cX0_howManyDirty 15 = .ok (.iload_n 2, 1) := by decide +kernel
theorem dX0_howManyDirty_16 : decode cX0_howManyDirty 16 = .ok (.iaload, 1) := by decide +kernel
theorem dX0_howManyDirty_17 : decode cX0_howManyDirty 17 = .ok (.iconst (-1), 1) := by decide +kernel
theorem dX0_howManyDirty_18 : decode cX0_howManyDirty 18 = .ok (.if_icmp .eq 6, 3) := by decide +kernel
theorem dX0_howManyDirty_21 : decode cX0_howManyDirty 21 = .ok (.iinc 1 1, 3) := by decide +kernel
theorem dX0_howManyDirty_24 : decode cX0_howManyDirty 24 = .ok (.iinc 2 1, 3) := by decide +kernel
theorem dX0_howManyDirty_27 : decode cX0_howManyDirty 27 = .ok (.goto (-23), 3) := by decide +kernel
theorem dX0_howManyDirty_30 : decode cX0_howManyDirty 30 = .ok (.iload_n 1, 1) := by decide +kernel
theorem dX0_howManyDirty_31 : decode cX0_howManyDirty 31 = .ok (.ireturn, 1) := by decide +kernel
theorem dX0_dirtyAt_0 : decode cX0_dirtyAt 0 = .ok (.iconst 0, 1) := by decide +kernel
theorem dX0_dirtyAt_1 : decode cX0_dirtyAt 1 = .ok (.istore_n 2, 1) := by decide +kernel
theorem dX0_dirtyAt_2 : decode cX0_dirtyAt 2 = .ok (.iconst 0, 1) := by decide +kernel
theorem dX0_dirtyAt_3 : decode cX0_dirtyAt 3 = .ok (.istore_n 3, 1) := by decide +kernel
theorem dX0_dirtyAt_4 : decode cX0_dirtyAt 4 = .ok (.iload_n 3, 1) := by decide +kernel
theorem dX0_dirtyAt_5 : decode cX0_dirtyAt 5 = .ok (.sipush 200, 3) := by decide +kernel
theorem dX0_dirtyAt_8 : decode cX0_dirtyAt 8 = .ok (.if_icmp .ge 41, 3) := by decide +kernel
theorem dX0_dirtyAt_11 : decode cX0_dirtyAt 11 = .ok (.aload_n 0, 1) := by decide +kernel
theorem dX0_dirtyAt_12 : decode cX0_dirtyAt 12 = .ok (.getfield 30, 3) := by decide +kernel
theorem dX0_dirtyAt_15 : decode cX0_dirtyAt 15 = .ok (.iload_n 3, 1) := by decide +kernel
theorem dX0_dirtyAt_16 : decode cX0_dirtyAt 16 = .ok (.iadd, 1) := by decide +kernel
theorem dX0_dirtyAt_17 : decode cX0_dirtyAt 17 = .ok (.sipush 200, 3) := by decide +kernel
theorem dX0_dirtyAt_20 : decode cX0_dirtyAt 20 = .ok (.irem, 1) := by decide +kernel
theorem dX0_dirtyAt_21 : decode cX0_dirtyAt 21 = .ok (.istore 4, 2) := by decide +kernel
theorem dX0_dirtyAt_23 : decode cX0_dirtyAt 23 = .ok (.aload_n 0, 1) := by decide +kernel
theorem dX0_dirtyAt_24 : decode cX0_dirtyAt 24 = .ok (.iload 4, 2) := by decide +kernel
theorem dX0_dirtyAt_26 : decode cX0_dirtyAt 26 = .ok (.invokevirtual 45, 3) := by decide +kernel
theorem dX0_dirtyAt_29 : decode cX0_dirtyAt 29 = .ok (.ifCond .eq 14, 3) := by decide +kernel
theorem dX0_dirtyAt_32 : decode cX0_dirtyAt 32 = .ok (.iload_n 2, 1) := by decide +kernel
theorem dX0_dirtyAt_33 : decode cX0_dirtyAt 33 = .ok (.iload_n 1, 1) := by decide +kernel
theorem dX0_dirtyAt_34 : decode cX0_dirtyAt 34 = .ok (.if_icmp .ne 6, 3) := by decide +kernel
theorem dX0_dirtyAt_37 : decode cX0_dirtyAt 37 = .ok (.iload 4, 2) := by decide +kernel
theorem dX0_dirtyAt_39 : decode cX0_dirtyAt 39 = .ok (.ireturn, 1) := by decide +kernel
theorem dX0_dirtyAt_40 : decode cX0_dirtyAt 40 = .ok (.iinc 2 1, 3) := by decide +kernel
theorem dX0_dirtyAt_43 : decode cX0_dirtyAt 43 = .ok (.iinc 3 1, 3) := by decide +kernel
theorem dX0_dirtyAt_46 : decode cX0_dirtyAt 46 = .ok (.goto (-42), 3) := by decide +kernel
theorem dX0_dirtyAt_49 : decode cX0_dirtyAt 49 = .ok (.iconst (-1), 1) := by decide +kernel
theorem dX0_dirtyAt_50 : decode cX0_dirtyAt 50 = .ok (.ireturn, 1) := by decide +kernel
theorem dX0_rankOf_0 : decode cX0_rankOf 0 = .ok (.aload_n 0, 1) := by decide +kernel
theorem dX0_rankOf_1 : decode cX0_rankOf 1 = .ok (.iload_n 1, 1) := by decide +kernel
theorem dX0_rankOf_2 : decode cX0_rankOf 2 = .ok (.invokevirtual 45, 3) := by decide +kernel
theorem dX0_rankOf_5 : decode cX0_rankOf 5 = .ok (.ifCond .ne 5, 3) := by decide +kernel
theorem dX0_rankOf_8 : decode cX0_rankOf 8 = .ok (.iconst (-1), 1) := by decide +kernel
theorem dX0_rankOf_9 : decode cX0_rankOf 9 = .ok (.ireturn, 1) := by decide +kernel
theorem dX0_rankOf_10 : decode cX0_rankOf 10 = .ok (.iconst 0, 1) := by decide +kernel
theorem dX0_rankOf_11 : decode cX0_rankOf 11 = .ok (.istore_n 2, 1) := by decide +kernel
theorem dX0_rankOf_12 : decode cX0_rankOf 12 = .ok (.iconst 0, 1) := by decide +kernel
theorem dX0_rankOf_13 : decode cX0_rankOf 13 = .ok (.istore_n 3, 1) := by decide +kernel
theorem dX0_rankOf_14 : decode cX0_rankOf 14 = .ok (.iload_n 3, 1) := by decide +kernel
theorem dX0_rankOf_15 : decode cX0_rankOf 15 = .ok (.sipush 200, 3) := by decide +kernel
theorem dX0_rankOf_18 : decode cX0_rankOf 18 = .ok (.if_icmp .ge 41, 3) := by decide +kernel
theorem dX0_rankOf_21 : decode cX0_rankOf 21 = .ok (.aload_n 0, 1) := by decide +kernel
theorem dX0_rankOf_22 : decode cX0_rankOf 22 = .ok (.getfield 30, 3) := by decide +kernel
theorem dX0_rankOf_25 : decode cX0_rankOf 25 = .ok (.iload_n 3, 1) := by decide +kernel
theorem dX0_rankOf_26 : decode cX0_rankOf 26 = .ok (.iadd, 1) := by decide +kernel
theorem dX0_rankOf_27 : decode cX0_rankOf 27 = .ok (.sipush 200, 3) := by decide +kernel
theorem dX0_rankOf_30 : decode cX0_rankOf 30 = .ok (.irem, 1) := by decide +kernel
theorem dX0_rankOf_31 : decode cX0_rankOf 31 = .ok (.istore 4, 2) := by decide +kernel
theorem dX0_rankOf_33 : decode cX0_rankOf 33 = .ok (.iload 4, 2) := by decide +kernel
theorem dX0_rankOf_35 : decode cX0_rankOf 35 = .ok (.iload_n 1, 1) := by decide +kernel
theorem dX0_rankOf_36 : decode cX0_rankOf 36 = .ok (.if_icmp .ne 5, 3) := by decide +kernel
theorem dX0_rankOf_39 : decode cX0_rankOf 39 = .ok (.iload_n 2, 1) := by decide +kernel
theorem dX0_rankOf_40 : decode cX0_rankOf 40 = .ok (.ireturn, 1) := by decide +kernel
theorem dX0_rankOf_41 : decode cX0_rankOf 41 = .ok (.aload_n 0, 1) := by decide +kernel
theorem dX0_rankOf_42 : decode cX0_rankOf 42 = .ok (.iload 4, 2) := by decide +kernel
theorem dX0_rankOf_44 : decode cX0_rankOf 44 = .ok (.invokevirtual 45, 3) := by decide +kernel
theorem dX0_rankOf_47 : decode cX0_rankOf 47 = .ok (.ifCond .eq 6, 3) := by decide +kernel
theorem dX0_rankOf_50 : decode cX0_rankOf 50 = .ok (.iinc 2 1, 3) := by decide +kernel
theorem dX0_rankOf_53 : decode cX0_rankOf 53 = .ok (.iinc 3 1, 3) := by decide +kernel
theorem dX0_rankOf_56 : decode cX0_rankOf 56 = .ok (.goto (-42), 3) := by decide +kernel
theorem dX0_rankOf_59 : decode cX0_rankOf 59 = .ok (.iconst (-1), 1) := by decide +kernel
theorem dX0_rankOf_60 : decode cX0_rankOf 60 = .ok (.ireturn, 1) := by decide +kernel
theorem dX0_dirtyLongest_0 : decode cX0_dirtyLongest 0 = .ok (.iconst (-1), 1) := by decide +kernel
theorem dX0_dirtyLongest_1 : decode cX0_dirtyLongest 1 = .ok (.istore_n 1, 1) := by decide +kernel
theorem dX0_dirtyLongest_2 : decode cX0_dirtyLongest 2 = .ok (.iconst 0, 1) := by decide +kernel
theorem dX0_dirtyLongest_3 : decode cX0_dirtyLongest 3 = .ok (.istore_n 2, 1) := by decide +kernel
theorem dX0_dirtyLongest_4 : decode cX0_dirtyLongest 4 = .ok (.iload_n 2, 1) := by decide +kernel
theorem dX0_dirtyLongest_5 : decode cX0_dirtyLongest 5 = .ok (.sipush 200, 3) := by decide +kernel
theorem dX0_dirtyLongest_8 : decode cX0_dirtyLongest 8 = .ok (.if_icmp .ge 40, 3) := by decide +kernel
theorem dX0_dirtyLongest_11 : decode cX0_dirtyLongest 11 = .ok (.aload_n 0, 1) := by decide +kernel
theorem dX0_dirtyLongest_12 : decode cX0_dirtyLongest 12 = .ok (.getfield 21, 3) := by decide +kernel
theorem dX0_dirtyLongest_15 : decode cX0_dirtyLongest 15 = .ok (.iload_n 2, 1) := by decide +kernel
theorem dX0_dirtyLongest_16 : decode cX0_dirtyLongest 16 = .ok (.iaload, 1) := by decide +kernel
theorem dX0_dirtyLongest_17 : decode cX0_dirtyLongest 17 = .ok (.iconst (-1), 1) := by decide +kernel
theorem dX0_dirtyLongest_18 : decode cX0_dirtyLongest 18 = .ok (.if_icmp .eq 24, 3) := by decide +kernel
theorem dX0_dirtyLongest_21 : decode cX0_dirtyLongest 21 = .ok (.iload_n 1, 1) := by decide +kernel
theorem dX0_dirtyLongest_22 : decode cX0_dirtyLongest 22 = .ok (.iconst (-1), 1) := by decide +kernel
theorem dX0_dirtyLongest_23 : decode cX0_dirtyLongest 23 = .ok (.if_icmp .eq 17, 3) := by decide +kernel
theorem dX0_dirtyLongest_26 : decode cX0_dirtyLongest 26 = .ok (.aload_n 0, 1) := by decide +kernel
theorem dX0_dirtyLongest_27 : decode cX0_dirtyLongest 27 = .ok (.getfield 21, 3) := by decide +kernel
theorem dX0_dirtyLongest_30 : decode cX0_dirtyLongest 30 = .ok (.iload_n 2, 1) := by decide +kernel
theorem dX0_dirtyLongest_31 : decode cX0_dirtyLongest 31 = .ok (.iaload, 1) := by decide +kernel
theorem dX0_dirtyLongest_32 : decode cX0_dirtyLongest 32 = .ok (.aload_n 0, 1) := by decide +kernel
theorem dX0_dirtyLongest_33 : decode cX0_dirtyLongest 33 = .ok (.iload_n 1, 1) := by decide +kernel
theorem dX0_dirtyLongest_34 : decode cX0_dirtyLongest 34 = .ok (.invokevirtual 49, 3) := by decide +kernel
theorem dX0_dirtyLongest_37 : decode cX0_dirtyLongest 37 = .ok (.if_icmp .ge 5, 3) := by decide +kernel
theorem dX0_dirtyLongest_40 : decode cX0_dirtyLongest 40 = .ok (.iload_n 2, 1) := by decide +kernel
theorem dX0_dirtyLongest_41 : decode cX0_dirtyLongest 41 = .ok (.istore_n 1, 1) := by decide +kernel
theorem dX0_dirtyLongest_42 : decode cX0_dirtyLongest 42 = .ok (.iinc 2 1, 3) := by decide +kernel
theorem dX0_dirtyLongest_45 : decode cX0_dirtyLongest 45 = .ok (.goto (-41), 3) := by decide +kernel
theorem dX0_dirtyLongest_48 : decode cX0_dirtyLongest 48 = .ok (.iload_n 1, 1) := by decide +kernel
theorem dX0_dirtyLongest_49 : decode cX0_dirtyLongest 49 = .ok (.ireturn, 1) := by decide +kernel
theorem dX0_howManyDirtySince_0 : decode cX0_howManyDirtySince 0 = .ok (.iconst 0, 1) := by decide +kernel
theorem dX0_howManyDirtySince_1 : decode cX0_howManyDirtySince 1 = .ok (.istore_n 2, 1) := by decide +kernel
theorem dX0_howManyDirtySince_2 : decode cX0_howManyDirtySince 2 = .ok (.iconst 0, 1) := by decide +kernel
theorem dX0_howManyDirtySince_3 : decode cX0_howManyDirtySince 3 = .ok (.istore_n 3, 1) := by decide +kernel
theorem dX0_howManyDirtySince_4 : decode cX0_howManyDirtySince 4 = .ok (.iload_n 3, 1) := by decide +kernel
theorem dX0_howManyDirtySince_5 : decode cX0_howManyDirtySince 5 = .ok (.sipush 200, 3) := by decide +kernel
theorem dX0_howManyDirtySince_8 : decode cX0_howManyDirtySince 8 = .ok (.if_icmp .ge 32, 3) := by decide +kernel
theorem dX0_howManyDirtySince_11 : decode cX0_howManyDirtySince 11 = .ok (.aload_n 0, 1) := by decide +kernel
theorem dX0_howManyDirtySince_12 : decode cX0_howManyDirtySince 12 = .ok (.getfield 21, 3) := by decide +kernel
theorem dX0_howManyDirtySince_15 : decode cX0_howManyDirtySince 15 = .ok (.iload_n 3, 1) := by decide +kernel
theorem dX0_howManyDirtySince_16 : decode cX0_howManyDirtySince 16 = .ok (.iaload, 1) := by decide +kernel
theorem dX0_howManyDirtySince_17 : decode cX0_howManyDirtySince 17 = .ok (.iconst (-1), 1) := by decide +kernel
theorem dX0_howManyDirtySince_18 : decode cX0_howManyDirtySince 18 = .ok (.if_icmp .eq 16, 3) := by decide +kernel
theorem dX0_howManyDirtySince_21 : decode cX0_howManyDirtySince 21 = .ok (.aload_n 0, 1) := by decide +kernel
theorem dX0_howManyDirtySince_22 : decode cX0_howManyDirtySince 22 = .ok (.getfield 21, 3) := by decide +kernel
theorem dX0_howManyDirtySince_25 : decode cX0_howManyDirtySince 25 = .ok (.iload_n 3, 1) := by decide +kernel
theorem dX0_howManyDirtySince_26 : decode cX0_howManyDirtySince 26 = .ok (.iaload, 1) := by decide +kernel
theorem dX0_howManyDirtySince_27 : decode cX0_howManyDirtySince 27 = .ok (.iload_n 1, 1) := by decide +kernel
theorem dX0_howManyDirtySince_28 : decode cX0_howManyDirtySince 28 = .ok (.if_icmp .gt 6, 3) := by decide +kernel
theorem dX0_howManyDirtySince_31 : decode cX0_howManyDirtySince 31 = .ok (.iinc 2 1, 3) := by decide +kernel
theorem dX0_howManyDirtySince_34 : decode cX0_howManyDirtySince 34 = .ok (.iinc 3 1, 3) := by decide +kernel
theorem dX0_howManyDirtySince_37 : decode cX0_howManyDirtySince 37 = .ok (.goto (-33), 3) := by decide +kernel
theorem dX0_howManyDirtySince_40 : decode cX0_howManyDirtySince 40 = .ok (.iload_n 2, 1) := by decide +kernel
theorem dX0_howManyDirtySince_41 : decode cX0_howManyDirtySince 41 = .ok (.ireturn, 1) := by decide +kernel
theorem dX0_howManyDiffer_0 : decode cX0_howManyDiffer 0 = .ok (.iconst 0, 1) := by decide +kernel
theorem dX0_howManyDiffer_1 : decode cX0_howManyDiffer 1 = .ok (.istore_n 1, 1) := by decide +kernel
theorem dX0_howManyDiffer_2 : decode cX0_howManyDiffer 2 = .ok (.iconst 0, 1) := by decide +kernel
theorem dX0_howManyDiffer_3 : decode cX0_howManyDiffer 3 = .ok (.istore_n 2, 1) := by decide +kernel
theorem dX0_howManyDiffer_4 : decode cX0_howManyDiffer 4 = .ok (.iload_n 2, 1) := by decide +kernel
theorem dX0_howManyDiffer_5 : decode cX0_howManyDiffer 5 = .ok (.sipush 200, 3) := by decide +kernel
theorem dX0_howManyDiffer_8 : decode cX0_howManyDiffer 8 = .ok (.if_icmp .ge 37, 3) := by decide +kernel
theorem dX0_howManyDiffer_11 : decode cX0_howManyDiffer 11 = .ok (.aload_n 0, 1) := by decide +kernel
theorem dX0_howManyDiffer_12 : decode cX0_howManyDiffer 12 = .ok (.getfield 24, 3) := by decide +kernel
theorem dX0_howManyDiffer_15 : decode cX0_howManyDiffer 15 = .ok (.iload_n 2, 1) := by decide +kernel
theorem dX0_howManyDiffer_16 : decode cX0_howManyDiffer 16 = .ok (.iaload, 1) := by decide +kernel
theorem dX0_howManyDiffer_17 : decode cX0_howManyDiffer 17 = .ok (.iconst (-1), 1) := by decide +kernel
theorem dX0_howManyDiffer_18 : decode cX0_howManyDiffer 18 = .ok (.if_icmp .eq 21, 3) := by decide +kernel
theorem dX0_howManyDiffer_21 : decode cX0_howManyDiffer 21 = .ok (.aload_n 0, 1) := by decide +kernel
theorem dX0_howManyDiffer_22 : decode cX0_howManyDiffer 22 = .ok (.getfield 15, 3) := by decide +kernel
theorem dX0_howManyDiffer_25 : decode cX0_howManyDiffer 25 = .ok (.iload_n 2, 1) := by decide +kernel
theorem dX0_howManyDiffer_26 : decode cX0_howManyDiffer 26 = .ok (.iaload, 1) := by decide +kernel
theorem dX0_howManyDiffer_27 : decode cX0_howManyDiffer 27 = .ok (.aload_n 0, 1) := by decide +kernel
theorem dX0_howManyDiffer_28 : decode cX0_howManyDiffer 28 = .ok (.getfield 9, 3) := by decide +kernel
theorem dX0_howManyDiffer_31 : decode cX0_howManyDiffer 31 = .ok (.iload_n 2, 1) := by decide +kernel
theorem dX0_howManyDiffer_32 : decode cX0_howManyDiffer 32 = .ok (.iaload, 1) := by decide +kernel
theorem dX0_howManyDiffer_33 : decode cX0_howManyDiffer 33 = .ok (.if_icmp .eq 6, 3) := by decide +kernel
theorem dX0_howManyDiffer_36 : decode cX0_howManyDiffer 36 = .ok (.iinc 1 1, 3) := by decide +kernel
theorem dX0_howManyDiffer_39 : decode cX0_howManyDiffer 39 = .ok (.iinc 2 1, 3) := by decide +kernel
theorem dX0_howManyDiffer_42 : decode cX0_howManyDiffer 42 = .ok (.goto (-38), 3) := by decide +kernel
theorem dX0_howManyDiffer_45 : decode cX0_howManyDiffer 45 = .ok (.iload_n 1, 1) := by decide +kernel
theorem dX0_howManyDiffer_46 : decode cX0_howManyDiffer 46 = .ok (.ireturn, 1) := by decide +kernel
theorem dX0_longestChain_0 : decode cX0_longestChain 0 = .ok (.iconst 0, 1) := by decide +kernel
theorem dX0_longestChain_1 : decode cX0_longestChain 1 = .ok (.istore_n 2, 1) := by decide +kernel
theorem dX0_longestChain_2 : decode cX0_longestChain 2 = .ok (.iconst 0, 1) := by decide +kernel
theorem dX0_longestChain_3 : decode cX0_longestChain 3 = .ok (.istore_n 3, 1) := by decide +kernel
theorem dX0_longestChain_4 : decode cX0_longestChain 4 = .ok (.iconst 0, 1) := by decide +kernel
theorem dX0_longestChain_5 : decode cX0_longestChain 5 = .ok (.istore 4, 2) := by decide +kernel
theorem dX0_longestChain_7 : decode cX0_longestChain 7 = .ok (.iload 4, 2) := by decide +kernel
theorem dX0_longestChain_9 : decode cX0_longestChain 9 = .ok (.sipush 200, 3) := by decide +kernel
theorem dX0_longestChain_12 : decode cX0_longestChain 12 = .ok (.if_icmp .ge 57, 3) := by decide +kernel
theorem dX0_longestChain_15 : decode cX0_longestChain 15 = .ok (.aload_n 0, 1) := by decide +kernel
theorem dX0_longestChain_16 : decode cX0_longestChain 16 = .ok (.getfield 24, 3) := by decide +kernel
theorem dX0_longestChain_19 : decode cX0_longestChain 19 = .ok (.iload 4, 2) := by decide +kernel
theorem dX0_longestChain_21 : decode cX0_longestChain 21 = .ok (.iaload, 1) := by decide +kernel
theorem dX0_longestChain_22 : decode cX0_longestChain 22 = .ok (.iload_n 1, 1) := by decide +kernel
theorem dX0_longestChain_23 : decode cX0_longestChain 23 = .ok (.if_icmp .eq 14, 3) := by decide +kernel
theorem dX0_longestChain_26 : decode cX0_longestChain 26 = .ok (.aload_n 0, 1) := by decide +kernel
theorem dX0_longestChain_27 : decode cX0_longestChain 27 = .ok (.getfield 27, 3) := by decide +kernel
theorem dX0_longestChain_30 : decode cX0_longestChain 30 = .ok (.iload 4, 2) := by decide +kernel
theorem dX0_longestChain_32 : decode cX0_longestChain 32 = .ok (.iaload, 1) := by decide +kernel
theorem dX0_longestChain_33 : decode cX0_longestChain 33 = .ok (.iload_n 1, 1) := by decide +kernel
theorem dX0_longestChain_34 : decode cX0_longestChain 34 = .ok (.if_icmp .ne 7, 3) := by decide +kernel
theorem dX0_longestChain_37 : decode cX0_longestChain 37 = .ok (.iconst 1, 1) := by decide +kernel
theorem dX0_longestChain_38 : decode cX0_longestChain 38 = .ok (.goto 4, 3) := by decide +kernel
theorem dX0_longestChain_41 : decode cX0_longestChain 41 = .ok (.iconst 0, 1) := by decide +kernel
theorem dX0_longestChain_42 : decode cX0_longestChain 42 = .ok (.istore 5, 2) := by decide +kernel
theorem dX0_longestChain_44 : decode cX0_longestChain 44 = .ok (.iload 5, 2) := by decide +kernel
theorem dX0_longestChain_46 : decode cX0_longestChain 46 = .ok (.ifCond .eq 9, 3) := by decide +kernel
theorem dX0_longestChain_49 : decode cX0_longestChain 49 = .ok (.iload_n 3, 1) := by decide +kernel
theorem dX0_longestChain_50 : decode cX0_longestChain 50 = .ok (.iconst 1, 1) := by decide +kernel
theorem dX0_longestChain_51 : decode cX0_longestChain 51 = .ok (.iadd, 1) := by decide +kernel
theorem dX0_longestChain_52 : decode cX0_longestChain 52 = .ok (.goto 4, 3) := by decide +kernel
theorem dX0_longestChain_55 : decode cX0_longestChain 55 = .ok (.iconst 0, 1) := by decide +kernel
theorem dX0_longestChain_56 : decode cX0_longestChain 56 = .ok (.istore_n 3, 1) := by decide +kernel
theorem dX0_longestChain_57 : decode cX0_longestChain 57 = .ok (.iload_n 2, 1) := by decide +kernel
theorem dX0_longestChain_58 : decode cX0_longestChain 58 = .ok (.iload_n 3, 1) := by decide +kernel
theorem dX0_longestChain_59 : decode cX0_longestChain 59 = .ok (.invokestatic 52, 3) := by decide +kernel
theorem dX0_longestChain_62 : decode cX0_longestChain 62 = .ok (.istore_n 2, 1) := by decide +kernel
theorem dX0_longestChain_63 : decode cX0_longestChain 63 = .ok (.iinc 4 1, 3) := by decide +kernel
theorem dX0_longestChain_66 : decode cX0_longestChain 66 = .ok (.goto (-59), 3) := by decide +kernel
theorem dX0_longestChain_69 : decode cX0_longestChain 69 = .ok (.iload_n 2, 1) := by decide +kernel
theorem dX0_longestChain_70 : decode cX0_longestChain 70 = .ok (.ireturn, 1) := by decide +kernel
theorem dX0_copyFrom_0 : decode cX0_copyFrom 0 = .ok (.aload_n 1, 1) := by decide +kernel
theorem dX0_copyFrom_1 : decode cX0_copyFrom 1 = .ok (.getfield 9, 3) := by decide +kernel
theorem dX0_copyFrom_4 : decode cX0_copyFrom 4 = .ok (.iconst 0, 1) := by decide +kernel
theorem dX0_copyFrom_5 : decode cX0_copyFrom 5 = .ok (.aload_n 0, 1) := by decide +kernel
theorem dX0_copyFrom_6 : decode cX0_copyFrom 6 = .ok (.getfield 9, 3) := by decide +kernel
theorem dX0_copyFrom_9 : decode cX0_copyFrom 9 = .ok (.iconst 0, 1) := by decide +kernel
theorem dX0_copyFrom_10 : decode cX0_copyFrom 10 = .ok (.sipush 200, 3) := by decide +kernel
theorem dX0_copyFrom_13 : decode cX0_copyFrom 13 = .ok (.invokestatic 58, 3) := by decide +kernel
theorem dX0_copyFrom_16 : decode cX0_copyFrom 16 = .ok (.aload_n 1, 1) := by decide +kernel
theorem dX0_copyFrom_17 : decode cX0_copyFrom 17 = .ok (.getfield 15, 3) := by decide +kernel
theorem dX0_copyFrom_20 : decode cX0_copyFrom 20 = .ok (.iconst 0, 1) := by decide +kernel
theorem dX0_copyFrom_21 : decode cX0_copyFrom 21 = .ok (.aload_n 0, 1) := by decide +kernel
theorem dX0_copyFrom_22 : decode cX0_copyFrom 22 = .ok (.getfield 15, 3) := by decide +kernel
theorem dX0_copyFrom_25 : decode cX0_copyFrom 25 = .ok (.iconst 0, 1) := by decide +kernel
theorem dX0_copyFrom_26 : decode cX0_copyFrom 26 = .ok (.sipush 200, 3) := by decide +kernel
theorem dX0_copyFrom_29 : decode cX0_copyFrom 29 = .ok (.invokestatic 58, 3) := by decide +kernel
theorem dX0_copyFrom_32 : decode cX0_copyFrom 32 = .ok (.aload_n 1, 1) := by decide +kernel
theorem dX0_copyFrom_33 : decode cX0_copyFrom 33 = .ok (.getfield 18, 3) := by decide +kernel
theorem dX0_copyFrom_36 : decode cX0_copyFrom 36 = .ok (.iconst 0, 1) := by decide +kernel
theorem dX0_copyFrom_37 : decode cX0_copyFrom 37 = .ok (.aload_n 0, 1) := by decide +kernel
theorem dX0_copyFrom_38 : decode cX0_copyFrom 38 = .ok (.getfield 18, 3) := by decide +kernel
theorem dX0_copyFrom_41 : decode cX0_copyFrom 41 = .ok (.iconst 0, 1) := by decide +kernel
theorem dX0_copyFrom_42 : decode cX0_copyFrom 42 = .ok (.sipush 200, 3) := by decide +kernel
theorem dX0_copyFrom_45 : decode cX0_copyFrom 45 = .ok (.invokestatic 58, 3) := by decide +kernel
theorem dX0_copyFrom_48 : decode cX0_copyFrom 48 = .ok (.aload_n 1, 1) := by decide +kernel
theorem dX0_copyFrom_49 : decode cX0_copyFrom 49 = .ok (.getfield 21, 3) := by decide +kernel
theorem dX0_copyFrom_52 : decode cX0_copyFrom 52 = .ok (.iconst 0, 1) := by decide +kernel
theorem dX0_copyFrom_53 : decode cX0_copyFrom 53 = .ok (.aload_n 0, 1) := by decide +kernel
theorem dX0_copyFrom_54 : decode cX0_copyFrom 54 = .ok (.getfield 21, 3) := by decide +kernel
theorem dX0_copyFrom_57 : decode cX0_copyFrom 57 = .ok (.iconst 0, 1) := by decide +kernel
theorem dX0_copyFrom_58 : decode cX0_copyFrom 58 = .ok (.sipush 200, 3) := by decide +kernel
theorem dX0_copyFrom_61 : decode cX0_copyFrom 61 = .ok (.invokestatic 58, 3) := by decide +kernel
theorem dX0_copyFrom_64 : decode cX0_copyFrom 64 = .ok (.aload_n 1, 1) := by decide +kernel
theorem dX0_copyFrom_65 : decode cX0_copyFrom 65 = .ok (.getfield 24, 3) := by decide +kernel
theorem dX0_copyFrom_68 : decode cX0_copyFrom 68 = .ok (.iconst 0, 1) := by decide +kernel
theorem dX0_copyFrom_69 : decode cX0_copyFrom 69 = .ok (.aload_n 0, 1) := by decide +kernel
theorem dX0_copyFrom_70 : decode cX0_copyFrom 70 = .ok (.getfield 24, 3) := by decide +kernel
theorem dX0_copyFrom_73 : decode cX0_copyFrom 73 = .ok (.iconst 0, 1) := by decide +kernel
theorem dX0_copyFrom_74 : decode cX0_copyFrom 74 = .ok (.sipush 200, 3) := by decide +kernel
theorem dX0_copyFrom_77 : decode cX0_copyFrom 77 = .ok (.invokestatic 58, 3) := by decide +kernel
theorem dX0_copyFrom_80 : decode cX0_copyFrom 80 = .ok (.aload_n 1, 1) := by decide +kernel
theorem dX0_copyFrom_81 : decode cX0_copyFrom 81 = .ok (.getfield 27, 3) := by decide +kernel
theorem dX0_copyFrom_84 : decode cX0_copyFrom 84 = .ok (.iconst 0, 1) := by decide +kernel
theorem dX0_copyFrom_85 : decode cX0_copyFrom 85 = .ok (.aload_n 0, 1) := by decide +kernel
theorem dX0_copyFrom_86 : decode cX0_copyFrom 86 = .ok (.getfield 27, 3) := by decide +kernel
theorem dX0_copyFrom_89 : decode cX0_copyFrom 89 = .ok (.iconst 0, 1) := by decide +kernel
theorem dX0_copyFrom_90 : decode cX0_copyFrom 90 = .ok (.sipush 200, 3) := by decide +kernel
theorem dX0_copyFrom_93 : decode cX0_copyFrom 93 = .ok (.invokestatic 58, 3) := by decide +kernel
theorem dX0_copyFrom_96 : decode cX0_copyFrom 96 = .ok (.aload_n 0, 1) := by decide +kernel
theorem dX0_copyFrom_97 : decode cX0_copyFrom 97 = .ok (.aload_n 1, 1) := by decide +kernel
theorem dX0_copyFrom_98 : decode cX0_copyFrom 98 = .ok (.getfield 30, 3) := by decide +kernel
theorem dX0_copyFrom_101 : decode cX0_copyFrom 101 = .ok (.putfield 30, 3) := by decide +kernel
theorem dX0_copyFrom_104 : decode cX0_copyFrom 104 = .ok (.aload_n 0, 1) := by decide +kernel
theorem dX0_copyFrom_105 : decode cX0_copyFrom 105 = .ok (.aload_n 1, 1) := by decide +kernel
theorem dX0_copyFrom_106 : decode cX0_copyFrom 106 = .ok (.getfield 34, 3) := by decide +kernel
theorem dX0_copyFrom_109 : decode cX0_copyFrom 109 = .ok (.putfield 34, 3) := by decide +kernel
theorem dX0_copyFrom_112 : decode cX0_copyFrom 112 = .ok (.return_, 1) := by decide +kernel
theorem dX1_init_0 : decode cX1_init 0 = .ok (.aload_n 0, 1) := by decide +kernel
theorem dX1_init_1 : decode cX1_init 1 = .ok (.invokespecial 3, 3) := by decide +kernel
theorem dX1_init_4 : decode cX1_init 4 = .ok (.aload_n 0, 1) := by decide +kernel
theorem dX1_init_5 : decode cX1_init 5 = .ok (.new 9, 3) := by decide +kernel
theorem dX1_init_8 : decode cX1_init 8 = .ok (.dup, 1) := by decide +kernel
theorem dX1_init_9 : decode cX1_init 9 = .ok (.invokespecial 11, 3) := by decide +kernel
theorem dX1_init_12 : decode cX1_init 12 = .ok (.putfield 12, 3) := by decide +kernel
theorem dX1_init_15 : decode cX1_init 15 = .ok (.aload_n 0, 1) := by decide +kernel
theorem dX1_init_16 : decode cX1_init 16 = .ok (.new 18, 3) := by decide +kernel
theorem dX1_init_19 : decode cX1_init 19 = .ok (.dup, 1) := by decide +kernel
theorem dX1_init_20 : decode cX1_init 20 = .ok (.invokespecial 20, 3) := by decide +kernel
theorem dX1_init_23 : decode cX1_init 23 = .ok (.putfield 21, 3) := by decide +kernel
theorem dX1_init_26 : decode cX1_init 26 = .ok (.aload_n 0, 1) := by decide +kernel
theorem dX1_init_27 : decode cX1_init 27 = .ok (.new 25, 3) := by decide +kernel
theorem dX1_init_30 : decode cX1_init 30 = .ok (.dup, 1) := by decide +kernel
theorem dX1_init_31 : decode cX1_init 31 = .ok (.invokespecial 27, 3) := by decide +kernel
theorem dX1_init_34 : decode cX1_init 34 = .ok (.putfield 28, 3) := by decide +kernel
theorem dX1_init_37 : decode cX1_init 37 = .ok (.aload_n 0, 1) := by decide +kernel
theorem dX1_init_38 : decode cX1_init 38 = .ok (.new 25, 3) := by decide +kernel
theorem dX1_init_41 : decode cX1_init 41 = .ok (.dup, 1) := by decide +kernel
theorem dX1_init_42 : decode cX1_init 42 = .ok (.invokespecial 27, 3) := by decide +kernel
theorem dX1_init_45 : decode cX1_init 45 = .ok (.putfield 32, 3) := by decide +kernel
theorem dX1_init_48 : decode cX1_init 48 = .ok (.aload_n 0, 1) := by decide +kernel
theorem dX1_init_49 : decode cX1_init 49 = .ok (.new 25, 3) := by decide +kernel
theorem dX1_init_52 : decode cX1_init 52 = .ok (.dup, 1) := by decide +kernel
theorem dX1_init_53 : decode cX1_init 53 = .ok (.invokespecial 27, 3) := by decide +kernel
theorem dX1_init_56 : decode cX1_init 56 = .ok (.putfield 35, 3) := by decide +kernel
theorem dX1_init_59 : decode cX1_init 59 = .ok (.aload_n 0, 1) := by decide +kernel
theorem dX1_init_60 : decode cX1_init 60 = .ok (.new 25, 3) := by decide +kernel
theorem dX1_init_63 : decode cX1_init 63 = .ok (.dup, 1) := by decide +kernel
theorem dX1_init_64 : decode cX1_init 64 = .ok (.invokespecial 27, 3) := by decide +kernel
theorem dX1_init_67 : decode cX1_init 67 = .ok (.putfield 38, 3) := by decide +kernel
theorem dX1_init_70 : decode cX1_init 70 = .ok (.aload_n 0, 1) := by decide +kernel
theorem dX1_init_71 : decode cX1_init 71 = .ok (.new 25, 3) := by decide +kernel
theorem dX1_init_74 : decode cX1_init 74 = .ok (.dup, 1) := by decide +kernel
theorem dX1_init_75 : decode cX1_init 75 = .ok (.invokespecial 27, 3) := by decide +kernel
theorem dX1_init_78 : decode cX1_init 78 = .ok (.putfield 41, 3) := by decide +kernel
theorem dX1_init_81 : decode cX1_init 81 = .ok (.aload_n 0, 1) := by decide +kernel
theorem dX1_init_82 : decode cX1_init 82 = .ok (.iconst 4, 1) := by decide +kernel
theorem dX1_init_83 : decode cX1_init 83 = .ok (.newarray .int, 2) := by decide +kernel
theorem dX1_init_85 : decode cX1_init 85 = .ok (.putfield 44, 3) := by decide +kernel
theorem dX1_init_88 : decode cX1_init 88 = .ok (.aload_n 0, 1) := by decide +kernel
theorem dX1_init_89 : decode cX1_init 89 = .ok (.iconst 4, 1) := by decide +kernel
theorem dX1_init_90 : decode cX1_init 90 = .ok (.anewarray 48, 3) := by decide +kernel
theorem dX1_init_93 : decode cX1_init 93 = .ok (.putfield 50, 3) := by decide +kernel
theorem dX1_init_96 : decode cX1_init 96 = .ok (.iconst 0, 1) := by decide +kernel
theorem dX1_init_97 : decode cX1_init 97 = .ok (.istore_n 1, 1) := by decide +kernel
theorem dX1_init_98 : decode cX1_init 98 = .ok (.iload_n 1, 1) := by decide +kernel
theorem dX1_init_99 : decode cX1_init 99 = .ok (.iconst 4, 1) := by decide +kernel
theorem dX1_init_100 : decode cX1_init 100 = .ok (.if_icmp .ge 22, 3) := by decide +kernel
theorem dX1_init_103 : decode cX1_init 103 = .ok (.aload_n 0, 1) := by decide +kernel
theorem dX1_init_104 : decode cX1_init 104 = .ok (.getfield 50, 3) := by decide +kernel
theorem dX1_init_107 : decode cX1_init 107 = .ok (.iload_n 1, 1) := by decide +kernel
theorem dX1_init_108 : decode cX1_init 108 = .ok (.new 48, 3) := by decide +kernel
theorem dX1_init_111 : decode cX1_init 111 = .ok (.dup, 1) := by decide +kernel
theorem dX1_init_112 : decode cX1_init 112 = .ok (.invokespecial 54, 3) := by decide +kernel
theorem dX1_init_115 : decode cX1_init 115 = .ok (.aastore, 1) := by decide +kernel
theorem dX1_init_116 : decode cX1_init 116 = .ok (.iinc 1 1, 3) := by decide +kernel
theorem dX1_init_119 : decode cX1_init 119 = .ok (.goto (-21), 3) := by decide +kernel
theorem dX1_init_122 : decode cX1_init 122 = .ok (.aload_n 0, 1) := by decide +kernel
theorem dX1_init_123 : decode cX1_init 123 = .ok (.iconst 4, 1) := by decide +kernel
theorem dX1_init_124 : decode cX1_init 124 = .ok (.putfield 55, 3) := by decide +kernel
theorem dX1_init_127 : decode cX1_init 127 = .ok (.aload_n 0, 1) := by decide +kernel
theorem dX1_init_128 : decode cX1_init 128 = .ok (.bipush 8, 2) := by decide +kernel
theorem dX1_init_130 : decode cX1_init 130 = .ok (.putfield 59, 3) := by decide +kernel
theorem dX1_init_133 : decode cX1_init 133 = .ok (.aload_n 0, 1) := by decide +kernel
theorem dX1_init_134 : decode cX1_init 134 = .ok (.bipush 6, 2) := by decide +kernel
theorem dX1_init_136 : decode cX1_init 136 = .ok (.putfield 62, 3) := by decide +kernel
theorem dX1_init_139 : decode cX1_init 139 = .ok (.aload_n 0, 1) := by decide +kernel
theorem dX1_init_140 : decode cX1_init 140 = .ok (.bipush 10, 2) := by decide +kernel
theorem dX1_init_142 : decode cX1_init 142 = .ok (.putfield 65, 3) := by decide +kernel
theorem dX1_init_145 : decode cX1_init 145 = .ok (.return_, 1) := by decide +kernel
theorem dX1_rowOf_0 : decode cX1_rowOf 0 = .ok (.iload_n 1, 1) := by decide +kernel
theorem dX1_rowOf_1 : decode cX1_rowOf 1 = .ok (.tableswitch 51 0 3 #[31, 36, 41, 46], 31) := by decide +kernel
theorem dX1_rowOf_32 : decode cX1_rowOf 32 = .ok (.aload_n 0, 1) := by decide +kernel
theorem dX1_rowOf_33 : decode cX1_rowOf 33 = .ok (.getfield 28, 3) := by decide +kernel
theorem dX1_rowOf_36 : decode cX1_rowOf 36 = .ok (.areturn, 1) := by decide +kernel
theorem dX1_rowOf_37 : decode cX1_rowOf 37 = .ok (.aload_n 0, 1) := by decide +kernel
theorem dX1_rowOf_38 : decode cX1_rowOf 38 = .ok (.getfield 32, 3) := by decide +kernel
theorem dX1_rowOf_41 : decode cX1_rowOf 41 = .ok (.areturn, 1) := by decide +kernel
theorem dX1_rowOf_42 : decode cX1_rowOf 42 = .ok (.aload_n 0, 1) := by decide +kernel
theorem dX1_rowOf_43 : decode cX1_rowOf 43 = .ok (.getfield 35, 3) := by decide +kernel
theorem dX1_rowOf_46 : decode cX1_rowOf 46 = .ok (.areturn, 1) := by decide +kernel
theorem dX1_rowOf_47 : decode cX1_rowOf 47 = .ok (.aload_n 0, 1) := by decide +kernel
theorem dX1_rowOf_48 : decode cX1_rowOf 48 = .ok (.getfield 38, 3) := by decide +kernel
theorem dX1_rowOf_51 : decode cX1_rowOf 51 = .ok (.areturn, 1) := by decide +kernel
theorem dX1_rowOf_52 : decode cX1_rowOf 52 = .ok (.aload_n 0, 1) := by decide +kernel
theorem dX1_rowOf_53 : decode cX1_rowOf 53 = .ok (.getfield 41, 3) := by decide +kernel
theorem dX1_rowOf_56 : decode cX1_rowOf 56 = .ok (.areturn, 1) := by decide +kernel
theorem dX1_clientOf_0 : decode cX1_clientOf 0 = .ok (.iload_n 1, 1) := by decide +kernel
theorem dX1_clientOf_1 : decode cX1_clientOf 1 = .ok (.ifCond .lt 24, 3) := by decide +kernel
theorem dX1_clientOf_4 : decode cX1_clientOf 4 = .ok (.iload_n 1, 1) := by decide +kernel
theorem dX1_clientOf_5 : decode cX1_clientOf 5 = .ok (.aload_n 0, 1) := by decide +kernel
theorem dX1_clientOf_6 : decode cX1_clientOf 6 = .ok (.getfield 68, 3) := by decide +kernel
theorem dX1_clientOf_9 : decode cX1_clientOf 9 = .ok (.if_icmp .ge 16, 3) := by decide +kernel
theorem dX1_clientOf_12 : decode cX1_clientOf 12 = .ok (.iload_n 1, 1) := by decide +kernel
theorem dX1_clientOf_13 : decode cX1_clientOf 13 = .ok (.aload_n 0, 1) := by decide +kernel
theorem dX1_clientOf_14 : decode cX1_clientOf 14 = .ok (.getfield 50, 3) := by decide +kernel
theorem dX1_clientOf_17 : decode cX1_clientOf 17 = .ok (.arraylength, 1) := by decide +kernel
theorem dX1_clientOf_18 : decode cX1_clientOf 18 = .ok (.if_icmp .ge 7, 3) := by decide +kernel
theorem dX1_clientOf_21 : decode cX1_clientOf 21 = .ok (.iconst 1, 1) := by decide +kernel
theorem dX1_clientOf_22 : decode cX1_clientOf 22 = .ok (.goto 4, 3) := by decide +kernel
theorem dX1_clientOf_25 : decode cX1_clientOf 25 = .ok (.iconst 0, 1) := by decide +kernel
theorem dX1_clientOf_26 : decode cX1_clientOf 26 = .ok (.istore_n 2, 1) := by decide +kernel
theorem dX1_clientOf_27 : decode cX1_clientOf 27 = .ok (.iload_n 2, 1) := by decide +kernel
theorem dX1_clientOf_28 : decode cX1_clientOf 28 = .ok (.ifCond .eq 12, 3) := by decide +kernel
theorem dX1_clientOf_31 : decode cX1_clientOf 31 = .ok (.aload_n 0, 1) := by decide +kernel
theorem dX1_clientOf_32 : decode cX1_clientOf 32 = .ok (.getfield 50, 3) := by decide +kernel
theorem dX1_clientOf_35 : decode cX1_clientOf 35 = .ok (.iload_n 1, 1) := by decide +kernel
theorem dX1_clientOf_36 : decode cX1_clientOf 36 = .ok (.aaload, 1) := by decide +kernel
theorem dX1_clientOf_37 : decode cX1_clientOf 37 = .ok (.goto 4, 3) := by decide +kernel
theorem dX1_clientOf_40 : decode cX1_clientOf 40 = .ok (.aconst_null, 1) := by decide +kernel
theorem dX1_clientOf_41 : decode cX1_clientOf 41 = .ok (.areturn, 1) := by decide +kernel
theorem dX1_runAt_0 : decode cX1_runAt 0 = .ok (.aload_n 0, 1) := by decide +kernel
theorem dX1_runAt_1 : decode cX1_runAt 1 = .ok (.iload_n 1, 1) := by decide +kernel
theorem dX1_runAt_2 : decode cX1_runAt 2 = .ok (.invokevirtual 71, 3) := by decide +kernel
theorem dX1_runAt_5 : decode cX1_runAt 5 = .ok (.astore_n 3, 1) := by decide +kernel
theorem dX1_runAt_6 : decode cX1_runAt 6 = .ok (.aload_n 3, 1) := by decide +kernel
theorem dX1_runAt_7 : decode cX1_runAt 7 = .ok (.ifnonnull 7, 3) := by decide +kernel
theorem dX1_runAt_10 : decode cX1_runAt 10 = .ok (.iconst 1, 1) := by decide +kernel
theorem dX1_runAt_11 : decode cX1_runAt 11 = .ok (.goto 8, 3) := by decide +kernel
theorem dX1_runAt_14 : decode cX1_runAt 14 = .ok (.aload_n 3, 1) := by decide +kernel
theorem dX1_runAt_15 : decode cX1_runAt 15 = .ok (.iload_n 2, 1) := by decide +kernel
theorem dX1_runAt_16 : decode cX1_runAt 16 = .ok (.invokevirtual 78, 3) := by decide +kernel
theorem dX1_runAt_19 : decode cX1_runAt 19 = .ok (.ireturn, 1) := by decide +kernel
theorem dX1_sumOfWeights_0 : decode cX1_sumOfWeights 0 = .ok (.iconst 0, 1) := by decide +kernel
theorem dX1_sumOfWeights_1 : decode cX1_sumOfWeights 1 = .ok (.istore_n 1, 1) := by decide +kernel
theorem dX1_sumOfWeights_2 : decode cX1_sumOfWeights 2 = .ok (.iconst 0, 1) := by decide +kernel
theorem dX1_sumOfWeights_3 : decode cX1_sumOfWeights 3 = .ok (.istore_n 2, 1) := by decide +kernel
theorem dX1_sumOfWeights_4 : decode cX1_sumOfWeights 4 = .ok (.iload_n 2, 1) := by decide +kernel
theorem dX1_sumOfWeights_5 : decode cX1_sumOfWeights 5 = .ok (.aload_n 0, 1) := by decide +kernel
theorem dX1_sumOfWeights_6 : decode cX1_sumOfWeights 6 = .ok (.getfield 68, 3) := by decide +kernel
theorem dX1_sumOfWeights_9 : decode cX1_sumOfWeights 9 = .ok (.if_icmp .ge 30, 3) := by decide +kernel
theorem dX1_sumOfWeights_12 : decode cX1_sumOfWeights 12 = .ok (.aload_n 0, 1) := by decide +kernel
theorem dX1_sumOfWeights_13 : decode cX1_sumOfWeights 13 = .ok (.iload_n 2, 1) := by decide +kernel
theorem dX1_sumOfWeights_14 : decode cX1_sumOfWeights 14 = .ok (.invokevirtual 71, 3) := by decide +kernel
theorem dX1_sumOfWeights_17 : decode cX1_sumOfWeights 17 = .ok (.astore_n 3, 1) := by decide +kernel
theorem dX1_sumOfWeights_18 : decode cX1_sumOfWeights 18 = .ok (.iload_n 1, 1) := by decide +kernel
theorem dX1_sumOfWeights_19 : decode cX1_sumOfWeights 19 = .ok (.aload_n 3, 1) := by decide +kernel
theorem dX1_sumOfWeights_20 : decode cX1_sumOfWeights 20 = .ok (.ifnonnull 7, 3) := by decide +kernel
theorem dX1_sumOfWeights_23 : decode cX1_sumOfWeights 23 = .ok (.iconst 0, 1) := by decide +kernel
theorem dX1_sumOfWeights_24 : decode cX1_sumOfWeights 24 = .ok (.goto 7, 3) := by decide +kernel
theorem dX1_sumOfWeights_27 : decode cX1_sumOfWeights 27 = .ok (.aload_n 3, 1) := by decide +kernel
theorem dX1_sumOfWeights_28 : decode cX1_sumOfWeights 28 = .ok (.getfield 75, 3) := by decide +kernel
theorem dX1_sumOfWeights_31 : decode cX1_sumOfWeights 31 = .ok (.iadd, 1) := by decide +kernel
theorem dX1_sumOfWeights_32 : decode cX1_sumOfWeights 32 = .ok (.istore_n 1, 1) := by decide +kernel
theorem dX1_sumOfWeights_33 : decode cX1_sumOfWeights 33 = .ok (.iinc 2 1, 3) := by decide +kernel
theorem dX1_sumOfWeights_36 : decode cX1_sumOfWeights 36 = .ok (.goto (-32), 3) := by decide +kernel
theorem dX1_sumOfWeights_39 : decode cX1_sumOfWeights 39 = .ok (.iload_n 1, 1) := by decide +kernel
theorem dX1_sumOfWeights_40 : decode cX1_sumOfWeights 40 = .ok (.ireturn, 1) := by decide +kernel
theorem dX1_numberOf_0 : decode cX1_numberOf 0 = .ok (.iload_n 1, 1) := by decide +kernel
theorem dX1_numberOf_1 : decode cX1_numberOf 1 = .ok (.tableswitch 169 0 21 #[103, 108, 113, 118, 123, 169, 128, 133, 133, 133, 133, 133, 145, 153, 169, 169, 169, 169, 169, 169, 169, 161], 103) := by decide +kernel
theorem dX1_numberOf_104 : decode cX1_numberOf 104 = .ok (.aload_n 0, 1) := by decide +kernel
theorem dX1_numberOf_105 : decode cX1_numberOf 105 = .ok (.getfield 55, 3) := by decide +kernel
theorem dX1_numberOf_108 : decode cX1_numberOf 108 = .ok (.ireturn, 1) := by decide +kernel
theorem dX1_numberOf_109 : decode cX1_numberOf 109 = .ok (.aload_n 0, 1) := by decide +kernel
theorem dX1_numberOf_110 : decode cX1_numberOf 110 = .ok (.getfield 59, 3) := by decide +kernel
theorem dX1_numberOf_113 : decode cX1_numberOf 113 = .ok (.ireturn, 1) := by decide +kernel
theorem dX1_numberOf_114 : decode cX1_numberOf 114 = .ok (.aload_n 0, 1) := by decide +kernel
theorem dX1_numberOf_115 : decode cX1_numberOf 115 = .ok (.getfield 62, 3) := by decide +kernel
theorem dX1_numberOf_118 : decode cX1_numberOf 118 = .ok (.ireturn, 1) := by decide +kernel
theorem dX1_numberOf_119 : decode cX1_numberOf 119 = .ok (.aload_n 0, 1) := by decide +kernel
theorem dX1_numberOf_120 : decode cX1_numberOf 120 = .ok (.getfield 65, 3) := by decide +kernel
theorem dX1_numberOf_123 : decode cX1_numberOf 123 = .ok (.ireturn, 1) := by decide +kernel
theorem dX1_numberOf_124 : decode cX1_numberOf 124 = .ok (.aload_n 0, 1) := by decide +kernel
theorem dX1_numberOf_125 : decode cX1_numberOf 125 = .ok (.getfield 82, 3) := by decide +kernel
theorem dX1_numberOf_128 : decode cX1_numberOf 128 = .ok (.ireturn, 1) := by decide +kernel
theorem dX1_numberOf_129 : decode cX1_numberOf 129 = .ok (.aload_n 0, 1) := by decide +kernel
theorem dX1_numberOf_130 : decode cX1_numberOf 130 = .ok (.getfield 68, 3) := by decide +kernel
theorem dX1_numberOf_133 : decode cX1_numberOf 133 = .ok (.ireturn, 1) := by decide +kernel
theorem dX1_numberOf_134 : decode cX1_numberOf 134 = .ok (.aload_n 0, 1) := by decide +kernel
theorem dX1_numberOf_135 : decode cX1_numberOf 135 = .ok (.iload_n 1, 1) := by decide +kernel
theorem dX1_numberOf_136 : decode cX1_numberOf 136 = .ok (.bipush 7, 2) := by decide +kernel
theorem dX1_numberOf_138 : decode cX1_numberOf 138 = .ok (.isub, 1) := by decide +kernel
theorem dX1_numberOf_139 : decode cX1_numberOf 139 = .ok (.invokevirtual 85, 3) := by decide +kernel
theorem dX1_numberOf_142 : decode cX1_numberOf 142 = .ok (.getfield 89, 3) := by decide +kernel
theorem dX1_numberOf_145 : decode cX1_numberOf 145 = .ok (.ireturn, 1) := by decide +kernel
theorem dX1_numberOf_146 : decode cX1_numberOf 146 = .ok (.aload_n 0, 1) := by decide +kernel
theorem dX1_numberOf_147 : decode cX1_numberOf 147 = .ok (.getfield 12, 3) := by decide +kernel
theorem dX1_numberOf_150 : decode cX1_numberOf 150 = .ok (.invokevirtual 92, 3) := by decide +kernel
theorem dX1_numberOf_153 : decode cX1_numberOf 153 = .ok (.ireturn, 1) := by decide +kernel
theorem dX1_numberOf_154 : decode cX1_numberOf 154 = .ok (.aload_n 0, 1) := by decide +kernel
theorem dX1_numberOf_155 : decode cX1_numberOf 155 = .ok (.getfield 12, 3) := by decide +kernel
theorem dX1_numberOf_158 : decode cX1_numberOf 158 = .ok (.getfield 96, 3) := by decide +kernel
theorem dX1_numberOf_161 : decode cX1_numberOf 161 = .ok (.ireturn, 1) := by decide +kernel
theorem dX1_numberOf_162 : decode cX1_numberOf 162 = .ok (.aload_n 0, 1) := by decide +kernel
theorem dX1_numberOf_163 : decode cX1_numberOf 163 = .ok (.getfield 12, 3) := by decide +kernel
theorem dX1_numberOf_166 : decode cX1_numberOf 166 = .ok (.getfield 99, 3) := by decide +kernel
theorem dX1_numberOf_169 : decode cX1_numberOf 169 = .ok (.ireturn, 1) := by decide +kernel
theorem dX1_numberOf_170 : decode cX1_numberOf 170 = .ok (.aload_n 0, 1) := by decide +kernel
theorem dX1_numberOf_171 : decode cX1_numberOf 171 = .ok (.getfield 21, 3) := by decide +kernel
theorem dX1_numberOf_174 : decode cX1_numberOf 174 = .ok (.iload_n 1, 1) := by decide +kernel
theorem dX1_numberOf_175 : decode cX1_numberOf 175 = .ok (.invokevirtual 102, 3) := by decide +kernel
theorem dX1_numberOf_178 : decode cX1_numberOf 178 = .ok (.ireturn, 1) := by decide +kernel
theorem dX1_numberOfClient_0 : decode cX1_numberOfClient 0 = .ok (.aload_n 0, 1) := by decide +kernel
theorem dX1_numberOfClient_1 : decode cX1_numberOfClient 1 = .ok (.iload_n 1, 1) := by decide +kernel
theorem dX1_numberOfClient_2 : decode cX1_numberOfClient 2 = .ok (.invokevirtual 71, 3) := by decide +kernel
theorem dX1_numberOfClient_5 : decode cX1_numberOfClient 5 = .ok (.astore_n 3, 1) := by decide +kernel
theorem dX1_numberOfClient_6 : decode cX1_numberOfClient 6 = .ok (.aload_n 3, 1) := by decide +kernel
theorem dX1_numberOfClient_7 : decode cX1_numberOfClient 7 = .ok (.ifnonnull 5, 3) := by decide +kernel
theorem dX1_numberOfClient_10 : decode cX1_numberOfClient 10 = .ok (.iconst (-1), 1) := by decide +kernel
theorem dX1_numberOfClient_11 : decode cX1_numberOfClient 11 = .ok (.ireturn, 1) := by decide +kernel
theorem dX1_numberOfClient_12 : decode cX1_numberOfClient 12 = .ok (.iload_n 2, 1) := by decide +kernel
theorem dX1_numberOfClient_13 : decode cX1_numberOfClient 13 = .ok (.lookupswitch 74 #[(1, 35), (2, 41), (10, 51)], 35) := by decide +kernel
theorem dX1_numberOfClient_48 : decode cX1_numberOfClient 48 = .ok (.aload_n 0, 1) := by decide +kernel
theorem dX1_numberOfClient_49 : decode cX1_numberOfClient 49 = .ok (.iload_n 1, 1) := by decide +kernel
theorem dX1_numberOfClient_50 : decode cX1_numberOfClient 50 = .ok (.invokevirtual 105, 3) := by decide +kernel
theorem dX1_numberOfClient_53 : decode cX1_numberOfClient 53 = .ok (.ireturn, 1) := by decide +kernel
theorem dX1_numberOfClient_54 : decode cX1_numberOfClient 54 = .ok (.aload_n 0, 1) := by decide +kernel
theorem dX1_numberOfClient_55 : decode cX1_numberOfClient 55 = .ok (.aload_n 0, 1) := by decide +kernel
theorem dX1_numberOfClient_56 : decode cX1_numberOfClient 56 = .ok (.getfield 35, 3) := by decide +kernel
theorem dX1_numberOfClient_59 : decode cX1_numberOfClient 59 = .ok (.iload_n 1, 1) := by decide +kernel
theorem dX1_numberOfClient_60 : decode cX1_numberOfClient 60 = .ok (.invokevirtual 108, 3) := by decide +kernel
theorem dX1_numberOfClient_63 : decode cX1_numberOfClient 63 = .ok (.ireturn, 1) := by decide +kernel
theorem dX1_numberOfClient_64 : decode cX1_numberOfClient 64 = .ok (.aload_n 0, 1) := by decide +kernel
theorem dX1_numberOfClient_65 : decode cX1_numberOfClient 65 = .ok (.iload_n 1, 1) := by decide +kernel
theorem dX1_numberOfClient_66 : decode cX1_numberOfClient 66 = .ok (.aload_n 0, 1) := by decide +kernel
theorem dX1_numberOfClient_67 : decode cX1_numberOfClient 67 = .ok (.iload_n 1, 1) := by decide +kernel
theorem dX1_numberOfClient_68 : decode cX1_numberOfClient 68 = .ok (.invokevirtual 105, 3) := by decide +kernel
theorem dX1_numberOfClient_71 : decode cX1_numberOfClient 71 = .ok (.aload_n 0, 1) := by decide +kernel
theorem dX1_numberOfClient_72 : decode cX1_numberOfClient 72 = .ok (.invokevirtual 112, 3) := by decide +kernel
theorem dX1_numberOfClient_75 : decode cX1_numberOfClient 75 = .ok (.invokevirtual 115, 3) := by decide +kernel
theorem dX1_numberOfClient_78 : decode cX1_numberOfClient 78 = .ok (.ifCond .le 7, 3) := by decide +kernel
theorem dX1_numberOfClient_81 : decode cX1_numberOfClient 81 = .ok (.iconst 1, 1) := by decide +kernel
theorem dX1_numberOfClient_82 : decode cX1_numberOfClient 82 = .ok (.goto 4, 3) := by decide +kernel
theorem dX1_numberOfClient_85 : decode cX1_numberOfClient 85 = .ok (.iconst 0, 1) := by decide +kernel
theorem dX1_numberOfClient_86 : decode cX1_numberOfClient 86 = .ok (.ireturn, 1) := by decide +kernel
theorem dX1_numberOfClient_87 : decode cX1_numberOfClient 87 = .ok (.aload_n 3, 1) := by decide +kernel
theorem dX1_numberOfClient_88 : decode cX1_numberOfClient 88 = .ok (.iload_n 2, 1) := by decide +kernel
theorem dX1_numberOfClient_89 : decode cX1_numberOfClient 89 = .ok (.invokevirtual 119, 3) := by decide +kernel
theorem dX1_numberOfClient_92 : decode cX1_numberOfClient 92 = .ok (.ireturn, 1) := by decide +kernel
theorem dX1_numberOfBlock_0 : decode cX1_numberOfBlock 0 = .ok (.iload_n 2, 1) := by decide +kernel
theorem dX1_numberOfBlock_1 : decode cX1_numberOfBlock 1 = .ok (.tableswitch 90 0 5 #[39, 48, 54, 63, 72, 81], 39) := by decide +kernel
theorem dX1_numberOfBlock_40 : decode cX1_numberOfBlock 40 = .ok (.aload_n 0, 1) := by decide +kernel
theorem dX1_numberOfBlock_41 : decode cX1_numberOfBlock 41 = .ok (.getfield 12, 3) := by decide +kernel
theorem dX1_numberOfBlock_44 : decode cX1_numberOfBlock 44 = .ok (.iload_n 1, 1) := by decide +kernel
theorem dX1_numberOfBlock_45 : decode cX1_numberOfBlock 45 = .ok (.invokevirtual 120, 3) := by decide +kernel
theorem dX1_numberOfBlock_48 : decode cX1_numberOfBlock 48 = .ok (.ireturn, 1) := by decide +kernel
theorem dX1_numberOfBlock_49 : decode cX1_numberOfBlock 49 = .ok (.aload_n 0, 1) := by decide +kernel
theorem dX1_numberOfBlock_50 : decode cX1_numberOfBlock 50 = .ok (.iload_n 1, 1) := by decide +kernel
theorem dX1_numberOfBlock_51 : decode cX1_numberOfBlock 51 = .ok (.invokevirtual 123, 3) := by decide +kernel
theorem dX1_numberOfBlock_54 : decode cX1_numberOfBlock 54 = .ok (.ireturn, 1) := by decide +kernel
theorem dX1_numberOfBlock_55 : decode cX1_numberOfBlock 55 = .ok (.aload_n 0, 1) := by decide +kernel
theorem dX1_numberOfBlock_56 : decode cX1_numberOfBlock 56 = .ok (.getfield 12, 3) := by decide +kernel
theorem dX1_numberOfBlock_59 : decode cX1_numberOfBlock 59 = .ok (.iload_n 1, 1) := by decide +kernel
theorem dX1_numberOfBlock_60 : decode cX1_numberOfBlock 60 = .ok (.invokevirtual 126, 3) := by decide +kernel
theorem dX1_numberOfBlock_63 : decode cX1_numberOfBlock 63 = .ok (.ireturn, 1) := by decide +kernel
theorem dX1_numberOfBlock_64 : decode cX1_numberOfBlock 64 = .ok (.aload_n 0, 1) := by decide +kernel
theorem dX1_numberOfBlock_65 : decode cX1_numberOfBlock 65 = .ok (.getfield 12, 3) := by decide +kernel
theorem dX1_numberOfBlock_68 : decode cX1_numberOfBlock 68 = .ok (.iload_n 1, 1) := by decide +kernel
theorem dX1_numberOfBlock_69 : decode cX1_numberOfBlock 69 = .ok (.invokevirtual 129, 3) := by decide +kernel
theorem dX1_numberOfBlock_72 : decode cX1_numberOfBlock 72 = .ok (.ireturn, 1) := by decide +kernel
theorem dX1_numberOfBlock_73 : decode cX1_numberOfBlock 73 = .ok (.aload_n 0, 1) := by decide +kernel
theorem dX1_numberOfBlock_74 : decode cX1_numberOfBlock 74 = .ok (.getfield 12, 3) := by decide +kernel
theorem dX1_numberOfBlock_77 : decode cX1_numberOfBlock 77 = .ok (.iload_n 1, 1) := by decide +kernel
theorem dX1_numberOfBlock_78 : decode cX1_numberOfBlock 78 = .ok (.invokevirtual 132, 3) := by decide +kernel
theorem dX1_numberOfBlock_81 : decode cX1_numberOfBlock 81 = .ok (.ireturn, 1) := by decide +kernel
theorem dX1_numberOfBlock_82 : decode cX1_numberOfBlock 82 = .ok (.aload_n 0, 1) := by decide +kernel
theorem dX1_numberOfBlock_83 : decode cX1_numberOfBlock 83 = .ok (.getfield 12, 3) := by decide +kernel
theorem dX1_numberOfBlock_86 : decode cX1_numberOfBlock 86 = .ok (.iload_n 1, 1) := by decide +kernel
theorem dX1_numberOfBlock_87 : decode cX1_numberOfBlock 87 = .ok (.invokevirtual 135, 3) := by decide +kernel
theorem dX1_numberOfBlock_90 : decode cX1_numberOfBlock 90 = .ok (.ireturn, 1) := by decide +kernel
theorem dX1_numberOfBlock_91 : decode cX1_numberOfBlock 91 = .ok (.aload_n 0, 1) := by decide +kernel
theorem dX1_numberOfBlock_92 : decode cX1_numberOfBlock 92 = .ok (.getfield 12, 3) := by decide +kernel
theorem dX1_numberOfBlock_95 : decode cX1_numberOfBlock 95 = .ok (.iload_n 1, 1) := by decide +kernel
theorem dX1_numberOfBlock_96 : decode cX1_numberOfBlock 96 = .ok (.invokevirtual 138, 3) := by decide +kernel
theorem dX1_numberOfBlock_99 : decode cX1_numberOfBlock 99 = .ok (.ireturn, 1) := by decide +kernel
theorem dX1_placeOfUnit_0 : decode cX1_placeOfUnit 0 = .ok (.aload_n 0, 1) := by decide +kernel
theorem dX1_placeOfUnit_1 : decode cX1_placeOfUnit 1 = .ok (.getfield 12, 3) := by decide +kernel
theorem dX1_placeOfUnit_4 : decode cX1_placeOfUnit 4 = .ok (.iload_n 1, 1) := by decide +kernel
theorem dX1_placeOfUnit_5 : decode cX1_placeOfUnit 5 = .ok (.invokevirtual 120, 3) := by decide +kernel
theorem dX1_placeOfUnit_8 : decode cX1_placeOfUnit 8 = .ok (.istore_n 2, 1) := by decide +kernel
theorem dX1_placeOfUnit_9 : decode cX1_placeOfUnit 9 = .ok (.iload_n 2, 1) := by decide +kernel
theorem dX1_placeOfUnit_10 : decode cX1_placeOfUnit 10 = .ok (.iconst (-1), 1) := by decide +kernel
theorem dX1_placeOfUnit_11 : decode cX1_placeOfUnit 11 = .ok (.if_icmp .ne 7, 3) := by decide +kernel
theorem dX1_placeOfUnit_14 : decode cX1_placeOfUnit 14 = .ok (.iconst (-1), 1) := by decide +kernel
theorem dX1_placeOfUnit_15 : decode cX1_placeOfUnit 15 = .ok (.goto 12, 3) := by decide +kernel
theorem dX1_placeOfUnit_18 : decode cX1_placeOfUnit 18 = .ok (.aload_n 0, 1) := by decide +kernel
theorem dX1_placeOfUnit_19 : decode cX1_placeOfUnit 19 = .ok (.iload_n 2, 1) := by decide +kernel
theorem dX1_placeOfUnit_20 : decode cX1_placeOfUnit 20 = .ok (.invokevirtual 85, 3) := by decide +kernel
theorem dX1_placeOfUnit_23 : decode cX1_placeOfUnit 23 = .ok (.iload_n 1, 1) := by decide +kernel
theorem dX1_placeOfUnit_24 : decode cX1_placeOfUnit 24 = .ok (.invokevirtual 141, 3) := by decide +kernel
theorem dX1_placeOfUnit_27 : decode cX1_placeOfUnit 27 = .ok (.ireturn, 1) := by decide +kernel
theorem dX1_ownedBlock_0 : decode cX1_ownedBlock 0 = .ok (.aload_n 0, 1) := by decide +kernel
theorem dX1_ownedBlock_1 : decode cX1_ownedBlock 1 = .ok (.iload_n 2, 1) := by decide +kernel
theorem dX1_ownedBlock_2 : decode cX1_ownedBlock 2 = .ok (.invokevirtual 85, 3) := by decide +kernel
theorem dX1_ownedBlock_5 : decode cX1_ownedBlock 5 = .ok (.astore 4, 2) := by decide +kernel
theorem dX1_ownedBlock_7 : decode cX1_ownedBlock 7 = .ok (.iconst 0, 1) := by decide +kernel
theorem dX1_ownedBlock_8 : decode cX1_ownedBlock 8 = .ok (.istore 5, 2) := by decide +kernel
theorem dX1_ownedBlock_10 : decode cX1_ownedBlock 10 = .ok (.iconst 0, 1) := by decide +kernel
theorem dX1_ownedBlock_11 : decode cX1_ownedBlock 11 = .ok (.istore 6, 2) := by decide +kernel
theorem dX1_ownedBlock_13 : decode cX1_ownedBlock 13 = .ok (.iload 6, 2) := by decide +kernel
theorem dX1_ownedBlock_15 : decode cX1_ownedBlock 15 = .ok (.aload 4, 2) := by decide +kernel
theorem dX1_ownedBlock_17 : decode cX1_ownedBlock 17 = .ok (.getfield 89, 3) := by decide +kernel
theorem dX1_ownedBlock_20 : decode cX1_ownedBlock 20 = .ok (.if_icmp .ge 43, 3) := by decide +kernel
theorem dX1_ownedBlock_23 : decode cX1_ownedBlock 23 = .ok (.aload 4, 2) := by decide +kernel
theorem dX1_ownedBlock_25 : decode cX1_ownedBlock 25 = .ok (.iload 6, 2) := by decide +kernel
theorem dX1_ownedBlock_27 : decode cX1_ownedBlock 27 = .ok (.invokevirtual 144, 3) := by decide +kernel
theorem dX1_ownedBlock_30 : decode cX1_ownedBlock 30 = .ok (.istore 7, 2) := by decide +kernel
theorem dX1_ownedBlock_32 : decode cX1_ownedBlock 32 = .ok (.aload_n 0, 1) := by decide +kernel
theorem dX1_ownedBlock_33 : decode cX1_ownedBlock 33 = .ok (.getfield 12, 3) := by decide +kernel
theorem dX1_ownedBlock_36 : decode cX1_ownedBlock 36 = .ok (.iload 7, 2) := by decide +kernel
theorem dX1_ownedBlock_38 : decode cX1_ownedBlock 38 = .ok (.invokevirtual 129, 3) := by decide +kernel
theorem dX1_ownedBlock_41 : decode cX1_ownedBlock 41 = .ok (.iload_n 1, 1) := by decide +kernel
theorem dX1_ownedBlock_42 : decode cX1_ownedBlock 42 = .ok (.if_icmp .ne 15, 3) := by decide +kernel
theorem dX1_ownedBlock_45 : decode cX1_ownedBlock 45 = .ok (.iload 5, 2) := by decide +kernel
theorem dX1_ownedBlock_47 : decode cX1_ownedBlock 47 = .ok (.iload_n 3, 1) := by decide +kernel
theorem dX1_ownedBlock_48 : decode cX1_ownedBlock 48 = .ok (.if_icmp .ne 6, 3) := by decide +kernel
theorem dX1_ownedBlock_51 : decode cX1_ownedBlock 51 = .ok (.iload 7, 2) := by decide +kernel
theorem dX1_ownedBlock_53 : decode cX1_ownedBlock 53 = .ok (.ireturn, 1) := by decide +kernel
theorem dX1_ownedBlock_54 : decode cX1_ownedBlock 54 = .ok (.iinc 5 1, 3) := by decide +kernel
theorem dX1_ownedBlock_57 : decode cX1_ownedBlock 57 = .ok (.iinc 6 1, 3) := by decide +kernel
theorem dX1_ownedBlock_60 : decode cX1_ownedBlock 60 = .ok (.goto (-47), 3) := by decide +kernel
theorem dX1_ownedBlock_63 : decode cX1_ownedBlock 63 = .ok (.iconst (-1), 1) := by decide +kernel
theorem dX1_ownedBlock_64 : decode cX1_ownedBlock 64 = .ok (.ireturn, 1) := by decide +kernel
theorem dX1_howManyOwned_0 : decode cX1_howManyOwned 0 = .ok (.iconst 0, 1) := by decide +kernel
theorem dX1_howManyOwned_1 : decode cX1_howManyOwned 1 = .ok (.istore_n 3, 1) := by decide +kernel
theorem dX1_howManyOwned_2 : decode cX1_howManyOwned 2 = .ok (.iconst 0, 1) := by decide +kernel
theorem dX1_howManyOwned_3 : decode cX1_howManyOwned 3 = .ok (.istore 4, 2) := by decide +kernel
theorem dX1_howManyOwned_5 : decode cX1_howManyOwned 5 = .ok (.iload 4, 2) := by decide +kernel
theorem dX1_howManyOwned_7 : decode cX1_howManyOwned 7 = .ok (.aload_n 1, 1) := by decide +kernel
theorem dX1_howManyOwned_8 : decode cX1_howManyOwned 8 = .ok (.getfield 89, 3) := by decide +kernel
theorem dX1_howManyOwned_11 : decode cX1_howManyOwned 11 = .ok (.if_icmp .ge 29, 3) := by decide +kernel
theorem dX1_howManyOwned_14 : decode cX1_howManyOwned 14 = .ok (.aload_n 0, 1) := by decide +kernel
theorem dX1_howManyOwned_15 : decode cX1_howManyOwned 15 = .ok (.getfield 12, 3) := by decide +kernel
theorem dX1_howManyOwned_18 : decode cX1_howManyOwned 18 = .ok (.aload_n 1, 1) := by decide +kernel
theorem dX1_howManyOwned_19 : decode cX1_howManyOwned 19 = .ok (.iload 4, 2) := by decide +kernel
theorem dX1_howManyOwned_21 : decode cX1_howManyOwned 21 = .ok (.invokevirtual 144, 3) := by decide +kernel
theorem dX1_howManyOwned_24 : decode cX1_howManyOwned 24 = .ok (.invokevirtual 129, 3) := by decide +kernel
theorem dX1_howManyOwned_27 : decode cX1_howManyOwned 27 = .ok (.iload_n 2, 1) := by decide +kernel
theorem dX1_howManyOwned_28 : decode cX1_howManyOwned 28 = .ok (.if_icmp .ne 6, 3) := by decide +kernel
theorem dX1_howManyOwned_31 : decode cX1_howManyOwned 31 = .ok (.iinc 3 1, 3) := by decide +kernel
theorem dX1_howManyOwned_34 : decode cX1_howManyOwned 34 = .ok (.iinc 4 1, 3) := by decide +kernel
theorem dX1_howManyOwned_37 : decode cX1_howManyOwned 37 = .ok (.goto (-32), 3) := by decide +kernel
theorem dX1_howManyOwned_40 : decode cX1_howManyOwned 40 = .ok (.iload_n 3, 1) := by decide +kernel
theorem dX1_howManyOwned_41 : decode cX1_howManyOwned 41 = .ok (.ireturn, 1) := by decide +kernel
theorem dX1_upperUnitsOf_0 : decode cX1_upperUnitsOf 0 = .ok (.aload_n 0, 1) := by decide +kernel
theorem dX1_upperUnitsOf_1 : decode cX1_upperUnitsOf 1 = .ok (.aload_n 0, 1) := by decide +kernel
theorem dX1_upperUnitsOf_2 : decode cX1_upperUnitsOf 2 = .ok (.getfield 28, 3) := by decide +kernel
theorem dX1_upperUnitsOf_5 : decode cX1_upperUnitsOf 5 = .ok (.iload_n 1, 1) := by decide +kernel
theorem dX1_upperUnitsOf_6 : decode cX1_upperUnitsOf 6 = .ok (.invokevirtual 108, 3) := by decide +kernel
theorem dX1_upperUnitsOf_9 : decode cX1_upperUnitsOf 9 = .ok (.aload_n 0, 1) := by decide +kernel
theorem dX1_upperUnitsOf_10 : decode cX1_upperUnitsOf 10 = .ok (.aload_n 0, 1) := by decide +kernel
theorem dX1_upperUnitsOf_11 : decode cX1_upperUnitsOf 11 = .ok (.getfield 32, 3) := by decide +kernel
theorem dX1_upperUnitsOf_14 : decode cX1_upperUnitsOf 14 = .ok (.iload_n 1, 1) := by decide +kernel
theorem dX1_upperUnitsOf_15 : decode cX1_upperUnitsOf 15 = .ok (.invokevirtual 108, 3) := by decide +kernel
theorem dX1_upperUnitsOf_18 : decode cX1_upperUnitsOf 18 = .ok (.iadd, 1) := by decide +kernel
theorem dX1_upperUnitsOf_19 : decode cX1_upperUnitsOf 19 = .ok (.ireturn, 1) := by decide +kernel
theorem dX1_unitsAbove_0 : decode cX1_unitsAbove 0 = .ok (.aload_n 0, 1) := by decide +kernel
theorem dX1_unitsAbove_1 : decode cX1_unitsAbove 1 = .ok (.iload_n 1, 1) := by decide +kernel
theorem dX1_unitsAbove_2 : decode cX1_unitsAbove 2 = .ok (.invokevirtual 71, 3) := by decide +kernel
theorem dX1_unitsAbove_5 : decode cX1_unitsAbove 5 = .ok (.astore 4, 2) := by decide +kernel
theorem dX1_unitsAbove_7 : decode cX1_unitsAbove 7 = .ok (.aload 4, 2) := by decide +kernel
theorem dX1_unitsAbove_9 : decode cX1_unitsAbove 9 = .ok (.ifnonnull 7, 3) := by decide +kernel
theorem dX1_unitsAbove_12 : decode cX1_unitsAbove 12 = .ok (.iconst 0, 1) := by decide +kernel
theorem dX1_unitsAbove_13 : decode cX1_unitsAbove 13 = .ok (.goto 17, 3) := by decide +kernel
theorem dX1_unitsAbove_16 : decode cX1_unitsAbove 16 = .ok (.iload_n 2, 1) := by decide +kernel
theorem dX1_unitsAbove_17 : decode cX1_unitsAbove 17 = .ok (.iload_n 3, 1) := by decide +kernel
theorem dX1_unitsAbove_18 : decode cX1_unitsAbove 18 = .ok (.imul, 1) := by decide +kernel
theorem dX1_unitsAbove_19 : decode cX1_unitsAbove 19 = .ok (.aload_n 0, 1) := by decide +kernel
theorem dX1_unitsAbove_20 : decode cX1_unitsAbove 20 = .ok (.getfield 62, 3) := by decide +kernel
theorem dX1_unitsAbove_23 : decode cX1_unitsAbove 23 = .ok (.aload 4, 2) := by decide +kernel
theorem dX1_unitsAbove_25 : decode cX1_unitsAbove 25 = .ok (.getfield 75, 3) := by decide +kernel
theorem dX1_unitsAbove_28 : decode cX1_unitsAbove 28 = .ok (.imul, 1) := by decide +kernel
theorem dX1_unitsAbove_29 : decode cX1_unitsAbove 29 = .ok (.isub, 1) := by decide +kernel
theorem dX1_unitsAbove_30 : decode cX1_unitsAbove 30 = .ok (.ireturn, 1) := by decide +kernel
theorem dX1_addOne_0 : decode cX1_addOne 0 = .ok (.aload_n 0, 1) := by decide +kernel
theorem dX1_addOne_1 : decode cX1_addOne 1 = .ok (.getfield 68, 3) := by decide +kernel
theorem dX1_addOne_4 : decode cX1_addOne 4 = .ok (.aload_n 0, 1) := by decide +kernel
theorem dX1_addOne_5 : decode cX1_addOne 5 = .ok (.getfield 50, 3) := by decide +kernel
theorem dX1_addOne_8 : decode cX1_addOne 8 = .ok (.arraylength, 1) := by decide +kernel
theorem dX1_addOne_9 : decode cX1_addOne 9 = .ok (.if_icmp .lt 5, 3) := by decide +kernel
theorem dX1_addOne_12 : decode cX1_addOne 12 = .ok (.iconst (-1), 1) := by decide +kernel
theorem dX1_addOne_13 : decode cX1_addOne 13 = .ok (.ireturn, 1) := by decide +kernel
theorem dX1_addOne_14 : decode cX1_addOne 14 = .ok (.aload_n 0, 1) := by decide +kernel
theorem dX1_addOne_15 : decode cX1_addOne 15 = .ok (.getfield 68, 3) := by decide +kernel
theorem dX1_addOne_18 : decode cX1_addOne 18 = .ok (.istore_n 2, 1) := by decide +kernel
theorem dX1_addOne_19 : decode cX1_addOne 19 = .ok (.aload_n 0, 1) := by decide +kernel
theorem dX1_addOne_20 : decode cX1_addOne 20 = .ok (.dup, 1) := by decide +kernel
theorem dX1_addOne_21 : decode cX1_addOne 21 = .ok (.getfield 68, 3) := by decide +kernel
theorem dX1_addOne_24 : decode cX1_addOne 24 = .ok (.iconst 1, 1) := by decide +kernel
theorem dX1_addOne_25 : decode cX1_addOne 25 = .ok (.iadd, 1) := by decide +kernel
theorem dX1_addOne_26 : decode cX1_addOne 26 = .ok (.putfield 68, 3) := by decide +kernel
theorem dX1_addOne_29 : decode cX1_addOne 29 = .ok (.aload_n 0, 1) := by decide +kernel
theorem dX1_addOne_30 : decode cX1_addOne 30 = .ok (.iload_n 2, 1) := by decide +kernel
theorem dX1_addOne_31 : decode cX1_addOne 31 = .ok (.invokevirtual 71, 3) := by decide +kernel
theorem dX1_addOne_34 : decode cX1_addOne 34 = .ok (.astore_n 3, 1) := by decide +kernel
theorem dX1_addOne_35 : decode cX1_addOne 35 = .ok (.aload_n 3, 1) := by decide +kernel
theorem dX1_addOne_36 : decode cX1_addOne 36 = .ok (.ifnull 8, 3) := by decide +kernel
theorem dX1_addOne_39 : decode cX1_addOne 39 = .ok (.aload_n 3, 1) := by decide +kernel
theorem dX1_addOne_40 : decode cX1_addOne 40 = .ok (.iload_n 1, 1) := by decide +kernel
theorem dX1_addOne_41 : decode cX1_addOne 41 = .ok (.invokevirtual 154, 3) := by decide +kernel
theorem dX1_addOne_44 : decode cX1_addOne 44 = .ok (.iload_n 2, 1) := by decide +kernel
theorem dX1_addOne_45 : decode cX1_addOne 45 = .ok (.ireturn, 1) := by decide +kernel
theorem dX1_changeWeight_0 : decode cX1_changeWeight 0 = .ok (.aload_n 0, 1) := by decide +kernel
theorem dX1_changeWeight_1 : decode cX1_changeWeight 1 = .ok (.iload_n 1, 1) := by decide +kernel
theorem dX1_changeWeight_2 : decode cX1_changeWeight 2 = .ok (.invokevirtual 71, 3) := by decide +kernel
theorem dX1_changeWeight_5 : decode cX1_changeWeight 5 = .ok (.astore_n 3, 1) := by decide +kernel
theorem dX1_changeWeight_6 : decode cX1_changeWeight 6 = .ok (.aload_n 3, 1) := by decide +kernel
theorem dX1_changeWeight_7 : decode cX1_changeWeight 7 = .ok (.ifnonnull 5, 3) := by decide +kernel
theorem dX1_changeWeight_10 : decode cX1_changeWeight 10 = .ok (.iconst (-1), 1) := by decide +kernel
theorem dX1_changeWeight_11 : decode cX1_changeWeight 11 = .ok (.ireturn, 1) := by decide +kernel
theorem dX1_changeWeight_12 : decode cX1_changeWeight 12 = .ok (.aload_n 3, 1) := by decide +kernel
theorem dX1_changeWeight_13 : decode cX1_changeWeight 13 = .ok (.getfield 75, 3) := by decide +kernel
theorem dX1_changeWeight_16 : decode cX1_changeWeight 16 = .ok (.istore 4, 2) := by decide +kernel
theorem dX1_changeWeight_18 : decode cX1_changeWeight 18 = .ok (.aload_n 3, 1) := by decide +kernel
theorem dX1_changeWeight_19 : decode cX1_changeWeight 19 = .ok (.iload_n 2, 1) := by decide +kernel
theorem dX1_changeWeight_20 : decode cX1_changeWeight 20 = .ok (.putfield 75, 3) := by decide +kernel
theorem dX1_changeWeight_23 : decode cX1_changeWeight 23 = .ok (.iload 4, 2) := by decide +kernel
theorem dX1_changeWeight_25 : decode cX1_changeWeight 25 = .ok (.ireturn, 1) := by decide +kernel
theorem dX1_changeSetting_0 : decode cX1_changeSetting 0 = .ok (.iload_n 1, 1) := by decide +kernel
theorem dX1_changeSetting_1 : decode cX1_changeSetting 1 = .ok (.ifCond .ne 10, 3) := by decide +kernel
theorem dX1_changeSetting_4 : decode cX1_changeSetting 4 = .ok (.aload_n 0, 1) := by decide +kernel
theorem dX1_changeSetting_5 : decode cX1_changeSetting 5 = .ok (.getfield 55, 3) := by decide +kernel
theorem dX1_changeSetting_8 : decode cX1_changeSetting 8 = .ok (.goto 7, 3) := by decide +kernel
theorem dX1_changeSetting_11 : decode cX1_changeSetting 11 = .ok (.aload_n 0, 1) := by decide +kernel
theorem dX1_changeSetting_12 : decode cX1_changeSetting 12 = .ok (.getfield 59, 3) := by decide +kernel
theorem dX1_changeSetting_15 : decode cX1_changeSetting 15 = .ok (.istore_n 3, 1) := by decide +kernel
theorem dX1_changeSetting_16 : decode cX1_changeSetting 16 = .ok (.iload_n 1, 1) := by decide +kernel
theorem dX1_changeSetting_17 : decode cX1_changeSetting 17 = .ok (.ifCond .ne 11, 3) := by decide +kernel
theorem dX1_changeSetting_20 : decode cX1_changeSetting 20 = .ok (.aload_n 0, 1) := by decide +kernel
theorem dX1_changeSetting_21 : decode cX1_changeSetting 21 = .ok (.iload_n 2, 1) := by decide +kernel
theorem dX1_changeSetting_22 : decode cX1_changeSetting 22 = .ok (.putfield 55, 3) := by decide +kernel
theorem dX1_changeSetting_25 : decode cX1_changeSetting 25 = .ok (.goto 8, 3) := by decide +kernel
theorem dX1_changeSetting_28 : decode cX1_changeSetting 28 = .ok (.aload_n 0, 1) := by decide +kernel
theorem dX1_changeSetting_29 : decode cX1_changeSetting 29 = .ok (.iload_n 2, 1) := by decide +kernel
theorem dX1_changeSetting_30 : decode cX1_changeSetting 30 = .ok (.putfield 59, 3) := by decide +kernel
theorem dX1_changeSetting_33 : decode cX1_changeSetting 33 = .ok (.iload_n 3, 1) := by decide +kernel
theorem dX1_changeSetting_34 : decode cX1_changeSetting 34 = .ok (.ireturn, 1) := by decide +kernel
theorem dX1_reshape_0 : decode cX1_reshape 0 = .ok (.aload_n 0, 1) := by decide +kernel
theorem dX1_reshape_1 : decode cX1_reshape 1 = .ok (.getfield 28, 3) := by decide +kernel
theorem dX1_reshape_4 : decode cX1_reshape 4 = .ok (.getfield 89, 3) := by decide +kernel
theorem dX1_reshape_7 : decode cX1_reshape 7 = .ok (.aload_n 0, 1) := by decide +kernel
theorem dX1_reshape_8 : decode cX1_reshape 8 = .ok (.getfield 32, 3) := by decide +kernel
theorem dX1_reshape_11 : decode cX1_reshape 11 = .ok (.getfield 89, 3) := by decide +kernel
theorem dX1_reshape_14 : decode cX1_reshape 14 = .ok (.iadd, 1) := by decide +kernel
theorem dX1_reshape_15 : decode cX1_reshape 15 = .ok (.aload_n 0, 1) := by decide +kernel
theorem dX1_reshape_16 : decode cX1_reshape 16 = .ok (.getfield 35, 3) := by decide +kernel
theorem dX1_reshape_19 : decode cX1_reshape 19 = .ok (.getfield 89, 3) := by decide +kernel
theorem dX1_reshape_22 : decode cX1_reshape 22 = .ok (.iadd, 1) := by decide +kernel
theorem dX1_reshape_23 : decode cX1_reshape 23 = .ok (.istore_n 3, 1) := by decide +kernel
theorem dX1_reshape_24 : decode cX1_reshape 24 = .ok (.aload_n 0, 1) := by decide +kernel
theorem dX1_reshape_25 : decode cX1_reshape 25 = .ok (.getfield 12, 3) := by decide +kernel
theorem dX1_reshape_28 : decode cX1_reshape 28 = .ok (.sipush 200, 3) := by decide +kernel
theorem dX1_reshape_31 : decode cX1_reshape 31 = .ok (.invokevirtual 158, 3) := by decide +kernel
theorem dX1_reshape_34 : decode cX1_reshape 34 = .ok (.pop, 1) := by decide +kernel
theorem dX1_reshape_35 : decode cX1_reshape 35 = .ok (.aload_n 0, 1) := by decide +kernel
theorem dX1_reshape_36 : decode cX1_reshape 36 = .ok (.getfield 12, 3) := by decide +kernel
theorem dX1_reshape_39 : decode cX1_reshape 39 = .ok (.invokevirtual 161, 3) := by decide +kernel
theorem dX1_reshape_42 : decode cX1_reshape 42 = .ok (.aload_n 0, 1) := by decide +kernel
theorem dX1_reshape_43 : decode cX1_reshape 43 = .ok (.getfield 28, 3) := by decide +kernel
theorem dX1_reshape_46 : decode cX1_reshape 46 = .ok (.iconst 0, 1) := by decide +kernel
theorem dX1_reshape_47 : decode cX1_reshape 47 = .ok (.putfield 89, 3) := by decide +kernel
theorem dX1_reshape_50 : decode cX1_reshape 50 = .ok (.aload_n 0, 1) := by decide +kernel
theorem dX1_reshape_51 : decode cX1_reshape 51 = .ok (.getfield 32, 3) := by decide +kernel
theorem dX1_reshape_54 : decode cX1_reshape 54 = .ok (.iconst 0, 1) := by decide +kernel
theorem dX1_reshape_55 : decode cX1_reshape 55 = .ok (.putfield 89, 3) := by decide +kernel
theorem dX1_reshape_58 : decode cX1_reshape 58 = .ok (.aload_n 0, 1) := by decide +kernel
theorem dX1_reshape_59 : decode cX1_reshape 59 = .ok (.getfield 35, 3) := by decide +kernel
theorem dX1_reshape_62 : decode cX1_reshape 62 = .ok (.iconst 0, 1) := by decide +kernel
theorem dX1_reshape_63 : decode cX1_reshape 63 = .ok (.putfield 89, 3) := by decide +kernel
theorem dX1_reshape_66 : decode cX1_reshape 66 = .ok (.aload_n 0, 1) := by decide +kernel
theorem dX1_reshape_67 : decode cX1_reshape 67 = .ok (.getfield 38, 3) := by decide +kernel
theorem dX1_reshape_70 : decode cX1_reshape 70 = .ok (.iconst 0, 1) := by decide +kernel
theorem dX1_reshape_71 : decode cX1_reshape 71 = .ok (.putfield 89, 3) := by decide +kernel
theorem dX1_reshape_74 : decode cX1_reshape 74 = .ok (.aload_n 0, 1) := by decide +kernel
theorem dX1_reshape_75 : decode cX1_reshape 75 = .ok (.getfield 41, 3) := by decide +kernel
theorem dX1_reshape_78 : decode cX1_reshape 78 = .ok (.iconst 0, 1) := by decide +kernel
theorem dX1_reshape_79 : decode cX1_reshape 79 = .ok (.putfield 89, 3) := by decide +kernel
theorem dX1_reshape_82 : decode cX1_reshape 82 = .ok (.aload_n 0, 1) := by decide +kernel
theorem dX1_reshape_83 : decode cX1_reshape 83 = .ok (.iconst 0, 1) := by decide +kernel
theorem dX1_reshape_84 : decode cX1_reshape 84 = .ok (.putfield 82, 3) := by decide +kernel
theorem dX1_reshape_87 : decode cX1_reshape 87 = .ok (.aload_n 0, 1) := by decide +kernel
theorem dX1_reshape_88 : decode cX1_reshape 88 = .ok (.iload_n 1, 1) := by decide +kernel
theorem dX1_reshape_89 : decode cX1_reshape 89 = .ok (.putfield 62, 3) := by decide +kernel
theorem dX1_reshape_92 : decode cX1_reshape 92 = .ok (.aload_n 0, 1) := by decide +kernel
theorem dX1_reshape_93 : decode cX1_reshape 93 = .ok (.iload_n 2, 1) := by decide +kernel
theorem dX1_reshape_94 : decode cX1_reshape 94 = .ok (.putfield 65, 3) := by decide +kernel
theorem dX1_reshape_97 : decode cX1_reshape 97 = .ok (.iload_n 3, 1) := by decide +kernel
theorem dX1_reshape_98 : decode cX1_reshape 98 = .ok (.ireturn, 1) := by decide +kernel
theorem dX1_access_0 : decode cX1_access 0 = .ok (.aload_n 0, 1) := by decide +kernel
theorem dX1_access_1 : decode cX1_access 1 = .ok (.iload_n 1, 1) := by decide +kernel
theorem dX1_access_2 : decode cX1_access 2 = .ok (.invokevirtual 71, 3) := by decide +kernel
theorem dX1_access_5 : decode cX1_access 5 = .ok (.astore 4, 2) := by decide +kernel
theorem dX1_access_7 : decode cX1_access 7 = .ok (.aload 4, 2) := by decide +kernel
theorem dX1_access_9 : decode cX1_access 9 = .ok (.ifnonnull 5, 3) := by decide +kernel
theorem dX1_access_12 : decode cX1_access 12 = .ok (.iconst 2, 1) := by decide +kernel
theorem dX1_access_13 : decode cX1_access 13 = .ok (.ireturn, 1) := by decide +kernel
theorem dX1_access_14 : decode cX1_access 14 = .ok (.aload 4, 2) := by decide +kernel
theorem dX1_access_16 : decode cX1_access 16 = .ok (.aload 4, 2) := by decide +kernel
theorem dX1_access_18 : decode cX1_access 18 = .ok (.iload_n 2, 1) := by decide +kernel
theorem dX1_access_19 : decode cX1_access 19 = .ok (.invokevirtual 78, 3) := by decide +kernel
theorem dX1_access_22 : decode cX1_access 22 = .ok (.putfield 164, 3) := by decide +kernel
theorem dX1_access_25 : decode cX1_access 25 = .ok (.aload 4, 2) := by decide +kernel
theorem dX1_access_27 : decode cX1_access 27 = .ok (.iload_n 2, 1) := by decide +kernel
theorem dX1_access_28 : decode cX1_access 28 = .ok (.putfield 167, 3) := by decide +kernel
theorem dX1_access_31 : decode cX1_access 31 = .ok (.aload 4, 2) := by decide +kernel
theorem dX1_access_33 : decode cX1_access 33 = .ok (.getfield 164, 3) := by decide +kernel
theorem dX1_access_36 : decode cX1_access 36 = .ok (.aload_n 0, 1) := by decide +kernel
theorem dX1_access_37 : decode cX1_access 37 = .ok (.getfield 55, 3) := by decide +kernel
theorem dX1_access_40 : decode cX1_access 40 = .ok (.if_icmp .lt 7, 3) := by decide +kernel
theorem dX1_access_43 : decode cX1_access 43 = .ok (.iconst 1, 1) := by decide +kernel
theorem dX1_access_44 : decode cX1_access 44 = .ok (.goto 4, 3) := by decide +kernel
theorem dX1_access_47 : decode cX1_access 47 = .ok (.iconst 0, 1) := by decide +kernel
theorem dX1_access_48 : decode cX1_access 48 = .ok (.istore 5, 2) := by decide +kernel
theorem dX1_access_50 : decode cX1_access 50 = .ok (.aload_n 0, 1) := by decide +kernel
theorem dX1_access_51 : decode cX1_access 51 = .ok (.iload_n 2, 1) := by decide +kernel
theorem dX1_access_52 : decode cX1_access 52 = .ok (.invokevirtual 170, 3) := by decide +kernel
theorem dX1_access_55 : decode cX1_access 55 = .ok (.istore 6, 2) := by decide +kernel
theorem dX1_access_57 : decode cX1_access 57 = .ok (.aload 4, 2) := by decide +kernel
theorem dX1_access_59 : decode cX1_access 59 = .ok (.iload 6, 2) := by decide +kernel
theorem dX1_access_61 : decode cX1_access 61 = .ok (.iload_n 3, 1) := by decide +kernel
theorem dX1_access_62 : decode cX1_access 62 = .ok (.invokevirtual 173, 3) := by decide +kernel
theorem dX1_access_65 : decode cX1_access 65 = .ok (.aload_n 0, 1) := by decide +kernel
theorem dX1_access_66 : decode cX1_access 66 = .ok (.getfield 21, 3) := by decide +kernel
theorem dX1_access_69 : decode cX1_access 69 = .ok (.iload 6, 2) := by decide +kernel
theorem dX1_access_71 : decode cX1_access 71 = .ok (.iload 5, 2) := by decide +kernel
theorem dX1_access_73 : decode cX1_access 73 = .ok (.invokevirtual 177, 3) := by decide +kernel
theorem dX1_access_76 : decode cX1_access 76 = .ok (.iload 6, 2) := by decide +kernel
theorem dX1_access_78 : decode cX1_access 78 = .ok (.ifCond .ne 16, 3) := by decide +kernel
theorem dX1_access_81 : decode cX1_access 81 = .ok (.iload 5, 2) := by decide +kernel
theorem dX1_access_83 : decode cX1_access 83 = .ok (.ifCond .ne 29, 3) := by decide +kernel
theorem dX1_access_86 : decode cX1_access 86 = .ok (.aload_n 0, 1) := by decide +kernel
theorem dX1_access_87 : decode cX1_access 87 = .ok (.iload_n 2, 1) := by decide +kernel
theorem dX1_access_88 : decode cX1_access 88 = .ok (.invokevirtual 178, 3) := by decide +kernel
theorem dX1_access_91 : decode cX1_access 91 = .ok (.goto 21, 3) := by decide +kernel
theorem dX1_access_94 : decode cX1_access 94 = .ok (.iload 5, 2) := by decide +kernel
theorem dX1_access_96 : decode cX1_access 96 = .ok (.ifCond .eq 11, 3) := by decide +kernel
theorem dX1_access_99 : decode cX1_access 99 = .ok (.aload_n 0, 1) := by decide +kernel
theorem dX1_access_100 : decode cX1_access 100 = .ok (.iload_n 2, 1) := by decide +kernel
theorem dX1_access_101 : decode cX1_access 101 = .ok (.invokevirtual 181, 3) := by decide +kernel
theorem dX1_access_104 : decode cX1_access 104 = .ok (.goto 8, 3) := by decide +kernel
theorem dX1_access_107 : decode cX1_access 107 = .ok (.aload_n 0, 1) := by decide +kernel
theorem dX1_access_108 : decode cX1_access 108 = .ok (.iload_n 2, 1) := by decide +kernel
theorem dX1_access_109 : decode cX1_access 109 = .ok (.invokevirtual 184, 3) := by decide +kernel
theorem dX1_access_112 : decode cX1_access 112 = .ok (.aload_n 0, 1) := by decide +kernel
theorem dX1_access_113 : decode cX1_access 113 = .ok (.getfield 12, 3) := by decide +kernel
theorem dX1_access_116 : decode cX1_access 116 = .ok (.iload_n 2, 1) := by decide +kernel
theorem dX1_access_117 : decode cX1_access 117 = .ok (.iload_n 1, 1) := by decide +kernel
theorem dX1_access_118 : decode cX1_access 118 = .ok (.invokevirtual 187, 3) := by decide +kernel
theorem dX1_access_121 : decode cX1_access 121 = .ok (.iload 6, 2) := by decide +kernel
theorem dX1_access_123 : decode cX1_access 123 = .ok (.ireturn, 1) := by decide +kernel
theorem dX1_kindOf_0 : decode cX1_kindOf 0 = .ok (.aload_n 0, 1) := by decide +kernel
theorem dX1_kindOf_1 : decode cX1_kindOf 1 = .ok (.getfield 12, 3) := by decide +kernel
theorem dX1_kindOf_4 : decode cX1_kindOf 4 = .ok (.iload_n 1, 1) := by decide +kernel
theorem dX1_kindOf_5 : decode cX1_kindOf 5 = .ok (.invokevirtual 120, 3) := by decide +kernel
theorem dX1_kindOf_8 : decode cX1_kindOf 8 = .ok (.istore_n 2, 1) := by decide +kernel
theorem dX1_kindOf_9 : decode cX1_kindOf 9 = .ok (.iload_n 2, 1) := by decide +kernel
theorem dX1_kindOf_10 : decode cX1_kindOf 10 = .ok (.iconst (-1), 1) := by decide +kernel
theorem dX1_kindOf_11 : decode cX1_kindOf 11 = .ok (.if_icmp .ne 5, 3) := by decide +kernel
theorem dX1_kindOf_14 : decode cX1_kindOf 14 = .ok (.iconst 2, 1) := by decide +kernel
theorem dX1_kindOf_15 : decode cX1_kindOf 15 = .ok (.ireturn, 1) := by decide +kernel
theorem dX1_kindOf_16 : decode cX1_kindOf 16 = .ok (.iload_n 2, 1) := by decide +kernel
theorem dX1_kindOf_17 : decode cX1_kindOf 17 = .ok (.iconst 2, 1) := by decide +kernel
theorem dX1_kindOf_18 : decode cX1_kindOf 18 = .ok (.if_icmp .ne 7, 3) := by decide +kernel
theorem dX1_kindOf_21 : decode cX1_kindOf 21 = .ok (.iconst 1, 1) := by decide +kernel
theorem dX1_kindOf_22 : decode cX1_kindOf 22 = .ok (.goto 4, 3) := by decide +kernel
theorem dX1_kindOf_25 : decode cX1_kindOf 25 = .ok (.iconst 0, 1) := by decide +kernel
theorem dX1_kindOf_26 : decode cX1_kindOf 26 = .ok (.ireturn, 1) := by decide +kernel
theorem dX1_makeMostFrequent_0 : decode cX1_makeMostFrequent 0 = .ok (.aload_n 0, 1) := by decide +kernel
theorem dX1_makeMostFrequent_1 : decode cX1_makeMostFrequent 1 = .ok (.aload_n 0, 1) := by decide +kernel
theorem dX1_makeMostFrequent_2 : decode cX1_makeMostFrequent 2 = .ok (.getfield 12, 3) := by decide +kernel
theorem dX1_makeMostFrequent_5 : decode cX1_makeMostFrequent 5 = .ok (.iload_n 1, 1) := by decide +kernel
theorem dX1_makeMostFrequent_6 : decode cX1_makeMostFrequent 6 = .ok (.invokevirtual 120, 3) := by decide +kernel
theorem dX1_makeMostFrequent_9 : decode cX1_makeMostFrequent 9 = .ok (.invokevirtual 85, 3) := by decide +kernel
theorem dX1_makeMostFrequent_12 : decode cX1_makeMostFrequent 12 = .ok (.iload_n 1, 1) := by decide +kernel
theorem dX1_makeMostFrequent_13 : decode cX1_makeMostFrequent 13 = .ok (.invokevirtual 191, 3) := by decide +kernel
theorem dX1_makeMostFrequent_16 : decode cX1_makeMostFrequent 16 = .ok (.aload_n 0, 1) := by decide +kernel
theorem dX1_makeMostFrequent_17 : decode cX1_makeMostFrequent 17 = .ok (.getfield 32, 3) := by decide +kernel
theorem dX1_makeMostFrequent_20 : decode cX1_makeMostFrequent 20 = .ok (.iload_n 1, 1) := by decide +kernel
theorem dX1_makeMostFrequent_21 : decode cX1_makeMostFrequent 21 = .ok (.invokevirtual 194, 3) := by decide +kernel
theorem dX1_makeMostFrequent_24 : decode cX1_makeMostFrequent 24 = .ok (.aload_n 0, 1) := by decide +kernel
theorem dX1_makeMostFrequent_25 : decode cX1_makeMostFrequent 25 = .ok (.getfield 12, 3) := by decide +kernel
theorem dX1_makeMostFrequent_28 : decode cX1_makeMostFrequent 28 = .ok (.iload_n 1, 1) := by decide +kernel
theorem dX1_makeMostFrequent_29 : decode cX1_makeMostFrequent 29 = .ok (.iconst 1, 1) := by decide +kernel
theorem dX1_makeMostFrequent_30 : decode cX1_makeMostFrequent 30 = .ok (.invokevirtual 197, 3) := by decide +kernel
theorem dX1_makeMostFrequent_33 : decode cX1_makeMostFrequent 33 = .ok (.return_, 1) := by decide +kernel
theorem dX1_scanInLower_0 : decode cX1_scanInLower 0 = .ok (.aload_n 0, 1) := by decide +kernel
theorem dX1_scanInLower_1 : decode cX1_scanInLower 1 = .ok (.getfield 12, 3) := by decide +kernel
theorem dX1_scanInLower_4 : decode cX1_scanInLower 4 = .ok (.iload_n 1, 1) := by decide +kernel
theorem dX1_scanInLower_5 : decode cX1_scanInLower 5 = .ok (.invokevirtual 120, 3) := by decide +kernel
theorem dX1_scanInLower_8 : decode cX1_scanInLower 8 = .ok (.iconst 2, 1) := by decide +kernel
theorem dX1_scanInLower_9 : decode cX1_scanInLower 9 = .ok (.if_icmp .ne 14, 3) := by decide +kernel
theorem dX1_scanInLower_12 : decode cX1_scanInLower 12 = .ok (.aload_n 0, 1) := by decide +kernel
theorem dX1_scanInLower_13 : decode cX1_scanInLower 13 = .ok (.getfield 35, 3) := by decide +kernel
theorem dX1_scanInLower_16 : decode cX1_scanInLower 16 = .ok (.iload_n 1, 1) := by decide +kernel
theorem dX1_scanInLower_17 : decode cX1_scanInLower 17 = .ok (.invokevirtual 191, 3) := by decide +kernel
theorem dX1_scanInLower_20 : decode cX1_scanInLower 20 = .ok (.goto 24, 3) := by decide +kernel
theorem dX1_scanInLower_23 : decode cX1_scanInLower 23 = .ok (.aload_n 0, 1) := by decide +kernel
theorem dX1_scanInLower_24 : decode cX1_scanInLower 24 = .ok (.invokevirtual 200, 3) := by decide +kernel
theorem dX1_scanInLower_27 : decode cX1_scanInLower 27 = .ok (.aload_n 0, 1) := by decide +kernel
theorem dX1_scanInLower_28 : decode cX1_scanInLower 28 = .ok (.getfield 12, 3) := by decide +kernel
theorem dX1_scanInLower_31 : decode cX1_scanInLower 31 = .ok (.iload_n 1, 1) := by decide +kernel
theorem dX1_scanInLower_32 : decode cX1_scanInLower 32 = .ok (.invokevirtual 203, 3) := by decide +kernel
theorem dX1_scanInLower_35 : decode cX1_scanInLower 35 = .ok (.aload_n 0, 1) := by decide +kernel
theorem dX1_scanInLower_36 : decode cX1_scanInLower 36 = .ok (.getfield 12, 3) := by decide +kernel
theorem dX1_scanInLower_39 : decode cX1_scanInLower 39 = .ok (.iload_n 1, 1) := by decide +kernel
theorem dX1_scanInLower_40 : decode cX1_scanInLower 40 = .ok (.iconst 2, 1) := by decide +kernel
theorem dX1_scanInLower_41 : decode cX1_scanInLower 41 = .ok (.invokevirtual 197, 3) := by decide +kernel
theorem dX1_scanInLower_44 : decode cX1_scanInLower 44 = .ok (.aload_n 0, 1) := by decide +kernel
theorem dX1_scanInLower_45 : decode cX1_scanInLower 45 = .ok (.getfield 35, 3) := by decide +kernel
theorem dX1_scanInLower_48 : decode cX1_scanInLower 48 = .ok (.iload_n 1, 1) := by decide +kernel
theorem dX1_scanInLower_49 : decode cX1_scanInLower 49 = .ok (.invokevirtual 194, 3) := by decide +kernel
theorem dX1_scanInLower_52 : decode cX1_scanInLower 52 = .ok (.return_, 1) := by decide +kernel
theorem dX1_bringToUpper_0 : decode cX1_bringToUpper 0 = .ok (.aload_n 0, 1) := by decide +kernel
theorem dX1_bringToUpper_1 : decode cX1_bringToUpper 1 = .ok (.getfield 12, 3) := by decide +kernel
theorem dX1_bringToUpper_4 : decode cX1_bringToUpper 4 = .ok (.iload_n 1, 1) := by decide +kernel
theorem dX1_bringToUpper_5 : decode cX1_bringToUpper 5 = .ok (.invokevirtual 120, 3) := by decide +kernel
theorem dX1_bringToUpper_8 : decode cX1_bringToUpper 8 = .ok (.iconst 2, 1) := by decide +kernel
theorem dX1_bringToUpper_9 : decode cX1_bringToUpper 9 = .ok (.if_icmp .ne 14, 3) := by decide +kernel
theorem dX1_bringToUpper_12 : decode cX1_bringToUpper 12 = .ok (.aload_n 0, 1) := by decide +kernel
theorem dX1_bringToUpper_13 : decode cX1_bringToUpper 13 = .ok (.getfield 35, 3) := by decide +kernel
theorem dX1_bringToUpper_16 : decode cX1_bringToUpper 16 = .ok (.iload_n 1, 1) := by decide +kernel
theorem dX1_bringToUpper_17 : decode cX1_bringToUpper 17 = .ok (.invokevirtual 191, 3) := by decide +kernel
theorem dX1_bringToUpper_20 : decode cX1_bringToUpper 20 = .ok (.goto 11, 3) := by decide +kernel
theorem dX1_bringToUpper_23 : decode cX1_bringToUpper 23 = .ok (.aload_n 0, 1) := by decide +kernel
theorem dX1_bringToUpper_24 : decode cX1_bringToUpper 24 = .ok (.getfield 12, 3) := by decide +kernel
theorem dX1_bringToUpper_27 : decode cX1_bringToUpper 27 = .ok (.iload_n 1, 1) := by decide +kernel
theorem dX1_bringToUpper_28 : decode cX1_bringToUpper 28 = .ok (.invokevirtual 203, 3) := by decide +kernel
theorem dX1_bringToUpper_31 : decode cX1_bringToUpper 31 = .ok (.aload_n 0, 1) := by decide +kernel
theorem dX1_bringToUpper_32 : decode cX1_bringToUpper 32 = .ok (.getfield 12, 3) := by decide +kernel
theorem dX1_bringToUpper_35 : decode cX1_bringToUpper 35 = .ok (.iload_n 1, 1) := by decide +kernel
theorem dX1_bringToUpper_36 : decode cX1_bringToUpper 36 = .ok (.invokevirtual 135, 3) := by decide +kernel
theorem dX1_bringToUpper_39 : decode cX1_bringToUpper 39 = .ok (.istore_n 2, 1) := by decide +kernel
theorem dX1_bringToUpper_40 : decode cX1_bringToUpper 40 = .ok (.aload_n 0, 1) := by decide +kernel
theorem dX1_bringToUpper_41 : decode cX1_bringToUpper 41 = .ok (.iload_n 2, 1) := by decide +kernel
theorem dX1_bringToUpper_42 : decode cX1_bringToUpper 42 = .ok (.invokevirtual 206, 3) := by decide +kernel
theorem dX1_bringToUpper_45 : decode cX1_bringToUpper 45 = .ok (.aload_n 0, 1) := by decide +kernel
theorem dX1_bringToUpper_46 : decode cX1_bringToUpper 46 = .ok (.iload_n 1, 1) := by decide +kernel
theorem dX1_bringToUpper_47 : decode cX1_bringToUpper 47 = .ok (.invokevirtual 209, 3) := by decide +kernel
theorem dX1_bringToUpper_50 : decode cX1_bringToUpper 50 = .ok (.aload_n 0, 1) := by decide +kernel
theorem dX1_bringToUpper_51 : decode cX1_bringToUpper 51 = .ok (.iload_n 2, 1) := by decide +kernel
theorem dX1_bringToUpper_52 : decode cX1_bringToUpper 52 = .ok (.iconst 4, 1) := by decide +kernel
theorem dX1_bringToUpper_53 : decode cX1_bringToUpper 53 = .ok (.if_icmp .ne 7, 3) := by decide +kernel
theorem dX1_bringToUpper_56 : decode cX1_bringToUpper 56 = .ok (.iconst 1, 1) := by decide +kernel
theorem dX1_bringToUpper_57 : decode cX1_bringToUpper 57 = .ok (.goto 4, 3) := by decide +kernel
theorem dX1_bringToUpper_60 : decode cX1_bringToUpper 60 = .ok (.iconst 0, 1) := by decide +kernel
theorem dX1_bringToUpper_61 : decode cX1_bringToUpper 61 = .ok (.invokevirtual 212, 3) := by decide +kernel
theorem dX1_bringToUpper_64 : decode cX1_bringToUpper 64 = .ok (.istore_n 3, 1) := by decide +kernel
theorem dX1_bringToUpper_65 : decode cX1_bringToUpper 65 = .ok (.iload_n 3, 1) := by decide +kernel
theorem dX1_bringToUpper_66 : decode cX1_bringToUpper 66 = .ok (.iconst (-1), 1) := by decide +kernel
theorem dX1_bringToUpper_67 : decode cX1_bringToUpper 67 = .ok (.if_icmp .eq 12, 3) := by decide +kernel
theorem dX1_bringToUpper_70 : decode cX1_bringToUpper 70 = .ok (.aload_n 0, 1) := by decide +kernel
theorem dX1_bringToUpper_71 : decode cX1_bringToUpper 71 = .ok (.invokevirtual 200, 3) := by decide +kernel
theorem dX1_bringToUpper_74 : decode cX1_bringToUpper 74 = .ok (.aload_n 0, 1) := by decide +kernel
theorem dX1_bringToUpper_75 : decode cX1_bringToUpper 75 = .ok (.iload_n 3, 1) := by decide +kernel
theorem dX1_bringToUpper_76 : decode cX1_bringToUpper 76 = .ok (.invokevirtual 216, 3) := by decide +kernel
theorem dX1_bringToUpper_79 : decode cX1_bringToUpper 79 = .ok (.iload_n 2, 1) := by decide +kernel
theorem dX1_bringToUpper_80 : decode cX1_bringToUpper 80 = .ok (.iconst (-1), 1) := by decide +kernel
theorem dX1_bringToUpper_81 : decode cX1_bringToUpper 81 = .ok (.if_icmp .ne 7, 3) := by decide +kernel
theorem dX1_bringToUpper_84 : decode cX1_bringToUpper 84 = .ok (.iconst 0, 1) := by decide +kernel
theorem dX1_bringToUpper_85 : decode cX1_bringToUpper 85 = .ok (.goto 4, 3) := by decide +kernel
theorem dX1_bringToUpper_88 : decode cX1_bringToUpper 88 = .ok (.iconst 1, 1) := by decide +kernel
theorem dX1_bringToUpper_89 : decode cX1_bringToUpper 89 = .ok (.istore 4, 2) := by decide +kernel
theorem dX1_bringToUpper_91 : decode cX1_bringToUpper 91 = .ok (.aload_n 0, 1) := by decide +kernel
theorem dX1_bringToUpper_92 : decode cX1_bringToUpper 92 = .ok (.iload 4, 2) := by decide +kernel
theorem dX1_bringToUpper_94 : decode cX1_bringToUpper 94 = .ok (.invokevirtual 85, 3) := by decide +kernel
theorem dX1_bringToUpper_97 : decode cX1_bringToUpper 97 = .ok (.iload_n 1, 1) := by decide +kernel
theorem dX1_bringToUpper_98 : decode cX1_bringToUpper 98 = .ok (.invokevirtual 194, 3) := by decide +kernel
theorem dX1_bringToUpper_101 : decode cX1_bringToUpper 101 = .ok (.aload_n 0, 1) := by decide +kernel
theorem dX1_bringToUpper_102 : decode cX1_bringToUpper 102 = .ok (.getfield 12, 3) := by decide +kernel
theorem dX1_bringToUpper_105 : decode cX1_bringToUpper 105 = .ok (.iload_n 1, 1) := by decide +kernel
theorem dX1_bringToUpper_106 : decode cX1_bringToUpper 106 = .ok (.iload 4, 2) := by decide +kernel
theorem dX1_bringToUpper_108 : decode cX1_bringToUpper 108 = .ok (.invokevirtual 197, 3) := by decide +kernel
theorem dX1_bringToUpper_111 : decode cX1_bringToUpper 111 = .ok (.return_, 1) := by decide +kernel
theorem dX1_learnFrom_0 : decode cX1_learnFrom 0 = .ok (.aload_n 0, 1) := by decide +kernel
theorem dX1_learnFrom_1 : decode cX1_learnFrom 1 = .ok (.getfield 38, 3) := by decide +kernel
theorem dX1_learnFrom_4 : decode cX1_learnFrom 4 = .ok (.getfield 89, 3) := by decide +kernel
theorem dX1_learnFrom_7 : decode cX1_learnFrom 7 = .ok (.istore_n 2, 1) := by decide +kernel
theorem dX1_learnFrom_8 : decode cX1_learnFrom 8 = .ok (.aload_n 0, 1) := by decide +kernel
theorem dX1_learnFrom_9 : decode cX1_learnFrom 9 = .ok (.getfield 41, 3) := by decide +kernel
theorem dX1_learnFrom_12 : decode cX1_learnFrom 12 = .ok (.getfield 89, 3) := by decide +kernel
theorem dX1_learnFrom_15 : decode cX1_learnFrom 15 = .ok (.istore_n 3, 1) := by decide +kernel
theorem dX1_learnFrom_16 : decode cX1_learnFrom 16 = .ok (.iload_n 1, 1) := by decide +kernel
theorem dX1_learnFrom_17 : decode cX1_learnFrom 17 = .ok (.iconst 3, 1) := by decide +kernel
theorem dX1_learnFrom_18 : decode cX1_learnFrom 18 = .ok (.if_icmp .ne 54, 3) := by decide +kernel
theorem dX1_learnFrom_21 : decode cX1_learnFrom 21 = .ok (.aload_n 0, 1) := by decide +kernel
theorem dX1_learnFrom_22 : decode cX1_learnFrom 22 = .ok (.getfield 21, 3) := by decide +kernel
theorem dX1_learnFrom_25 : decode cX1_learnFrom 25 = .ok (.dup, 1) := by decide +kernel
theorem dX1_learnFrom_26 : decode cX1_learnFrom 26 = .ok (.getfield 219, 3) := by decide +kernel
theorem dX1_learnFrom_29 : decode cX1_learnFrom 29 = .ok (.iconst 1, 1) := by decide +kernel
theorem dX1_learnFrom_30 : decode cX1_learnFrom 30 = .ok (.iadd, 1) := by decide +kernel
theorem dX1_learnFrom_31 : decode cX1_learnFrom 31 = .ok (.putfield 219, 3) := by decide +kernel
theorem dX1_learnFrom_34 : decode cX1_learnFrom 34 = .ok (.iload_n 2, 1) := by decide +kernel
theorem dX1_learnFrom_35 : decode cX1_learnFrom 35 = .ok (.ifCond .ne 7, 3) := by decide +kernel
theorem dX1_learnFrom_38 : decode cX1_learnFrom 38 = .ok (.iconst 0, 1) := by decide +kernel
theorem dX1_learnFrom_39 : decode cX1_learnFrom 39 = .ok (.goto 6, 3) := by decide +kernel
theorem dX1_learnFrom_42 : decode cX1_learnFrom 42 = .ok (.iload_n 3, 1) := by decide +kernel
theorem dX1_learnFrom_43 : decode cX1_learnFrom 43 = .ok (.iload_n 2, 1) := by decide +kernel
theorem dX1_learnFrom_44 : decode cX1_learnFrom 44 = .ok (.idiv, 1) := by decide +kernel
theorem dX1_learnFrom_45 : decode cX1_learnFrom 45 = .ok (.istore 4, 2) := by decide +kernel
theorem dX1_learnFrom_47 : decode cX1_learnFrom 47 = .ok (.aload_n 0, 1) := by decide +kernel
theorem dX1_learnFrom_48 : decode cX1_learnFrom 48 = .ok (.aload_n 0, 1) := by decide +kernel
theorem dX1_learnFrom_49 : decode cX1_learnFrom 49 = .ok (.getfield 62, 3) := by decide +kernel
theorem dX1_learnFrom_52 : decode cX1_learnFrom 52 = .ok (.aload_n 0, 1) := by decide +kernel
theorem dX1_learnFrom_53 : decode cX1_learnFrom 53 = .ok (.getfield 82, 3) := by decide +kernel
theorem dX1_learnFrom_56 : decode cX1_learnFrom 56 = .ok (.iconst 1, 1) := by decide +kernel
theorem dX1_learnFrom_57 : decode cX1_learnFrom 57 = .ok (.iload 4, 2) := by decide +kernel
theorem dX1_learnFrom_59 : decode cX1_learnFrom 59 = .ok (.invokestatic 221, 3) := by decide +kernel
theorem dX1_learnFrom_62 : decode cX1_learnFrom 62 = .ok (.iadd, 1) := by decide +kernel
theorem dX1_learnFrom_63 : decode cX1_learnFrom 63 = .ok (.invokestatic 227, 3) := by decide +kernel
theorem dX1_learnFrom_66 : decode cX1_learnFrom 66 = .ok (.putfield 82, 3) := by decide +kernel
theorem dX1_learnFrom_69 : decode cX1_learnFrom 69 = .ok (.goto 53, 3) := by decide +kernel
theorem dX1_learnFrom_72 : decode cX1_learnFrom 72 = .ok (.iload_n 1, 1) := by decide +kernel
theorem dX1_learnFrom_73 : decode cX1_learnFrom 73 = .ok (.iconst 4, 1) := by decide +kernel
theorem dX1_learnFrom_74 : decode cX1_learnFrom 74 = .ok (.if_icmp .ne 48, 3) := by decide +kernel
theorem dX1_learnFrom_77 : decode cX1_learnFrom 77 = .ok (.aload_n 0, 1) := by decide +kernel
theorem dX1_learnFrom_78 : decode cX1_learnFrom 78 = .ok (.getfield 21, 3) := by decide +kernel
theorem dX1_learnFrom_81 : decode cX1_learnFrom 81 = .ok (.dup, 1) := by decide +kernel
theorem dX1_learnFrom_82 : decode cX1_learnFrom 82 = .ok (.getfield 230, 3) := by decide +kernel
theorem dX1_learnFrom_85 : decode cX1_learnFrom 85 = .ok (.iconst 1, 1) := by decide +kernel
theorem dX1_learnFrom_86 : decode cX1_learnFrom 86 = .ok (.iadd, 1) := by decide +kernel
theorem dX1_learnFrom_87 : decode cX1_learnFrom 87 = .ok (.putfield 230, 3) := by decide +kernel
theorem dX1_learnFrom_90 : decode cX1_learnFrom 90 = .ok (.iload_n 3, 1) := by decide +kernel
theorem dX1_learnFrom_91 : decode cX1_learnFrom 91 = .ok (.ifCond .ne 7, 3) := by decide +kernel
theorem dX1_learnFrom_94 : decode cX1_learnFrom 94 = .ok (.iconst 0, 1) := by decide +kernel
theorem dX1_learnFrom_95 : decode cX1_learnFrom 95 = .ok (.goto 6, 3) := by decide +kernel
theorem dX1_learnFrom_98 : decode cX1_learnFrom 98 = .ok (.iload_n 2, 1) := by decide +kernel
theorem dX1_learnFrom_99 : decode cX1_learnFrom 99 = .ok (.iload_n 3, 1) := by decide +kernel
theorem dX1_learnFrom_100 : decode cX1_learnFrom 100 = .ok (.idiv, 1) := by decide +kernel
theorem dX1_learnFrom_101 : decode cX1_learnFrom 101 = .ok (.istore 4, 2) := by decide +kernel
theorem dX1_learnFrom_103 : decode cX1_learnFrom 103 = .ok (.aload_n 0, 1) := by decide +kernel
theorem dX1_learnFrom_104 : decode cX1_learnFrom 104 = .ok (.iconst 0, 1) := by decide +kernel
theorem dX1_learnFrom_105 : decode cX1_learnFrom 105 = .ok (.aload_n 0, 1) := by decide +kernel
theorem dX1_learnFrom_106 : decode cX1_learnFrom 106 = .ok (.getfield 82, 3) := by decide +kernel
theorem dX1_learnFrom_109 : decode cX1_learnFrom 109 = .ok (.iconst 1, 1) := by decide +kernel
theorem dX1_learnFrom_110 : decode cX1_learnFrom 110 = .ok (.iload 4, 2) := by decide +kernel
theorem dX1_learnFrom_112 : decode cX1_learnFrom 112 = .ok (.invokestatic 221, 3) := by decide +kernel
theorem dX1_learnFrom_115 : decode cX1_learnFrom 115 = .ok (.isub, 1) := by decide +kernel
theorem dX1_learnFrom_116 : decode cX1_learnFrom 116 = .ok (.invokestatic 221, 3) := by decide +kernel
theorem dX1_learnFrom_119 : decode cX1_learnFrom 119 = .ok (.putfield 82, 3) := by decide +kernel
theorem dX1_learnFrom_122 : decode cX1_learnFrom 122 = .ok (.return_, 1) := by decide +kernel
theorem dX1_loseGhost_0 : decode cX1_loseGhost 0 = .ok (.aload_n 0, 1) := by decide +kernel
theorem dX1_loseGhost_1 : decode cX1_loseGhost 1 = .ok (.getfield 12, 3) := by decide +kernel
theorem dX1_loseGhost_4 : decode cX1_loseGhost 4 = .ok (.iload_n 1, 1) := by decide +kernel
theorem dX1_loseGhost_5 : decode cX1_loseGhost 5 = .ok (.invokevirtual 135, 3) := by decide +kernel
theorem dX1_loseGhost_8 : decode cX1_loseGhost 8 = .ok (.istore_n 2, 1) := by decide +kernel
theorem dX1_loseGhost_9 : decode cX1_loseGhost 9 = .ok (.iload_n 2, 1) := by decide +kernel
theorem dX1_loseGhost_10 : decode cX1_loseGhost 10 = .ok (.iconst (-1), 1) := by decide +kernel
theorem dX1_loseGhost_11 : decode cX1_loseGhost 11 = .ok (.if_icmp .eq 21, 3) := by decide +kernel
theorem dX1_loseGhost_14 : decode cX1_loseGhost 14 = .ok (.aload_n 0, 1) := by decide +kernel
theorem dX1_loseGhost_15 : decode cX1_loseGhost 15 = .ok (.iload_n 2, 1) := by decide +kernel
theorem dX1_loseGhost_16 : decode cX1_loseGhost 16 = .ok (.invokevirtual 85, 3) := by decide +kernel
theorem dX1_loseGhost_19 : decode cX1_loseGhost 19 = .ok (.iload_n 1, 1) := by decide +kernel
theorem dX1_loseGhost_20 : decode cX1_loseGhost 20 = .ok (.invokevirtual 191, 3) := by decide +kernel
theorem dX1_loseGhost_23 : decode cX1_loseGhost 23 = .ok (.aload_n 0, 1) := by decide +kernel
theorem dX1_loseGhost_24 : decode cX1_loseGhost 24 = .ok (.getfield 12, 3) := by decide +kernel
theorem dX1_loseGhost_27 : decode cX1_loseGhost 27 = .ok (.iload_n 1, 1) := by decide +kernel
theorem dX1_loseGhost_28 : decode cX1_loseGhost 28 = .ok (.iconst (-1), 1) := by decide +kernel
theorem dX1_loseGhost_29 : decode cX1_loseGhost 29 = .ok (.invokevirtual 232, 3) := by decide +kernel
theorem dX1_loseGhost_32 : decode cX1_loseGhost 32 = .ok (.return_, 1) := by decide +kernel
theorem dX1_unitToDemote_0 : decode cX1_unitToDemote 0 = .ok (.aload_n 0, 1) := by decide +kernel
theorem dX1_unitToDemote_1 : decode cX1_unitToDemote 1 = .ok (.getfield 28, 3) := by decide +kernel
theorem dX1_unitToDemote_4 : decode cX1_unitToDemote 4 = .ok (.getfield 89, 3) := by decide +kernel
theorem dX1_unitToDemote_7 : decode cX1_unitToDemote 7 = .ok (.aload_n 0, 1) := by decide +kernel
theorem dX1_unitToDemote_8 : decode cX1_unitToDemote 8 = .ok (.getfield 32, 3) := by decide +kernel
theorem dX1_unitToDemote_11 : decode cX1_unitToDemote 11 = .ok (.getfield 89, 3) := by decide +kernel
theorem dX1_unitToDemote_14 : decode cX1_unitToDemote 14 = .ok (.iadd, 1) := by decide +kernel
theorem dX1_unitToDemote_15 : decode cX1_unitToDemote 15 = .ok (.aload_n 0, 1) := by decide +kernel
theorem dX1_unitToDemote_16 : decode cX1_unitToDemote 16 = .ok (.getfield 62, 3) := by decide +kernel
theorem dX1_unitToDemote_19 : decode cX1_unitToDemote 19 = .ok (.if_icmp .ge 5, 3) := by decide +kernel
theorem dX1_unitToDemote_22 : decode cX1_unitToDemote 22 = .ok (.iconst (-1), 1) := by decide +kernel
theorem dX1_unitToDemote_23 : decode cX1_unitToDemote 23 = .ok (.ireturn, 1) := by decide +kernel
theorem dX1_unitToDemote_24 : decode cX1_unitToDemote 24 = .ok (.aload_n 0, 1) := by decide +kernel
theorem dX1_unitToDemote_25 : decode cX1_unitToDemote 25 = .ok (.iload_n 1, 1) := by decide +kernel
theorem dX1_unitToDemote_26 : decode cX1_unitToDemote 26 = .ok (.invokevirtual 235, 3) := by decide +kernel
theorem dX1_unitToDemote_29 : decode cX1_unitToDemote 29 = .ok (.ifCond .eq 10, 3) := by decide +kernel
theorem dX1_unitToDemote_32 : decode cX1_unitToDemote 32 = .ok (.aload_n 0, 1) := by decide +kernel
theorem dX1_unitToDemote_33 : decode cX1_unitToDemote 33 = .ok (.getfield 28, 3) := by decide +kernel
theorem dX1_unitToDemote_36 : decode cX1_unitToDemote 36 = .ok (.goto 7, 3) := by decide +kernel
theorem dX1_unitToDemote_39 : decode cX1_unitToDemote 39 = .ok (.aload_n 0, 1) := by decide +kernel
theorem dX1_unitToDemote_40 : decode cX1_unitToDemote 40 = .ok (.getfield 32, 3) := by decide +kernel
theorem dX1_unitToDemote_43 : decode cX1_unitToDemote 43 = .ok (.astore_n 2, 1) := by decide +kernel
theorem dX1_unitToDemote_44 : decode cX1_unitToDemote 44 = .ok (.iconst 0, 1) := by decide +kernel
theorem dX1_unitToDemote_45 : decode cX1_unitToDemote 45 = .ok (.istore_n 3, 1) := by decide +kernel
theorem dX1_unitToDemote_46 : decode cX1_unitToDemote 46 = .ok (.iload_n 3, 1) := by decide +kernel
theorem dX1_unitToDemote_47 : decode cX1_unitToDemote 47 = .ok (.iconst 4, 1) := by decide +kernel
theorem dX1_unitToDemote_48 : decode cX1_unitToDemote 48 = .ok (.if_icmp .ge 16, 3) := by decide +kernel
theorem dX1_unitToDemote_51 : decode cX1_unitToDemote 51 = .ok (.aload_n 0, 1) := by decide +kernel
theorem dX1_unitToDemote_52 : decode cX1_unitToDemote 52 = .ok (.getfield 44, 3) := by decide +kernel
theorem dX1_unitToDemote_55 : decode cX1_unitToDemote 55 = .ok (.iload_n 3, 1) := by decide +kernel
theorem dX1_unitToDemote_56 : decode cX1_unitToDemote 56 = .ok (.iconst 0, 1) := by decide +kernel
theorem dX1_unitToDemote_57 : decode cX1_unitToDemote 57 = .ok (.iastore, 1) := by decide +kernel
theorem dX1_unitToDemote_58 : decode cX1_unitToDemote 58 = .ok (.iinc 3 1, 3) := by decide +kernel
theorem dX1_unitToDemote_61 : decode cX1_unitToDemote 61 = .ok (.goto (-15), 3) := by decide +kernel
theorem dX1_unitToDemote_64 : decode cX1_unitToDemote 64 = .ok (.aload_n 0, 1) := by decide +kernel
theorem dX1_unitToDemote_65 : decode cX1_unitToDemote 65 = .ok (.aload_n 0, 1) := by decide +kernel
theorem dX1_unitToDemote_66 : decode cX1_unitToDemote 66 = .ok (.getfield 28, 3) := by decide +kernel
theorem dX1_unitToDemote_69 : decode cX1_unitToDemote 69 = .ok (.invokevirtual 239, 3) := by decide +kernel
theorem dX1_unitToDemote_72 : decode cX1_unitToDemote 72 = .ok (.aload_n 0, 1) := by decide +kernel
theorem dX1_unitToDemote_73 : decode cX1_unitToDemote 73 = .ok (.aload_n 0, 1) := by decide +kernel
theorem dX1_unitToDemote_74 : decode cX1_unitToDemote 74 = .ok (.getfield 32, 3) := by decide +kernel
theorem dX1_unitToDemote_77 : decode cX1_unitToDemote 77 = .ok (.invokevirtual 239, 3) := by decide +kernel
theorem dX1_unitToDemote_80 : decode cX1_unitToDemote 80 = .ok (.aload_n 0, 1) := by decide +kernel
theorem dX1_unitToDemote_81 : decode cX1_unitToDemote 81 = .ok (.invokevirtual 112, 3) := by decide +kernel
theorem dX1_unitToDemote_84 : decode cX1_unitToDemote 84 = .ok (.istore_n 3, 1) := by decide +kernel
theorem dX1_unitToDemote_85 : decode cX1_unitToDemote 85 = .ok (.aload_n 2, 1) := by decide +kernel
theorem dX1_unitToDemote_86 : decode cX1_unitToDemote 86 = .ok (.getfield 89, 3) := by decide +kernel
theorem dX1_unitToDemote_89 : decode cX1_unitToDemote 89 = .ok (.iconst 1, 1) := by decide +kernel
theorem dX1_unitToDemote_90 : decode cX1_unitToDemote 90 = .ok (.isub, 1) := by decide +kernel
theorem dX1_unitToDemote_91 : decode cX1_unitToDemote 91 = .ok (.istore 4, 2) := by decide +kernel
theorem dX1_unitToDemote_93 : decode cX1_unitToDemote 93 = .ok (.iload 4, 2) := by decide +kernel
theorem dX1_unitToDemote_95 : decode cX1_unitToDemote 95 = .ok (.ifCond .lt 59, 3) := by decide +kernel
theorem dX1_unitToDemote_98 : decode cX1_unitToDemote 98 = .ok (.aload_n 0, 1) := by decide +kernel
theorem dX1_unitToDemote_99 : decode cX1_unitToDemote 99 = .ok (.getfield 12, 3) := by decide +kernel
theorem dX1_unitToDemote_102 : decode cX1_unitToDemote 102 = .ok (.aload_n 2, 1) := by decide +kernel
theorem dX1_unitToDemote_103 : decode cX1_unitToDemote 103 = .ok (.iload 4, 2) := by decide +kernel
theorem dX1_unitToDemote_105 : decode cX1_unitToDemote 105 = .ok (.invokevirtual 144, 3) := by decide +kernel
theorem dX1_unitToDemote_108 : decode cX1_unitToDemote 108 = .ok (.invokevirtual 129, 3) := by decide +kernel
theorem dX1_unitToDemote_111 : decode cX1_unitToDemote 111 = .ok (.istore 5, 2) := by decide +kernel
theorem dX1_unitToDemote_113 : decode cX1_unitToDemote 113 = .ok (.iload 5, 2) := by decide +kernel
theorem dX1_unitToDemote_115 : decode cX1_unitToDemote 115 = .ok (.ifCond .lt 33, 3) := by decide +kernel
theorem dX1_unitToDemote_118 : decode cX1_unitToDemote 118 = .ok (.iload 5, 2) := by decide +kernel
theorem dX1_unitToDemote_120 : decode cX1_unitToDemote 120 = .ok (.iconst 4, 1) := by decide +kernel
theorem dX1_unitToDemote_121 : decode cX1_unitToDemote 121 = .ok (.if_icmp .ge 27, 3) := by decide +kernel
theorem dX1_unitToDemote_124 : decode cX1_unitToDemote 124 = .ok (.aload_n 0, 1) := by decide +kernel
theorem dX1_unitToDemote_125 : decode cX1_unitToDemote 125 = .ok (.iload 5, 2) := by decide +kernel
theorem dX1_unitToDemote_127 : decode cX1_unitToDemote 127 = .ok (.aload_n 0, 1) := by decide +kernel
theorem dX1_unitToDemote_128 : decode cX1_unitToDemote 128 = .ok (.getfield 44, 3) := by decide +kernel
theorem dX1_unitToDemote_131 : decode cX1_unitToDemote 131 = .ok (.iload 5, 2) := by decide +kernel
theorem dX1_unitToDemote_133 : decode cX1_unitToDemote 133 = .ok (.iaload, 1) := by decide +kernel
theorem dX1_unitToDemote_134 : decode cX1_unitToDemote 134 = .ok (.iload_n 3, 1) := by decide +kernel
theorem dX1_unitToDemote_135 : decode cX1_unitToDemote 135 = .ok (.invokevirtual 115, 3) := by decide +kernel
theorem dX1_unitToDemote_138 : decode cX1_unitToDemote 138 = .ok (.ifCond .le 10, 3) := by decide +kernel
theorem dX1_unitToDemote_141 : decode cX1_unitToDemote 141 = .ok (.aload_n 2, 1) := by decide +kernel
theorem dX1_unitToDemote_142 : decode cX1_unitToDemote 142 = .ok (.iload 4, 2) := by decide +kernel
theorem dX1_unitToDemote_144 : decode cX1_unitToDemote 144 = .ok (.invokevirtual 144, 3) := by decide +kernel
theorem dX1_unitToDemote_147 : decode cX1_unitToDemote 147 = .ok (.ireturn, 1) := by decide +kernel
theorem dX1_unitToDemote_148 : decode cX1_unitToDemote 148 = .ok (.iinc 4 (-1), 3) := by decide +kernel
theorem dX1_unitToDemote_151 : decode cX1_unitToDemote 151 = .ok (.goto (-58), 3) := by decide +kernel
theorem dX1_unitToDemote_154 : decode cX1_unitToDemote 154 = .ok (.aload_n 2, 1) := by decide +kernel
theorem dX1_unitToDemote_155 : decode cX1_unitToDemote 155 = .ok (.aload_n 2, 1) := by decide +kernel
theorem dX1_unitToDemote_156 : decode cX1_unitToDemote 156 = .ok (.getfield 89, 3) := by decide +kernel
theorem dX1_unitToDemote_159 : decode cX1_unitToDemote 159 = .ok (.iconst 1, 1) := by decide +kernel
theorem dX1_unitToDemote_160 : decode cX1_unitToDemote 160 = .ok (.isub, 1) := by decide +kernel
theorem dX1_unitToDemote_161 : decode cX1_unitToDemote 161 = .ok (.invokevirtual 144, 3) := by decide +kernel
theorem dX1_unitToDemote_164 : decode cX1_unitToDemote 164 = .ok (.ireturn, 1) := by decide +kernel
theorem dX1_isRecentTooLong_0 : decode cX1_isRecentTooLong 0 = .ok (.aload_n 0, 1) := by decide +kernel
theorem dX1_isRecentTooLong_1 : decode cX1_isRecentTooLong 1 = .ok (.getfield 28, 3) := by decide +kernel
theorem dX1_isRecentTooLong_4 : decode cX1_isRecentTooLong 4 = .ok (.getfield 89, 3) := by decide +kernel
theorem dX1_isRecentTooLong_7 : decode cX1_isRecentTooLong 7 = .ok (.ifCond .ne 5, 3) := by decide +kernel
theorem dX1_isRecentTooLong_10 : decode cX1_isRecentTooLong 10 = .ok (.iconst 0, 1) := by decide +kernel
theorem dX1_isRecentTooLong_11 : decode cX1_isRecentTooLong 11 = .ok (.ireturn, 1) := by decide +kernel
theorem dX1_isRecentTooLong_12 : decode cX1_isRecentTooLong 12 = .ok (.aload_n 0, 1) := by decide +kernel
theorem dX1_isRecentTooLong_13 : decode cX1_isRecentTooLong 13 = .ok (.getfield 28, 3) := by decide +kernel
theorem dX1_isRecentTooLong_16 : decode cX1_isRecentTooLong 16 = .ok (.getfield 89, 3) := by decide +kernel
theorem dX1_isRecentTooLong_19 : decode cX1_isRecentTooLong 19 = .ok (.aload_n 0, 1) := by decide +kernel
theorem dX1_isRecentTooLong_20 : decode cX1_isRecentTooLong 20 = .ok (.getfield 82, 3) := by decide +kernel
theorem dX1_isRecentTooLong_23 : decode cX1_isRecentTooLong 23 = .ok (.if_icmp .gt 31, 3) := by decide +kernel
theorem dX1_isRecentTooLong_26 : decode cX1_isRecentTooLong 26 = .ok (.aload_n 0, 1) := by decide +kernel
theorem dX1_isRecentTooLong_27 : decode cX1_isRecentTooLong 27 = .ok (.getfield 28, 3) := by decide +kernel
theorem dX1_isRecentTooLong_30 : decode cX1_isRecentTooLong 30 = .ok (.getfield 89, 3) := by decide +kernel
theorem dX1_isRecentTooLong_33 : decode cX1_isRecentTooLong 33 = .ok (.aload_n 0, 1) := by decide +kernel
theorem dX1_isRecentTooLong_34 : decode cX1_isRecentTooLong 34 = .ok (.getfield 82, 3) := by decide +kernel
theorem dX1_isRecentTooLong_37 : decode cX1_isRecentTooLong 37 = .ok (.if_icmp .ne 7, 3) := by decide +kernel
theorem dX1_isRecentTooLong_40 : decode cX1_isRecentTooLong 40 = .ok (.iload_n 1, 1) := by decide +kernel
theorem dX1_isRecentTooLong_41 : decode cX1_isRecentTooLong 41 = .ok (.ifCond .ne 13, 3) := by decide +kernel
theorem dX1_isRecentTooLong_44 : decode cX1_isRecentTooLong 44 = .ok (.aload_n 0, 1) := by decide +kernel
theorem dX1_isRecentTooLong_45 : decode cX1_isRecentTooLong 45 = .ok (.getfield 32, 3) := by decide +kernel
theorem dX1_isRecentTooLong_48 : decode cX1_isRecentTooLong 48 = .ok (.getfield 89, 3) := by decide +kernel
theorem dX1_isRecentTooLong_51 : decode cX1_isRecentTooLong 51 = .ok (.ifCond .ne 7, 3) := by decide +kernel
theorem dX1_isRecentTooLong_54 : decode cX1_isRecentTooLong 54 = .ok (.iconst 1, 1) := by decide +kernel
theorem dX1_isRecentTooLong_55 : decode cX1_isRecentTooLong 55 = .ok (.goto 4, 3) := by decide +kernel
theorem dX1_isRecentTooLong_58 : decode cX1_isRecentTooLong 58 = .ok (.iconst 0, 1) := by decide +kernel
theorem dX1_isRecentTooLong_59 : decode cX1_isRecentTooLong 59 = .ok (.ireturn, 1) := by decide +kernel
theorem dX1_addOwners_0 : decode cX1_addOwners 0 = .ok (.iconst 0, 1) := by decide +kernel
theorem dX1_addOwners_1 : decode cX1_addOwners 1 = .ok (.istore_n 2, 1) := by decide +kernel
theorem dX1_addOwners_2 : decode cX1_addOwners 2 = .ok (.iload_n 2, 1) := by decide +kernel
theorem dX1_addOwners_3 : decode cX1_addOwners 3 = .ok (.aload_n 1, 1) := by decide +kernel
theorem dX1_addOwners_4 : decode cX1_addOwners 4 = .ok (.getfield 89, 3) := by decide +kernel
theorem dX1_addOwners_7 : decode cX1_addOwners 7 = .ok (.if_icmp .ge 41, 3) := by decide +kernel
theorem dX1_addOwners_10 : decode cX1_addOwners 10 = .ok (.aload_n 0, 1) := by decide +kernel
theorem dX1_addOwners_11 : decode cX1_addOwners 11 = .ok (.getfield 12, 3) := by decide +kernel
theorem dX1_addOwners_14 : decode cX1_addOwners 14 = .ok (.aload_n 1, 1) := by decide +kernel
theorem dX1_addOwners_15 : decode cX1_addOwners 15 = .ok (.iload_n 2, 1) := by decide +kernel
theorem dX1_addOwners_16 : decode cX1_addOwners 16 = .ok (.invokevirtual 144, 3) := by decide +kernel
theorem dX1_addOwners_19 : decode cX1_addOwners 19 = .ok (.invokevirtual 129, 3) := by decide +kernel
theorem dX1_addOwners_22 : decode cX1_addOwners 22 = .ok (.istore_n 3, 1) := by decide +kernel
theorem dX1_addOwners_23 : decode cX1_addOwners 23 = .ok (.iload_n 3, 1) := by decide +kernel
theorem dX1_addOwners_24 : decode cX1_addOwners 24 = .ok (.ifCond .lt 18, 3) := by decide +kernel
theorem dX1_addOwners_27 : decode cX1_addOwners 27 = .ok (.iload_n 3, 1) := by decide +kernel
theorem dX1_addOwners_28 : decode cX1_addOwners 28 = .ok (.iconst 4, 1) := by decide +kernel
theorem dX1_addOwners_29 : decode cX1_addOwners 29 = .ok (.if_icmp .ge 13, 3) := by decide +kernel
theorem dX1_addOwners_32 : decode cX1_addOwners 32 = .ok (.aload_n 0, 1) := by decide +kernel
theorem dX1_addOwners_33 : decode cX1_addOwners 33 = .ok (.getfield 44, 3) := by decide +kernel
theorem dX1_addOwners_36 : decode cX1_addOwners 36 = .ok (.iload_n 3, 1) := by decide +kernel
theorem dX1_addOwners_37 : decode cX1_addOwners 37 = .ok (.dup2, 1) := by decide +kernel
theorem dX1_addOwners_38 : decode cX1_addOwners 38 = .ok (.iaload, 1) := by decide +kernel
theorem dX1_addOwners_39 : decode cX1_addOwners 39 = .ok (.iconst 1, 1) := by decide +kernel
theorem dX1_addOwners_40 : decode cX1_addOwners 40 = .ok (.iadd, 1) := by decide +kernel
theorem dX1_addOwners_41 : decode cX1_addOwners 41 = .ok (.iastore, 1) := by decide +kernel
theorem dX1_addOwners_42 : decode cX1_addOwners 42 = .ok (.iinc 2 1, 3) := by decide +kernel
theorem dX1_addOwners_45 : decode cX1_addOwners 45 = .ok (.goto (-43), 3) := by decide +kernel
theorem dX1_addOwners_48 : decode cX1_addOwners 48 = .ok (.return_, 1) := by decide +kernel
theorem dX1_demote_0 : decode cX1_demote 0 = .ok (.aload_n 0, 1) := by decide +kernel
theorem dX1_demote_1 : decode cX1_demote 1 = .ok (.getfield 12, 3) := by decide +kernel
theorem dX1_demote_4 : decode cX1_demote 4 = .ok (.iload_n 1, 1) := by decide +kernel
theorem dX1_demote_5 : decode cX1_demote 5 = .ok (.invokevirtual 120, 3) := by decide +kernel
theorem dX1_demote_8 : decode cX1_demote 8 = .ok (.ifCond .ne 7, 3) := by decide +kernel
theorem dX1_demote_11 : decode cX1_demote 11 = .ok (.iconst 1, 1) := by decide +kernel
theorem dX1_demote_12 : decode cX1_demote 12 = .ok (.goto 4, 3) := by decide +kernel
theorem dX1_demote_15 : decode cX1_demote 15 = .ok (.iconst 0, 1) := by decide +kernel
theorem dX1_demote_16 : decode cX1_demote 16 = .ok (.istore_n 2, 1) := by decide +kernel
theorem dX1_demote_17 : decode cX1_demote 17 = .ok (.iload_n 2, 1) := by decide +kernel
theorem dX1_demote_18 : decode cX1_demote 18 = .ok (.ifCond .eq 10, 3) := by decide +kernel
theorem dX1_demote_21 : decode cX1_demote 21 = .ok (.aload_n 0, 1) := by decide +kernel
theorem dX1_demote_22 : decode cX1_demote 22 = .ok (.getfield 38, 3) := by decide +kernel
theorem dX1_demote_25 : decode cX1_demote 25 = .ok (.goto 7, 3) := by decide +kernel
theorem dX1_demote_28 : decode cX1_demote 28 = .ok (.aload_n 0, 1) := by decide +kernel
theorem dX1_demote_29 : decode cX1_demote 29 = .ok (.getfield 41, 3) := by decide +kernel
theorem dX1_demote_32 : decode cX1_demote 32 = .ok (.astore_n 3, 1) := by decide +kernel
theorem dX1_demote_33 : decode cX1_demote 33 = .ok (.aload_n 0, 1) := by decide +kernel
theorem dX1_demote_34 : decode cX1_demote 34 = .ok (.iload_n 2, 1) := by decide +kernel
theorem dX1_demote_35 : decode cX1_demote 35 = .ok (.ifCond .eq 7, 3) := by decide +kernel
theorem dX1_demote_38 : decode cX1_demote 38 = .ok (.iconst 0, 1) := by decide +kernel
theorem dX1_demote_39 : decode cX1_demote 39 = .ok (.goto 4, 3) := by decide +kernel
theorem dX1_demote_42 : decode cX1_demote 42 = .ok (.iconst 1, 1) := by decide +kernel
theorem dX1_demote_43 : decode cX1_demote 43 = .ok (.invokevirtual 85, 3) := by decide +kernel
theorem dX1_demote_46 : decode cX1_demote 46 = .ok (.iload_n 1, 1) := by decide +kernel
theorem dX1_demote_47 : decode cX1_demote 47 = .ok (.invokevirtual 191, 3) := by decide +kernel
theorem dX1_demote_50 : decode cX1_demote 50 = .ok (.aload_n 3, 1) := by decide +kernel
theorem dX1_demote_51 : decode cX1_demote 51 = .ok (.getfield 89, 3) := by decide +kernel
theorem dX1_demote_54 : decode cX1_demote 54 = .ok (.aload_n 0, 1) := by decide +kernel
theorem dX1_demote_55 : decode cX1_demote 55 = .ok (.getfield 62, 3) := by decide +kernel
theorem dX1_demote_58 : decode cX1_demote 58 = .ok (.if_icmp .lt 17, 3) := by decide +kernel
theorem dX1_demote_61 : decode cX1_demote 61 = .ok (.aload_n 0, 1) := by decide +kernel
theorem dX1_demote_62 : decode cX1_demote 62 = .ok (.aload_n 3, 1) := by decide +kernel
theorem dX1_demote_63 : decode cX1_demote 63 = .ok (.aload_n 3, 1) := by decide +kernel
theorem dX1_demote_64 : decode cX1_demote 64 = .ok (.getfield 89, 3) := by decide +kernel
theorem dX1_demote_67 : decode cX1_demote 67 = .ok (.iconst 1, 1) := by decide +kernel
theorem dX1_demote_68 : decode cX1_demote 68 = .ok (.isub, 1) := by decide +kernel
theorem dX1_demote_69 : decode cX1_demote 69 = .ok (.invokevirtual 144, 3) := by decide +kernel
theorem dX1_demote_72 : decode cX1_demote 72 = .ok (.invokevirtual 209, 3) := by decide +kernel
theorem dX1_demote_75 : decode cX1_demote 75 = .ok (.aload_n 3, 1) := by decide +kernel
theorem dX1_demote_76 : decode cX1_demote 76 = .ok (.iload_n 1, 1) := by decide +kernel
theorem dX1_demote_77 : decode cX1_demote 77 = .ok (.invokevirtual 194, 3) := by decide +kernel
theorem dX1_demote_80 : decode cX1_demote 80 = .ok (.aload_n 0, 1) := by decide +kernel
theorem dX1_demote_81 : decode cX1_demote 81 = .ok (.getfield 12, 3) := by decide +kernel
theorem dX1_demote_84 : decode cX1_demote 84 = .ok (.iload_n 1, 1) := by decide +kernel
theorem dX1_demote_85 : decode cX1_demote 85 = .ok (.iload_n 2, 1) := by decide +kernel
theorem dX1_demote_86 : decode cX1_demote 86 = .ok (.ifCond .eq 7, 3) := by decide +kernel
theorem dX1_demote_89 : decode cX1_demote 89 = .ok (.iconst 3, 1) := by decide +kernel
theorem dX1_demote_90 : decode cX1_demote 90 = .ok (.goto 4, 3) := by decide +kernel
theorem dX1_demote_93 : decode cX1_demote 93 = .ok (.iconst 4, 1) := by decide +kernel
theorem dX1_demote_94 : decode cX1_demote 94 = .ok (.invokevirtual 232, 3) := by decide +kernel
theorem dX1_demote_97 : decode cX1_demote 97 = .ok (.aload_n 0, 1) := by decide +kernel
theorem dX1_demote_98 : decode cX1_demote 98 = .ok (.getfield 35, 3) := by decide +kernel
theorem dX1_demote_101 : decode cX1_demote 101 = .ok (.iload_n 1, 1) := by decide +kernel
theorem dX1_demote_102 : decode cX1_demote 102 = .ok (.invokevirtual 194, 3) := by decide +kernel
theorem dX1_demote_105 : decode cX1_demote 105 = .ok (.aload_n 0, 1) := by decide +kernel
theorem dX1_demote_106 : decode cX1_demote 106 = .ok (.getfield 12, 3) := by decide +kernel
theorem dX1_demote_109 : decode cX1_demote 109 = .ok (.iload_n 1, 1) := by decide +kernel
theorem dX1_demote_110 : decode cX1_demote 110 = .ok (.iconst 2, 1) := by decide +kernel
theorem dX1_demote_111 : decode cX1_demote 111 = .ok (.invokevirtual 197, 3) := by decide +kernel
theorem dX1_demote_114 : decode cX1_demote 114 = .ok (.aload_n 0, 1) := by decide +kernel
theorem dX1_demote_115 : decode cX1_demote 115 = .ok (.getfield 21, 3) := by decide +kernel
theorem dX1_demote_118 : decode cX1_demote 118 = .ok (.dup, 1) := by decide +kernel
theorem dX1_demote_119 : decode cX1_demote 119 = .ok (.getfield 243, 3) := by decide +kernel
theorem dX1_demote_122 : decode cX1_demote 122 = .ok (.iconst 1, 1) := by decide +kernel
theorem dX1_demote_123 : decode cX1_demote 123 = .ok (.iadd, 1) := by decide +kernel
theorem dX1_demote_124 : decode cX1_demote 124 = .ok (.putfield 243, 3) := by decide +kernel
theorem dX1_demote_127 : decode cX1_demote 127 = .ok (.aload_n 0, 1) := by decide +kernel
theorem dX1_demote_128 : decode cX1_demote 128 = .ok (.getfield 21, 3) := by decide +kernel
theorem dX1_demote_131 : decode cX1_demote 131 = .ok (.iload_n 1, 1) := by decide +kernel
theorem dX1_demote_132 : decode cX1_demote 132 = .ok (.putfield 246, 3) := by decide +kernel
theorem dX1_demote_135 : decode cX1_demote 135 = .ok (.return_, 1) := by decide +kernel
theorem dX1_unitToLeave_0 : decode cX1_unitToLeave 0 = .ok (.aload_n 0, 1) := by decide +kernel
theorem dX1_unitToLeave_1 : decode cX1_unitToLeave 1 = .ok (.getfield 35, 3) := by decide +kernel
theorem dX1_unitToLeave_4 : decode cX1_unitToLeave 4 = .ok (.getfield 89, 3) := by decide +kernel
theorem dX1_unitToLeave_7 : decode cX1_unitToLeave 7 = .ok (.aload_n 0, 1) := by decide +kernel
theorem dX1_unitToLeave_8 : decode cX1_unitToLeave 8 = .ok (.getfield 65, 3) := by decide +kernel
theorem dX1_unitToLeave_11 : decode cX1_unitToLeave 11 = .ok (.if_icmp .ge 5, 3) := by decide +kernel
theorem dX1_unitToLeave_14 : decode cX1_unitToLeave 14 = .ok (.iconst (-1), 1) := by decide +kernel
theorem dX1_unitToLeave_15 : decode cX1_unitToLeave 15 = .ok (.ireturn, 1) := by decide +kernel
theorem dX1_unitToLeave_16 : decode cX1_unitToLeave 16 = .ok (.aload_n 0, 1) := by decide +kernel
theorem dX1_unitToLeave_17 : decode cX1_unitToLeave 17 = .ok (.getfield 35, 3) := by decide +kernel
theorem dX1_unitToLeave_20 : decode cX1_unitToLeave 20 = .ok (.getfield 89, 3) := by decide +kernel
theorem dX1_unitToLeave_23 : decode cX1_unitToLeave 23 = .ok (.iconst 1, 1) := by decide +kernel
theorem dX1_unitToLeave_24 : decode cX1_unitToLeave 24 = .ok (.isub, 1) := by decide +kernel
theorem dX1_unitToLeave_25 : decode cX1_unitToLeave 25 = .ok (.istore_n 1, 1) := by decide +kernel
theorem dX1_unitToLeave_26 : decode cX1_unitToLeave 26 = .ok (.iload_n 1, 1) := by decide +kernel
theorem dX1_unitToLeave_27 : decode cX1_unitToLeave 27 = .ok (.ifCond .lt 31, 3) := by decide +kernel
theorem dX1_unitToLeave_30 : decode cX1_unitToLeave 30 = .ok (.aload_n 0, 1) := by decide +kernel
theorem dX1_unitToLeave_31 : decode cX1_unitToLeave 31 = .ok (.getfield 35, 3) := by decide +kernel
theorem dX1_unitToLeave_34 : decode cX1_unitToLeave 34 = .ok (.iload_n 1, 1) := by decide +kernel
theorem dX1_unitToLeave_35 : decode cX1_unitToLeave 35 = .ok (.invokevirtual 144, 3) := by decide +kernel
theorem dX1_unitToLeave_38 : decode cX1_unitToLeave 38 = .ok (.istore_n 2, 1) := by decide +kernel
theorem dX1_unitToLeave_39 : decode cX1_unitToLeave 39 = .ok (.aload_n 0, 1) := by decide +kernel
theorem dX1_unitToLeave_40 : decode cX1_unitToLeave 40 = .ok (.getfield 12, 3) := by decide +kernel
theorem dX1_unitToLeave_43 : decode cX1_unitToLeave 43 = .ok (.iload_n 2, 1) := by decide +kernel
theorem dX1_unitToLeave_44 : decode cX1_unitToLeave 44 = .ok (.invokevirtual 147, 3) := by decide +kernel
theorem dX1_unitToLeave_47 : decode cX1_unitToLeave 47 = .ok (.ifCond .ne 5, 3) := by decide +kernel
theorem dX1_unitToLeave_50 : decode cX1_unitToLeave 50 = .ok (.iload_n 2, 1) := by decide +kernel
theorem dX1_unitToLeave_51 : decode cX1_unitToLeave 51 = .ok (.ireturn, 1) := by decide +kernel
theorem dX1_unitToLeave_52 : decode cX1_unitToLeave 52 = .ok (.iinc 1 (-1), 3) := by decide +kernel
theorem dX1_unitToLeave_55 : decode cX1_unitToLeave 55 = .ok (.goto (-29), 3) := by decide +kernel
theorem dX1_unitToLeave_58 : decode cX1_unitToLeave 58 = .ok (.aload_n 0, 1) := by decide +kernel
theorem dX1_unitToLeave_59 : decode cX1_unitToLeave 59 = .ok (.getfield 35, 3) := by decide +kernel
theorem dX1_unitToLeave_62 : decode cX1_unitToLeave 62 = .ok (.aload_n 0, 1) := by decide +kernel
theorem dX1_unitToLeave_63 : decode cX1_unitToLeave 63 = .ok (.getfield 35, 3) := by decide +kernel
theorem dX1_unitToLeave_66 : decode cX1_unitToLeave 66 = .ok (.getfield 89, 3) := by decide +kernel
theorem dX1_unitToLeave_69 : decode cX1_unitToLeave 69 = .ok (.iconst 1, 1) := by decide +kernel
theorem dX1_unitToLeave_70 : decode cX1_unitToLeave 70 = .ok (.isub, 1) := by decide +kernel
theorem dX1_unitToLeave_71 : decode cX1_unitToLeave 71 = .ok (.invokevirtual 144, 3) := by decide +kernel
theorem dX1_unitToLeave_74 : decode cX1_unitToLeave 74 = .ok (.ireturn, 1) := by decide +kernel
theorem dX1_makeRoomInLower_0 : decode cX1_makeRoomInLower 0 = .ok (.aload_n 0, 1) := by decide +kernel
theorem dX1_makeRoomInLower_1 : decode cX1_makeRoomInLower 1 = .ok (.invokevirtual 249, 3) := by decide +kernel
theorem dX1_makeRoomInLower_4 : decode cX1_makeRoomInLower 4 = .ok (.istore_n 1, 1) := by decide +kernel
theorem dX1_makeRoomInLower_5 : decode cX1_makeRoomInLower 5 = .ok (.iload_n 1, 1) := by decide +kernel
theorem dX1_makeRoomInLower_6 : decode cX1_makeRoomInLower 6 = .ok (.iconst (-1), 1) := by decide +kernel
theorem dX1_makeRoomInLower_7 : decode cX1_makeRoomInLower 7 = .ok (.if_icmp .ne 4, 3) := by decide +kernel
theorem dX1_makeRoomInLower_10 : decode cX1_makeRoomInLower 10 = .ok (.return_, 1) := by decide +kernel
theorem dX1_makeRoomInLower_11 : decode cX1_makeRoomInLower 11 = .ok (.aload_n 0, 1) := by decide +kernel
theorem dX1_makeRoomInLower_12 : decode cX1_makeRoomInLower 12 = .ok (.getfield 12, 3) := by decide +kernel
theorem dX1_makeRoomInLower_15 : decode cX1_makeRoomInLower 15 = .ok (.iload_n 1, 1) := by decide +kernel
theorem dX1_makeRoomInLower_16 : decode cX1_makeRoomInLower 16 = .ok (.invokevirtual 147, 3) := by decide +kernel
theorem dX1_makeRoomInLower_19 : decode cX1_makeRoomInLower 19 = .ok (.ifCond .eq 11, 3) := by decide +kernel
theorem dX1_makeRoomInLower_22 : decode cX1_makeRoomInLower 22 = .ok (.aload_n 0, 1) := by decide +kernel
theorem dX1_makeRoomInLower_23 : decode cX1_makeRoomInLower 23 = .ok (.getfield 12, 3) := by decide +kernel
theorem dX1_makeRoomInLower_26 : decode cX1_makeRoomInLower 26 = .ok (.iload_n 1, 1) := by decide +kernel
theorem dX1_makeRoomInLower_27 : decode cX1_makeRoomInLower 27 = .ok (.invokevirtual 252, 3) := by decide +kernel
theorem dX1_makeRoomInLower_30 : decode cX1_makeRoomInLower 30 = .ok (.aload_n 0, 1) := by decide +kernel
theorem dX1_makeRoomInLower_31 : decode cX1_makeRoomInLower 31 = .ok (.getfield 35, 3) := by decide +kernel
theorem dX1_makeRoomInLower_34 : decode cX1_makeRoomInLower 34 = .ok (.iload_n 1, 1) := by decide +kernel
theorem dX1_makeRoomInLower_35 : decode cX1_makeRoomInLower 35 = .ok (.invokevirtual 191, 3) := by decide +kernel
theorem dX1_makeRoomInLower_38 : decode cX1_makeRoomInLower 38 = .ok (.aload_n 0, 1) := by decide +kernel
theorem dX1_makeRoomInLower_39 : decode cX1_makeRoomInLower 39 = .ok (.getfield 12, 3) := by decide +kernel
theorem dX1_makeRoomInLower_42 : decode cX1_makeRoomInLower 42 = .ok (.iload_n 1, 1) := by decide +kernel
theorem dX1_makeRoomInLower_43 : decode cX1_makeRoomInLower 43 = .ok (.invokevirtual 255, 3) := by decide +kernel
theorem dX1_makeRoomInLower_46 : decode cX1_makeRoomInLower 46 = .ok (.aload_n 0, 1) := by decide +kernel
theorem dX1_makeRoomInLower_47 : decode cX1_makeRoomInLower 47 = .ok (.getfield 21, 3) := by decide +kernel
theorem dX1_makeRoomInLower_50 : decode cX1_makeRoomInLower 50 = .ok (.dup, 1) := by decide +kernel
theorem dX1_makeRoomInLower_51 : decode cX1_makeRoomInLower 51 = .ok (.getfield 258, 3) := by decide +kernel
theorem dX1_makeRoomInLower_54 : decode cX1_makeRoomInLower 54 = .ok (.iconst 1, 1) := by decide +kernel
theorem dX1_makeRoomInLower_55 : decode cX1_makeRoomInLower 55 = .ok (.iadd, 1) := by decide +kernel
theorem dX1_makeRoomInLower_56 : decode cX1_makeRoomInLower 56 = .ok (.putfield 258, 3) := by decide +kernel
theorem dX1_makeRoomInLower_59 : decode cX1_makeRoomInLower 59 = .ok (.aload_n 0, 1) := by decide +kernel
theorem dX1_makeRoomInLower_60 : decode cX1_makeRoomInLower 60 = .ok (.getfield 21, 3) := by decide +kernel
theorem dX1_makeRoomInLower_63 : decode cX1_makeRoomInLower 63 = .ok (.iload_n 1, 1) := by decide +kernel
theorem dX1_makeRoomInLower_64 : decode cX1_makeRoomInLower 64 = .ok (.putfield 261, 3) := by decide +kernel
theorem dX1_makeRoomInLower_67 : decode cX1_makeRoomInLower 67 = .ok (.return_, 1) := by decide +kernel
theorem dX1_finishWrite_0 : decode cX1_finishWrite 0 = .ok (.aload_n 0, 1) := by decide +kernel
theorem dX1_finishWrite_1 : decode cX1_finishWrite 1 = .ok (.getfield 12, 3) := by decide +kernel
theorem dX1_finishWrite_4 : decode cX1_finishWrite 4 = .ok (.iload_n 1, 1) := by decide +kernel
theorem dX1_finishWrite_5 : decode cX1_finishWrite 5 = .ok (.iload_n 2, 1) := by decide +kernel
theorem dX1_finishWrite_6 : decode cX1_finishWrite 6 = .ok (.aload_n 0, 1) := by decide +kernel
theorem dX1_finishWrite_7 : decode cX1_finishWrite 7 = .ok (.getfield 21, 3) := by decide +kernel
theorem dX1_finishWrite_10 : decode cX1_finishWrite 10 = .ok (.getfield 151, 3) := by decide +kernel
theorem dX1_finishWrite_13 : decode cX1_finishWrite 13 = .ok (.invokevirtual 264, 3) := by decide +kernel
theorem dX1_finishWrite_16 : decode cX1_finishWrite 16 = .ok (.aload_n 0, 1) := by decide +kernel
theorem dX1_finishWrite_17 : decode cX1_finishWrite 17 = .ok (.getfield 12, 3) := by decide +kernel
theorem dX1_finishWrite_20 : decode cX1_finishWrite 20 = .ok (.invokevirtual 92, 3) := by decide +kernel
theorem dX1_finishWrite_23 : decode cX1_finishWrite 23 = .ok (.aload_n 0, 1) := by decide +kernel
theorem dX1_finishWrite_24 : decode cX1_finishWrite 24 = .ok (.getfield 59, 3) := by decide +kernel
theorem dX1_finishWrite_27 : decode cX1_finishWrite 27 = .ok (.isub, 1) := by decide +kernel
theorem dX1_finishWrite_28 : decode cX1_finishWrite 28 = .ok (.istore_n 3, 1) := by decide +kernel
theorem dX1_finishWrite_29 : decode cX1_finishWrite 29 = .ok (.iload_n 3, 1) := by decide +kernel
theorem dX1_finishWrite_30 : decode cX1_finishWrite 30 = .ok (.ifCond .le 12, 3) := by decide +kernel
theorem dX1_finishWrite_33 : decode cX1_finishWrite 33 = .ok (.aload_n 0, 1) := by decide +kernel
theorem dX1_finishWrite_34 : decode cX1_finishWrite 34 = .ok (.getfield 12, 3) := by decide +kernel
theorem dX1_finishWrite_37 : decode cX1_finishWrite 37 = .ok (.iload_n 3, 1) := by decide +kernel
theorem dX1_finishWrite_38 : decode cX1_finishWrite 38 = .ok (.invokevirtual 158, 3) := by decide +kernel
theorem dX1_finishWrite_41 : decode cX1_finishWrite 41 = .ok (.pop, 1) := by decide +kernel
theorem dX1_finishWrite_42 : decode cX1_finishWrite 42 = .ok (.return_, 1) := by decide +kernel
theorem dX1_loseBlock_0 : decode cX1_loseBlock 0 = .ok (.aload_n 0, 1) := by decide +kernel
theorem dX1_loseBlock_1 : decode cX1_loseBlock 1 = .ok (.getfield 12, 3) := by decide +kernel
theorem dX1_loseBlock_4 : decode cX1_loseBlock 4 = .ok (.iload_n 1, 1) := by decide +kernel
theorem dX1_loseBlock_5 : decode cX1_loseBlock 5 = .ok (.invokevirtual 120, 3) := by decide +kernel
theorem dX1_loseBlock_8 : decode cX1_loseBlock 8 = .ok (.istore_n 2, 1) := by decide +kernel
theorem dX1_loseBlock_9 : decode cX1_loseBlock 9 = .ok (.aload_n 0, 1) := by decide +kernel
theorem dX1_loseBlock_10 : decode cX1_loseBlock 10 = .ok (.iload_n 1, 1) := by decide +kernel
theorem dX1_loseBlock_11 : decode cX1_loseBlock 11 = .ok (.invokevirtual 209, 3) := by decide +kernel
theorem dX1_loseBlock_14 : decode cX1_loseBlock 14 = .ok (.iload_n 2, 1) := by decide +kernel
theorem dX1_loseBlock_15 : decode cX1_loseBlock 15 = .ok (.iconst (-1), 1) := by decide +kernel
theorem dX1_loseBlock_16 : decode cX1_loseBlock 16 = .ok (.if_icmp .ne 5, 3) := by decide +kernel
theorem dX1_loseBlock_19 : decode cX1_loseBlock 19 = .ok (.iconst 0, 1) := by decide +kernel
theorem dX1_loseBlock_20 : decode cX1_loseBlock 20 = .ok (.ireturn, 1) := by decide +kernel
theorem dX1_loseBlock_21 : decode cX1_loseBlock 21 = .ok (.aload_n 0, 1) := by decide +kernel
theorem dX1_loseBlock_22 : decode cX1_loseBlock 22 = .ok (.iload_n 2, 1) := by decide +kernel
theorem dX1_loseBlock_23 : decode cX1_loseBlock 23 = .ok (.invokevirtual 85, 3) := by decide +kernel
theorem dX1_loseBlock_26 : decode cX1_loseBlock 26 = .ok (.iload_n 1, 1) := by decide +kernel
theorem dX1_loseBlock_27 : decode cX1_loseBlock 27 = .ok (.invokevirtual 191, 3) := by decide +kernel
theorem dX1_loseBlock_30 : decode cX1_loseBlock 30 = .ok (.aload_n 0, 1) := by decide +kernel
theorem dX1_loseBlock_31 : decode cX1_loseBlock 31 = .ok (.getfield 12, 3) := by decide +kernel
theorem dX1_loseBlock_34 : decode cX1_loseBlock 34 = .ok (.iload_n 1, 1) := by decide +kernel
theorem dX1_loseBlock_35 : decode cX1_loseBlock 35 = .ok (.invokevirtual 255, 3) := by decide +kernel
theorem dX1_loseBlock_38 : decode cX1_loseBlock 38 = .ok (.iconst 1, 1) := by decide +kernel
theorem dX1_loseBlock_39 : decode cX1_loseBlock 39 = .ok (.ireturn, 1) := by decide +kernel
theorem dX1_copyFrom_0 : decode cX1_copyFrom 0 = .ok (.aload_n 0, 1) := by decide +kernel
theorem dX1_copyFrom_1 : decode cX1_copyFrom 1 = .ok (.getfield 12, 3) := by decide +kernel
theorem dX1_copyFrom_4 : decode cX1_copyFrom 4 = .ok (.aload_n 1, 1) := by decide +kernel
theorem dX1_copyFrom_5 : decode cX1_copyFrom 5 = .ok (.getfield 12, 3) := by decide +kernel
theorem dX1_copyFrom_8 : decode cX1_copyFrom 8 = .ok (.invokevirtual 268, 3) := by decide +kernel
theorem dX1_copyFrom_11 : decode cX1_copyFrom 11 = .ok (.aload_n 0, 1) := by decide +kernel
theorem dX1_copyFrom_12 : decode cX1_copyFrom 12 = .ok (.getfield 21, 3) := by decide +kernel
theorem dX1_copyFrom_15 : decode cX1_copyFrom 15 = .ok (.aload_n 1, 1) := by decide +kernel
theorem dX1_copyFrom_16 : decode cX1_copyFrom 16 = .ok (.getfield 21, 3) := by decide +kernel
theorem dX1_copyFrom_19 : decode cX1_copyFrom 19 = .ok (.invokevirtual 272, 3) := by decide +kernel
theorem dX1_copyFrom_22 : decode cX1_copyFrom 22 = .ok (.aload_n 0, 1) := by decide +kernel
theorem dX1_copyFrom_23 : decode cX1_copyFrom 23 = .ok (.getfield 28, 3) := by decide +kernel
theorem dX1_copyFrom_26 : decode cX1_copyFrom 26 = .ok (.aload_n 1, 1) := by decide +kernel
theorem dX1_copyFrom_27 : decode cX1_copyFrom 27 = .ok (.getfield 28, 3) := by decide +kernel
theorem dX1_copyFrom_30 : decode cX1_copyFrom 30 = .ok (.invokevirtual 275, 3) := by decide +kernel
theorem dX1_copyFrom_33 : decode cX1_copyFrom 33 = .ok (.aload_n 0, 1) := by decide +kernel
theorem dX1_copyFrom_34 : decode cX1_copyFrom 34 = .ok (.getfield 32, 3) := by decide +kernel
theorem dX1_copyFrom_37 : decode cX1_copyFrom 37 = .ok (.aload_n 1, 1) := by decide +kernel
theorem dX1_copyFrom_38 : decode cX1_copyFrom 38 = .ok (.getfield 32, 3) := by decide +kernel
theorem dX1_copyFrom_41 : decode cX1_copyFrom 41 = .ok (.invokevirtual 275, 3) := by decide +kernel
theorem dX1_copyFrom_44 : decode cX1_copyFrom 44 = .ok (.aload_n 0, 1) := by decide +kernel
theorem dX1_copyFrom_45 : decode cX1_copyFrom 45 = .ok (.getfield 35, 3) := by decide +kernel
theorem dX1_copyFrom_48 : decode cX1_copyFrom 48 = .ok (.aload_n 1, 1) := by decide +kernel
theorem dX1_copyFrom_49 : decode cX1_copyFrom 49 = .ok (.getfield 35, 3) := by decide +kernel
theorem dX1_copyFrom_52 : decode cX1_copyFrom 52 = .ok (.invokevirtual 275, 3) := by decide +kernel
theorem dX1_copyFrom_55 : decode cX1_copyFrom 55 = .ok (.aload_n 0, 1) := by decide +kernel
theorem dX1_copyFrom_56 : decode cX1_copyFrom 56 = .ok (.getfield 38, 3) := by decide +kernel
theorem dX1_copyFrom_59 : decode cX1_copyFrom 59 = .ok (.aload_n 1, 1) := by decide +kernel
theorem dX1_copyFrom_60 : decode cX1_copyFrom 60 = .ok (.getfield 38, 3) := by decide +kernel
theorem dX1_copyFrom_63 : decode cX1_copyFrom 63 = .ok (.invokevirtual 275, 3) := by decide +kernel
theorem dX1_copyFrom_66 : decode cX1_copyFrom 66 = .ok (.aload_n 0, 1) := by decide +kernel
theorem dX1_copyFrom_67 : decode cX1_copyFrom 67 = .ok (.getfield 41, 3) := by decide +kernel
theorem dX1_copyFrom_70 : decode cX1_copyFrom 70 = .ok (.aload_n 1, 1) := by decide +kernel
theorem dX1_copyFrom_71 : decode cX1_copyFrom 71 = .ok (.getfield 41, 3) := by decide +kernel
theorem dX1_copyFrom_74 : decode cX1_copyFrom 74 = .ok (.invokevirtual 275, 3) := by decide +kernel
theorem dX1_copyFrom_77 : decode cX1_copyFrom 77 = .ok (.aload_n 0, 1) := by decide +kernel
theorem dX1_copyFrom_78 : decode cX1_copyFrom 78 = .ok (.aload_n 1, 1) := by decide +kernel
theorem dX1_copyFrom_79 : decode cX1_copyFrom 79 = .ok (.getfield 68, 3) := by decide +kernel
theorem dX1_copyFrom_82 : decode cX1_copyFrom 82 = .ok (.putfield 68, 3) := by decide +kernel
theorem dX1_copyFrom_85 : decode cX1_copyFrom 85 = .ok (.aload_n 0, 1) := by decide +kernel
theorem dX1_copyFrom_86 : decode cX1_copyFrom 86 = .ok (.aload_n 1, 1) := by decide +kernel
theorem dX1_copyFrom_87 : decode cX1_copyFrom 87 = .ok (.getfield 55, 3) := by decide +kernel
theorem dX1_copyFrom_90 : decode cX1_copyFrom 90 = .ok (.putfield 55, 3) := by decide +kernel
theorem dX1_copyFrom_93 : decode cX1_copyFrom 93 = .ok (.aload_n 0, 1) := by decide +kernel
theorem dX1_copyFrom_94 : decode cX1_copyFrom 94 = .ok (.aload_n 1, 1) := by decide +kernel
theorem dX1_copyFrom_95 : decode cX1_copyFrom 95 = .ok (.getfield 59, 3) := by decide +kernel
theorem dX1_copyFrom_98 : decode cX1_copyFrom 98 = .ok (.putfield 59, 3) := by decide +kernel
theorem dX1_copyFrom_101 : decode cX1_copyFrom 101 = .ok (.aload_n 0, 1) := by decide +kernel
theorem dX1_copyFrom_102 : decode cX1_copyFrom 102 = .ok (.aload_n 1, 1) := by decide +kernel
theorem dX1_copyFrom_103 : decode cX1_copyFrom 103 = .ok (.getfield 62, 3) := by decide +kernel
theorem dX1_copyFrom_106 : decode cX1_copyFrom 106 = .ok (.putfield 62, 3) := by decide +kernel
theorem dX1_copyFrom_109 : decode cX1_copyFrom 109 = .ok (.aload_n 0, 1) := by decide +kernel
theorem dX1_copyFrom_110 : decode cX1_copyFrom 110 = .ok (.aload_n 1, 1) := by decide +kernel
theorem dX1_copyFrom_111 : decode cX1_copyFrom 111 = .ok (.getfield 65, 3) := by decide +kernel
theorem dX1_copyFrom_114 : decode cX1_copyFrom 114 = .ok (.putfield 65, 3) := by decide +kernel
theorem dX1_copyFrom_117 : decode cX1_copyFrom 117 = .ok (.aload_n 0, 1) := by decide +kernel
theorem dX1_copyFrom_118 : decode cX1_copyFrom 118 = .ok (.aload_n 1, 1) := by decide +kernel
theorem dX1_copyFrom_119 : decode cX1_copyFrom 119 = .ok (.getfield 82, 3) := by decide +kernel
theorem dX1_copyFrom_122 : decode cX1_copyFrom 122 = .ok (.putfield 82, 3) := by decide +kernel
theorem dX1_copyFrom_125 : decode cX1_copyFrom 125 = .ok (.iconst 0, 1) := by decide +kernel
theorem dX1_copyFrom_126 : decode cX1_copyFrom 126 = .ok (.istore_n 2, 1) := by decide +kernel
theorem dX1_copyFrom_127 : decode cX1_copyFrom 127 = .ok (.iload_n 2, 1) := by decide +kernel
theorem dX1_copyFrom_128 : decode cX1_copyFrom 128 = .ok (.aload_n 0, 1) := by decide +kernel
theorem dX1_copyFrom_129 : decode cX1_copyFrom 129 = .ok (.getfield 68, 3) := by decide +kernel
theorem dX1_copyFrom_132 : decode cX1_copyFrom 132 = .ok (.if_icmp .ge 37, 3) := by decide +kernel
theorem dX1_copyFrom_135 : decode cX1_copyFrom 135 = .ok (.aload_n 0, 1) := by decide +kernel
theorem dX1_copyFrom_136 : decode cX1_copyFrom 136 = .ok (.iload_n 2, 1) := by decide +kernel
theorem dX1_copyFrom_137 : decode cX1_copyFrom 137 = .ok (.invokevirtual 71, 3) := by decide +kernel
theorem dX1_copyFrom_140 : decode cX1_copyFrom 140 = .ok (.astore_n 3, 1) := by decide +kernel
theorem dX1_copyFrom_141 : decode cX1_copyFrom 141 = .ok (.aload_n 1, 1) := by decide +kernel
theorem dX1_copyFrom_142 : decode cX1_copyFrom 142 = .ok (.iload_n 2, 1) := by decide +kernel
theorem dX1_copyFrom_143 : decode cX1_copyFrom 143 = .ok (.invokevirtual 71, 3) := by decide +kernel
theorem dX1_copyFrom_146 : decode cX1_copyFrom 146 = .ok (.astore 4, 2) := by decide +kernel
theorem dX1_copyFrom_148 : decode cX1_copyFrom 148 = .ok (.aload_n 3, 1) := by decide +kernel
theorem dX1_copyFrom_149 : decode cX1_copyFrom 149 = .ok (.ifnull 14, 3) := by decide +kernel
theorem dX1_copyFrom_152 : decode cX1_copyFrom 152 = .ok (.aload 4, 2) := by decide +kernel
theorem dX1_copyFrom_154 : decode cX1_copyFrom 154 = .ok (.ifnull 9, 3) := by decide +kernel
theorem dX1_copyFrom_157 : decode cX1_copyFrom 157 = .ok (.aload_n 3, 1) := by decide +kernel
theorem dX1_copyFrom_158 : decode cX1_copyFrom 158 = .ok (.aload 4, 2) := by decide +kernel
theorem dX1_copyFrom_160 : decode cX1_copyFrom 160 = .ok (.invokevirtual 277, 3) := by decide +kernel
theorem dX1_copyFrom_163 : decode cX1_copyFrom 163 = .ok (.iinc 2 1, 3) := by decide +kernel
theorem dX1_copyFrom_166 : decode cX1_copyFrom 166 = .ok (.goto (-39), 3) := by decide +kernel
theorem dX1_copyFrom_169 : decode cX1_copyFrom 169 = .ok (.return_, 1) := by decide +kernel
theorem dX2_init_0 : decode cX2_init 0 = .ok (.aload_n 0, 1) := by decide +kernel
theorem dX2_init_1 : decode cX2_init 1 = .ok (.invokespecial 3, 3) := by decide +kernel
theorem dX2_init_4 : decode cX2_init 4 = .ok (.aload_n 0, 1) := by decide +kernel
theorem dX2_init_5 : decode cX2_init 5 = .ok (.iconst (-1), 1) := by decide +kernel
theorem dX2_init_6 : decode cX2_init 6 = .ok (.putfield 9, 3) := by decide +kernel
theorem dX2_init_9 : decode cX2_init 9 = .ok (.return_, 1) := by decide +kernel
theorem dX2_startAfresh_0 : decode cX2_startAfresh 0 = .ok (.aload_n 0, 1) := by decide +kernel
theorem dX2_startAfresh_1 : decode cX2_startAfresh 1 = .ok (.iload_n 1, 1) := by decide +kernel
theorem dX2_startAfresh_2 : decode cX2_startAfresh 2 = .ok (.putfield 15, 3) := by decide +kernel
theorem dX2_startAfresh_5 : decode cX2_startAfresh 5 = .ok (.aload_n 0, 1) := by decide +kernel
theorem dX2_startAfresh_6 : decode cX2_startAfresh 6 = .ok (.iconst 0, 1) := by decide +kernel
theorem dX2_startAfresh_7 : decode cX2_startAfresh 7 = .ok (.putfield 18, 3) := by decide +kernel
theorem dX2_startAfresh_10 : decode cX2_startAfresh 10 = .ok (.aload_n 0, 1) := by decide +kernel
theorem dX2_startAfresh_11 : decode cX2_startAfresh 11 = .ok (.iconst (-1), 1) := by decide +kernel
theorem dX2_startAfresh_12 : decode cX2_startAfresh 12 = .ok (.putfield 9, 3) := by decide +kernel
theorem dX2_startAfresh_15 : decode cX2_startAfresh 15 = .ok (.aload_n 0, 1) := by decide +kernel
theorem dX2_startAfresh_16 : decode cX2_startAfresh 16 = .ok (.iconst 0, 1) := by decide +kernel
theorem dX2_startAfresh_17 : decode cX2_startAfresh 17 = .ok (.putfield 21, 3) := by decide +kernel
theorem dX2_startAfresh_20 : decode cX2_startAfresh 20 = .ok (.aload_n 0, 1) := by decide +kernel
theorem dX2_startAfresh_21 : decode cX2_startAfresh 21 = .ok (.iconst 0, 1) := by decide +kernel
theorem dX2_startAfresh_22 : decode cX2_startAfresh 22 = .ok (.putfield 24, 3) := by decide +kernel
theorem dX2_startAfresh_25 : decode cX2_startAfresh 25 = .ok (.aload_n 0, 1) := by decide +kernel
theorem dX2_startAfresh_26 : decode cX2_startAfresh 26 = .ok (.iconst 0, 1) := by decide +kernel
theorem dX2_startAfresh_27 : decode cX2_startAfresh 27 = .ok (.putfield 27, 3) := by decide +kernel
theorem dX2_startAfresh_30 : decode cX2_startAfresh 30 = .ok (.aload_n 0, 1) := by decide +kernel
theorem dX2_startAfresh_31 : decode cX2_startAfresh 31 = .ok (.iconst 0, 1) := by decide +kernel
theorem dX2_startAfresh_32 : decode cX2_startAfresh 32 = .ok (.putfield 30, 3) := by decide +kernel
theorem dX2_startAfresh_35 : decode cX2_startAfresh 35 = .ok (.aload_n 0, 1) := by decide +kernel
theorem dX2_startAfresh_36 : decode cX2_startAfresh 36 = .ok (.iconst 0, 1) := by decide +kernel
theorem dX2_startAfresh_37 : decode cX2_startAfresh 37 = .ok (.putfield 33, 3) := by decide +kernel
theorem dX2_startAfresh_40 : decode cX2_startAfresh 40 = .ok (.return_, 1) := by decide +kernel
theorem dX2_runWith_0 : decode cX2_runWith 0 = .ok (.aload_n 0, 1) := by decide +kernel
theorem dX2_runWith_1 : decode cX2_runWith 1 = .ok (.getfield 9, 3) := by decide +kernel
theorem dX2_runWith_4 : decode cX2_runWith 4 = .ok (.iconst (-1), 1) := by decide +kernel
theorem dX2_runWith_5 : decode cX2_runWith 5 = .ok (.if_icmp .eq 22, 3) := by decide +kernel
theorem dX2_runWith_8 : decode cX2_runWith 8 = .ok (.iload_n 1, 1) := by decide +kernel
theorem dX2_runWith_9 : decode cX2_runWith 9 = .ok (.aload_n 0, 1) := by decide +kernel
theorem dX2_runWith_10 : decode cX2_runWith 10 = .ok (.getfield 9, 3) := by decide +kernel
theorem dX2_runWith_13 : decode cX2_runWith 13 = .ok (.iconst 1, 1) := by decide +kernel
theorem dX2_runWith_14 : decode cX2_runWith 14 = .ok (.iadd, 1) := by decide +kernel
theorem dX2_runWith_15 : decode cX2_runWith 15 = .ok (.if_icmp .ne 12, 3) := by decide +kernel
theorem dX2_runWith_18 : decode cX2_runWith 18 = .ok (.aload_n 0, 1) := by decide +kernel
theorem dX2_runWith_19 : decode cX2_runWith 19 = .ok (.getfield 18, 3) := by decide +kernel
theorem dX2_runWith_22 : decode cX2_runWith 22 = .ok (.iconst 1, 1) := by decide +kernel
theorem dX2_runWith_23 : decode cX2_runWith 23 = .ok (.iadd, 1) := by decide +kernel
theorem dX2_runWith_24 : decode cX2_runWith 24 = .ok (.goto 4, 3) := by decide +kernel
theorem dX2_runWith_27 : decode cX2_runWith 27 = .ok (.iconst 1, 1) := by decide +kernel
theorem dX2_runWith_28 : decode cX2_runWith 28 = .ok (.ireturn, 1) := by decide +kernel
theorem dX2_countAccess_0 : decode cX2_countAccess 0 = .ok (.iload_n 2, 1) := by decide +kernel
theorem dX2_countAccess_1 : decode cX2_countAccess 1 = .ok (.ifCond .eq 16, 3) := by decide +kernel
theorem dX2_countAccess_4 : decode cX2_countAccess 4 = .ok (.aload_n 0, 1) := by decide +kernel
theorem dX2_countAccess_5 : decode cX2_countAccess 5 = .ok (.dup, 1) := by decide +kernel
theorem dX2_countAccess_6 : decode cX2_countAccess 6 = .ok (.getfield 24, 3) := by decide +kernel
theorem dX2_countAccess_9 : decode cX2_countAccess 9 = .ok (.iconst 1, 1) := by decide +kernel
theorem dX2_countAccess_10 : decode cX2_countAccess 10 = .ok (.iadd, 1) := by decide +kernel
theorem dX2_countAccess_11 : decode cX2_countAccess 11 = .ok (.putfield 24, 3) := by decide +kernel
theorem dX2_countAccess_14 : decode cX2_countAccess 14 = .ok (.goto 13, 3) := by decide +kernel
theorem dX2_countAccess_17 : decode cX2_countAccess 17 = .ok (.aload_n 0, 1) := by decide +kernel
theorem dX2_countAccess_18 : decode cX2_countAccess 18 = .ok (.dup, 1) := by decide +kernel
theorem dX2_countAccess_19 : decode cX2_countAccess 19 = .ok (.getfield 21, 3) := by decide +kernel
theorem dX2_countAccess_22 : decode cX2_countAccess 22 = .ok (.iconst 1, 1) := by decide +kernel
theorem dX2_countAccess_23 : decode cX2_countAccess 23 = .ok (.iadd, 1) := by decide +kernel
theorem dX2_countAccess_24 : decode cX2_countAccess 24 = .ok (.putfield 21, 3) := by decide +kernel
theorem dX2_countAccess_27 : decode cX2_countAccess 27 = .ok (.iload_n 1, 1) := by decide +kernel
theorem dX2_countAccess_28 : decode cX2_countAccess 28 = .ok (.ifCond .ne 16, 3) := by decide +kernel
theorem dX2_countAccess_31 : decode cX2_countAccess 31 = .ok (.aload_n 0, 1) := by decide +kernel
theorem dX2_countAccess_32 : decode cX2_countAccess 32 = .ok (.dup, 1) := by decide +kernel
theorem dX2_countAccess_33 : decode cX2_countAccess 33 = .ok (.getfield 27, 3) := by decide +kernel
theorem dX2_countAccess_36 : decode cX2_countAccess 36 = .ok (.iconst 1, 1) := by decide +kernel
theorem dX2_countAccess_37 : decode cX2_countAccess 37 = .ok (.iadd, 1) := by decide +kernel
theorem dX2_countAccess_38 : decode cX2_countAccess 38 = .ok (.putfield 27, 3) := by decide +kernel
theorem dX2_countAccess_41 : decode cX2_countAccess 41 = .ok (.goto 31, 3) := by decide +kernel
theorem dX2_countAccess_44 : decode cX2_countAccess 44 = .ok (.iload_n 1, 1) := by decide +kernel
theorem dX2_countAccess_45 : decode cX2_countAccess 45 = .ok (.iconst 1, 1) := by decide +kernel
theorem dX2_countAccess_46 : decode cX2_countAccess 46 = .ok (.if_icmp .ne 16, 3) := by decide +kernel
theorem dX2_countAccess_49 : decode cX2_countAccess 49 = .ok (.aload_n 0, 1) := by decide +kernel
theorem dX2_countAccess_50 : decode cX2_countAccess 50 = .ok (.dup, 1) := by decide +kernel
theorem dX2_countAccess_51 : decode cX2_countAccess 51 = .ok (.getfield 30, 3) := by decide +kernel
theorem dX2_countAccess_54 : decode cX2_countAccess 54 = .ok (.iconst 1, 1) := by decide +kernel
theorem dX2_countAccess_55 : decode cX2_countAccess 55 = .ok (.iadd, 1) := by decide +kernel
theorem dX2_countAccess_56 : decode cX2_countAccess 56 = .ok (.putfield 30, 3) := by decide +kernel
theorem dX2_countAccess_59 : decode cX2_countAccess 59 = .ok (.goto 13, 3) := by decide +kernel
theorem dX2_countAccess_62 : decode cX2_countAccess 62 = .ok (.aload_n 0, 1) := by decide +kernel
theorem dX2_countAccess_63 : decode cX2_countAccess 63 = .ok (.dup, 1) := by decide +kernel
theorem dX2_countAccess_64 : decode cX2_countAccess 64 = .ok (.getfield 33, 3) := by decide +kernel
theorem dX2_countAccess_67 : decode cX2_countAccess 67 = .ok (.iconst 1, 1) := by decide +kernel
theorem dX2_countAccess_68 : decode cX2_countAccess 68 = .ok (.iadd, 1) := by decide +kernel
theorem dX2_countAccess_69 : decode cX2_countAccess 69 = .ok (.putfield 33, 3) := by decide +kernel
theorem dX2_countAccess_72 : decode cX2_countAccess 72 = .ok (.return_, 1) := by decide +kernel
theorem dX2_numberOf_0 : decode cX2_numberOf 0 = .ok (.iload_n 1, 1) := by decide +kernel
theorem dX2_numberOf_1 : decode cX2_numberOf 1 = .ok (.tableswitch 86 0 8 #[51, 86, 86, 56, 61, 66, 71, 76, 81], 51) := by decide +kernel
theorem dX2_numberOf_52 : decode cX2_numberOf 52 = .ok (.aload_n 0, 1) := by decide +kernel
theorem dX2_numberOf_53 : decode cX2_numberOf 53 = .ok (.getfield 15, 3) := by decide +kernel
theorem dX2_numberOf_56 : decode cX2_numberOf 56 = .ok (.ireturn, 1) := by decide +kernel
theorem dX2_numberOf_57 : decode cX2_numberOf 57 = .ok (.aload_n 0, 1) := by decide +kernel
theorem dX2_numberOf_58 : decode cX2_numberOf 58 = .ok (.getfield 18, 3) := by decide +kernel
theorem dX2_numberOf_61 : decode cX2_numberOf 61 = .ok (.ireturn, 1) := by decide +kernel
theorem dX2_numberOf_62 : decode cX2_numberOf 62 = .ok (.aload_n 0, 1) := by decide +kernel
theorem dX2_numberOf_63 : decode cX2_numberOf 63 = .ok (.getfield 9, 3) := by decide +kernel
theorem dX2_numberOf_66 : decode cX2_numberOf 66 = .ok (.ireturn, 1) := by decide +kernel
theorem dX2_numberOf_67 : decode cX2_numberOf 67 = .ok (.aload_n 0, 1) := by decide +kernel
theorem dX2_numberOf_68 : decode cX2_numberOf 68 = .ok (.getfield 21, 3) := by decide +kernel
theorem dX2_numberOf_71 : decode cX2_numberOf 71 = .ok (.ireturn, 1) := by decide +kernel
theorem dX2_numberOf_72 : decode cX2_numberOf 72 = .ok (.aload_n 0, 1) := by decide +kernel
theorem dX2_numberOf_73 : decode cX2_numberOf 73 = .ok (.getfield 24, 3) := by decide +kernel
theorem dX2_numberOf_76 : decode cX2_numberOf 76 = .ok (.ireturn, 1) := by decide +kernel
theorem dX2_numberOf_77 : decode cX2_numberOf 77 = .ok (.aload_n 0, 1) := by decide +kernel
theorem dX2_numberOf_78 : decode cX2_numberOf 78 = .ok (.getfield 27, 3) := by decide +kernel
theorem dX2_numberOf_81 : decode cX2_numberOf 81 = .ok (.ireturn, 1) := by decide +kernel
theorem dX2_numberOf_82 : decode cX2_numberOf 82 = .ok (.aload_n 0, 1) := by decide +kernel
theorem dX2_numberOf_83 : decode cX2_numberOf 83 = .ok (.getfield 30, 3) := by decide +kernel
theorem dX2_numberOf_86 : decode cX2_numberOf 86 = .ok (.ireturn, 1) := by decide +kernel
theorem dX2_numberOf_87 : decode cX2_numberOf 87 = .ok (.aload_n 0, 1) := by decide +kernel
theorem dX2_numberOf_88 : decode cX2_numberOf 88 = .ok (.getfield 33, 3) := by decide +kernel
theorem dX2_numberOf_91 : decode cX2_numberOf 91 = .ok (.ireturn, 1) := by decide +kernel
theorem dX2_copyFrom_0 : decode cX2_copyFrom 0 = .ok (.aload_n 0, 1) := by decide +kernel
theorem dX2_copyFrom_1 : decode cX2_copyFrom 1 = .ok (.aload_n 1, 1) := by decide +kernel
theorem dX2_copyFrom_2 : decode cX2_copyFrom 2 = .ok (.getfield 15, 3) := by decide +kernel
theorem dX2_copyFrom_5 : decode cX2_copyFrom 5 = .ok (.putfield 15, 3) := by decide +kernel
theorem dX2_copyFrom_8 : decode cX2_copyFrom 8 = .ok (.aload_n 0, 1) := by decide +kernel
theorem dX2_copyFrom_9 : decode cX2_copyFrom 9 = .ok (.aload_n 1, 1) := by decide +kernel
theorem dX2_copyFrom_10 : decode cX2_copyFrom 10 = .ok (.getfield 18, 3) := by decide +kernel
theorem dX2_copyFrom_13 : decode cX2_copyFrom 13 = .ok (.putfield 18, 3) := by decide +kernel
theorem dX2_copyFrom_16 : decode cX2_copyFrom 16 = .ok (.aload_n 0, 1) := by decide +kernel
theorem dX2_copyFrom_17 : decode cX2_copyFrom 17 = .ok (.aload_n 1, 1) := by decide +kernel
theorem dX2_copyFrom_18 : decode cX2_copyFrom 18 = .ok (.getfield 9, 3) := by decide +kernel
theorem dX2_copyFrom_21 : decode cX2_copyFrom 21 = .ok (.putfield 9, 3) := by decide +kernel
theorem dX2_copyFrom_24 : decode cX2_copyFrom 24 = .ok (.aload_n 0, 1) := by decide +kernel
theorem dX2_copyFrom_25 : decode cX2_copyFrom 25 = .ok (.aload_n 1, 1) := by decide +kernel
theorem dX2_copyFrom_26 : decode cX2_copyFrom 26 = .ok (.getfield 21, 3) := by decide +kernel
theorem dX2_copyFrom_29 : decode cX2_copyFrom 29 = .ok (.putfield 21, 3) := by decide +kernel
theorem dX2_copyFrom_32 : decode cX2_copyFrom 32 = .ok (.aload_n 0, 1) := by decide +kernel
theorem dX2_copyFrom_33 : decode cX2_copyFrom 33 = .ok (.aload_n 1, 1) := by decide +kernel
theorem dX2_copyFrom_34 : decode cX2_copyFrom 34 = .ok (.getfield 24, 3) := by decide +kernel
theorem dX2_copyFrom_37 : decode cX2_copyFrom 37 = .ok (.putfield 24, 3) := by decide +kernel
theorem dX2_copyFrom_40 : decode cX2_copyFrom 40 = .ok (.aload_n 0, 1) := by decide +kernel
theorem dX2_copyFrom_41 : decode cX2_copyFrom 41 = .ok (.aload_n 1, 1) := by decide +kernel
theorem dX2_copyFrom_42 : decode cX2_copyFrom 42 = .ok (.getfield 27, 3) := by decide +kernel
theorem dX2_copyFrom_45 : decode cX2_copyFrom 45 = .ok (.putfield 27, 3) := by decide +kernel
theorem dX2_copyFrom_48 : decode cX2_copyFrom 48 = .ok (.aload_n 0, 1) := by decide +kernel
theorem dX2_copyFrom_49 : decode cX2_copyFrom 49 = .ok (.aload_n 1, 1) := by decide +kernel
theorem dX2_copyFrom_50 : decode cX2_copyFrom 50 = .ok (.getfield 30, 3) := by decide +kernel
theorem dX2_copyFrom_53 : decode cX2_copyFrom 53 = .ok (.putfield 30, 3) := by decide +kernel
theorem dX2_copyFrom_56 : decode cX2_copyFrom 56 = .ok (.aload_n 0, 1) := by decide +kernel
theorem dX2_copyFrom_57 : decode cX2_copyFrom 57 = .ok (.aload_n 1, 1) := by decide +kernel
theorem dX2_copyFrom_58 : decode cX2_copyFrom 58 = .ok (.getfield 33, 3) := by decide +kernel
theorem dX2_copyFrom_61 : decode cX2_copyFrom 61 = .ok (.putfield 33, 3) := by decide +kernel
theorem dX2_copyFrom_64 : decode cX2_copyFrom 64 = .ok (.return_, 1) := by decide +kernel
theorem dX3_init_0 : decode cX3_init 0 = .ok (.aload_n 0, 1) := by decide +kernel
theorem dX3_init_1 : decode cX3_init 1 = .ok (.invokespecial 3, 3) := by decide +kernel
theorem dX3_init_4 : decode cX3_init 4 = .ok (.aload_n 0, 1) := by decide +kernel
theorem dX3_init_5 : decode cX3_init 5 = .ok (.bipush 8, 2) := by decide +kernel
theorem dX3_init_7 : decode cX3_init 7 = .ok (.anewarray 9, 3) := by decide +kernel
theorem dX3_init_10 : decode cX3_init 10 = .ok (.putfield 11, 3) := by decide +kernel
theorem dX3_init_13 : decode cX3_init 13 = .ok (.iconst 0, 1) := by decide +kernel
theorem dX3_init_14 : decode cX3_init 14 = .ok (.istore_n 1, 1) := by decide +kernel
theorem dX3_init_15 : decode cX3_init 15 = .ok (.iload_n 1, 1) := by decide +kernel
theorem dX3_init_16 : decode cX3_init 16 = .ok (.bipush 8, 2) := by decide +kernel
theorem dX3_init_18 : decode cX3_init 18 = .ok (.if_icmp .ge 22, 3) := by decide +kernel
theorem dX3_init_21 : decode cX3_init 21 = .ok (.aload_n 0, 1) := by decide +kernel
theorem dX3_init_22 : decode cX3_init 22 = .ok (.getfield 11, 3) := by decide +kernel
theorem dX3_init_25 : decode cX3_init 25 = .ok (.iload_n 1, 1) := by decide +kernel
theorem dX3_init_26 : decode cX3_init 26 = .ok (.new 9, 3) := by decide +kernel
theorem dX3_init_29 : decode cX3_init 29 = .ok (.dup, 1) := by decide +kernel
theorem dX3_init_30 : decode cX3_init 30 = .ok (.invokespecial 17, 3) := by decide +kernel
theorem dX3_init_33 : decode cX3_init 33 = .ok (.aastore, 1) := by decide +kernel
theorem dX3_init_34 : decode cX3_init 34 = .ok (.iinc 1 1, 3) := by decide +kernel
theorem dX3_init_37 : decode cX3_init 37 = .ok (.goto (-22), 3) := by decide +kernel
theorem dX3_init_40 : decode cX3_init 40 = .ok (.return_, 1) := by decide +kernel
theorem dX3_keep_0 : decode cX3_keep 0 = .ok (.aload_n 0, 1) := by decide +kernel
theorem dX3_keep_1 : decode cX3_keep 1 = .ok (.getfield 18, 3) := by decide +kernel
theorem dX3_keep_4 : decode cX3_keep 4 = .ok (.ifCond .lt 24, 3) := by decide +kernel
theorem dX3_keep_7 : decode cX3_keep 7 = .ok (.aload_n 0, 1) := by decide +kernel
theorem dX3_keep_8 : decode cX3_keep 8 = .ok (.getfield 18, 3) := by decide +kernel
theorem dX3_keep_11 : decode cX3_keep 11 = .ok (.bipush 8, 2) := by decide +kernel
theorem dX3_keep_13 : decode cX3_keep 13 = .ok (.if_icmp .ge 15, 3) := by decide +kernel
theorem dX3_keep_16 : decode cX3_keep 16 = .ok (.aload_n 0, 1) := by decide +kernel
theorem dX3_keep_17 : decode cX3_keep 17 = .ok (.getfield 11, 3) := by decide +kernel
theorem dX3_keep_20 : decode cX3_keep 20 = .ok (.aload_n 0, 1) := by decide +kernel
theorem dX3_keep_21 : decode cX3_keep 21 = .ok (.getfield 18, 3) := by decide +kernel
theorem dX3_keep_24 : decode cX3_keep 24 = .ok (.aaload, 1) := by decide +kernel
theorem dX3_keep_25 : decode cX3_keep 25 = .ok (.goto 4, 3) := by decide +kernel
theorem dX3_keep_28 : decode cX3_keep 28 = .ok (.aconst_null, 1) := by decide +kernel
theorem dX3_keep_29 : decode cX3_keep 29 = .ok (.astore_n 2, 1) := by decide +kernel
theorem dX3_keep_30 : decode cX3_keep 30 = .ok (.aload_n 2, 1) := by decide +kernel
theorem dX3_keep_31 : decode cX3_keep 31 = .ok (.ifnonnull 4, 3) := by decide +kernel
theorem dX3_keep_34 : decode cX3_keep 34 = .ok (.return_, 1) := by decide +kernel
theorem dX3_keep_35 : decode cX3_keep 35 = .ok (.aload_n 2, 1) := by decide +kernel
theorem dX3_keep_36 : decode cX3_keep 36 = .ok (.aload_n 1, 1) := by decide +kernel
theorem dX3_keep_37 : decode cX3_keep 37 = .ok (.invokevirtual 22, 3) := by decide +kernel
theorem dX3_keep_40 : decode cX3_keep 40 = .ok (.aload_n 0, 1) := by decide +kernel
theorem dX3_keep_41 : decode cX3_keep 41 = .ok (.aload_n 0, 1) := by decide +kernel
theorem dX3_keep_42 : decode cX3_keep 42 = .ok (.getfield 18, 3) := by decide +kernel
theorem dX3_keep_45 : decode cX3_keep 45 = .ok (.iconst 1, 1) := by decide +kernel
theorem dX3_keep_46 : decode cX3_keep 46 = .ok (.iadd, 1) := by decide +kernel
theorem dX3_keep_47 : decode cX3_keep 47 = .ok (.bipush 8, 2) := by decide +kernel
theorem dX3_keep_49 : decode cX3_keep 49 = .ok (.irem, 1) := by decide +kernel
theorem dX3_keep_50 : decode cX3_keep 50 = .ok (.putfield 18, 3) := by decide +kernel
theorem dX3_keep_53 : decode cX3_keep 53 = .ok (.aload_n 0, 1) := by decide +kernel
theorem dX3_keep_54 : decode cX3_keep 54 = .ok (.bipush 8, 2) := by decide +kernel
theorem dX3_keep_56 : decode cX3_keep 56 = .ok (.aload_n 0, 1) := by decide +kernel
theorem dX3_keep_57 : decode cX3_keep 57 = .ok (.getfield 26, 3) := by decide +kernel
theorem dX3_keep_60 : decode cX3_keep 60 = .ok (.iconst 1, 1) := by decide +kernel
theorem dX3_keep_61 : decode cX3_keep 61 = .ok (.iadd, 1) := by decide +kernel
theorem dX3_keep_62 : decode cX3_keep 62 = .ok (.invokestatic 29, 3) := by decide +kernel
theorem dX3_keep_65 : decode cX3_keep 65 = .ok (.putfield 26, 3) := by decide +kernel
theorem dX3_keep_68 : decode cX3_keep 68 = .ok (.return_, 1) := by decide +kernel
theorem dX3_takeBack_0 : decode cX3_takeBack 0 = .ok (.aload_n 0, 1) := by decide +kernel
theorem dX3_takeBack_1 : decode cX3_takeBack 1 = .ok (.getfield 18, 3) := by decide +kernel
theorem dX3_takeBack_4 : decode cX3_takeBack 4 = .ok (.ifCond .ne 8, 3) := by decide +kernel
theorem dX3_takeBack_7 : decode cX3_takeBack 7 = .ok (.bipush 7, 2) := by decide +kernel
theorem dX3_takeBack_9 : decode cX3_takeBack 9 = .ok (.goto 9, 3) := by decide +kernel
theorem dX3_takeBack_12 : decode cX3_takeBack 12 = .ok (.aload_n 0, 1) := by decide +kernel
theorem dX3_takeBack_13 : decode cX3_takeBack 13 = .ok (.getfield 18, 3) := by decide +kernel
theorem dX3_takeBack_16 : decode cX3_takeBack 16 = .ok (.iconst 1, 1) := by decide +kernel
theorem dX3_takeBack_17 : decode cX3_takeBack 17 = .ok (.isub, 1) := by decide +kernel
theorem dX3_takeBack_18 : decode cX3_takeBack 18 = .ok (.istore_n 2, 1) := by decide +kernel
theorem dX3_takeBack_19 : decode cX3_takeBack 19 = .ok (.iload_n 2, 1) := by decide +kernel
theorem dX3_takeBack_20 : decode cX3_takeBack 20 = .ok (.ifCond .lt 18, 3) := by decide +kernel
theorem dX3_takeBack_23 : decode cX3_takeBack 23 = .ok (.iload_n 2, 1) := by decide +kernel
theorem dX3_takeBack_24 : decode cX3_takeBack 24 = .ok (.bipush 8, 2) := by decide +kernel
theorem dX3_takeBack_26 : decode cX3_takeBack 26 = .ok (.if_icmp .ge 12, 3) := by decide +kernel
theorem dX3_takeBack_29 : decode cX3_takeBack 29 = .ok (.aload_n 0, 1) := by decide +kernel
theorem dX3_takeBack_30 : decode cX3_takeBack 30 = .ok (.getfield 11, 3) := by decide +kernel
theorem dX3_takeBack_33 : decode cX3_takeBack 33 = .ok (.iload_n 2, 1) := by decide +kernel
theorem dX3_takeBack_34 : decode cX3_takeBack 34 = .ok (.aaload, 1) := by decide +kernel
theorem dX3_takeBack_35 : decode cX3_takeBack 35 = .ok (.goto 4, 3) := by decide +kernel
theorem dX3_takeBack_38 : decode cX3_takeBack 38 = .ok (.aconst_null, 1) := by decide +kernel
theorem dX3_takeBack_39 : decode cX3_takeBack 39 = .ok (.astore_n 3, 1) := by decide +kernel
theorem dX3_takeBack_40 : decode cX3_takeBack 40 = .ok (.aload_n 0, 1) := by decide +kernel
theorem dX3_takeBack_41 : decode cX3_takeBack 41 = .ok (.getfield 26, 3) := by decide +kernel
theorem dX3_takeBack_44 : decode cX3_takeBack 44 = .ok (.ifCond .eq 7, 3) := by decide +kernel
theorem dX3_takeBack_47 : decode cX3_takeBack 47 = .ok (.aload_n 3, 1) := by decide +kernel
theorem dX3_takeBack_48 : decode cX3_takeBack 48 = .ok (.ifnonnull 5, 3) := by decide +kernel
theorem dX3_takeBack_51 : decode cX3_takeBack 51 = .ok (.iconst 0, 1) := by decide +kernel
theorem dX3_takeBack_52 : decode cX3_takeBack 52 = .ok (.ireturn, 1) := by decide +kernel
theorem dX3_takeBack_53 : decode cX3_takeBack 53 = .ok (.aload_n 1, 1) := by decide +kernel
theorem dX3_takeBack_54 : decode cX3_takeBack 54 = .ok (.aload_n 3, 1) := by decide +kernel
theorem dX3_takeBack_55 : decode cX3_takeBack 55 = .ok (.invokevirtual 22, 3) := by decide +kernel
theorem dX3_takeBack_58 : decode cX3_takeBack 58 = .ok (.aload_n 0, 1) := by decide +kernel
theorem dX3_takeBack_59 : decode cX3_takeBack 59 = .ok (.iload_n 2, 1) := by decide +kernel
theorem dX3_takeBack_60 : decode cX3_takeBack 60 = .ok (.putfield 18, 3) := by decide +kernel
theorem dX3_takeBack_63 : decode cX3_takeBack 63 = .ok (.aload_n 0, 1) := by decide +kernel
theorem dX3_takeBack_64 : decode cX3_takeBack 64 = .ok (.dup, 1) := by decide +kernel
theorem dX3_takeBack_65 : decode cX3_takeBack 65 = .ok (.getfield 26, 3) := by decide +kernel
theorem dX3_takeBack_68 : decode cX3_takeBack 68 = .ok (.iconst 1, 1) := by decide +kernel
theorem dX3_takeBack_69 : decode cX3_takeBack 69 = .ok (.isub, 1) := by decide +kernel
theorem dX3_takeBack_70 : decode cX3_takeBack 70 = .ok (.putfield 26, 3) := by decide +kernel
theorem dX3_takeBack_73 : decode cX3_takeBack 73 = .ok (.iconst 1, 1) := by decide +kernel
theorem dX3_takeBack_74 : decode cX3_takeBack 74 = .ok (.ireturn, 1) := by decide +kernel
theorem dX4_init_0 : decode cX4_init 0 = .ok (.aload_n 0, 1) := by decide +kernel
theorem dX4_init_1 : decode cX4_init 1 = .ok (.invokespecial 3, 3) := by decide +kernel
theorem dX4_init_4 : decode cX4_init 4 = .ok (.aload_n 0, 1) := by decide +kernel
theorem dX4_init_5 : decode cX4_init 5 = .ok (.bipush 120, 2) := by decide +kernel
theorem dX4_init_7 : decode cX4_init 7 = .ok (.newarray .int, 2) := by decide +kernel
theorem dX4_init_9 : decode cX4_init 9 = .ok (.putfield 11, 3) := by decide +kernel
theorem dX4_init_12 : decode cX4_init 12 = .ok (.return_, 1) := by decide +kernel
theorem dX5_init_0 : decode cX5_init 0 = .ok (.aload_n 0, 1) := by decide +kernel
theorem dX5_init_1 : decode cX5_init 1 = .ok (.invokespecial 3, 3) := by decide +kernel
theorem dX5_init_4 : decode cX5_init 4 = .ok (.aload_n 0, 1) := by decide +kernel
theorem dX5_init_5 : decode cX5_init 5 = .ok (.bipush 24, 2) := by decide +kernel
theorem dX5_init_7 : decode cX5_init 7 = .ok (.newarray .int, 2) := by decide +kernel
theorem dX5_init_9 : decode cX5_init 9 = .ok (.putfield 9, 3) := by decide +kernel
theorem dX5_init_12 : decode cX5_init 12 = .ok (.return_, 1) := by decide +kernel
theorem dX5_blockAt_0 : decode cX5_blockAt 0 = .ok (.iload_n 1, 1) := by decide +kernel
theorem dX5_blockAt_1 : decode cX5_blockAt 1 = .ok (.ifCond .lt 29, 3) := by decide +kernel
theorem dX5_blockAt_4 : decode cX5_blockAt 4 = .ok (.iload_n 1, 1) := by decide +kernel
theorem dX5_blockAt_5 : decode cX5_blockAt 5 = .ok (.aload_n 0, 1) := by decide +kernel
theorem dX5_blockAt_6 : decode cX5_blockAt 6 = .ok (.getfield 15, 3) := by decide +kernel
theorem dX5_blockAt_9 : decode cX5_blockAt 9 = .ok (.if_icmp .ge 21, 3) := by decide +kernel
theorem dX5_blockAt_12 : decode cX5_blockAt 12 = .ok (.iload_n 1, 1) := by decide +kernel
theorem dX5_blockAt_13 : decode cX5_blockAt 13 = .ok (.aload_n 0, 1) := by decide +kernel
theorem dX5_blockAt_14 : decode cX5_blockAt 14 = .ok (.getfield 9, 3) := by decide +kernel
theorem dX5_blockAt_17 : decode cX5_blockAt 17 = .ok (.arraylength, 1) := by decide +kernel
theorem dX5_blockAt_18 : decode cX5_blockAt 18 = .ok (.if_icmp .ge 12, 3) := by decide +kernel
theorem dX5_blockAt_21 : decode cX5_blockAt 21 = .ok (.aload_n 0, 1) := by decide +kernel
theorem dX5_blockAt_22 : decode cX5_blockAt 22 = .ok (.getfield 9, 3) := by decide +kernel
theorem dX5_blockAt_25 : decode cX5_blockAt 25 = .ok (.iload_n 1, 1) := by decide +kernel
theorem dX5_blockAt_26 : decode cX5_blockAt 26 = .ok (.iaload, 1) := by decide +kernel
theorem dX5_blockAt_27 : decode cX5_blockAt 27 = .ok (.goto 4, 3) := by decide +kernel
theorem dX5_blockAt_30 : decode cX5_blockAt 30 = .ok (.iconst (-1), 1) := by decide +kernel
theorem dX5_blockAt_31 : decode cX5_blockAt 31 = .ok (.ireturn, 1) := by decide +kernel
theorem dX5_placeOf_0 : decode cX5_placeOf 0 = .ok (.iconst 0, 1) := by decide +kernel
theorem dX5_placeOf_1 : decode cX5_placeOf 1 = .ok (.istore_n 2, 1) := by decide +kernel
theorem dX5_placeOf_2 : decode cX5_placeOf 2 = .ok (.iload_n 2, 1) := by decide +kernel
theorem dX5_placeOf_3 : decode cX5_placeOf 3 = .ok (.aload_n 0, 1) := by decide +kernel
theorem dX5_placeOf_4 : decode cX5_placeOf 4 = .ok (.getfield 15, 3) := by decide +kernel
theorem dX5_placeOf_7 : decode cX5_placeOf 7 = .ok (.if_icmp .ge 30, 3) := by decide +kernel
theorem dX5_placeOf_10 : decode cX5_placeOf 10 = .ok (.iload_n 2, 1) := by decide +kernel
theorem dX5_placeOf_11 : decode cX5_placeOf 11 = .ok (.aload_n 0, 1) := by decide +kernel
theorem dX5_placeOf_12 : decode cX5_placeOf 12 = .ok (.getfield 9, 3) := by decide +kernel
theorem dX5_placeOf_15 : decode cX5_placeOf 15 = .ok (.arraylength, 1) := by decide +kernel
theorem dX5_placeOf_16 : decode cX5_placeOf 16 = .ok (.if_icmp .ge 21, 3) := by decide +kernel
theorem dX5_placeOf_19 : decode cX5_placeOf 19 = .ok (.aload_n 0, 1) := by decide +kernel
theorem dX5_placeOf_20 : decode cX5_placeOf 20 = .ok (.getfield 9, 3) := by decide +kernel
theorem dX5_placeOf_23 : decode cX5_placeOf 23 = .ok (.iload_n 2, 1) := by decide +kernel
theorem dX5_placeOf_24 : decode cX5_placeOf 24 = .ok (.iaload, 1) := by decide +kernel
theorem dX5_placeOf_25 : decode cX5_placeOf 25 = .ok (.iload_n 1, 1) := by decide +kernel
theorem dX5_placeOf_26 : decode cX5_placeOf 26 = .ok (.if_icmp .ne 5, 3) := by decide +kernel
theorem dX5_placeOf_29 : decode cX5_placeOf 29 = .ok (.iload_n 2, 1) := by decide +kernel
theorem dX5_placeOf_30 : decode cX5_placeOf 30 = .ok (.ireturn, 1) := by decide +kernel
theorem dX5_placeOf_31 : decode cX5_placeOf 31 = .ok (.iinc 2 1, 3) := by decide +kernel
theorem dX5_placeOf_34 : decode cX5_placeOf 34 = .ok (.goto (-32), 3) := by decide +kernel
theorem dX5_placeOf_37 : decode cX5_placeOf 37 = .ok (.iconst (-1), 1) := by decide +kernel
theorem dX5_placeOf_38 : decode cX5_placeOf 38 = .ok (.ireturn, 1) := by decide +kernel
theorem dX5_howManyIn_0 : decode cX5_howManyIn 0 = .ok (.iconst 0, 1) := by decide +kernel
theorem dX5_howManyIn_1 : decode cX5_howManyIn 1 = .ok (.istore_n 3, 1) := by decide +kernel
theorem dX5_howManyIn_2 : decode cX5_howManyIn 2 = .ok (.iconst 0, 1) := by decide +kernel
theorem dX5_howManyIn_3 : decode cX5_howManyIn 3 = .ok (.istore 4, 2) := by decide +kernel
theorem dX5_howManyIn_5 : decode cX5_howManyIn 5 = .ok (.iload 4, 2) := by decide +kernel
theorem dX5_howManyIn_7 : decode cX5_howManyIn 7 = .ok (.aload_n 0, 1) := by decide +kernel
theorem dX5_howManyIn_8 : decode cX5_howManyIn 8 = .ok (.getfield 15, 3) := by decide +kernel
theorem dX5_howManyIn_11 : decode cX5_howManyIn 11 = .ok (.if_icmp .ge 44, 3) := by decide +kernel
theorem dX5_howManyIn_14 : decode cX5_howManyIn 14 = .ok (.iload 4, 2) := by decide +kernel
theorem dX5_howManyIn_16 : decode cX5_howManyIn 16 = .ok (.aload_n 0, 1) := by decide +kernel
theorem dX5_howManyIn_17 : decode cX5_howManyIn 17 = .ok (.getfield 9, 3) := by decide +kernel
theorem dX5_howManyIn_20 : decode cX5_howManyIn 20 = .ok (.arraylength, 1) := by decide +kernel
theorem dX5_howManyIn_21 : decode cX5_howManyIn 21 = .ok (.if_icmp .ge 34, 3) := by decide +kernel
theorem dX5_howManyIn_24 : decode cX5_howManyIn 24 = .ok (.aload_n 0, 1) := by decide +kernel
theorem dX5_howManyIn_25 : decode cX5_howManyIn 25 = .ok (.getfield 9, 3) := by decide +kernel
theorem dX5_howManyIn_28 : decode cX5_howManyIn 28 = .ok (.iload 4, 2) := by decide +kernel
theorem dX5_howManyIn_30 : decode cX5_howManyIn 30 = .ok (.iaload, 1) := by decide +kernel
theorem dX5_howManyIn_31 : decode cX5_howManyIn 31 = .ok (.iload_n 1, 1) := by decide +kernel
theorem dX5_howManyIn_32 : decode cX5_howManyIn 32 = .ok (.if_icmp .lt 17, 3) := by decide +kernel
theorem dX5_howManyIn_35 : decode cX5_howManyIn 35 = .ok (.aload_n 0, 1) := by decide +kernel
theorem dX5_howManyIn_36 : decode cX5_howManyIn 36 = .ok (.getfield 9, 3) := by decide +kernel
theorem dX5_howManyIn_39 : decode cX5_howManyIn 39 = .ok (.iload 4, 2) := by decide +kernel
theorem dX5_howManyIn_41 : decode cX5_howManyIn 41 = .ok (.iaload, 1) := by decide +kernel
theorem dX5_howManyIn_42 : decode cX5_howManyIn 42 = .ok (.iload_n 2, 1) := by decide +kernel
theorem dX5_howManyIn_43 : decode cX5_howManyIn 43 = .ok (.if_icmp .gt 6, 3) := by decide +kernel
theorem dX5_howManyIn_46 : decode cX5_howManyIn 46 = .ok (.iinc 3 1, 3) := by decide +kernel
theorem dX5_howManyIn_49 : decode cX5_howManyIn 49 = .ok (.iinc 4 1, 3) := by decide +kernel
theorem dX5_howManyIn_52 : decode cX5_howManyIn 52 = .ok (.goto (-47), 3) := by decide +kernel
theorem dX5_howManyIn_55 : decode cX5_howManyIn 55 = .ok (.iload_n 3, 1) := by decide +kernel
theorem dX5_howManyIn_56 : decode cX5_howManyIn 56 = .ok (.ireturn, 1) := by decide +kernel
theorem dX5_putFirst_0 : decode cX5_putFirst 0 = .ok (.aload_n 0, 1) := by decide +kernel
theorem dX5_putFirst_1 : decode cX5_putFirst 1 = .ok (.getfield 15, 3) := by decide +kernel
theorem dX5_putFirst_4 : decode cX5_putFirst 4 = .ok (.aload_n 0, 1) := by decide +kernel
theorem dX5_putFirst_5 : decode cX5_putFirst 5 = .ok (.getfield 9, 3) := by decide +kernel
theorem dX5_putFirst_8 : decode cX5_putFirst 8 = .ok (.arraylength, 1) := by decide +kernel
theorem dX5_putFirst_9 : decode cX5_putFirst 9 = .ok (.if_icmp .lt 4, 3) := by decide +kernel
theorem dX5_putFirst_12 : decode cX5_putFirst 12 = .ok (.return_, 1) := by decide +kernel
theorem dX5_putFirst_13 : decode cX5_putFirst 13 = .ok (.aload_n 0, 1) := by decide +kernel
theorem dX5_putFirst_14 : decode cX5_putFirst 14 = .ok (.getfield 15, 3) := by decide +kernel
theorem dX5_putFirst_17 : decode cX5_putFirst 17 = .ok (.istore_n 2, 1) := by decide +kernel
theorem dX5_putFirst_18 : decode cX5_putFirst 18 = .ok (.iload_n 2, 1) := by decide +kernel
theorem dX5_putFirst_19 : decode cX5_putFirst 19 = .ok (.ifCond .le 23, 3) := by decide +kernel
theorem dX5_putFirst_22 : decode cX5_putFirst 22 = .ok (.aload_n 0, 1) := by decide +kernel
theorem dX5_putFirst_23 : decode cX5_putFirst 23 = .ok (.getfield 9, 3) := by decide +kernel
theorem dX5_putFirst_26 : decode cX5_putFirst 26 = .ok (.iload_n 2, 1) := by decide +kernel
theorem dX5_putFirst_27 : decode cX5_putFirst 27 = .ok (.aload_n 0, 1) := by decide +kernel
theorem dX5_putFirst_28 : decode cX5_putFirst 28 = .ok (.getfield 9, 3) := by decide +kernel
theorem dX5_putFirst_31 : decode cX5_putFirst 31 = .ok (.iload_n 2, 1) := by decide +kernel
theorem dX5_putFirst_32 : decode cX5_putFirst 32 = .ok (.iconst 1, 1) := by decide +kernel
theorem dX5_putFirst_33 : decode cX5_putFirst 33 = .ok (.isub, 1) := by decide +kernel
theorem dX5_putFirst_34 : decode cX5_putFirst 34 = .ok (.iaload, 1) := by decide +kernel
theorem dX5_putFirst_35 : decode cX5_putFirst 35 = .ok (.iastore, 1) := by decide +kernel
theorem dX5_putFirst_36 : decode cX5_putFirst 36 = .ok (.iinc 2 (-1), 3) := by decide +kernel
theorem dX5_putFirst_39 : decode cX5_putFirst 39 = .ok (.goto (-21), 3) := by decide +kernel
theorem dX5_putFirst_42 : decode cX5_putFirst 42 = .ok (.aload_n 0, 1) := by decide +kernel
theorem dX5_putFirst_43 : decode cX5_putFirst 43 = .ok (.getfield 9, 3) := by decide +kernel
theorem dX5_putFirst_46 : decode cX5_putFirst 46 = .ok (.iconst 0, 1) := by decide +kernel
theorem dX5_putFirst_47 : decode cX5_putFirst 47 = .ok (.iload_n 1, 1) := by decide +kernel
theorem dX5_putFirst_48 : decode cX5_putFirst 48 = .ok (.iastore, 1) := by decide +kernel
theorem dX5_putFirst_49 : decode cX5_putFirst 49 = .ok (.aload_n 0, 1) := by decide +kernel
theorem dX5_putFirst_50 : decode cX5_putFirst 50 = .ok (.dup, 1) := by decide +kernel
theorem dX5_putFirst_51 : decode cX5_putFirst 51 = .ok (.getfield 15, 3) := by decide +kernel
theorem dX5_putFirst_54 : decode cX5_putFirst 54 = .ok (.iconst 1, 1) := by decide +kernel
theorem dX5_putFirst_55 : decode cX5_putFirst 55 = .ok (.iadd, 1) := by decide +kernel
theorem dX5_putFirst_56 : decode cX5_putFirst 56 = .ok (.putfield 15, 3) := by decide +kernel
theorem dX5_putFirst_59 : decode cX5_putFirst 59 = .ok (.return_, 1) := by decide +kernel
theorem dX5_takeOut_0 : decode cX5_takeOut 0 = .ok (.iconst 0, 1) := by decide +kernel
theorem dX5_takeOut_1 : decode cX5_takeOut 1 = .ok (.istore_n 2, 1) := by decide +kernel
theorem dX5_takeOut_2 : decode cX5_takeOut 2 = .ok (.iconst 0, 1) := by decide +kernel
theorem dX5_takeOut_3 : decode cX5_takeOut 3 = .ok (.istore_n 3, 1) := by decide +kernel
theorem dX5_takeOut_4 : decode cX5_takeOut 4 = .ok (.iload_n 3, 1) := by decide +kernel
theorem dX5_takeOut_5 : decode cX5_takeOut 5 = .ok (.aload_n 0, 1) := by decide +kernel
theorem dX5_takeOut_6 : decode cX5_takeOut 6 = .ok (.getfield 15, 3) := by decide +kernel
theorem dX5_takeOut_9 : decode cX5_takeOut 9 = .ok (.if_icmp .ge 43, 3) := by decide +kernel
theorem dX5_takeOut_12 : decode cX5_takeOut 12 = .ok (.iload_n 3, 1) := by decide +kernel
theorem dX5_takeOut_13 : decode cX5_takeOut 13 = .ok (.aload_n 0, 1) := by decide +kernel
theorem dX5_takeOut_14 : decode cX5_takeOut 14 = .ok (.getfield 9, 3) := by decide +kernel
theorem dX5_takeOut_17 : decode cX5_takeOut 17 = .ok (.arraylength, 1) := by decide +kernel
theorem dX5_takeOut_18 : decode cX5_takeOut 18 = .ok (.if_icmp .ge 34, 3) := by decide +kernel
theorem dX5_takeOut_21 : decode cX5_takeOut 21 = .ok (.aload_n 0, 1) := by decide +kernel
theorem dX5_takeOut_22 : decode cX5_takeOut 22 = .ok (.getfield 9, 3) := by decide +kernel
theorem dX5_takeOut_25 : decode cX5_takeOut 25 = .ok (.iload_n 3, 1) := by decide +kernel
theorem dX5_takeOut_26 : decode cX5_takeOut 26 = .ok (.iaload, 1) := by decide +kernel
theorem dX5_takeOut_27 : decode cX5_takeOut 27 = .ok (.iload_n 1, 1) := by decide +kernel
theorem dX5_takeOut_28 : decode cX5_takeOut 28 = .ok (.if_icmp .eq 18, 3) := by decide +kernel
theorem dX5_takeOut_31 : decode cX5_takeOut 31 = .ok (.aload_n 0, 1) := by decide +kernel
theorem dX5_takeOut_32 : decode cX5_takeOut 32 = .ok (.getfield 9, 3) := by decide +kernel
theorem dX5_takeOut_35 : decode cX5_takeOut 35 = .ok (.iload_n 2, 1) := by decide +kernel
theorem dX5_takeOut_36 : decode cX5_takeOut 36 = .ok (.aload_n 0, 1) := by decide +kernel
theorem dX5_takeOut_37 : decode cX5_takeOut 37 = .ok (.getfield 9, 3) := by decide +kernel
theorem dX5_takeOut_40 : decode cX5_takeOut 40 = .ok (.iload_n 3, 1) := by decide +kernel
theorem dX5_takeOut_41 : decode cX5_takeOut 41 = .ok (.iaload, 1) := by decide +kernel
theorem dX5_takeOut_42 : decode cX5_takeOut 42 = .ok (.iastore, 1) := by decide +kernel
theorem dX5_takeOut_43 : decode cX5_takeOut 43 = .ok (.iinc 2 1, 3) := by decide +kernel
theorem dX5_takeOut_46 : decode cX5_takeOut 46 = .ok (.iinc 3 1, 3) := by decide +kernel
theorem dX5_takeOut_49 : decode cX5_takeOut 49 = .ok (.goto (-45), 3) := by decide +kernel
theorem dX5_takeOut_52 : decode cX5_takeOut 52 = .ok (.aload_n 0, 1) := by decide +kernel
theorem dX5_takeOut_53 : decode cX5_takeOut 53 = .ok (.iload_n 2, 1) := by decide +kernel
theorem dX5_takeOut_54 : decode cX5_takeOut 54 = .ok (.putfield 15, 3) := by decide +kernel
theorem dX5_takeOut_57 : decode cX5_takeOut 57 = .ok (.return_, 1) := by decide +kernel
theorem dX5_copyFrom_0 : decode cX5_copyFrom 0 = .ok (.aload_n 0, 1) := by decide +kernel
theorem dX5_copyFrom_1 : decode cX5_copyFrom 1 = .ok (.aload_n 1, 1) := by decide +kernel
theorem dX5_copyFrom_2 : decode cX5_copyFrom 2 = .ok (.getfield 15, 3) := by decide +kernel
theorem dX5_copyFrom_5 : decode cX5_copyFrom 5 = .ok (.putfield 15, 3) := by decide +kernel
theorem dX5_copyFrom_8 : decode cX5_copyFrom 8 = .ok (.iconst 0, 1) := by decide +kernel
theorem dX5_copyFrom_9 : decode cX5_copyFrom 9 = .ok (.istore_n 2, 1) := by decide +kernel
theorem dX5_copyFrom_10 : decode cX5_copyFrom 10 = .ok (.iload_n 2, 1) := by decide +kernel
theorem dX5_copyFrom_11 : decode cX5_copyFrom 11 = .ok (.aload_n 0, 1) := by decide +kernel
theorem dX5_copyFrom_12 : decode cX5_copyFrom 12 = .ok (.getfield 15, 3) := by decide +kernel
theorem dX5_copyFrom_15 : decode cX5_copyFrom 15 = .ok (.if_icmp .ge 29, 3) := by decide +kernel
theorem dX5_copyFrom_18 : decode cX5_copyFrom 18 = .ok (.iload_n 2, 1) := by decide +kernel
theorem dX5_copyFrom_19 : decode cX5_copyFrom 19 = .ok (.aload_n 0, 1) := by decide +kernel
theorem dX5_copyFrom_20 : decode cX5_copyFrom 20 = .ok (.getfield 9, 3) := by decide +kernel
theorem dX5_copyFrom_23 : decode cX5_copyFrom 23 = .ok (.arraylength, 1) := by decide +kernel
theorem dX5_copyFrom_24 : decode cX5_copyFrom 24 = .ok (.if_icmp .ge 20, 3) := by decide +kernel
theorem dX5_copyFrom_27 : decode cX5_copyFrom 27 = .ok (.aload_n 0, 1) := by decide +kernel
theorem dX5_copyFrom_28 : decode cX5_copyFrom 28 = .ok (.getfield 9, 3) := by decide +kernel
theorem dX5_copyFrom_31 : decode cX5_copyFrom 31 = .ok (.iload_n 2, 1) := by decide +kernel
theorem dX5_copyFrom_32 : decode cX5_copyFrom 32 = .ok (.aload_n 1, 1) := by decide +kernel
theorem dX5_copyFrom_33 : decode cX5_copyFrom 33 = .ok (.iload_n 2, 1) := by decide +kernel
theorem dX5_copyFrom_34 : decode cX5_copyFrom 34 = .ok (.invokevirtual 19, 3) := by decide +kernel
theorem dX5_copyFrom_37 : decode cX5_copyFrom 37 = .ok (.iastore, 1) := by decide +kernel
theorem dX5_copyFrom_38 : decode cX5_copyFrom 38 = .ok (.iinc 2 1, 3) := by decide +kernel
theorem dX5_copyFrom_41 : decode cX5_copyFrom 41 = .ok (.goto (-31), 3) := by decide +kernel
theorem dX5_copyFrom_44 : decode cX5_copyFrom 44 = .ok (.return_, 1) := by decide +kernel
theorem dX6_init_0 : decode cX6_init 0 = .ok (.aload_n 0, 1) := by decide +kernel
theorem dX6_init_1 : decode cX6_init 1 = .ok (.invokespecial 3, 3) := by decide +kernel
theorem dX6_init_4 : decode cX6_init 4 = .ok (.aload_n 0, 1) := by decide +kernel
theorem dX6_init_5 : decode cX6_init 5 = .ok (.iconst (-1), 1) := by decide +kernel
theorem dX6_init_6 : decode cX6_init 6 = .ok (.putfield 9, 3) := by decide +kernel
theorem dX6_init_9 : decode cX6_init 9 = .ok (.aload_n 0, 1) := by decide +kernel
theorem dX6_init_10 : decode cX6_init 10 = .ok (.iconst (-1), 1) := by decide +kernel
theorem dX6_init_11 : decode cX6_init 11 = .ok (.putfield 15, 3) := by decide +kernel
theorem dX6_init_14 : decode cX6_init 14 = .ok (.return_, 1) := by decide +kernel
theorem dX6_countAccess_0 : decode cX6_countAccess 0 = .ok (.aload_n 0, 1) := by decide +kernel
theorem dX6_countAccess_1 : decode cX6_countAccess 1 = .ok (.dup, 1) := by decide +kernel
theorem dX6_countAccess_2 : decode cX6_countAccess 2 = .ok (.getfield 18, 3) := by decide +kernel
theorem dX6_countAccess_5 : decode cX6_countAccess 5 = .ok (.iconst 1, 1) := by decide +kernel
theorem dX6_countAccess_6 : decode cX6_countAccess 6 = .ok (.iadd, 1) := by decide +kernel
theorem dX6_countAccess_7 : decode cX6_countAccess 7 = .ok (.putfield 18, 3) := by decide +kernel
theorem dX6_countAccess_10 : decode cX6_countAccess 10 = .ok (.aload_n 0, 1) := by decide +kernel
theorem dX6_countAccess_11 : decode cX6_countAccess 11 = .ok (.iconst (-1), 1) := by decide +kernel
theorem dX6_countAccess_12 : decode cX6_countAccess 12 = .ok (.putfield 9, 3) := by decide +kernel
theorem dX6_countAccess_15 : decode cX6_countAccess 15 = .ok (.aload_n 0, 1) := by decide +kernel
theorem dX6_countAccess_16 : decode cX6_countAccess 16 = .ok (.iconst (-1), 1) := by decide +kernel
theorem dX6_countAccess_17 : decode cX6_countAccess 17 = .ok (.putfield 15, 3) := by decide +kernel
theorem dX6_countAccess_20 : decode cX6_countAccess 20 = .ok (.iload_n 2, 1) := by decide +kernel
theorem dX6_countAccess_21 : decode cX6_countAccess 21 = .ok (.ifCond .eq 13, 3) := by decide +kernel
theorem dX6_countAccess_24 : decode cX6_countAccess 24 = .ok (.aload_n 0, 1) := by decide +kernel
theorem dX6_countAccess_25 : decode cX6_countAccess 25 = .ok (.dup, 1) := by decide +kernel
theorem dX6_countAccess_26 : decode cX6_countAccess 26 = .ok (.getfield 21, 3) := by decide +kernel
theorem dX6_countAccess_29 : decode cX6_countAccess 29 = .ok (.iconst 1, 1) := by decide +kernel
theorem dX6_countAccess_30 : decode cX6_countAccess 30 = .ok (.iadd, 1) := by decide +kernel
theorem dX6_countAccess_31 : decode cX6_countAccess 31 = .ok (.putfield 21, 3) := by decide +kernel
theorem dX6_countAccess_34 : decode cX6_countAccess 34 = .ok (.iload_n 1, 1) := by decide +kernel
theorem dX6_countAccess_35 : decode cX6_countAccess 35 = .ok (.ifCond .ne 16, 3) := by decide +kernel
theorem dX6_countAccess_38 : decode cX6_countAccess 38 = .ok (.aload_n 0, 1) := by decide +kernel
theorem dX6_countAccess_39 : decode cX6_countAccess 39 = .ok (.dup, 1) := by decide +kernel
theorem dX6_countAccess_40 : decode cX6_countAccess 40 = .ok (.getfield 24, 3) := by decide +kernel
theorem dX6_countAccess_43 : decode cX6_countAccess 43 = .ok (.iconst 1, 1) := by decide +kernel
theorem dX6_countAccess_44 : decode cX6_countAccess 44 = .ok (.iadd, 1) := by decide +kernel
theorem dX6_countAccess_45 : decode cX6_countAccess 45 = .ok (.putfield 24, 3) := by decide +kernel
theorem dX6_countAccess_48 : decode cX6_countAccess 48 = .ok (.goto 31, 3) := by decide +kernel
theorem dX6_countAccess_51 : decode cX6_countAccess 51 = .ok (.iload_n 1, 1) := by decide +kernel
theorem dX6_countAccess_52 : decode cX6_countAccess 52 = .ok (.iconst 1, 1) := by decide +kernel
theorem dX6_countAccess_53 : decode cX6_countAccess 53 = .ok (.if_icmp .ne 16, 3) := by decide +kernel
theorem dX6_countAccess_56 : decode cX6_countAccess 56 = .ok (.aload_n 0, 1) := by decide +kernel
theorem dX6_countAccess_57 : decode cX6_countAccess 57 = .ok (.dup, 1) := by decide +kernel
theorem dX6_countAccess_58 : decode cX6_countAccess 58 = .ok (.getfield 27, 3) := by decide +kernel
theorem dX6_countAccess_61 : decode cX6_countAccess 61 = .ok (.iconst 1, 1) := by decide +kernel
theorem dX6_countAccess_62 : decode cX6_countAccess 62 = .ok (.iadd, 1) := by decide +kernel
theorem dX6_countAccess_63 : decode cX6_countAccess 63 = .ok (.putfield 27, 3) := by decide +kernel
theorem dX6_countAccess_66 : decode cX6_countAccess 66 = .ok (.goto 13, 3) := by decide +kernel
theorem dX6_countAccess_69 : decode cX6_countAccess 69 = .ok (.aload_n 0, 1) := by decide +kernel
theorem dX6_countAccess_70 : decode cX6_countAccess 70 = .ok (.dup, 1) := by decide +kernel
theorem dX6_countAccess_71 : decode cX6_countAccess 71 = .ok (.getfield 30, 3) := by decide +kernel
theorem dX6_countAccess_74 : decode cX6_countAccess 74 = .ok (.iconst 1, 1) := by decide +kernel
theorem dX6_countAccess_75 : decode cX6_countAccess 75 = .ok (.iadd, 1) := by decide +kernel
theorem dX6_countAccess_76 : decode cX6_countAccess 76 = .ok (.putfield 30, 3) := by decide +kernel
theorem dX6_countAccess_79 : decode cX6_countAccess 79 = .ok (.return_, 1) := by decide +kernel
theorem dX6_numberOf_0 : decode cX6_numberOf 0 = .ok (.iload_n 1, 1) := by decide +kernel
theorem dX6_numberOf_1 : decode cX6_numberOf 1 = .ok (.tableswitch 119 5 20 #[79, 119, 119, 119, 119, 119, 119, 119, 119, 84, 89, 94, 99, 104, 109, 114], 79) := by decide +kernel
theorem dX6_numberOf_80 : decode cX6_numberOf 80 = .ok (.aload_n 0, 1) := by decide +kernel
theorem dX6_numberOf_81 : decode cX6_numberOf 81 = .ok (.getfield 18, 3) := by decide +kernel
theorem dX6_numberOf_84 : decode cX6_numberOf 84 = .ok (.ireturn, 1) := by decide +kernel
theorem dX6_numberOf_85 : decode cX6_numberOf 85 = .ok (.aload_n 0, 1) := by decide +kernel
theorem dX6_numberOf_86 : decode cX6_numberOf 86 = .ok (.getfield 24, 3) := by decide +kernel
theorem dX6_numberOf_89 : decode cX6_numberOf 89 = .ok (.ireturn, 1) := by decide +kernel
theorem dX6_numberOf_90 : decode cX6_numberOf 90 = .ok (.aload_n 0, 1) := by decide +kernel
theorem dX6_numberOf_91 : decode cX6_numberOf 91 = .ok (.getfield 27, 3) := by decide +kernel
theorem dX6_numberOf_94 : decode cX6_numberOf 94 = .ok (.ireturn, 1) := by decide +kernel
theorem dX6_numberOf_95 : decode cX6_numberOf 95 = .ok (.aload_n 0, 1) := by decide +kernel
theorem dX6_numberOf_96 : decode cX6_numberOf 96 = .ok (.getfield 30, 3) := by decide +kernel
theorem dX6_numberOf_99 : decode cX6_numberOf 99 = .ok (.ireturn, 1) := by decide +kernel
theorem dX6_numberOf_100 : decode cX6_numberOf 100 = .ok (.aload_n 0, 1) := by decide +kernel
theorem dX6_numberOf_101 : decode cX6_numberOf 101 = .ok (.getfield 33, 3) := by decide +kernel
theorem dX6_numberOf_104 : decode cX6_numberOf 104 = .ok (.ireturn, 1) := by decide +kernel
theorem dX6_numberOf_105 : decode cX6_numberOf 105 = .ok (.aload_n 0, 1) := by decide +kernel
theorem dX6_numberOf_106 : decode cX6_numberOf 106 = .ok (.getfield 36, 3) := by decide +kernel
theorem dX6_numberOf_109 : decode cX6_numberOf 109 = .ok (.ireturn, 1) := by decide +kernel
theorem dX6_numberOf_110 : decode cX6_numberOf 110 = .ok (.aload_n 0, 1) := by decide +kernel
theorem dX6_numberOf_111 : decode cX6_numberOf 111 = .ok (.getfield 39, 3) := by decide +kernel
theorem dX6_numberOf_114 : decode cX6_numberOf 114 = .ok (.ireturn, 1) := by decide +kernel
theorem dX6_numberOf_115 : decode cX6_numberOf 115 = .ok (.aload_n 0, 1) := by decide +kernel
theorem dX6_numberOf_116 : decode cX6_numberOf 116 = .ok (.getfield 42, 3) := by decide +kernel
theorem dX6_numberOf_119 : decode cX6_numberOf 119 = .ok (.ireturn, 1) := by decide +kernel
theorem dX6_numberOf_120 : decode cX6_numberOf 120 = .ok (.aload_n 0, 1) := by decide +kernel
theorem dX6_numberOf_121 : decode cX6_numberOf 121 = .ok (.getfield 21, 3) := by decide +kernel
theorem dX6_numberOf_124 : decode cX6_numberOf 124 = .ok (.ireturn, 1) := by decide +kernel
theorem dX6_copyFrom_0 : decode cX6_copyFrom 0 = .ok (.aload_n 0, 1) := by decide +kernel
theorem dX6_copyFrom_1 : decode cX6_copyFrom 1 = .ok (.aload_n 1, 1) := by decide +kernel
theorem dX6_copyFrom_2 : decode cX6_copyFrom 2 = .ok (.getfield 18, 3) := by decide +kernel
theorem dX6_copyFrom_5 : decode cX6_copyFrom 5 = .ok (.putfield 18, 3) := by decide +kernel
theorem dX6_copyFrom_8 : decode cX6_copyFrom 8 = .ok (.aload_n 0, 1) := by decide +kernel
theorem dX6_copyFrom_9 : decode cX6_copyFrom 9 = .ok (.aload_n 1, 1) := by decide +kernel
theorem dX6_copyFrom_10 : decode cX6_copyFrom 10 = .ok (.getfield 24, 3) := by decide +kernel
theorem dX6_copyFrom_13 : decode cX6_copyFrom 13 = .ok (.putfield 24, 3) := by decide +kernel
theorem dX6_copyFrom_16 : decode cX6_copyFrom 16 = .ok (.aload_n 0, 1) := by decide +kernel
theorem dX6_copyFrom_17 : decode cX6_copyFrom 17 = .ok (.aload_n 1, 1) := by decide +kernel
theorem dX6_copyFrom_18 : decode cX6_copyFrom 18 = .ok (.getfield 27, 3) := by decide +kernel
theorem dX6_copyFrom_21 : decode cX6_copyFrom 21 = .ok (.putfield 27, 3) := by decide +kernel
theorem dX6_copyFrom_24 : decode cX6_copyFrom 24 = .ok (.aload_n 0, 1) := by decide +kernel
theorem dX6_copyFrom_25 : decode cX6_copyFrom 25 = .ok (.aload_n 1, 1) := by decide +kernel
theorem dX6_copyFrom_26 : decode cX6_copyFrom 26 = .ok (.getfield 30, 3) := by decide +kernel
theorem dX6_copyFrom_29 : decode cX6_copyFrom 29 = .ok (.putfield 30, 3) := by decide +kernel
theorem dX6_copyFrom_32 : decode cX6_copyFrom 32 = .ok (.aload_n 0, 1) := by decide +kernel
theorem dX6_copyFrom_33 : decode cX6_copyFrom 33 = .ok (.aload_n 1, 1) := by decide +kernel
theorem dX6_copyFrom_34 : decode cX6_copyFrom 34 = .ok (.getfield 33, 3) := by decide +kernel
theorem dX6_copyFrom_37 : decode cX6_copyFrom 37 = .ok (.putfield 33, 3) := by decide +kernel
theorem dX6_copyFrom_40 : decode cX6_copyFrom 40 = .ok (.aload_n 0, 1) := by decide +kernel
theorem dX6_copyFrom_41 : decode cX6_copyFrom 41 = .ok (.aload_n 1, 1) := by decide +kernel
theorem dX6_copyFrom_42 : decode cX6_copyFrom 42 = .ok (.getfield 36, 3) := by decide +kernel
theorem dX6_copyFrom_45 : decode cX6_copyFrom 45 = .ok (.putfield 36, 3) := by decide +kernel
theorem dX6_copyFrom_48 : decode cX6_copyFrom 48 = .ok (.aload_n 0, 1) := by decide +kernel
theorem dX6_copyFrom_49 : decode cX6_copyFrom 49 = .ok (.aload_n 1, 1) := by decide +kernel
theorem dX6_copyFrom_50 : decode cX6_copyFrom 50 = .ok (.getfield 39, 3) := by decide +kernel
theorem dX6_copyFrom_53 : decode cX6_copyFrom 53 = .ok (.putfield 39, 3) := by decide +kernel
theorem dX6_copyFrom_56 : decode cX6_copyFrom 56 = .ok (.aload_n 0, 1) := by decide +kernel
theorem dX6_copyFrom_57 : decode cX6_copyFrom 57 = .ok (.aload_n 1, 1) := by decide +kernel
theorem dX6_copyFrom_58 : decode cX6_copyFrom 58 = .ok (.getfield 42, 3) := by decide +kernel
theorem dX6_copyFrom_61 : decode cX6_copyFrom 61 = .ok (.putfield 42, 3) := by decide +kernel
theorem dX6_copyFrom_64 : decode cX6_copyFrom 64 = .ok (.aload_n 0, 1) := by decide +kernel
theorem dX6_copyFrom_65 : decode cX6_copyFrom 65 = .ok (.aload_n 1, 1) := by decide +kernel
theorem dX6_copyFrom_66 : decode cX6_copyFrom 66 = .ok (.getfield 21, 3) := by decide +kernel
theorem dX6_copyFrom_69 : decode cX6_copyFrom 69 = .ok (.putfield 21, 3) := by decide +kernel
theorem dX6_copyFrom_72 : decode cX6_copyFrom 72 = .ok (.aload_n 0, 1) := by decide +kernel
theorem dX6_copyFrom_73 : decode cX6_copyFrom 73 = .ok (.aload_n 1, 1) := by decide +kernel
theorem dX6_copyFrom_74 : decode cX6_copyFrom 74 = .ok (.getfield 9, 3) := by decide +kernel
theorem dX6_copyFrom_77 : decode cX6_copyFrom 77 = .ok (.putfield 9, 3) := by decide +kernel
theorem dX6_copyFrom_80 : decode cX6_copyFrom 80 = .ok (.aload_n 0, 1) := by decide +kernel
theorem dX6_copyFrom_81 : decode cX6_copyFrom 81 = .ok (.aload_n 1, 1) := by decide +kernel
theorem dX6_copyFrom_82 : decode cX6_copyFrom 82 = .ok (.getfield 15, 3) := by decide +kernel
theorem dX6_copyFrom_85 : decode cX6_copyFrom 85 = .ok (.putfield 15, 3) := by decide +kernel
theorem dX6_copyFrom_88 : decode cX6_copyFrom 88 = .ok (.return_, 1) := by decide +kernel
theorem dX7_init_0 : decode cX7_init 0 = .ok (.aload_n 0, 1) := by decide +kernel
theorem dX7_init_1 : decode cX7_init 1 = .ok (.invokespecial 3, 3) := by decide +kernel
theorem dX7_init_4 : decode cX7_init 4 = .ok (.aload_n 0, 1) := by decide +kernel
theorem dX7_init_5 : decode cX7_init 5 = .ok (.sipush 600, 3) := by decide +kernel
theorem dX7_init_8 : decode cX7_init 8 = .ok (.newarray .int, 2) := by decide +kernel
theorem dX7_init_10 : decode cX7_init 10 = .ok (.putfield 9, 3) := by decide +kernel
theorem dX7_init_13 : decode cX7_init 13 = .ok (.aload_n 0, 1) := by decide +kernel
theorem dX7_init_14 : decode cX7_init 14 = .ok (.bipush 40, 2) := by decide +kernel
theorem dX7_init_16 : decode cX7_init 16 = .ok (.newarray .int, 2) := by decide +kernel
theorem dX7_init_18 : decode cX7_init 18 = .ok (.putfield 15, 3) := by decide +kernel
theorem dX7_init_21 : decode cX7_init 21 = .ok (.aload_n 0, 1) := by decide +kernel
theorem dX7_init_22 : decode cX7_init 22 = .ok (.bipush 40, 2) := by decide +kernel
theorem dX7_init_24 : decode cX7_init 24 = .ok (.newarray .int, 2) := by decide +kernel
theorem dX7_init_26 : decode cX7_init 26 = .ok (.putfield 18, 3) := by decide +kernel
theorem dX7_init_29 : decode cX7_init 29 = .ok (.aload_n 0, 1) := by decide +kernel
theorem dX7_init_30 : decode cX7_init 30 = .ok (.bipush 40, 2) := by decide +kernel
theorem dX7_init_32 : decode cX7_init 32 = .ok (.newarray .int, 2) := by decide +kernel
theorem dX7_init_34 : decode cX7_init 34 = .ok (.putfield 21, 3) := by decide +kernel
theorem dX7_init_37 : decode cX7_init 37 = .ok (.aload_n 0, 1) := by decide +kernel
theorem dX7_init_38 : decode cX7_init 38 = .ok (.bipush 40, 2) := by decide +kernel
theorem dX7_init_40 : decode cX7_init 40 = .ok (.newarray .int, 2) := by decide +kernel
theorem dX7_init_42 : decode cX7_init 42 = .ok (.putfield 24, 3) := by decide +kernel
theorem dX7_init_45 : decode cX7_init 45 = .ok (.aload_n 0, 1) := by decide +kernel
theorem dX7_init_46 : decode cX7_init 46 = .ok (.iconst (-1), 1) := by decide +kernel
theorem dX7_init_47 : decode cX7_init 47 = .ok (.putfield 27, 3) := by decide +kernel
theorem dX7_init_50 : decode cX7_init 50 = .ok (.return_, 1) := by decide +kernel
theorem dX8_init_0 : decode cX8_init 0 = .ok (.aload_n 0, 1) := by decide +kernel
theorem dX8_init_1 : decode cX8_init 1 = .ok (.invokespecial 1, 3) := by decide +kernel
theorem dX8_init_4 : decode cX8_init 4 = .ok (.aload_n 0, 1) := by decide +kernel
theorem dX8_init_5 : decode cX8_init 5 = .ok (.new 7, 3) := by decide +kernel
theorem dX8_init_8 : decode cX8_init 8 = .ok (.dup, 1) := by decide +kernel
theorem dX8_init_9 : decode cX8_init 9 = .ok (.invokespecial 9, 3) := by decide +kernel
theorem dX8_init_12 : decode cX8_init 12 = .ok (.putfield 10, 3) := by decide +kernel
theorem dX8_init_15 : decode cX8_init 15 = .ok (.aload_n 0, 1) := by decide +kernel
theorem dX8_init_16 : decode cX8_init 16 = .ok (.new 16, 3) := by decide +kernel
theorem dX8_init_19 : decode cX8_init 19 = .ok (.dup, 1) := by decide +kernel
theorem dX8_init_20 : decode cX8_init 20 = .ok (.invokespecial 18, 3) := by decide +kernel
theorem dX8_init_23 : decode cX8_init 23 = .ok (.putfield 19, 3) := by decide +kernel
theorem dX8_init_26 : decode cX8_init 26 = .ok (.aload_n 0, 1) := by decide +kernel
theorem dX8_init_27 : decode cX8_init 27 = .ok (.new 23, 3) := by decide +kernel
theorem dX8_init_30 : decode cX8_init 30 = .ok (.dup, 1) := by decide +kernel
theorem dX8_init_31 : decode cX8_init 31 = .ok (.invokespecial 25, 3) := by decide +kernel
theorem dX8_init_34 : decode cX8_init 34 = .ok (.putfield 26, 3) := by decide +kernel
theorem dX8_init_37 : decode cX8_init 37 = .ok (.aload_n 0, 1) := by decide +kernel
theorem dX8_init_38 : decode cX8_init 38 = .ok (.new 23, 3) := by decide +kernel
theorem dX8_init_41 : decode cX8_init 41 = .ok (.dup, 1) := by decide +kernel
theorem dX8_init_42 : decode cX8_init 42 = .ok (.invokespecial 25, 3) := by decide +kernel
theorem dX8_init_45 : decode cX8_init 45 = .ok (.putfield 30, 3) := by decide +kernel
theorem dX8_init_48 : decode cX8_init 48 = .ok (.aload_n 0, 1) := by decide +kernel
theorem dX8_init_49 : decode cX8_init 49 = .ok (.new 33, 3) := by decide +kernel
theorem dX8_init_52 : decode cX8_init 52 = .ok (.dup, 1) := by decide +kernel
theorem dX8_init_53 : decode cX8_init 53 = .ok (.invokespecial 35, 3) := by decide +kernel
theorem dX8_init_56 : decode cX8_init 56 = .ok (.putfield 36, 3) := by decide +kernel
theorem dX8_init_59 : decode cX8_init 59 = .ok (.aload_n 0, 1) := by decide +kernel
theorem dX8_init_60 : decode cX8_init 60 = .ok (.iconst 2, 1) := by decide +kernel
theorem dX8_init_61 : decode cX8_init 61 = .ok (.anewarray 23, 3) := by decide +kernel
theorem dX8_init_64 : decode cX8_init 64 = .ok (.putfield 40, 3) := by decide +kernel
theorem dX8_init_67 : decode cX8_init 67 = .ok (.return_, 1) := by decide +kernel
theorem dX8_addClient_0 : decode cX8_addClient 0 = .ok (.iload_n 1, 1) := by decide +kernel
theorem dX8_addClient_1 : decode cX8_addClient 1 = .ok (.iconst 1, 1) := by decide +kernel
theorem dX8_addClient_2 : decode cX8_addClient 2 = .ok (.bipush 9, 2) := by decide +kernel
theorem dX8_addClient_4 : decode cX8_addClient 4 = .ok (.invokestatic 59, 3) := by decide +kernel
theorem dX8_addClient_7 : decode cX8_addClient 7 = .ok (.aload_n 0, 1) := by decide +kernel
theorem dX8_addClient_8 : decode cX8_addClient 8 = .ok (.getfield 26, 3) := by decide +kernel
theorem dX8_addClient_11 : decode cX8_addClient 11 = .ok (.getfield 93, 3) := by decide +kernel
theorem dX8_addClient_14 : decode cX8_addClient 14 = .ok (.iconst 4, 1) := by decide +kernel
theorem dX8_addClient_15 : decode cX8_addClient 15 = .ok (.if_icmp .lt 13, 3) := by decide +kernel
theorem dX8_addClient_18 : decode cX8_addClient 18 = .ok (.new 48, 3) := by decide +kernel
theorem dX8_addClient_21 : decode cX8_addClient 21 = .ok (.dup, 1) := by decide +kernel
theorem dX8_addClient_22 : decode cX8_addClient 22 = .ok (.ldc 96, 2) := by decide +kernel
theorem dX8_addClient_24 : decode cX8_addClient 24 = .ok (.invokespecial 52, 3) := by decide +kernel
theorem dX8_addClient_27 : decode cX8_addClient 27 = .ok (.athrow, 1) := by decide +kernel
theorem dX8_addClient_28 : decode cX8_addClient 28 = .ok (.aload_n 0, 1) := by decide +kernel
theorem dX8_addClient_29 : decode cX8_addClient 29 = .ok (.getfield 36, 3) := by decide +kernel
theorem dX8_addClient_32 : decode cX8_addClient 32 = .ok (.aload_n 0, 1) := by decide +kernel
theorem dX8_addClient_33 : decode cX8_addClient 33 = .ok (.getfield 26, 3) := by decide +kernel
theorem dX8_addClient_36 : decode cX8_addClient 36 = .ok (.invokevirtual 67, 3) := by decide +kernel
theorem dX8_addClient_39 : decode cX8_addClient 39 = .ok (.aload_n 0, 1) := by decide +kernel
theorem dX8_addClient_40 : decode cX8_addClient 40 = .ok (.getfield 26, 3) := by decide +kernel
theorem dX8_addClient_43 : decode cX8_addClient 43 = .ok (.iload_n 1, 1) := by decide +kernel
theorem dX8_addClient_44 : decode cX8_addClient 44 = .ok (.invokevirtual 98, 3) := by decide +kernel
theorem dX8_addClient_47 : decode cX8_addClient 47 = .ok (.ireturn, 1) := by decide +kernel
theorem dX8_setWeight_0 : decode cX8_setWeight 0 = .ok (.aload_n 0, 1) := by decide +kernel
theorem dX8_setWeight_1 : decode cX8_setWeight 1 = .ok (.iload_n 1, 1) := by decide +kernel
theorem dX8_setWeight_2 : decode cX8_setWeight 2 = .ok (.invokevirtual 102, 3) := by decide +kernel
theorem dX8_setWeight_5 : decode cX8_setWeight 5 = .ok (.iload_n 2, 1) := by decide +kernel
theorem dX8_setWeight_6 : decode cX8_setWeight 6 = .ok (.iconst 1, 1) := by decide +kernel
theorem dX8_setWeight_7 : decode cX8_setWeight 7 = .ok (.bipush 9, 2) := by decide +kernel
theorem dX8_setWeight_9 : decode cX8_setWeight 9 = .ok (.invokestatic 59, 3) := by decide +kernel
theorem dX8_setWeight_12 : decode cX8_setWeight 12 = .ok (.aload_n 0, 1) := by decide +kernel
theorem dX8_setWeight_13 : decode cX8_setWeight 13 = .ok (.getfield 36, 3) := by decide +kernel
theorem dX8_setWeight_16 : decode cX8_setWeight 16 = .ok (.aload_n 0, 1) := by decide +kernel
theorem dX8_setWeight_17 : decode cX8_setWeight 17 = .ok (.getfield 26, 3) := by decide +kernel
theorem dX8_setWeight_20 : decode cX8_setWeight 20 = .ok (.invokevirtual 67, 3) := by decide +kernel
theorem dX8_setWeight_23 : decode cX8_setWeight 23 = .ok (.aload_n 0, 1) := by decide +kernel
theorem dX8_setWeight_24 : decode cX8_setWeight 24 = .ok (.getfield 26, 3) := by decide +kernel
theorem dX8_setWeight_27 : decode cX8_setWeight 27 = .ok (.iload_n 1, 1) := by decide +kernel
theorem dX8_setWeight_28 : decode cX8_setWeight 28 = .ok (.iload_n 2, 1) := by decide +kernel
theorem dX8_setWeight_29 : decode cX8_setWeight 29 = .ok (.invokevirtual 105, 3) := by decide +kernel
theorem dX8_setWeight_32 : decode cX8_setWeight 32 = .ok (.ireturn, 1) := by decide +kernel
theorem dX8_set_0 : decode cX8_set 0 = .ok (.iload_n 1, 1) := by decide +kernel
theorem dX8_set_1 : decode cX8_set 1 = .ok (.iconst 0, 1) := by decide +kernel
theorem dX8_set_2 : decode cX8_set 2 = .ok (.iconst 1, 1) := by decide +kernel
theorem dX8_set_3 : decode cX8_set 3 = .ok (.invokestatic 59, 3) := by decide +kernel
theorem dX8_set_6 : decode cX8_set 6 = .ok (.iload_n 1, 1) := by decide +kernel
theorem dX8_set_7 : decode cX8_set 7 = .ok (.ifCond .ne 13, 3) := by decide +kernel
theorem dX8_set_10 : decode cX8_set 10 = .ok (.iload_n 2, 1) := by decide +kernel
theorem dX8_set_11 : decode cX8_set 11 = .ok (.iconst 2, 1) := by decide +kernel
theorem dX8_set_12 : decode cX8_set 12 = .ok (.bipush 20, 2) := by decide +kernel
theorem dX8_set_14 : decode cX8_set 14 = .ok (.invokestatic 59, 3) := by decide +kernel
theorem dX8_set_17 : decode cX8_set 17 = .ok (.goto 10, 3) := by decide +kernel
theorem dX8_set_20 : decode cX8_set 20 = .ok (.iload_n 2, 1) := by decide +kernel
theorem dX8_set_21 : decode cX8_set 21 = .ok (.iconst 0, 1) := by decide +kernel
theorem dX8_set_22 : decode cX8_set 22 = .ok (.bipush 40, 2) := by decide +kernel
theorem dX8_set_24 : decode cX8_set 24 = .ok (.invokestatic 59, 3) := by decide +kernel
theorem dX8_set_27 : decode cX8_set 27 = .ok (.aload_n 0, 1) := by decide +kernel
theorem dX8_set_28 : decode cX8_set 28 = .ok (.getfield 36, 3) := by decide +kernel
theorem dX8_set_31 : decode cX8_set 31 = .ok (.aload_n 0, 1) := by decide +kernel
theorem dX8_set_32 : decode cX8_set 32 = .ok (.getfield 26, 3) := by decide +kernel
theorem dX8_set_35 : decode cX8_set 35 = .ok (.invokevirtual 67, 3) := by decide +kernel
theorem dX8_set_38 : decode cX8_set 38 = .ok (.aload_n 0, 1) := by decide +kernel
theorem dX8_set_39 : decode cX8_set 39 = .ok (.getfield 26, 3) := by decide +kernel
theorem dX8_set_42 : decode cX8_set 42 = .ok (.iload_n 1, 1) := by decide +kernel
theorem dX8_set_43 : decode cX8_set 43 = .ok (.iload_n 2, 1) := by decide +kernel
theorem dX8_set_44 : decode cX8_set 44 = .ok (.invokevirtual 109, 3) := by decide +kernel
theorem dX8_set_47 : decode cX8_set 47 = .ok (.ireturn, 1) := by decide +kernel
theorem dX8_shape_0 : decode cX8_shape 0 = .ok (.iload_n 1, 1) := by decide +kernel
theorem dX8_shape_1 : decode cX8_shape 1 = .ok (.iconst 2, 1) := by decide +kernel
theorem dX8_shape_2 : decode cX8_shape 2 = .ok (.bipush 16, 2) := by decide +kernel
theorem dX8_shape_4 : decode cX8_shape 4 = .ok (.invokestatic 59, 3) := by decide +kernel
theorem dX8_shape_7 : decode cX8_shape 7 = .ok (.iload_n 2, 1) := by decide +kernel
theorem dX8_shape_8 : decode cX8_shape 8 = .ok (.iconst 2, 1) := by decide +kernel
theorem dX8_shape_9 : decode cX8_shape 9 = .ok (.bipush 24, 2) := by decide +kernel
theorem dX8_shape_11 : decode cX8_shape 11 = .ok (.invokestatic 59, 3) := by decide +kernel
theorem dX8_shape_14 : decode cX8_shape 14 = .ok (.aload_n 0, 1) := by decide +kernel
theorem dX8_shape_15 : decode cX8_shape 15 = .ok (.getfield 36, 3) := by decide +kernel
theorem dX8_shape_18 : decode cX8_shape 18 = .ok (.aload_n 0, 1) := by decide +kernel
theorem dX8_shape_19 : decode cX8_shape 19 = .ok (.getfield 26, 3) := by decide +kernel
theorem dX8_shape_22 : decode cX8_shape 22 = .ok (.invokevirtual 67, 3) := by decide +kernel
theorem dX8_shape_25 : decode cX8_shape 25 = .ok (.aload_n 0, 1) := by decide +kernel
theorem dX8_shape_26 : decode cX8_shape 26 = .ok (.getfield 26, 3) := by decide +kernel
theorem dX8_shape_29 : decode cX8_shape 29 = .ok (.iload_n 1, 1) := by decide +kernel
theorem dX8_shape_30 : decode cX8_shape 30 = .ok (.iload_n 2, 1) := by decide +kernel
theorem dX8_shape_31 : decode cX8_shape 31 = .ok (.invokevirtual 112, 3) := by decide +kernel
theorem dX8_shape_34 : decode cX8_shape 34 = .ok (.ireturn, 1) := by decide +kernel
theorem dX8_count_0 : decode cX8_count 0 = .ok (.iload_n 1, 1) := by decide +kernel
theorem dX8_count_1 : decode cX8_count 1 = .ok (.iconst 0, 1) := by decide +kernel
theorem dX8_count_2 : decode cX8_count 2 = .ok (.bipush 23, 2) := by decide +kernel
theorem dX8_count_4 : decode cX8_count 4 = .ok (.invokestatic 59, 3) := by decide +kernel
theorem dX8_count_7 : decode cX8_count 7 = .ok (.iload_n 1, 1) := by decide +kernel
theorem dX8_count_8 : decode cX8_count 8 = .ok (.bipush 23, 2) := by decide +kernel
theorem dX8_count_10 : decode cX8_count 10 = .ok (.if_icmp .ne 13, 3) := by decide +kernel
theorem dX8_count_13 : decode cX8_count 13 = .ok (.aload_n 0, 1) := by decide +kernel
theorem dX8_count_14 : decode cX8_count 14 = .ok (.getfield 36, 3) := by decide +kernel
theorem dX8_count_17 : decode cX8_count 17 = .ok (.getfield 115, 3) := by decide +kernel
theorem dX8_count_20 : decode cX8_count 20 = .ok (.goto 11, 3) := by decide +kernel
theorem dX8_count_23 : decode cX8_count 23 = .ok (.aload_n 0, 1) := by decide +kernel
theorem dX8_count_24 : decode cX8_count 24 = .ok (.getfield 26, 3) := by decide +kernel
theorem dX8_count_27 : decode cX8_count 27 = .ok (.iload_n 1, 1) := by decide +kernel
theorem dX8_count_28 : decode cX8_count 28 = .ok (.invokevirtual 118, 3) := by decide +kernel
theorem dX8_count_31 : decode cX8_count 31 = .ok (.ireturn, 1) := by decide +kernel
theorem dX8_client_0 : decode cX8_client 0 = .ok (.aload_n 0, 1) := by decide +kernel
theorem dX8_client_1 : decode cX8_client 1 = .ok (.iload_n 1, 1) := by decide +kernel
theorem dX8_client_2 : decode cX8_client 2 = .ok (.invokevirtual 102, 3) := by decide +kernel
theorem dX8_client_5 : decode cX8_client 5 = .ok (.iload_n 2, 1) := by decide +kernel
theorem dX8_client_6 : decode cX8_client 6 = .ok (.iconst 0, 1) := by decide +kernel
theorem dX8_client_7 : decode cX8_client 7 = .ok (.bipush 10, 2) := by decide +kernel
theorem dX8_client_9 : decode cX8_client 9 = .ok (.invokestatic 59, 3) := by decide +kernel
theorem dX8_client_12 : decode cX8_client 12 = .ok (.aload_n 0, 1) := by decide +kernel
theorem dX8_client_13 : decode cX8_client 13 = .ok (.getfield 26, 3) := by decide +kernel
theorem dX8_client_16 : decode cX8_client 16 = .ok (.iload_n 1, 1) := by decide +kernel
theorem dX8_client_17 : decode cX8_client 17 = .ok (.iload_n 2, 1) := by decide +kernel
theorem dX8_client_18 : decode cX8_client 18 = .ok (.invokevirtual 121, 3) := by decide +kernel
theorem dX8_client_21 : decode cX8_client 21 = .ok (.ireturn, 1) := by decide +kernel
theorem dX8_block_0 : decode cX8_block 0 = .ok (.iload_n 1, 1) := by decide +kernel
theorem dX8_block_1 : decode cX8_block 1 = .ok (.iconst 0, 1) := by decide +kernel
theorem dX8_block_2 : decode cX8_block 2 = .ok (.sipush 199, 3) := by decide +kernel
theorem dX8_block_5 : decode cX8_block 5 = .ok (.invokestatic 59, 3) := by decide +kernel
theorem dX8_block_8 : decode cX8_block 8 = .ok (.iload_n 2, 1) := by decide +kernel
theorem dX8_block_9 : decode cX8_block 9 = .ok (.iconst 0, 1) := by decide +kernel
theorem dX8_block_10 : decode cX8_block 10 = .ok (.bipush 6, 2) := by decide +kernel
theorem dX8_block_12 : decode cX8_block 12 = .ok (.invokestatic 59, 3) := by decide +kernel
theorem dX8_block_15 : decode cX8_block 15 = .ok (.aload_n 0, 1) := by decide +kernel
theorem dX8_block_16 : decode cX8_block 16 = .ok (.getfield 26, 3) := by decide +kernel
theorem dX8_block_19 : decode cX8_block 19 = .ok (.iload_n 1, 1) := by decide +kernel
theorem dX8_block_20 : decode cX8_block 20 = .ok (.iload_n 2, 1) := by decide +kernel
theorem dX8_block_21 : decode cX8_block 21 = .ok (.invokevirtual 124, 3) := by decide +kernel
theorem dX8_block_24 : decode cX8_block 24 = .ok (.ireturn, 1) := by decide +kernel
theorem dX8_at_0 : decode cX8_at 0 = .ok (.iload_n 1, 1) := by decide +kernel
theorem dX8_at_1 : decode cX8_at 1 = .ok (.iconst 5, 1) := by decide +kernel
theorem dX8_at_2 : decode cX8_at 2 = .ok (.invokestatic 127, 3) := by decide +kernel
theorem dX8_at_5 : decode cX8_at 5 = .ok (.iload_n 2, 1) := by decide +kernel
theorem dX8_at_6 : decode cX8_at 6 = .ok (.invokestatic 131, 3) := by decide +kernel
theorem dX8_at_9 : decode cX8_at 9 = .ok (.aload_n 0, 1) := by decide +kernel
theorem dX8_at_10 : decode cX8_at 10 = .ok (.getfield 26, 3) := by decide +kernel
theorem dX8_at_13 : decode cX8_at 13 = .ok (.iload_n 1, 1) := by decide +kernel
theorem dX8_at_14 : decode cX8_at 14 = .ok (.invokevirtual 134, 3) := by decide +kernel
theorem dX8_at_17 : decode cX8_at 17 = .ok (.iload_n 2, 1) := by decide +kernel
theorem dX8_at_18 : decode cX8_at 18 = .ok (.invokevirtual 138, 3) := by decide +kernel
theorem dX8_at_21 : decode cX8_at 21 = .ok (.ireturn, 1) := by decide +kernel
theorem dX8_read_0 : decode cX8_read 0 = .ok (.aload_n 0, 1) := by decide +kernel
theorem dX8_read_1 : decode cX8_read 1 = .ok (.iload_n 1, 1) := by decide +kernel
theorem dX8_read_2 : decode cX8_read 2 = .ok (.invokevirtual 102, 3) := by decide +kernel
theorem dX8_read_5 : decode cX8_read 5 = .ok (.iload_n 2, 1) := by decide +kernel
theorem dX8_read_6 : decode cX8_read 6 = .ok (.iconst 0, 1) := by decide +kernel
theorem dX8_read_7 : decode cX8_read 7 = .ok (.sipush 199, 3) := by decide +kernel
theorem dX8_read_10 : decode cX8_read 10 = .ok (.invokestatic 59, 3) := by decide +kernel
theorem dX8_read_13 : decode cX8_read 13 = .ok (.aload_n 0, 1) := by decide +kernel
theorem dX8_read_14 : decode cX8_read 14 = .ok (.getfield 36, 3) := by decide +kernel
theorem dX8_read_17 : decode cX8_read 17 = .ok (.aload_n 0, 1) := by decide +kernel
theorem dX8_read_18 : decode cX8_read 18 = .ok (.getfield 26, 3) := by decide +kernel
theorem dX8_read_21 : decode cX8_read 21 = .ok (.invokevirtual 67, 3) := by decide +kernel
theorem dX8_read_24 : decode cX8_read 24 = .ok (.aload_n 0, 1) := by decide +kernel
theorem dX8_read_25 : decode cX8_read 25 = .ok (.getfield 26, 3) := by decide +kernel
theorem dX8_read_28 : decode cX8_read 28 = .ok (.iload_n 1, 1) := by decide +kernel
theorem dX8_read_29 : decode cX8_read 29 = .ok (.iload_n 2, 1) := by decide +kernel
theorem dX8_read_30 : decode cX8_read 30 = .ok (.iconst 0, 1) := by decide +kernel
theorem dX8_read_31 : decode cX8_read 31 = .ok (.invokevirtual 143, 3) := by decide +kernel
theorem dX8_read_34 : decode cX8_read 34 = .ok (.pop, 1) := by decide +kernel
theorem dX8_read_35 : decode cX8_read 35 = .ok (.aload_n 0, 1) := by decide +kernel
theorem dX8_read_36 : decode cX8_read 36 = .ok (.getfield 26, 3) := by decide +kernel
theorem dX8_read_39 : decode cX8_read 39 = .ok (.getfield 147, 3) := by decide +kernel
theorem dX8_read_42 : decode cX8_read 42 = .ok (.iload_n 2, 1) := by decide +kernel
theorem dX8_read_43 : decode cX8_read 43 = .ok (.invokevirtual 151, 3) := by decide +kernel
theorem dX8_read_46 : decode cX8_read 46 = .ok (.ireturn, 1) := by decide +kernel
theorem dX8_write_0 : decode cX8_write 0 = .ok (.aload_n 0, 1) := by decide +kernel
theorem dX8_write_1 : decode cX8_write 1 = .ok (.iload_n 1, 1) := by decide +kernel
theorem dX8_write_2 : decode cX8_write 2 = .ok (.invokevirtual 102, 3) := by decide +kernel
theorem dX8_write_5 : decode cX8_write 5 = .ok (.iload_n 2, 1) := by decide +kernel
theorem dX8_write_6 : decode cX8_write 6 = .ok (.iconst 0, 1) := by decide +kernel
theorem dX8_write_7 : decode cX8_write 7 = .ok (.sipush 199, 3) := by decide +kernel
theorem dX8_write_10 : decode cX8_write 10 = .ok (.invokestatic 59, 3) := by decide +kernel
theorem dX8_write_13 : decode cX8_write 13 = .ok (.iload_n 3, 1) := by decide +kernel
theorem dX8_write_14 : decode cX8_write 14 = .ok (.iconst 0, 1) := by decide +kernel
theorem dX8_write_15 : decode cX8_write 15 = .ok (.sipush 999, 3) := by decide +kernel
theorem dX8_write_18 : decode cX8_write 18 = .ok (.invokestatic 59, 3) := by decide +kernel
theorem dX8_write_21 : decode cX8_write 21 = .ok (.aload_n 0, 1) := by decide +kernel
theorem dX8_write_22 : decode cX8_write 22 = .ok (.getfield 36, 3) := by decide +kernel
theorem dX8_write_25 : decode cX8_write 25 = .ok (.aload_n 0, 1) := by decide +kernel
theorem dX8_write_26 : decode cX8_write 26 = .ok (.getfield 26, 3) := by decide +kernel
theorem dX8_write_29 : decode cX8_write 29 = .ok (.invokevirtual 67, 3) := by decide +kernel
theorem dX8_write_32 : decode cX8_write 32 = .ok (.aload_n 0, 1) := by decide +kernel
theorem dX8_write_33 : decode cX8_write 33 = .ok (.getfield 26, 3) := by decide +kernel
theorem dX8_write_36 : decode cX8_write 36 = .ok (.getfield 147, 3) := by decide +kernel
theorem dX8_write_39 : decode cX8_write 39 = .ok (.getfield 156, 3) := by decide +kernel
theorem dX8_write_42 : decode cX8_write 42 = .ok (.istore 4, 2) := by decide +kernel
theorem dX8_write_44 : decode cX8_write 44 = .ok (.aload_n 0, 1) := by decide +kernel
theorem dX8_write_45 : decode cX8_write 45 = .ok (.getfield 26, 3) := by decide +kernel
theorem dX8_write_48 : decode cX8_write 48 = .ok (.iload_n 1, 1) := by decide +kernel
theorem dX8_write_49 : decode cX8_write 49 = .ok (.iload_n 2, 1) := by decide +kernel
theorem dX8_write_50 : decode cX8_write 50 = .ok (.iconst 1, 1) := by decide +kernel
theorem dX8_write_51 : decode cX8_write 51 = .ok (.invokevirtual 143, 3) := by decide +kernel
theorem dX8_write_54 : decode cX8_write 54 = .ok (.pop, 1) := by decide +kernel
theorem dX8_write_55 : decode cX8_write 55 = .ok (.aload_n 0, 1) := by decide +kernel
theorem dX8_write_56 : decode cX8_write 56 = .ok (.getfield 26, 3) := by decide +kernel
theorem dX8_write_59 : decode cX8_write 59 = .ok (.iload_n 2, 1) := by decide +kernel
theorem dX8_write_60 : decode cX8_write 60 = .ok (.iload_n 3, 1) := by decide +kernel
theorem dX8_write_61 : decode cX8_write 61 = .ok (.invokevirtual 159, 3) := by decide +kernel
theorem dX8_write_64 : decode cX8_write 64 = .ok (.aload_n 0, 1) := by decide +kernel
theorem dX8_write_65 : decode cX8_write 65 = .ok (.getfield 26, 3) := by decide +kernel
theorem dX8_write_68 : decode cX8_write 68 = .ok (.getfield 147, 3) := by decide +kernel
theorem dX8_write_71 : decode cX8_write 71 = .ok (.getfield 156, 3) := by decide +kernel
theorem dX8_write_74 : decode cX8_write 74 = .ok (.iload 4, 2) := by decide +kernel
theorem dX8_write_76 : decode cX8_write 76 = .ok (.isub, 1) := by decide +kernel
theorem dX8_write_77 : decode cX8_write 77 = .ok (.ireturn, 1) := by decide +kernel
theorem dX8_flush_0 : decode cX8_flush 0 = .ok (.iload_n 1, 1) := by decide +kernel
theorem dX8_flush_1 : decode cX8_flush 1 = .ok (.iconst 1, 1) := by decide +kernel
theorem dX8_flush_2 : decode cX8_flush 2 = .ok (.bipush 40, 2) := by decide +kernel
theorem dX8_flush_4 : decode cX8_flush 4 = .ok (.invokestatic 59, 3) := by decide +kernel
theorem dX8_flush_7 : decode cX8_flush 7 = .ok (.aload_n 0, 1) := by decide +kernel
theorem dX8_flush_8 : decode cX8_flush 8 = .ok (.getfield 36, 3) := by decide +kernel
theorem dX8_flush_11 : decode cX8_flush 11 = .ok (.aload_n 0, 1) := by decide +kernel
theorem dX8_flush_12 : decode cX8_flush 12 = .ok (.getfield 26, 3) := by decide +kernel
theorem dX8_flush_15 : decode cX8_flush 15 = .ok (.invokevirtual 67, 3) := by decide +kernel
theorem dX8_flush_18 : decode cX8_flush 18 = .ok (.aload_n 0, 1) := by decide +kernel
theorem dX8_flush_19 : decode cX8_flush 19 = .ok (.getfield 26, 3) := by decide +kernel
theorem dX8_flush_22 : decode cX8_flush 22 = .ok (.getfield 147, 3) := by decide +kernel
theorem dX8_flush_25 : decode cX8_flush 25 = .ok (.iload_n 1, 1) := by decide +kernel
theorem dX8_flush_26 : decode cX8_flush 26 = .ok (.invokevirtual 162, 3) := by decide +kernel
theorem dX8_flush_29 : decode cX8_flush 29 = .ok (.ireturn, 1) := by decide +kernel
theorem dX8_forget_0 : decode cX8_forget 0 = .ok (.iload_n 1, 1) := by decide +kernel
theorem dX8_forget_1 : decode cX8_forget 1 = .ok (.iconst 0, 1) := by decide +kernel
theorem dX8_forget_2 : decode cX8_forget 2 = .ok (.sipush 199, 3) := by decide +kernel
theorem dX8_forget_5 : decode cX8_forget 5 = .ok (.invokestatic 59, 3) := by decide +kernel
theorem dX8_forget_8 : decode cX8_forget 8 = .ok (.aload_n 0, 1) := by decide +kernel
theorem dX8_forget_9 : decode cX8_forget 9 = .ok (.getfield 36, 3) := by decide +kernel
theorem dX8_forget_12 : decode cX8_forget 12 = .ok (.aload_n 0, 1) := by decide +kernel
theorem dX8_forget_13 : decode cX8_forget 13 = .ok (.getfield 26, 3) := by decide +kernel
theorem dX8_forget_16 : decode cX8_forget 16 = .ok (.invokevirtual 67, 3) := by decide +kernel
theorem dX8_forget_19 : decode cX8_forget 19 = .ok (.aload_n 0, 1) := by decide +kernel
theorem dX8_forget_20 : decode cX8_forget 20 = .ok (.getfield 26, 3) := by decide +kernel
theorem dX8_forget_23 : decode cX8_forget 23 = .ok (.iload_n 1, 1) := by decide +kernel
theorem dX8_forget_24 : decode cX8_forget 24 = .ok (.invokevirtual 165, 3) := by decide +kernel
theorem dX8_forget_27 : decode cX8_forget 27 = .ok (.ireturn, 1) := by decide +kernel
theorem dX8_order_0 : decode cX8_order 0 = .ok (.iload_n 1, 1) := by decide +kernel
theorem dX8_order_1 : decode cX8_order 1 = .ok (.invokestatic 131, 3) := by decide +kernel
theorem dX8_order_4 : decode cX8_order 4 = .ok (.aload_n 0, 1) := by decide +kernel
theorem dX8_order_5 : decode cX8_order 5 = .ok (.getfield 26, 3) := by decide +kernel
theorem dX8_order_8 : decode cX8_order 8 = .ok (.getfield 147, 3) := by decide +kernel
theorem dX8_order_11 : decode cX8_order 11 = .ok (.iload_n 1, 1) := by decide +kernel
theorem dX8_order_12 : decode cX8_order 12 = .ok (.invokevirtual 181, 3) := by decide +kernel
theorem dX8_order_15 : decode cX8_order 15 = .ok (.ireturn, 1) := by decide +kernel
theorem dX8_oldest_0 : decode cX8_oldest 0 = .ok (.aload_n 0, 1) := by decide +kernel
theorem dX8_oldest_1 : decode cX8_oldest 1 = .ok (.getfield 26, 3) := by decide +kernel
theorem dX8_oldest_4 : decode cX8_oldest 4 = .ok (.getfield 147, 3) := by decide +kernel
theorem dX8_oldest_7 : decode cX8_oldest 7 = .ok (.invokevirtual 191, 3) := by decide +kernel
theorem dX8_oldest_10 : decode cX8_oldest 10 = .ok (.ireturn, 1) := by decide +kernel
theorem dX8_ownedAt_0 : decode cX8_ownedAt 0 = .ok (.aload_n 0, 1) := by decide +kernel
theorem dX8_ownedAt_1 : decode cX8_ownedAt 1 = .ok (.iload_n 1, 1) := by decide +kernel
theorem dX8_ownedAt_2 : decode cX8_ownedAt 2 = .ok (.invokevirtual 102, 3) := by decide +kernel
theorem dX8_ownedAt_5 : decode cX8_ownedAt 5 = .ok (.iload_n 2, 1) := by decide +kernel
theorem dX8_ownedAt_6 : decode cX8_ownedAt 6 = .ok (.iconst 3, 1) := by decide +kernel
theorem dX8_ownedAt_7 : decode cX8_ownedAt 7 = .ok (.invokestatic 127, 3) := by decide +kernel
theorem dX8_ownedAt_10 : decode cX8_ownedAt 10 = .ok (.iload_n 3, 1) := by decide +kernel
theorem dX8_ownedAt_11 : decode cX8_ownedAt 11 = .ok (.invokestatic 131, 3) := by decide +kernel
theorem dX8_ownedAt_14 : decode cX8_ownedAt 14 = .ok (.aload_n 0, 1) := by decide +kernel
theorem dX8_ownedAt_15 : decode cX8_ownedAt 15 = .ok (.getfield 26, 3) := by decide +kernel
theorem dX8_ownedAt_18 : decode cX8_ownedAt 18 = .ok (.iload_n 1, 1) := by decide +kernel
theorem dX8_ownedAt_19 : decode cX8_ownedAt 19 = .ok (.iload_n 2, 1) := by decide +kernel
theorem dX8_ownedAt_20 : decode cX8_ownedAt 20 = .ok (.iload_n 3, 1) := by decide +kernel
theorem dX8_ownedAt_21 : decode cX8_ownedAt 21 = .ok (.invokevirtual 197, 3) := by decide +kernel
theorem dX8_ownedAt_24 : decode cX8_ownedAt 24 = .ok (.ireturn, 1) := by decide +kernel
theorem dX8_excess_0 : decode cX8_excess 0 = .ok (.aload_n 0, 1) := by decide +kernel
theorem dX8_excess_1 : decode cX8_excess 1 = .ok (.iload_n 1, 1) := by decide +kernel
theorem dX8_excess_2 : decode cX8_excess 2 = .ok (.invokevirtual 102, 3) := by decide +kernel
theorem dX8_excess_5 : decode cX8_excess 5 = .ok (.aload_n 0, 1) := by decide +kernel
theorem dX8_excess_6 : decode cX8_excess 6 = .ok (.getfield 26, 3) := by decide +kernel
theorem dX8_excess_9 : decode cX8_excess 9 = .ok (.invokevirtual 168, 3) := by decide +kernel
theorem dX8_excess_12 : decode cX8_excess 12 = .ok (.istore_n 2, 1) := by decide +kernel
theorem dX8_excess_13 : decode cX8_excess 13 = .ok (.aload_n 0, 1) := by decide +kernel
theorem dX8_excess_14 : decode cX8_excess 14 = .ok (.getfield 26, 3) := by decide +kernel
theorem dX8_excess_17 : decode cX8_excess 17 = .ok (.iload_n 1, 1) := by decide +kernel
theorem dX8_excess_18 : decode cX8_excess 18 = .ok (.aload_n 0, 1) := by decide +kernel
theorem dX8_excess_19 : decode cX8_excess 19 = .ok (.getfield 26, 3) := by decide +kernel
theorem dX8_excess_22 : decode cX8_excess 22 = .ok (.iload_n 1, 1) := by decide +kernel
theorem dX8_excess_23 : decode cX8_excess 23 = .ok (.invokevirtual 201, 3) := by decide +kernel
theorem dX8_excess_26 : decode cX8_excess 26 = .ok (.iload_n 2, 1) := by decide +kernel
theorem dX8_excess_27 : decode cX8_excess 27 = .ok (.invokevirtual 204, 3) := by decide +kernel
theorem dX8_excess_30 : decode cX8_excess 30 = .ok (.istore_n 3, 1) := by decide +kernel
theorem dX8_excess_31 : decode cX8_excess 31 = .ok (.iload_n 2, 1) := by decide +kernel
theorem dX8_excess_32 : decode cX8_excess 32 = .ok (.ifCond .ne 7, 3) := by decide +kernel
theorem dX8_excess_35 : decode cX8_excess 35 = .ok (.fconst 0, 1) := by decide +kernel
theorem dX8_excess_36 : decode cX8_excess 36 = .ok (.goto 8, 3) := by decide +kernel
theorem dX8_excess_39 : decode cX8_excess 39 = .ok (.iload_n 3, 1) := by decide +kernel
theorem dX8_excess_40 : decode cX8_excess 40 = .ok (.i2f, 1) := by decide +kernel
theorem dX8_excess_41 : decode cX8_excess 41 = .ok (.iload_n 2, 1) := by decide +kernel
theorem dX8_excess_42 : decode cX8_excess 42 = .ok (.i2f, 1) := by decide +kernel
theorem dX8_excess_43 : decode cX8_excess 43 = .ok (.fdiv, 1) := by decide +kernel
theorem dX8_excess_44 : decode cX8_excess 44 = .ok (.freturn, 1) := by decide +kernel
theorem dX8_toScan_0 : decode cX8_toScan 0 = .ok (.aload_n 0, 1) := by decide +kernel
theorem dX8_toScan_1 : decode cX8_toScan 1 = .ok (.iload_n 1, 1) := by decide +kernel
theorem dX8_toScan_2 : decode cX8_toScan 2 = .ok (.invokevirtual 102, 3) := by decide +kernel
theorem dX8_toScan_5 : decode cX8_toScan 5 = .ok (.iload_n 2, 1) := by decide +kernel
theorem dX8_toScan_6 : decode cX8_toScan 6 = .ok (.iconst 0, 1) := by decide +kernel
theorem dX8_toScan_7 : decode cX8_toScan 7 = .ok (.sipush 199, 3) := by decide +kernel
theorem dX8_toScan_10 : decode cX8_toScan 10 = .ok (.invokestatic 59, 3) := by decide +kernel
theorem dX8_toScan_13 : decode cX8_toScan 13 = .ok (.iconst 1, 1) := by decide +kernel
theorem dX8_toScan_14 : decode cX8_toScan 14 = .ok (.aload_n 0, 1) := by decide +kernel
theorem dX8_toScan_15 : decode cX8_toScan 15 = .ok (.getfield 26, 3) := by decide +kernel
theorem dX8_toScan_18 : decode cX8_toScan 18 = .ok (.getfield 207, 3) := by decide +kernel
theorem dX8_toScan_21 : decode cX8_toScan 21 = .ok (.aload_n 0, 1) := by decide +kernel
theorem dX8_toScan_22 : decode cX8_toScan 22 = .ok (.getfield 26, 3) := by decide +kernel
theorem dX8_toScan_25 : decode cX8_toScan 25 = .ok (.iload_n 1, 1) := by decide +kernel
theorem dX8_toScan_26 : decode cX8_toScan 26 = .ok (.iload_n 2, 1) := by decide +kernel
theorem dX8_toScan_27 : decode cX8_toScan 27 = .ok (.invokevirtual 210, 3) := by decide +kernel
theorem dX8_toScan_30 : decode cX8_toScan 30 = .ok (.isub, 1) := by decide +kernel
theorem dX8_toScan_31 : decode cX8_toScan 31 = .ok (.iconst 1, 1) := by decide +kernel
theorem dX8_toScan_32 : decode cX8_toScan 32 = .ok (.iadd, 1) := by decide +kernel
theorem dX8_toScan_33 : decode cX8_toScan 33 = .ok (.invokestatic 213, 3) := by decide +kernel
theorem dX8_toScan_36 : decode cX8_toScan 36 = .ok (.istore_n 3, 1) := by decide +kernel
theorem dX8_toScan_37 : decode cX8_toScan 37 = .ok (.iload_n 2, 1) := by decide +kernel
theorem dX8_toScan_38 : decode cX8_toScan 38 = .ok (.iload_n 3, 1) := by decide +kernel
theorem dX8_toScan_39 : decode cX8_toScan 39 = .ok (.iadd, 1) := by decide +kernel
theorem dX8_toScan_40 : decode cX8_toScan 40 = .ok (.sipush 200, 3) := by decide +kernel
theorem dX8_toScan_43 : decode cX8_toScan 43 = .ok (.if_icmp .le 7, 3) := by decide +kernel
theorem dX8_toScan_46 : decode cX8_toScan 46 = .ok (.iconst (-1), 1) := by decide +kernel
theorem dX8_toScan_47 : decode cX8_toScan 47 = .ok (.goto 4, 3) := by decide +kernel
theorem dX8_toScan_50 : decode cX8_toScan 50 = .ok (.iload_n 3, 1) := by decide +kernel
theorem dX8_toScan_51 : decode cX8_toScan 51 = .ok (.ireturn, 1) := by decide +kernel
theorem dX8_rank_0 : decode cX8_rank 0 = .ok (.iload_n 1, 1) := by decide +kernel
theorem dX8_rank_1 : decode cX8_rank 1 = .ok (.iconst 0, 1) := by decide +kernel
theorem dX8_rank_2 : decode cX8_rank 2 = .ok (.sipush 199, 3) := by decide +kernel
theorem dX8_rank_5 : decode cX8_rank 5 = .ok (.invokestatic 59, 3) := by decide +kernel
theorem dX8_rank_8 : decode cX8_rank 8 = .ok (.aload_n 0, 1) := by decide +kernel
theorem dX8_rank_9 : decode cX8_rank 9 = .ok (.getfield 26, 3) := by decide +kernel
theorem dX8_rank_12 : decode cX8_rank 12 = .ok (.getfield 147, 3) := by decide +kernel
theorem dX8_rank_15 : decode cX8_rank 15 = .ok (.iload_n 1, 1) := by decide +kernel
theorem dX8_rank_16 : decode cX8_rank 16 = .ok (.invokevirtual 218, 3) := by decide +kernel
theorem dX8_rank_19 : decode cX8_rank 19 = .ok (.ireturn, 1) := by decide +kernel
theorem dX8_between_0 : decode cX8_between 0 = .ok (.iload_n 1, 1) := by decide +kernel
theorem dX8_between_1 : decode cX8_between 1 = .ok (.iconst 5, 1) := by decide +kernel
theorem dX8_between_2 : decode cX8_between 2 = .ok (.invokestatic 127, 3) := by decide +kernel
theorem dX8_between_5 : decode cX8_between 5 = .ok (.iload_n 2, 1) := by decide +kernel
theorem dX8_between_6 : decode cX8_between 6 = .ok (.iconst 0, 1) := by decide +kernel
theorem dX8_between_7 : decode cX8_between 7 = .ok (.sipush 199, 3) := by decide +kernel
theorem dX8_between_10 : decode cX8_between 10 = .ok (.invokestatic 59, 3) := by decide +kernel
theorem dX8_between_13 : decode cX8_between 13 = .ok (.iload_n 3, 1) := by decide +kernel
theorem dX8_between_14 : decode cX8_between 14 = .ok (.iload_n 2, 1) := by decide +kernel
theorem dX8_between_15 : decode cX8_between 15 = .ok (.sipush 199, 3) := by decide +kernel
theorem dX8_between_18 : decode cX8_between 18 = .ok (.invokestatic 59, 3) := by decide +kernel
theorem dX8_between_21 : decode cX8_between 21 = .ok (.aload_n 0, 1) := by decide +kernel
theorem dX8_between_22 : decode cX8_between 22 = .ok (.getfield 26, 3) := by decide +kernel
theorem dX8_between_25 : decode cX8_between 25 = .ok (.iload_n 1, 1) := by decide +kernel
theorem dX8_between_26 : decode cX8_between 26 = .ok (.invokevirtual 134, 3) := by decide +kernel
theorem dX8_between_29 : decode cX8_between 29 = .ok (.iload_n 2, 1) := by decide +kernel
theorem dX8_between_30 : decode cX8_between 30 = .ok (.iload_n 3, 1) := by decide +kernel
theorem dX8_between_31 : decode cX8_between 31 = .ok (.invokevirtual 221, 3) := by decide +kernel
theorem dX8_between_34 : decode cX8_between 34 = .ok (.ireturn, 1) := by decide +kernel
theorem dX8_longest_0 : decode cX8_longest 0 = .ok (.iload_n 1, 1) := by decide +kernel
theorem dX8_longest_1 : decode cX8_longest 1 = .ok (.iconst 5, 1) := by decide +kernel
theorem dX8_longest_2 : decode cX8_longest 2 = .ok (.invokestatic 127, 3) := by decide +kernel
theorem dX8_longest_5 : decode cX8_longest 5 = .ok (.aload_n 0, 1) := by decide +kernel
theorem dX8_longest_6 : decode cX8_longest 6 = .ok (.getfield 26, 3) := by decide +kernel
theorem dX8_longest_9 : decode cX8_longest 9 = .ok (.getfield 147, 3) := by decide +kernel
theorem dX8_longest_12 : decode cX8_longest 12 = .ok (.iload_n 1, 1) := by decide +kernel
theorem dX8_longest_13 : decode cX8_longest 13 = .ok (.invokevirtual 224, 3) := by decide +kernel
theorem dX8_longest_16 : decode cX8_longest 16 = .ok (.ireturn, 1) := by decide +kernel
theorem dX8_differing_0 : decode cX8_differing 0 = .ok (.aload_n 0, 1) := by decide +kernel
theorem dX8_differing_1 : decode cX8_differing 1 = .ok (.getfield 26, 3) := by decide +kernel
theorem dX8_differing_4 : decode cX8_differing 4 = .ok (.getfield 147, 3) := by decide +kernel
theorem dX8_differing_7 : decode cX8_differing 7 = .ok (.invokevirtual 227, 3) := by decide +kernel
theorem dX8_differing_10 : decode cX8_differing 10 = .ok (.ireturn, 1) := by decide +kernel
theorem dX8_stale_0 : decode cX8_stale 0 = .ok (.iload_n 1, 1) := by decide +kernel
theorem dX8_stale_1 : decode cX8_stale 1 = .ok (.ifCond .ge 13, 3) := by decide +kernel
theorem dX8_stale_4 : decode cX8_stale 4 = .ok (.new 230, 3) := by decide +kernel
theorem dX8_stale_7 : decode cX8_stale 7 = .ok (.dup, 1) := by decide +kernel
theorem dX8_stale_8 : decode cX8_stale 8 = .ok (.ldc 232, 2) := by decide +kernel
theorem dX8_stale_10 : decode cX8_stale 10 = .ok (.invokespecial 234, 3) := by decide +kernel
theorem dX8_stale_13 : decode cX8_stale 13 = .ok (.athrow, 1) := by decide +kernel
theorem dX8_stale_14 : decode cX8_stale 14 = .ok (.aload_n 0, 1) := by decide +kernel
theorem dX8_stale_15 : decode cX8_stale 15 = .ok (.getfield 26, 3) := by decide +kernel
theorem dX8_stale_18 : decode cX8_stale 18 = .ok (.getfield 147, 3) := by decide +kernel
theorem dX8_stale_21 : decode cX8_stale 21 = .ok (.aload_n 0, 1) := by decide +kernel
theorem dX8_stale_22 : decode cX8_stale 22 = .ok (.getfield 26, 3) := by decide +kernel
theorem dX8_stale_25 : decode cX8_stale 25 = .ok (.getfield 71, 3) := by decide +kernel
theorem dX8_stale_28 : decode cX8_stale 28 = .ok (.getfield 75, 3) := by decide +kernel
theorem dX8_stale_31 : decode cX8_stale 31 = .ok (.iload_n 1, 1) := by decide +kernel
theorem dX8_stale_32 : decode cX8_stale 32 = .ok (.isub, 1) := by decide +kernel
theorem dX8_stale_33 : decode cX8_stale 33 = .ok (.invokevirtual 235, 3) := by decide +kernel
theorem dX8_stale_36 : decode cX8_stale 36 = .ok (.ireturn, 1) := by decide +kernel
theorem dX8_wouldBe_0 : decode cX8_wouldBe 0 = .ok (.aload_n 0, 1) := by decide +kernel
theorem dX8_wouldBe_1 : decode cX8_wouldBe 1 = .ok (.iload_n 1, 1) := by decide +kernel
theorem dX8_wouldBe_2 : decode cX8_wouldBe 2 = .ok (.invokevirtual 102, 3) := by decide +kernel
theorem dX8_wouldBe_5 : decode cX8_wouldBe 5 = .ok (.iload_n 2, 1) := by decide +kernel
theorem dX8_wouldBe_6 : decode cX8_wouldBe 6 = .ok (.iconst 0, 1) := by decide +kernel
theorem dX8_wouldBe_7 : decode cX8_wouldBe 7 = .ok (.sipush 199, 3) := by decide +kernel
theorem dX8_wouldBe_10 : decode cX8_wouldBe 10 = .ok (.invokestatic 59, 3) := by decide +kernel
theorem dX8_wouldBe_13 : decode cX8_wouldBe 13 = .ok (.iload_n 3, 1) := by decide +kernel
theorem dX8_wouldBe_14 : decode cX8_wouldBe 14 = .ok (.iconst 0, 1) := by decide +kernel
theorem dX8_wouldBe_15 : decode cX8_wouldBe 15 = .ok (.bipush 6, 2) := by decide +kernel
theorem dX8_wouldBe_17 : decode cX8_wouldBe 17 = .ok (.invokestatic 59, 3) := by decide +kernel
theorem dX8_wouldBe_20 : decode cX8_wouldBe 20 = .ok (.aload_n 0, 1) := by decide +kernel
theorem dX8_wouldBe_21 : decode cX8_wouldBe 21 = .ok (.getfield 30, 3) := by decide +kernel
theorem dX8_wouldBe_24 : decode cX8_wouldBe 24 = .ok (.aload_n 0, 1) := by decide +kernel
theorem dX8_wouldBe_25 : decode cX8_wouldBe 25 = .ok (.getfield 26, 3) := by decide +kernel
theorem dX8_wouldBe_28 : decode cX8_wouldBe 28 = .ok (.invokevirtual 238, 3) := by decide +kernel
theorem dX8_wouldBe_31 : decode cX8_wouldBe 31 = .ok (.aload_n 0, 1) := by decide +kernel
theorem dX8_wouldBe_32 : decode cX8_wouldBe 32 = .ok (.getfield 30, 3) := by decide +kernel
theorem dX8_wouldBe_35 : decode cX8_wouldBe 35 = .ok (.iload_n 1, 1) := by decide +kernel
theorem dX8_wouldBe_36 : decode cX8_wouldBe 36 = .ok (.iload_n 2, 1) := by decide +kernel
theorem dX8_wouldBe_37 : decode cX8_wouldBe 37 = .ok (.iconst 0, 1) := by decide +kernel
theorem dX8_wouldBe_38 : decode cX8_wouldBe 38 = .ok (.invokevirtual 143, 3) := by decide +kernel
theorem dX8_wouldBe_41 : decode cX8_wouldBe 41 = .ok (.istore 4, 2) := by decide +kernel
theorem dX8_wouldBe_43 : decode cX8_wouldBe 43 = .ok (.aload_n 0, 1) := by decide +kernel
theorem dX8_wouldBe_44 : decode cX8_wouldBe 44 = .ok (.iload_n 2, 1) := by decide +kernel
theorem dX8_wouldBe_45 : decode cX8_wouldBe 45 = .ok (.iload 4, 2) := by decide +kernel
theorem dX8_wouldBe_47 : decode cX8_wouldBe 47 = .ok (.iload_n 3, 1) := by decide +kernel
theorem dX8_wouldBe_48 : decode cX8_wouldBe 48 = .ok (.invokevirtual 241, 3) := by decide +kernel
theorem dX8_wouldBe_51 : decode cX8_wouldBe 51 = .ok (.ireturn, 1) := by decide +kernel
theorem dX8_ahead_0 : decode cX8_ahead 0 = .ok (.aload_n 0, 1) := by decide +kernel
theorem dX8_ahead_1 : decode cX8_ahead 1 = .ok (.iload_n 1, 1) := by decide +kernel
theorem dX8_ahead_2 : decode cX8_ahead 2 = .ok (.iload_n 2, 1) := by decide +kernel
theorem dX8_ahead_3 : decode cX8_ahead 3 = .ok (.iload_n 3, 1) := by decide +kernel
theorem dX8_ahead_4 : decode cX8_ahead 4 = .ok (.iload 4, 2) := by decide +kernel
theorem dX8_ahead_6 : decode cX8_ahead 6 = .ok (.invokevirtual 244, 3) := by decide +kernel
theorem dX8_ahead_9 : decode cX8_ahead 9 = .ok (.iload 5, 2) := by decide +kernel
theorem dX8_ahead_11 : decode cX8_ahead 11 = .ok (.iconst 0, 1) := by decide +kernel
theorem dX8_ahead_12 : decode cX8_ahead 12 = .ok (.bipush 6, 2) := by decide +kernel
theorem dX8_ahead_14 : decode cX8_ahead 14 = .ok (.invokestatic 59, 3) := by decide +kernel
theorem dX8_ahead_17 : decode cX8_ahead 17 = .ok (.aload_n 0, 1) := by decide +kernel
theorem dX8_ahead_18 : decode cX8_ahead 18 = .ok (.iload_n 1, 1) := by decide +kernel
theorem dX8_ahead_19 : decode cX8_ahead 19 = .ok (.iload_n 2, 1) := by decide +kernel
theorem dX8_ahead_20 : decode cX8_ahead 20 = .ok (.iload_n 3, 1) := by decide +kernel
theorem dX8_ahead_21 : decode cX8_ahead 21 = .ok (.iload 4, 2) := by decide +kernel
theorem dX8_ahead_23 : decode cX8_ahead 23 = .ok (.aload_n 0, 1) := by decide +kernel
theorem dX8_ahead_24 : decode cX8_ahead 24 = .ok (.getfield 26, 3) := by decide +kernel
theorem dX8_ahead_27 : decode cX8_ahead 27 = .ok (.getfield 207, 3) := by decide +kernel
theorem dX8_ahead_30 : decode cX8_ahead 30 = .ok (.invokevirtual 248, 3) := by decide +kernel
theorem dX8_ahead_33 : decode cX8_ahead 33 = .ok (.aload_n 0, 1) := by decide +kernel
theorem dX8_ahead_34 : decode cX8_ahead 34 = .ok (.iload 5, 2) := by decide +kernel
theorem dX8_ahead_36 : decode cX8_ahead 36 = .ok (.invokevirtual 252, 3) := by decide +kernel
theorem dX8_ahead_39 : decode cX8_ahead 39 = .ok (.ireturn, 1) := by decide +kernel
theorem dX8_bestLength_0 : decode cX8_bestLength 0 = .ok (.aload_n 0, 1) := by decide +kernel
theorem dX8_bestLength_1 : decode cX8_bestLength 1 = .ok (.iload_n 1, 1) := by decide +kernel
theorem dX8_bestLength_2 : decode cX8_bestLength 2 = .ok (.iload_n 2, 1) := by decide +kernel
theorem dX8_bestLength_3 : decode cX8_bestLength 3 = .ok (.iload_n 3, 1) := by decide +kernel
theorem dX8_bestLength_4 : decode cX8_bestLength 4 = .ok (.iload 4, 2) := by decide +kernel
theorem dX8_bestLength_6 : decode cX8_bestLength 6 = .ok (.invokevirtual 244, 3) := by decide +kernel
theorem dX8_bestLength_9 : decode cX8_bestLength 9 = .ok (.iconst (-1), 1) := by decide +kernel
theorem dX8_bestLength_10 : decode cX8_bestLength 10 = .ok (.istore 5, 2) := by decide +kernel
theorem dX8_bestLength_12 : decode cX8_bestLength 12 = .ok (.iconst (-1), 1) := by decide +kernel
theorem dX8_bestLength_13 : decode cX8_bestLength 13 = .ok (.istore 6, 2) := by decide +kernel
theorem dX8_bestLength_15 : decode cX8_bestLength 15 = .ok (.iconst 2, 1) := by decide +kernel
theorem dX8_bestLength_16 : decode cX8_bestLength 16 = .ok (.istore 7, 2) := by decide +kernel
theorem dX8_bestLength_18 : decode cX8_bestLength 18 = .ok (.iload 7, 2) := by decide +kernel
theorem dX8_bestLength_20 : decode cX8_bestLength 20 = .ok (.bipush 20, 2) := by decide +kernel
theorem dX8_bestLength_22 : decode cX8_bestLength 22 = .ok (.if_icmp .gt 48, 3) := by decide +kernel
theorem dX8_bestLength_25 : decode cX8_bestLength 25 = .ok (.aload_n 0, 1) := by decide +kernel
theorem dX8_bestLength_26 : decode cX8_bestLength 26 = .ok (.iload_n 1, 1) := by decide +kernel
theorem dX8_bestLength_27 : decode cX8_bestLength 27 = .ok (.iload_n 2, 1) := by decide +kernel
theorem dX8_bestLength_28 : decode cX8_bestLength 28 = .ok (.iload_n 3, 1) := by decide +kernel
theorem dX8_bestLength_29 : decode cX8_bestLength 29 = .ok (.iload 4, 2) := by decide +kernel
theorem dX8_bestLength_31 : decode cX8_bestLength 31 = .ok (.iload 7, 2) := by decide +kernel
theorem dX8_bestLength_33 : decode cX8_bestLength 33 = .ok (.invokevirtual 248, 3) := by decide +kernel
theorem dX8_bestLength_36 : decode cX8_bestLength 36 = .ok (.aload_n 0, 1) := by decide +kernel
theorem dX8_bestLength_37 : decode cX8_bestLength 37 = .ok (.iconst 0, 1) := by decide +kernel
theorem dX8_bestLength_38 : decode cX8_bestLength 38 = .ok (.invokevirtual 252, 3) := by decide +kernel
theorem dX8_bestLength_41 : decode cX8_bestLength 41 = .ok (.aload_n 0, 1) := by decide +kernel
theorem dX8_bestLength_42 : decode cX8_bestLength 42 = .ok (.iconst 1, 1) := by decide +kernel
theorem dX8_bestLength_43 : decode cX8_bestLength 43 = .ok (.invokevirtual 252, 3) := by decide +kernel
theorem dX8_bestLength_46 : decode cX8_bestLength 46 = .ok (.iadd, 1) := by decide +kernel
theorem dX8_bestLength_47 : decode cX8_bestLength 47 = .ok (.istore 8, 2) := by decide +kernel
theorem dX8_bestLength_49 : decode cX8_bestLength 49 = .ok (.iload 8, 2) := by decide +kernel
theorem dX8_bestLength_51 : decode cX8_bestLength 51 = .ok (.iload 6, 2) := by decide +kernel
theorem dX8_bestLength_53 : decode cX8_bestLength 53 = .ok (.if_icmp .le 11, 3) := by decide +kernel
theorem dX8_bestLength_56 : decode cX8_bestLength 56 = .ok (.iload 8, 2) := by decide +kernel
theorem dX8_bestLength_58 : decode cX8_bestLength 58 = .ok (.istore 6, 2) := by decide +kernel
theorem dX8_bestLength_60 : decode cX8_bestLength 60 = .ok (.iload 7, 2) := by decide +kernel
theorem dX8_bestLength_62 : decode cX8_bestLength 62 = .ok (.istore 5, 2) := by decide +kernel
theorem dX8_bestLength_64 : decode cX8_bestLength 64 = .ok (.iinc 7 1, 3) := by decide +kernel
theorem dX8_bestLength_67 : decode cX8_bestLength 67 = .ok (.goto (-49), 3) := by decide +kernel
theorem dX8_bestLength_70 : decode cX8_bestLength 70 = .ok (.iload 5, 2) := by decide +kernel
theorem dX8_bestLength_72 : decode cX8_bestLength 72 = .ok (.ireturn, 1) := by decide +kernel
theorem dX8_undo_0 : decode cX8_undo 0 = .ok (.aload_n 0, 1) := by decide +kernel
theorem dX8_undo_1 : decode cX8_undo 1 = .ok (.getfield 36, 3) := by decide +kernel
theorem dX8_undo_4 : decode cX8_undo 4 = .ok (.aload_n 0, 1) := by decide +kernel
theorem dX8_undo_5 : decode cX8_undo 5 = .ok (.getfield 26, 3) := by decide +kernel
theorem dX8_undo_8 : decode cX8_undo 8 = .ok (.invokevirtual 267, 3) := by decide +kernel
theorem dX8_undo_11 : decode cX8_undo 11 = .ok (.ifCond .eq 13, 3) := by decide +kernel
theorem dX8_undo_14 : decode cX8_undo 14 = .ok (.aload_n 0, 1) := by decide +kernel
theorem dX8_undo_15 : decode cX8_undo 15 = .ok (.getfield 36, 3) := by decide +kernel
theorem dX8_undo_18 : decode cX8_undo 18 = .ok (.getfield 115, 3) := by decide +kernel
theorem dX8_undo_21 : decode cX8_undo 21 = .ok (.goto 4, 3) := by decide +kernel
theorem dX8_undo_24 : decode cX8_undo 24 = .ok (.iconst (-1), 1) := by decide +kernel
theorem dX8_undo_25 : decode cX8_undo 25 = .ok (.ireturn, 1) := by decide +kernel
theorem dX8_save_0 : decode cX8_save 0 = .ok (.iload_n 1, 1) := by decide +kernel
theorem dX8_save_1 : decode cX8_save 1 = .ok (.ifCond .lt 12, 3) := by decide +kernel
theorem dX8_save_4 : decode cX8_save 4 = .ok (.iload_n 1, 1) := by decide +kernel
theorem dX8_save_5 : decode cX8_save 5 = .ok (.aload_n 0, 1) := by decide +kernel
theorem dX8_save_6 : decode cX8_save 6 = .ok (.getfield 40, 3) := by decide +kernel
theorem dX8_save_9 : decode cX8_save 9 = .ok (.arraylength, 1) := by decide +kernel
theorem dX8_save_10 : decode cX8_save 10 = .ok (.if_icmp .lt 14, 3) := by decide +kernel
theorem dX8_save_13 : decode cX8_save 13 = .ok (.new 230, 3) := by decide +kernel
theorem dX8_save_16 : decode cX8_save 16 = .ok (.dup, 1) := by decide +kernel
theorem dX8_save_17 : decode cX8_save 17 = .ok (.ldc_w 271, 3) := by decide +kernel
theorem dX8_save_20 : decode cX8_save 20 = .ok (.invokespecial 234, 3) := by decide +kernel
theorem dX8_save_23 : decode cX8_save 23 = .ok (.athrow, 1) := by decide +kernel
theorem dX8_save_24 : decode cX8_save 24 = .ok (.aload_n 0, 1) := by decide +kernel
theorem dX8_save_25 : decode cX8_save 25 = .ok (.getfield 40, 3) := by decide +kernel
theorem dX8_save_28 : decode cX8_save 28 = .ok (.iload_n 1, 1) := by decide +kernel
theorem dX8_save_29 : decode cX8_save 29 = .ok (.aaload, 1) := by decide +kernel
theorem dX8_save_30 : decode cX8_save 30 = .ok (.astore_n 2, 1) := by decide +kernel
theorem dX8_save_31 : decode cX8_save 31 = .ok (.aload_n 2, 1) := by decide +kernel
theorem dX8_save_32 : decode cX8_save 32 = .ok (.ifnonnull 18, 3) := by decide +kernel
theorem dX8_save_35 : decode cX8_save 35 = .ok (.new 23, 3) := by decide +kernel
theorem dX8_save_38 : decode cX8_save 38 = .ok (.dup, 1) := by decide +kernel
theorem dX8_save_39 : decode cX8_save 39 = .ok (.invokespecial 25, 3) := by decide +kernel
theorem dX8_save_42 : decode cX8_save 42 = .ok (.astore_n 2, 1) := by decide +kernel
theorem dX8_save_43 : decode cX8_save 43 = .ok (.aload_n 0, 1) := by decide +kernel
theorem dX8_save_44 : decode cX8_save 44 = .ok (.getfield 40, 3) := by decide +kernel
theorem dX8_save_47 : decode cX8_save 47 = .ok (.iload_n 1, 1) := by decide +kernel
theorem dX8_save_48 : decode cX8_save 48 = .ok (.aload_n 2, 1) := by decide +kernel
theorem dX8_save_49 : decode cX8_save 49 = .ok (.aastore, 1) := by decide +kernel
theorem dX8_save_50 : decode cX8_save 50 = .ok (.aload_n 2, 1) := by decide +kernel
theorem dX8_save_51 : decode cX8_save 51 = .ok (.aload_n 0, 1) := by decide +kernel
theorem dX8_save_52 : decode cX8_save 52 = .ok (.getfield 26, 3) := by decide +kernel
theorem dX8_save_55 : decode cX8_save 55 = .ok (.invokevirtual 238, 3) := by decide +kernel
theorem dX8_save_58 : decode cX8_save 58 = .ok (.return_, 1) := by decide +kernel
theorem dX8_restore_0 : decode cX8_restore 0 = .ok (.iload_n 1, 1) := by decide +kernel
theorem dX8_restore_1 : decode cX8_restore 1 = .ok (.ifCond .lt 12, 3) := by decide +kernel
theorem dX8_restore_4 : decode cX8_restore 4 = .ok (.iload_n 1, 1) := by decide +kernel
theorem dX8_restore_5 : decode cX8_restore 5 = .ok (.aload_n 0, 1) := by decide +kernel
theorem dX8_restore_6 : decode cX8_restore 6 = .ok (.getfield 40, 3) := by decide +kernel
theorem dX8_restore_9 : decode cX8_restore 9 = .ok (.arraylength, 1) := by decide +kernel
theorem dX8_restore_10 : decode cX8_restore 10 = .ok (.if_icmp .lt 14, 3) := by decide +kernel
theorem dX8_restore_13 : decode cX8_restore 13 = .ok (.new 230, 3) := by decide +kernel
theorem dX8_restore_16 : decode cX8_restore 16 = .ok (.dup, 1) := by decide +kernel
theorem dX8_restore_17 : decode cX8_restore 17 = .ok (.ldc_w 271, 3) := by decide +kernel
theorem dX8_restore_20 : decode cX8_restore 20 = .ok (.invokespecial 234, 3) := by decide +kernel
theorem dX8_restore_23 : decode cX8_restore 23 = .ok (.athrow, 1) := by decide +kernel
theorem dX8_restore_24 : decode cX8_restore 24 = .ok (.aload_n 0, 1) := by decide +kernel
theorem dX8_restore_25 : decode cX8_restore 25 = .ok (.getfield 40, 3) := by decide +kernel
theorem dX8_restore_28 : decode cX8_restore 28 = .ok (.iload_n 1, 1) := by decide +kernel
theorem dX8_restore_29 : decode cX8_restore 29 = .ok (.aaload, 1) := by decide +kernel
theorem dX8_restore_30 : decode cX8_restore 30 = .ok (.astore_n 2, 1) := by decide +kernel
theorem dX8_restore_31 : decode cX8_restore 31 = .ok (.aload_n 2, 1) := by decide +kernel
theorem dX8_restore_32 : decode cX8_restore 32 = .ok (.ifnonnull 14, 3) := by decide +kernel
theorem dX8_restore_35 : decode cX8_restore 35 = .ok (.new 48, 3) := by decide +kernel
theorem dX8_restore_38 : decode cX8_restore 38 = .ok (.dup, 1) := by decide +kernel
theorem dX8_restore_39 : decode cX8_restore 39 = .ok (.ldc_w 273, 3) := by decide +kernel
theorem dX8_restore_42 : decode cX8_restore 42 = .ok (.invokespecial 52, 3) := by decide +kernel
theorem dX8_restore_45 : decode cX8_restore 45 = .ok (.athrow, 1) := by decide +kernel
theorem dX8_restore_46 : decode cX8_restore 46 = .ok (.aload_n 0, 1) := by decide +kernel
theorem dX8_restore_47 : decode cX8_restore 47 = .ok (.getfield 26, 3) := by decide +kernel
theorem dX8_restore_50 : decode cX8_restore 50 = .ok (.aload_n 2, 1) := by decide +kernel
theorem dX8_restore_51 : decode cX8_restore 51 = .ok (.invokevirtual 238, 3) := by decide +kernel
theorem dX8_restore_54 : decode cX8_restore 54 = .ok (.aload_n 0, 1) := by decide +kernel
theorem dX8_restore_55 : decode cX8_restore 55 = .ok (.getfield 36, 3) := by decide +kernel
theorem dX8_restore_58 : decode cX8_restore 58 = .ok (.iconst 0, 1) := by decide +kernel
theorem dX8_restore_59 : decode cX8_restore 59 = .ok (.putfield 115, 3) := by decide +kernel
theorem dX8_restore_62 : decode cX8_restore 62 = .ok (.return_, 1) := by decide +kernel
theorem dX8_needClient_0 : decode cX8_needClient 0 = .ok (.iload_n 1, 1) := by decide +kernel
theorem dX8_needClient_1 : decode cX8_needClient 1 = .ok (.aload_n 0, 1) := by decide +kernel
theorem dX8_needClient_2 : decode cX8_needClient 2 = .ok (.getfield 26, 3) := by decide +kernel
theorem dX8_needClient_5 : decode cX8_needClient 5 = .ok (.getfield 93, 3) := by decide +kernel
theorem dX8_needClient_8 : decode cX8_needClient 8 = .ok (.invokestatic 127, 3) := by decide +kernel
theorem dX8_needClient_11 : decode cX8_needClient 11 = .ok (.return_, 1) := by decide +kernel
theorem dX8_needIndex_0 : decode cX8_needIndex 0 = .ok (.iload_n 0, 1) := by decide +kernel
theorem dX8_needIndex_1 : decode cX8_needIndex 1 = .ok (.ifCond .lt 8, 3) := by decide +kernel
theorem dX8_needIndex_4 : decode cX8_needIndex 4 = .ok (.iload_n 0, 1) := by decide +kernel
theorem dX8_needIndex_5 : decode cX8_needIndex 5 = .ok (.iload_n 1, 1) := by decide +kernel
theorem dX8_needIndex_6 : decode cX8_needIndex 6 = .ok (.if_icmp .lt 14, 3) := by decide +kernel
theorem dX8_needIndex_9 : decode cX8_needIndex 9 = .ok (.new 275, 3) := by decide +kernel
theorem dX8_needIndex_12 : decode cX8_needIndex 12 = .ok (.dup, 1) := by decide +kernel
theorem dX8_needIndex_13 : decode cX8_needIndex 13 = .ok (.ldc_w 277, 3) := by decide +kernel
theorem dX8_needIndex_16 : decode cX8_needIndex 16 = .ok (.invokespecial 279, 3) := by decide +kernel
theorem dX8_needIndex_19 : decode cX8_needIndex 19 = .ok (.athrow, 1) := by decide +kernel
theorem dX8_needIndex_20 : decode cX8_needIndex 20 = .ok (.return_, 1) := by decide +kernel
theorem dX8_needNoLessThanZero_0 : decode cX8_needNoLessThanZero 0 = .ok (.iload_n 0, 1) := by decide +kernel
theorem dX8_needNoLessThanZero_1 : decode cX8_needNoLessThanZero 1 = .ok (.ifCond .ge 13, 3) := by decide +kernel
theorem dX8_needNoLessThanZero_4 : decode cX8_needNoLessThanZero 4 = .ok (.new 275, 3) := by decide +kernel
theorem dX8_needNoLessThanZero_7 : decode cX8_needNoLessThanZero 7 = .ok (.dup, 1) := by decide +kernel
theorem dX8_needNoLessThanZero_8 : decode cX8_needNoLessThanZero 8 = .ok (.ldc 232, 2) := by decide +kernel
theorem dX8_needNoLessThanZero_10 : decode cX8_needNoLessThanZero 10 = .ok (.invokespecial 279, 3) := by decide +kernel
theorem dX8_needNoLessThanZero_13 : decode cX8_needNoLessThanZero 13 = .ok (.athrow, 1) := by decide +kernel
theorem dX8_needNoLessThanZero_14 : decode cX8_needNoLessThanZero 14 = .ok (.return_, 1) := by decide +kernel
theorem dX8_needRange_0 : decode cX8_needRange 0 = .ok (.iload_n 0, 1) := by decide +kernel
theorem dX8_needRange_1 : decode cX8_needRange 1 = .ok (.iload_n 1, 1) := by decide +kernel
theorem dX8_needRange_2 : decode cX8_needRange 2 = .ok (.if_icmp .lt 8, 3) := by decide +kernel
theorem dX8_needRange_5 : decode cX8_needRange 5 = .ok (.iload_n 0, 1) := by decide +kernel
theorem dX8_needRange_6 : decode cX8_needRange 6 = .ok (.iload_n 2, 1) := by decide +kernel
theorem dX8_needRange_7 : decode cX8_needRange 7 = .ok (.if_icmp .le 14, 3) := by decide +kernel
theorem dX8_needRange_10 : decode cX8_needRange 10 = .ok (.new 230, 3) := by decide +kernel
theorem dX8_needRange_13 : decode cX8_needRange 13 = .ok (.dup, 1) := by decide +kernel
theorem dX8_needRange_14 : decode cX8_needRange 14 = .ok (.ldc_w 280, 3) := by decide +kernel
theorem dX8_needRange_17 : decode cX8_needRange 17 = .ok (.invokespecial 234, 3) := by decide +kernel
theorem dX8_needRange_20 : decode cX8_needRange 20 = .ok (.athrow, 1) := by decide +kernel
theorem dX8_needRange_21 : decode cX8_needRange 21 = .ok (.return_, 1) := by decide +kernel
theorem dX8_needReadsAhead_0 : decode cX8_needReadsAhead 0 = .ok (.aload_n 0, 1) := by decide +kernel
theorem dX8_needReadsAhead_1 : decode cX8_needReadsAhead 1 = .ok (.iload_n 1, 1) := by decide +kernel
theorem dX8_needReadsAhead_2 : decode cX8_needReadsAhead 2 = .ok (.invokevirtual 102, 3) := by decide +kernel
theorem dX8_needReadsAhead_5 : decode cX8_needReadsAhead 5 = .ok (.iload_n 2, 1) := by decide +kernel
theorem dX8_needReadsAhead_6 : decode cX8_needReadsAhead 6 = .ok (.iconst 0, 1) := by decide +kernel
theorem dX8_needReadsAhead_7 : decode cX8_needReadsAhead 7 = .ok (.sipush 199, 3) := by decide +kernel
theorem dX8_needReadsAhead_10 : decode cX8_needReadsAhead 10 = .ok (.invokestatic 59, 3) := by decide +kernel
theorem dX8_needReadsAhead_13 : decode cX8_needReadsAhead 13 = .ok (.iload_n 3, 1) := by decide +kernel
theorem dX8_needReadsAhead_14 : decode cX8_needReadsAhead 14 = .ok (.iconst 1, 1) := by decide +kernel
theorem dX8_needReadsAhead_15 : decode cX8_needReadsAhead 15 = .ok (.bipush 40, 2) := by decide +kernel
theorem dX8_needReadsAhead_17 : decode cX8_needReadsAhead 17 = .ok (.sipush 200, 3) := by decide +kernel
theorem dX8_needReadsAhead_20 : decode cX8_needReadsAhead 20 = .ok (.iload_n 2, 1) := by decide +kernel
theorem dX8_needReadsAhead_21 : decode cX8_needReadsAhead 21 = .ok (.isub, 1) := by decide +kernel
theorem dX8_needReadsAhead_22 : decode cX8_needReadsAhead 22 = .ok (.invokestatic 282, 3) := by decide +kernel
theorem dX8_needReadsAhead_25 : decode cX8_needReadsAhead 25 = .ok (.invokestatic 59, 3) := by decide +kernel
theorem dX8_needReadsAhead_28 : decode cX8_needReadsAhead 28 = .ok (.iload 4, 2) := by decide +kernel
theorem dX8_needReadsAhead_30 : decode cX8_needReadsAhead 30 = .ok (.iconst 1, 1) := by decide +kernel
theorem dX8_needReadsAhead_31 : decode cX8_needReadsAhead 31 = .ok (.iconst 4, 1) := by decide +kernel
theorem dX8_needReadsAhead_32 : decode cX8_needReadsAhead 32 = .ok (.invokestatic 59, 3) := by decide +kernel
theorem dX8_needReadsAhead_35 : decode cX8_needReadsAhead 35 = .ok (.return_, 1) := by decide +kernel
theorem dX8_predictionOf_0 : decode cX8_predictionOf 0 = .ok (.iload_n 3, 1) := by decide +kernel
theorem dX8_predictionOf_1 : decode cX8_predictionOf 1 = .ok (.tableswitch 119 0 5 #[39, 41, 63, 75, 86, 97], 39) := by decide +kernel
theorem dX8_predictionOf_40 : decode cX8_predictionOf 40 = .ok (.iload_n 2, 1) := by decide +kernel
theorem dX8_predictionOf_41 : decode cX8_predictionOf 41 = .ok (.ireturn, 1) := by decide +kernel
theorem dX8_predictionOf_42 : decode cX8_predictionOf 42 = .ok (.aload_n 0, 1) := by decide +kernel
theorem dX8_predictionOf_43 : decode cX8_predictionOf 43 = .ok (.getfield 30, 3) := by decide +kernel
theorem dX8_predictionOf_46 : decode cX8_predictionOf 46 = .ok (.getfield 71, 3) := by decide +kernel
theorem dX8_predictionOf_49 : decode cX8_predictionOf 49 = .ok (.getfield 302, 3) := by decide +kernel
theorem dX8_predictionOf_52 : decode cX8_predictionOf 52 = .ok (.aload_n 0, 1) := by decide +kernel
theorem dX8_predictionOf_53 : decode cX8_predictionOf 53 = .ok (.getfield 26, 3) := by decide +kernel
theorem dX8_predictionOf_56 : decode cX8_predictionOf 56 = .ok (.getfield 71, 3) := by decide +kernel
theorem dX8_predictionOf_59 : decode cX8_predictionOf 59 = .ok (.getfield 302, 3) := by decide +kernel
theorem dX8_predictionOf_62 : decode cX8_predictionOf 62 = .ok (.isub, 1) := by decide +kernel
theorem dX8_predictionOf_63 : decode cX8_predictionOf 63 = .ok (.ireturn, 1) := by decide +kernel
theorem dX8_predictionOf_64 : decode cX8_predictionOf 64 = .ok (.aload_n 0, 1) := by decide +kernel
theorem dX8_predictionOf_65 : decode cX8_predictionOf 65 = .ok (.getfield 30, 3) := by decide +kernel
theorem dX8_predictionOf_68 : decode cX8_predictionOf 68 = .ok (.getfield 147, 3) := by decide +kernel
theorem dX8_predictionOf_71 : decode cX8_predictionOf 71 = .ok (.iload_n 1, 1) := by decide +kernel
theorem dX8_predictionOf_72 : decode cX8_predictionOf 72 = .ok (.invokevirtual 305, 3) := by decide +kernel
theorem dX8_predictionOf_75 : decode cX8_predictionOf 75 = .ok (.ireturn, 1) := by decide +kernel
theorem dX8_predictionOf_76 : decode cX8_predictionOf 76 = .ok (.aload_n 0, 1) := by decide +kernel
theorem dX8_predictionOf_77 : decode cX8_predictionOf 77 = .ok (.getfield 30, 3) := by decide +kernel
theorem dX8_predictionOf_80 : decode cX8_predictionOf 80 = .ok (.getfield 71, 3) := by decide +kernel
theorem dX8_predictionOf_83 : decode cX8_predictionOf 83 = .ok (.getfield 308, 3) := by decide +kernel
theorem dX8_predictionOf_86 : decode cX8_predictionOf 86 = .ok (.ireturn, 1) := by decide +kernel
theorem dX8_predictionOf_87 : decode cX8_predictionOf 87 = .ok (.aload_n 0, 1) := by decide +kernel
theorem dX8_predictionOf_88 : decode cX8_predictionOf 88 = .ok (.getfield 30, 3) := by decide +kernel
theorem dX8_predictionOf_91 : decode cX8_predictionOf 91 = .ok (.getfield 71, 3) := by decide +kernel
theorem dX8_predictionOf_94 : decode cX8_predictionOf 94 = .ok (.getfield 311, 3) := by decide +kernel
theorem dX8_predictionOf_97 : decode cX8_predictionOf 97 = .ok (.ireturn, 1) := by decide +kernel
theorem dX8_predictionOf_98 : decode cX8_predictionOf 98 = .ok (.aload_n 0, 1) := by decide +kernel
theorem dX8_predictionOf_99 : decode cX8_predictionOf 99 = .ok (.getfield 30, 3) := by decide +kernel
theorem dX8_predictionOf_102 : decode cX8_predictionOf 102 = .ok (.getfield 147, 3) := by decide +kernel
theorem dX8_predictionOf_105 : decode cX8_predictionOf 105 = .ok (.getfield 156, 3) := by decide +kernel
theorem dX8_predictionOf_108 : decode cX8_predictionOf 108 = .ok (.aload_n 0, 1) := by decide +kernel
theorem dX8_predictionOf_109 : decode cX8_predictionOf 109 = .ok (.getfield 26, 3) := by decide +kernel
theorem dX8_predictionOf_112 : decode cX8_predictionOf 112 = .ok (.getfield 147, 3) := by decide +kernel
theorem dX8_predictionOf_115 : decode cX8_predictionOf 115 = .ok (.getfield 156, 3) := by decide +kernel
theorem dX8_predictionOf_118 : decode cX8_predictionOf 118 = .ok (.isub, 1) := by decide +kernel
theorem dX8_predictionOf_119 : decode cX8_predictionOf 119 = .ok (.ireturn, 1) := by decide +kernel
theorem dX8_predictionOf_120 : decode cX8_predictionOf 120 = .ok (.aload_n 0, 1) := by decide +kernel
theorem dX8_predictionOf_121 : decode cX8_predictionOf 121 = .ok (.getfield 30, 3) := by decide +kernel
theorem dX8_predictionOf_124 : decode cX8_predictionOf 124 = .ok (.getfield 314, 3) := by decide +kernel
theorem dX8_predictionOf_127 : decode cX8_predictionOf 127 = .ok (.ireturn, 1) := by decide +kernel
theorem dX8_readAhead_0 : decode cX8_readAhead 0 = .ok (.aload_n 0, 1) := by decide +kernel
theorem dX8_readAhead_1 : decode cX8_readAhead 1 = .ok (.getfield 30, 3) := by decide +kernel
theorem dX8_readAhead_4 : decode cX8_readAhead 4 = .ok (.aload_n 0, 1) := by decide +kernel
theorem dX8_readAhead_5 : decode cX8_readAhead 5 = .ok (.getfield 26, 3) := by decide +kernel
theorem dX8_readAhead_8 : decode cX8_readAhead 8 = .ok (.invokevirtual 238, 3) := by decide +kernel
theorem dX8_readAhead_11 : decode cX8_readAhead 11 = .ok (.aload_n 0, 1) := by decide +kernel
theorem dX8_readAhead_12 : decode cX8_readAhead 12 = .ok (.getfield 30, 3) := by decide +kernel
theorem dX8_readAhead_15 : decode cX8_readAhead 15 = .ok (.iload 5, 2) := by decide +kernel
theorem dX8_readAhead_17 : decode cX8_readAhead 17 = .ok (.putfield 207, 3) := by decide +kernel
theorem dX8_readAhead_20 : decode cX8_readAhead 20 = .ok (.iconst 0, 1) := by decide +kernel
theorem dX8_readAhead_21 : decode cX8_readAhead 21 = .ok (.istore 6, 2) := by decide +kernel
theorem dX8_readAhead_23 : decode cX8_readAhead 23 = .ok (.iload 6, 2) := by decide +kernel
theorem dX8_readAhead_25 : decode cX8_readAhead 25 = .ok (.iload 4, 2) := by decide +kernel
theorem dX8_readAhead_27 : decode cX8_readAhead 27 = .ok (.if_icmp .ge 38, 3) := by decide +kernel
theorem dX8_readAhead_30 : decode cX8_readAhead 30 = .ok (.iconst 0, 1) := by decide +kernel
theorem dX8_readAhead_31 : decode cX8_readAhead 31 = .ok (.istore 7, 2) := by decide +kernel
theorem dX8_readAhead_33 : decode cX8_readAhead 33 = .ok (.iload 7, 2) := by decide +kernel
theorem dX8_readAhead_35 : decode cX8_readAhead 35 = .ok (.iload_n 3, 1) := by decide +kernel
theorem dX8_readAhead_36 : decode cX8_readAhead 36 = .ok (.if_icmp .ge 23, 3) := by decide +kernel
theorem dX8_readAhead_39 : decode cX8_readAhead 39 = .ok (.aload_n 0, 1) := by decide +kernel
theorem dX8_readAhead_40 : decode cX8_readAhead 40 = .ok (.getfield 30, 3) := by decide +kernel
theorem dX8_readAhead_43 : decode cX8_readAhead 43 = .ok (.iload_n 1, 1) := by decide +kernel
theorem dX8_readAhead_44 : decode cX8_readAhead 44 = .ok (.iload_n 2, 1) := by decide +kernel
theorem dX8_readAhead_45 : decode cX8_readAhead 45 = .ok (.iload 7, 2) := by decide +kernel
theorem dX8_readAhead_47 : decode cX8_readAhead 47 = .ok (.iadd, 1) := by decide +kernel
theorem dX8_readAhead_48 : decode cX8_readAhead 48 = .ok (.iconst 0, 1) := by decide +kernel
theorem dX8_readAhead_49 : decode cX8_readAhead 49 = .ok (.invokevirtual 143, 3) := by decide +kernel
theorem dX8_readAhead_52 : decode cX8_readAhead 52 = .ok (.pop, 1) := by decide +kernel
theorem dX8_readAhead_53 : decode cX8_readAhead 53 = .ok (.iinc 7 1, 3) := by decide +kernel
theorem dX8_readAhead_56 : decode cX8_readAhead 56 = .ok (.goto (-23), 3) := by decide +kernel
theorem dX8_readAhead_59 : decode cX8_readAhead 59 = .ok (.iinc 6 1, 3) := by decide +kernel
theorem dX8_readAhead_62 : decode cX8_readAhead 62 = .ok (.goto (-39), 3) := by decide +kernel
theorem dX8_readAhead_65 : decode cX8_readAhead 65 = .ok (.return_, 1) := by decide +kernel
theorem dX8_differenceAhead_0 : decode cX8_differenceAhead 0 = .ok (.aload_n 0, 1) := by decide +kernel
theorem dX8_differenceAhead_1 : decode cX8_differenceAhead 1 = .ok (.getfield 30, 3) := by decide +kernel
theorem dX8_differenceAhead_4 : decode cX8_differenceAhead 4 = .ok (.getfield 71, 3) := by decide +kernel
theorem dX8_differenceAhead_7 : decode cX8_differenceAhead 7 = .ok (.astore_n 2, 1) := by decide +kernel
theorem dX8_differenceAhead_8 : decode cX8_differenceAhead 8 = .ok (.aload_n 0, 1) := by decide +kernel
theorem dX8_differenceAhead_9 : decode cX8_differenceAhead 9 = .ok (.getfield 26, 3) := by decide +kernel
theorem dX8_differenceAhead_12 : decode cX8_differenceAhead 12 = .ok (.getfield 71, 3) := by decide +kernel
theorem dX8_differenceAhead_15 : decode cX8_differenceAhead 15 = .ok (.astore_n 3, 1) := by decide +kernel
theorem dX8_differenceAhead_16 : decode cX8_differenceAhead 16 = .ok (.iload_n 1, 1) := by decide +kernel
theorem dX8_differenceAhead_17 : decode cX8_differenceAhead 17 = .ok (.tableswitch 109 0 5 #[39, 49, 59, 69, 79, 101], 39) := by decide +kernel
theorem dX8_differenceAhead_56 : decode cX8_differenceAhead 56 = .ok (.aload_n 2, 1) := by decide +kernel
theorem dX8_differenceAhead_57 : decode cX8_differenceAhead 57 = .ok (.getfield 178, 3) := by decide +kernel
theorem dX8_differenceAhead_60 : decode cX8_differenceAhead 60 = .ok (.aload_n 3, 1) := by decide +kernel
theorem dX8_differenceAhead_61 : decode cX8_differenceAhead 61 = .ok (.getfield 178, 3) := by decide +kernel
theorem dX8_differenceAhead_64 : decode cX8_differenceAhead 64 = .ok (.isub, 1) := by decide +kernel
theorem dX8_differenceAhead_65 : decode cX8_differenceAhead 65 = .ok (.ireturn, 1) := by decide +kernel
theorem dX8_differenceAhead_66 : decode cX8_differenceAhead 66 = .ok (.aload_n 2, 1) := by decide +kernel
theorem dX8_differenceAhead_67 : decode cX8_differenceAhead 67 = .ok (.getfield 317, 3) := by decide +kernel
theorem dX8_differenceAhead_70 : decode cX8_differenceAhead 70 = .ok (.aload_n 3, 1) := by decide +kernel
theorem dX8_differenceAhead_71 : decode cX8_differenceAhead 71 = .ok (.getfield 317, 3) := by decide +kernel
theorem dX8_differenceAhead_74 : decode cX8_differenceAhead 74 = .ok (.isub, 1) := by decide +kernel
theorem dX8_differenceAhead_75 : decode cX8_differenceAhead 75 = .ok (.ireturn, 1) := by decide +kernel
theorem dX8_differenceAhead_76 : decode cX8_differenceAhead 76 = .ok (.aload_n 2, 1) := by decide +kernel
theorem dX8_differenceAhead_77 : decode cX8_differenceAhead 77 = .ok (.getfield 320, 3) := by decide +kernel
theorem dX8_differenceAhead_80 : decode cX8_differenceAhead 80 = .ok (.aload_n 3, 1) := by decide +kernel
theorem dX8_differenceAhead_81 : decode cX8_differenceAhead 81 = .ok (.getfield 320, 3) := by decide +kernel
theorem dX8_differenceAhead_84 : decode cX8_differenceAhead 84 = .ok (.isub, 1) := by decide +kernel
theorem dX8_differenceAhead_85 : decode cX8_differenceAhead 85 = .ok (.ireturn, 1) := by decide +kernel
theorem dX8_differenceAhead_86 : decode cX8_differenceAhead 86 = .ok (.aload_n 2, 1) := by decide +kernel
theorem dX8_differenceAhead_87 : decode cX8_differenceAhead 87 = .ok (.getfield 323, 3) := by decide +kernel
theorem dX8_differenceAhead_90 : decode cX8_differenceAhead 90 = .ok (.aload_n 3, 1) := by decide +kernel
theorem dX8_differenceAhead_91 : decode cX8_differenceAhead 91 = .ok (.getfield 323, 3) := by decide +kernel
theorem dX8_differenceAhead_94 : decode cX8_differenceAhead 94 = .ok (.isub, 1) := by decide +kernel
theorem dX8_differenceAhead_95 : decode cX8_differenceAhead 95 = .ok (.ireturn, 1) := by decide +kernel
theorem dX8_differenceAhead_96 : decode cX8_differenceAhead 96 = .ok (.aload_n 0, 1) := by decide +kernel
theorem dX8_differenceAhead_97 : decode cX8_differenceAhead 97 = .ok (.getfield 30, 3) := by decide +kernel
theorem dX8_differenceAhead_100 : decode cX8_differenceAhead 100 = .ok (.getfield 147, 3) := by decide +kernel
theorem dX8_differenceAhead_103 : decode cX8_differenceAhead 103 = .ok (.getfield 156, 3) := by decide +kernel
theorem dX8_differenceAhead_106 : decode cX8_differenceAhead 106 = .ok (.aload_n 0, 1) := by decide +kernel
theorem dX8_differenceAhead_107 : decode cX8_differenceAhead 107 = .ok (.getfield 26, 3) := by decide +kernel
theorem dX8_differenceAhead_110 : decode cX8_differenceAhead 110 = .ok (.getfield 147, 3) := by decide +kernel
theorem dX8_differenceAhead_113 : decode cX8_differenceAhead 113 = .ok (.getfield 156, 3) := by decide +kernel
theorem dX8_differenceAhead_116 : decode cX8_differenceAhead 116 = .ok (.isub, 1) := by decide +kernel
theorem dX8_differenceAhead_117 : decode cX8_differenceAhead 117 = .ok (.ireturn, 1) := by decide +kernel
theorem dX8_differenceAhead_118 : decode cX8_differenceAhead 118 = .ok (.aload_n 0, 1) := by decide +kernel
theorem dX8_differenceAhead_119 : decode cX8_differenceAhead 119 = .ok (.getfield 30, 3) := by decide +kernel
theorem dX8_differenceAhead_122 : decode cX8_differenceAhead 122 = .ok (.getfield 314, 3) := by decide +kernel
theorem dX8_differenceAhead_125 : decode cX8_differenceAhead 125 = .ok (.ireturn, 1) := by decide +kernel
theorem dX8_differenceAhead_126 : decode cX8_differenceAhead 126 = .ok (.aload_n 2, 1) := by decide +kernel
theorem dX8_differenceAhead_127 : decode cX8_differenceAhead 127 = .ok (.getfield 302, 3) := by decide +kernel
theorem dX8_differenceAhead_130 : decode cX8_differenceAhead 130 = .ok (.aload_n 3, 1) := by decide +kernel
theorem dX8_differenceAhead_131 : decode cX8_differenceAhead 131 = .ok (.getfield 302, 3) := by decide +kernel
theorem dX8_differenceAhead_134 : decode cX8_differenceAhead 134 = .ok (.isub, 1) := by decide +kernel
theorem dX8_differenceAhead_135 : decode cX8_differenceAhead 135 = .ok (.ireturn, 1) := by decide +kernel
theorem dJ9_max_7cf53_0 : decode cJ9_max_7cf53 0 = .ok (.iload_n 0, 1) := by decide +kernel
theorem dJ9_max_7cf53_1 : decode cJ9_max_7cf53 1 = .ok (.iload_n 1, 1) := by decide +kernel
theorem dJ9_max_7cf53_2 : decode cJ9_max_7cf53 2 = .ok (.if_icmp .lt 7, 3) := by decide +kernel
theorem dJ9_max_7cf53_5 : decode cJ9_max_7cf53 5 = .ok (.iload_n 0, 1) := by decide +kernel
theorem dJ9_max_7cf53_6 : decode cJ9_max_7cf53 6 = .ok (.goto 4, 3) := by decide +kernel
theorem dJ9_max_7cf53_9 : decode cJ9_max_7cf53 9 = .ok (.iload_n 1, 1) := by decide +kernel
theorem dJ9_max_7cf53_10 : decode cJ9_max_7cf53 10 = .ok (.ireturn, 1) := by decide +kernel
theorem dJ9_min_7cf53_0 : decode cJ9_min_7cf53 0 = .ok (.iload_n 0, 1) := by decide +kernel
theorem dJ9_min_7cf53_1 : decode cJ9_min_7cf53 1 = .ok (.iload_n 1, 1) := by decide +kernel
theorem dJ9_min_7cf53_2 : decode cJ9_min_7cf53 2 = .ok (.if_icmp .gt 7, 3) := by decide +kernel
theorem dJ9_min_7cf53_5 : decode cJ9_min_7cf53 5 = .ok (.iload_n 0, 1) := by decide +kernel
theorem dJ9_min_7cf53_6 : decode cJ9_min_7cf53 6 = .ok (.goto 4, 3) := by decide +kernel
theorem dJ9_min_7cf53_9 : decode cJ9_min_7cf53 9 = .ok (.iload_n 1, 1) := by decide +kernel
theorem dJ9_min_7cf53_10 : decode cJ9_min_7cf53 10 = .ok (.ireturn, 1) := by decide +kernel
