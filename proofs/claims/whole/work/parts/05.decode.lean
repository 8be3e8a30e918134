theorem dX0_init_0 : decode cX0_init 0 = .ok (.aload_n 0, 1) := by decide +kernel
theorem dX0_init_1 : decode cX0_init 1 = .ok (.invokespecial 3, 3) := by decide +kernel
theorem dX0_init_4 : decode cX0_init 4 = .ok (.aload_n 0, 1) := by decide +kernel
theorem dX0_init_5 : decode cX0_init 5 = .ok (.sipush 200, 3) := by decide +kernel
theorem dX0_init_8 : decode cX0_init 8 = .ok (.newarray .int, 2) := by decide +kernel
theorem dX0_init_10 : decode cX0_init 10 = .ok (.putfield 9, 3) := by decide +kernel
theorem dX0_init_13 : decode cX0_init 13 = .ok (.aload_n 0, 1) := by decide +kernel
theorem dX0_init_14 : decode cX0_init 14 = .ok (.sipush 200, 3) := by decide +kernel
theorem dX0_init_17 : decode cX0_init 17 = .ok (.newarray .int, 2) := by decide +kernel
theorem dX0_init_19 : decode cX0_init 19 = .ok (.putfield 15, 3) := by decide +kernel
theorem dX0_init_22 : decode cX0_init 22 = .ok (.aload_n 0, 1) := by decide +kernel
theorem dX0_init_23 : decode cX0_init 23 = .ok (.sipush 200, 3) := by decide +kernel
theorem dX0_init_26 : decode cX0_init 26 = .ok (.newarray .int, 2) := by decide +kernel
theorem dX0_init_28 : decode cX0_init 28 = .ok (.putfield 18, 3) := by decide +kernel
theorem dX0_init_31 : decode cX0_init 31 = .ok (.aload_n 0, 1) := by decide +kernel
theorem dX0_init_32 : decode cX0_init 32 = .ok (.sipush 200, 3) := by decide +kernel
theorem dX0_init_35 : decode cX0_init 35 = .ok (.newarray .int, 2) := by decide +kernel
theorem dX0_init_37 : decode cX0_init 37 = .ok (.putfield 21, 3) := by decide +kernel
theorem dX0_init_40 : decode cX0_init 40 = .ok (.aload_n 0, 1) := by decide +kernel
theorem dX0_init_41 : decode cX0_init 41 = .ok (.sipush 200, 3) := by decide +kernel
theorem dX0_init_44 : decode cX0_init 44 = .ok (.newarray .int, 2) := by decide +kernel
theorem dX0_init_46 : decode cX0_init 46 = .ok (.putfield 24, 3) := by decide +kernel
theorem dX0_init_49 : decode cX0_init 49 = .ok (.aload_n 0, 1) := by decide +kernel
theorem dX0_init_50 : decode cX0_init 50 = .ok (.sipush 200, 3) := by decide +kernel
theorem dX0_init_53 : decode cX0_init 53 = .ok (.newarray .int, 2) := by decide +kernel
theorem dX0_init_55 : decode cX0_init 55 = .ok (.putfield 27, 3) := by decide +kernel
theorem dX0_init_58 : decode cX0_init 58 = .ok (.iconst 0, 1) := by decide +kernel
theorem dX0_init_59 : decode cX0_init 59 = .ok (.istore_n 1, 1) := by decide +kernel
theorem dX0_init_60 : decode cX0_init 60 = .ok (.iload_n 1, 1) := by decide +kernel
theorem dX0_init_61 : decode cX0_init 61 = .ok (.sipush 200, 3) := by decide +kernel
theorem dX0_init_64 : decode cX0_init 64 = .ok (.if_icmp .ge 57, 3) := by decide +kernel
theorem dX0_init_67 : decode cX0_init 67 = .ok (.aload_n 0, 1) := by decide +kernel
theorem dX0_init_68 : decode cX0_init 68 = .ok (.getfield 9, 3) := by decide +kernel
theorem dX0_init_71 : decode cX0_init 71 = .ok (.iload_n 1, 1) := by decide +kernel
theorem dX0_init_72 : decode cX0_init 72 = .ok (.iconst 5, 1) := by decide +kernel
theorem dX0_init_73 : decode cX0_init 73 = .ok (.iload_n 1, 1) := by decide +kernel
theorem dX0_init_74 : decode cX0_init 74 = .ok (.imul, 1) := by decide +kernel
theorem dX0_init_75 : decode cX0_init 75 = .ok (.sipush 1000, 3) := by decide +kernel
theorem dX0_init_78 : decode cX0_init 78 = .ok (.irem, 1) := by decide +kernel
theorem dX0_init_79 : decode cX0_init 79 = .ok (.iastore, 1) := by decide +kernel
theorem dX0_init_80 : decode cX0_init 80 = .ok (.aload_n 0, 1) := by decide +kernel
theorem dX0_init_81 : decode cX0_init 81 = .ok (.getfield 15, 3) := by decide +kernel
theorem dX0_init_84 : decode cX0_init 84 = .ok (.iload_n 1, 1) := by decide +kernel
theorem dX0_init_85 : decode cX0_init 85 = .ok (.iconst (-1), 1) := by decide +kernel
theorem dX0_init_86 : decode cX0_init 86 = .ok (.iastore, 1) := by decide +kernel
theorem dX0_init_87 : decode cX0_init 87 = .ok (.aload_n 0, 1) := by decide +kernel
theorem dX0_init_88 : decode cX0_init 88 = .ok (.getfield 18, 3) := by decide +kernel
theorem dX0_init_91 : decode cX0_init 91 = .ok (.iload_n 1, 1) := by decide +kernel
theorem dX0_init_92 : decode cX0_init 92 = .ok (.iconst (-1), 1) := by decide +kernel
theorem dX0_init_93 : decode cX0_init 93 = .ok (.iastore, 1) := by decide +kernel
theorem dX0_init_94 : decode cX0_init 94 = .ok (.aload_n 0, 1) := by decide +kernel
theorem dX0_init_95 : decode cX0_init 95 = .ok (.getfield 21, 3) := by decide +kernel
theorem dX0_init_98 : decode cX0_init 98 = .ok (.iload_n 1, 1) := by decide +kernel
theorem dX0_init_99 : decode cX0_init 99 = .ok (.iconst (-1), 1) := by decide +kernel
theorem dX0_init_100 : decode cX0_init 100 = .ok (.iastore, 1) := by decide +kernel
theorem dX0_init_101 : decode cX0_init 101 = .ok (.aload_n 0, 1) := by decide +kernel
theorem dX0_init_102 : decode cX0_init 102 = .ok (.getfield 24, 3) := by decide +kernel
theorem dX0_init_105 : decode cX0_init 105 = .ok (.iload_n 1, 1) := by decide +kernel
theorem dX0_init_106 : decode cX0_init 106 = .ok (.iconst (-1), 1) := by decide +kernel
theorem dX0_init_107 : decode cX0_init 107 = .ok (.iastore, 1) := by decide +kernel
theorem dX0_init_108 : decode cX0_init 108 = .ok (.aload_n 0, 1) := by decide +kernel
theorem dX0_init_109 : decode cX0_init 109 = .ok (.getfield 27, 3) := by decide +kernel
theorem dX0_init_112 : decode cX0_init 112 = .ok (.iload_n 1, 1) := by decide +kernel
theorem dX0_init_113 : decode cX0_init 113 = .ok (.iconst (-1), 1) := by decide +kernel
theorem dX0_init_114 : decode cX0_init 114 = .ok (.iastore, 1) := by decide +kernel
theorem dX0_init_115 : decode cX0_init 115 = .ok (.iinc 1 1, 3) := by decide +kernel
theorem dX0_init_118 : decode cX0_init 118 = .ok (.goto (-58), 3) := by decide +kernel
theorem dX0_init_121 : decode cX0_init 121 = .ok (.return_, 1) := by decide +kernel
theorem dX0_storedOf_0 : decode cX0_storedOf 0 = .ok (.iload_n 1, 1) := by decide +kernel
theorem dX0_storedOf_1 : decode cX0_storedOf 1 = .ok (.ifCond .lt 19, 3) := by decide +kernel
theorem dX0_storedOf_4 : decode cX0_storedOf 4 = .ok (.iload_n 1, 1) := by decide +kernel
theorem dX0_storedOf_5 : decode cX0_storedOf 5 = .ok (.sipush 200, 3) := by decide +kernel
theorem dX0_storedOf_8 : decode cX0_storedOf 8 = .ok (.if_icmp .ge 12, 3) := by decide +kernel
theorem dX0_storedOf_11 : decode cX0_storedOf 11 = .ok (.aload_n 0, 1) := by decide +kernel
theorem dX0_storedOf_12 : decode cX0_storedOf 12 = .ok (.getfield 9, 3) := by decide +kernel
theorem dX0_storedOf_15 : decode cX0_storedOf 15 = .ok (.iload_n 1, 1) := by decide +kernel
theorem dX0_storedOf_16 : decode cX0_storedOf 16 = .ok (.iaload, 1) := by decide +kernel
theorem dX0_storedOf_17 : decode cX0_storedOf 17 = .ok (.goto 4, 3) := by decide +kernel
theorem dX0_storedOf_20 : decode cX0_storedOf 20 = .ok (.iconst (-1), 1) := by decide +kernel
theorem dX0_storedOf_21 : decode cX0_storedOf 21 = .ok (.ireturn, 1) := by decide +kernel
theorem dX0_valueOf_0 : decode cX0_valueOf 0 = .ok (.iload_n 1, 1) := by decide +kernel
theorem dX0_valueOf_1 : decode cX0_valueOf 1 = .ok (.ifCond .lt 19, 3) := by decide +kernel
theorem dX0_valueOf_4 : decode cX0_valueOf 4 = .ok (.iload_n 1, 1) := by decide +kernel
theorem dX0_valueOf_5 : decode cX0_valueOf 5 = .ok (.sipush 200, 3) := by decide +kernel
theorem dX0_valueOf_8 : decode cX0_valueOf 8 = .ok (.if_icmp .ge 12, 3) := by decide +kernel
theorem dX0_valueOf_11 : decode cX0_valueOf 11 = .ok (.aload_n 0, 1) := by decide +kernel
theorem dX0_valueOf_12 : decode cX0_valueOf 12 = .ok (.getfield 15, 3) := by decide +kernel
theorem dX0_valueOf_15 : decode cX0_valueOf 15 = .ok (.iload_n 1, 1) := by decide +kernel
theorem dX0_valueOf_16 : decode cX0_valueOf 16 = .ok (.iaload, 1) := by decide +kernel
theorem dX0_valueOf_17 : decode cX0_valueOf 17 = .ok (.goto 4, 3) := by decide +kernel
theorem dX0_valueOf_20 : decode cX0_valueOf 20 = .ok (.iconst (-1), 1) := by decide +kernel
theorem dX0_valueOf_21 : decode cX0_valueOf 21 = .ok (.ireturn, 1) := by decide +kernel
theorem dX0_ownerOf_0 : decode cX0_ownerOf 0 = .ok (.iload_n 1, 1) := by decide +kernel
theorem dX0_ownerOf_1 : decode cX0_ownerOf 1 = .ok (.ifCond .lt 19, 3) := by decide +kernel
theorem dX0_ownerOf_4 : decode cX0_ownerOf 4 = .ok (.iload_n 1, 1) := by decide +kernel
theorem dX0_ownerOf_5 : decode cX0_ownerOf 5 = .ok (.sipush 200, 3) := by decide +kernel
theorem dX0_ownerOf_8 : decode cX0_ownerOf 8 = .ok (.if_icmp .ge 12, 3) := by decide +kernel
theorem dX0_ownerOf_11 : decode cX0_ownerOf 11 = .ok (.aload_n 0, 1) := by decide +kernel
theorem dX0_ownerOf_12 : decode cX0_ownerOf 12 = .ok (.getfield 18, 3) := by decide +kernel
theorem dX0_ownerOf_15 : decode cX0_ownerOf 15 = .ok (.iload_n 1, 1) := by decide +kernel
theorem dX0_ownerOf_16 : decode cX0_ownerOf 16 = .ok (.iaload, 1) := by decide +kernel
theorem dX0_ownerOf_17 : decode cX0_ownerOf 17 = .ok (.goto 4, 3) := by decide +kernel
theorem dX0_ownerOf_20 : decode cX0_ownerOf 20 = .ok (.iconst (-1), 1) := by decide +kernel
theorem dX0_ownerOf_21 : decode cX0_ownerOf 21 = .ok (.ireturn, 1) := by decide +kernel
theorem dX0_sinceOf_0 : decode cX0_sinceOf 0 = .ok (.iload_n 1, 1) := by decide +kernel
theorem dX0_sinceOf_1 : decode cX0_sinceOf 1 = .ok (.ifCond .lt 19, 3) := by decide +kernel
theorem dX0_sinceOf_4 : decode cX0_sinceOf 4 = .ok (.iload_n 1, 1) := by decide +kernel
theorem dX0_sinceOf_5 : decode cX0_sinceOf 5 = .ok (.sipush 200, 3) := by decide +kernel
theorem dX0_sinceOf_8 : decode cX0_sinceOf 8 = .ok (.if_icmp .ge 12, 3) := by decide +kernel
theorem dX0_sinceOf_11 : decode cX0_sinceOf 11 = .ok (.aload_n 0, 1) := by decide +kernel
theorem dX0_sinceOf_12 : decode cX0_sinceOf 12 = .ok (.getfield 21, 3) := by decide +kernel
theorem dX0_sinceOf_15 : decode cX0_sinceOf 15 = .ok (.iload_n 1, 1) := by decide +kernel
theorem dX0_sinceOf_16 : decode cX0_sinceOf 16 = .ok (.iaload, 1) := by decide +kernel
theorem dX0_sinceOf_17 : decode cX0_sinceOf 17 = .ok (.goto 4, 3) := by decide +kernel
theorem dX0_sinceOf_20 : decode cX0_sinceOf 20 = .ok (.iconst (-1), 1) := by decide +kernel
theorem dX0_sinceOf_21 : decode cX0_sinceOf 21 = .ok (.ireturn, 1) := by decide +kernel
theorem dX0_isDirty_0 : decode cX0_isDirty 0 = .ok (.iload_n 1, 1) := by decide +kernel
theorem dX0_isDirty_1 : decode cX0_isDirty 1 = .ok (.ifCond .lt 24, 3) := by decide +kernel
theorem dX0_isDirty_4 : decode cX0_isDirty 4 = .ok (.iload_n 1, 1) := by decide +kernel
theorem dX0_isDirty_5 : decode cX0_isDirty 5 = .ok (.sipush 200, 3) := by decide +kernel
theorem dX0_isDirty_8 : decode cX0_isDirty 8 = .ok (.if_icmp .ge 17, 3) := by decide +kernel
theorem dX0_isDirty_11 : decode cX0_isDirty 11 = .ok (.aload_n 0, 1) := by decide +kernel
theorem dX0_isDirty_12 : decode cX0_isDirty 12 = .ok (.getfield 21, 3) := by decide +kernel
theorem dX0_isDirty_15 : decode cX0_isDirty 15 = .ok (.iload_n 1, 1) := by decide +kernel
theorem dX0_isDirty_16 : decode cX0_isDirty 16 = .ok (.iaload, 1) := by decide +kernel
theorem dX0_isDirty_17 : decode cX0_isDirty 17 = .ok (.iconst (-1), 1) := by decide +kernel
theorem dX0_isDirty_18 : decode cX0_isDirty 18 = .ok (.if_icmp .eq 7, 3) := by decide +kernel
theorem dX0_isDirty_21 : decode cX0_isDirty 21 = .ok (.iconst 1, 1) := by decide +kernel
theorem dX0_isDirty_22 : decode cX0_isDirty 22 = .ok (.goto 4, 3) := by decide +kernel
theorem dX0_isDirty_25 : decode cX0_isDirty 25 = .ok (.iconst 0, 1) := by decide +kernel
theorem dX0_isDirty_26 : decode cX0_isDirty 26 = .ok (.ireturn, 1) := by decide +kernel
theorem dX0_listOf_0 : decode cX0_listOf 0 = .ok (.iload_n 1, 1) := by decide +kernel
theorem dX0_listOf_1 : decode cX0_listOf 1 = .ok (.ifCond .lt 19, 3) := by decide +kernel
theorem dX0_listOf_4 : decode cX0_listOf 4 = .ok (.iload_n 1, 1) := by decide +kernel
theorem dX0_listOf_5 : decode cX0_listOf 5 = .ok (.sipush 200, 3) := by decide +kernel
theorem dX0_listOf_8 : decode cX0_listOf 8 = .ok (.if_icmp .ge 12, 3) := by decide +kernel
theorem dX0_listOf_11 : decode cX0_listOf 11 = .ok (.aload_n 0, 1) := by decide +kernel
theorem dX0_listOf_12 : decode cX0_listOf 12 = .ok (.getfield 24, 3) := by decide +kernel
theorem dX0_listOf_15 : decode cX0_listOf 15 = .ok (.iload_n 1, 1) := by decide +kernel
theorem dX0_listOf_16 : decode cX0_listOf 16 = .ok (.iaload, 1) := by decide +kernel
theorem dX0_listOf_17 : decode cX0_listOf 17 = .ok (.goto 4, 3) := by decide +kernel
theorem dX0_listOf_20 : decode cX0_listOf 20 = .ok (.iconst (-1), 1) := by decide +kernel
theorem dX0_listOf_21 : decode cX0_listOf 21 = .ok (.ireturn, 1) := by decide +kernel
theorem dX0_ghostListOf_0 : decode cX0_ghostListOf 0 = .ok (.iload_n 1, 1) := by decide +kernel
theorem dX0_ghostListOf_1 : decode cX0_ghostListOf 1 = .ok (.ifCond .lt 19, 3) := by decide +kernel
theorem dX0_ghostListOf_4 : decode cX0_ghostListOf 4 = .ok (.iload_n 1, 1) := by decide +kernel
theorem dX0_ghostListOf_5 : decode cX0_ghostListOf 5 = .ok (.sipush 200, 3) := by decide +kernel
theorem dX0_ghostListOf_8 : decode cX0_ghostListOf 8 = .ok (.if_icmp .ge 12, 3) := by decide +kernel
theorem dX0_ghostListOf_11 : decode cX0_ghostListOf 11 = .ok (.aload_n 0, 1) := by decide +kernel
theorem dX0_ghostListOf_12 : decode cX0_ghostListOf 12 = .ok (.getfield 27, 3) := by decide +kernel
theorem dX0_ghostListOf_15 : decode cX0_ghostListOf 15 = .ok (.iload_n 1, 1) := by decide +kernel
theorem dX0_ghostListOf_16 : decode cX0_ghostListOf 16 = .ok (.iaload, 1) := by decide +kernel
theorem dX0_ghostListOf_17 : decode cX0_ghostListOf 17 = .ok (.goto 4, 3) := by decide +kernel
theorem dX0_ghostListOf_20 : decode cX0_ghostListOf 20 = .ok (.iconst (-1), 1) := by decide +kernel
theorem dX0_ghostListOf_21 : decode cX0_ghostListOf 21 = .ok (.ireturn, 1) := by decide +kernel
theorem dX0_makeCleanUnit_0 : decode cX0_makeCleanUnit 0 = .ok (.iload_n 1, 1) := by decide +kernel
theorem dX0_makeCleanUnit_1 : decode cX0_makeCleanUnit 1 = .ok (.ifCond .lt 29, 3) := by decide +kernel
theorem dX0_makeCleanUnit_4 : decode cX0_makeCleanUnit 4 = .ok (.iload_n 1, 1) := by decide +kernel
theorem dX0_makeCleanUnit_5 : decode cX0_makeCleanUnit 5 = .ok (.sipush 200, 3) := by decide +kernel
theorem dX0_makeCleanUnit_8 : decode cX0_makeCleanUnit 8 = .ok (.if_icmp .ge 22, 3) := by decide +kernel
theorem dX0_makeCleanUnit_11 : decode cX0_makeCleanUnit 11 = .ok (.aload_n 0, 1) := by decide +kernel
theorem dX0_makeCleanUnit_12 : decode cX0_makeCleanUnit 12 = .ok (.getfield 15, 3) := by decide +kernel
theorem dX0_makeCleanUnit_15 : decode cX0_makeCleanUnit 15 = .ok (.iload_n 1, 1) := by decide +kernel
theorem dX0_makeCleanUnit_16 : decode cX0_makeCleanUnit 16 = .ok (.aload_n 0, 1) := by decide +kernel
theorem dX0_makeCleanUnit_17 : decode cX0_makeCleanUnit 17 = .ok (.getfield 9, 3) := by decide +kernel
theorem dX0_makeCleanUnit_20 : decode cX0_makeCleanUnit 20 = .ok (.iload_n 1, 1) := by decide +kernel
theorem dX0_makeCleanUnit_21 : decode cX0_makeCleanUnit 21 = .ok (.iaload, 1) := by decide +kernel
theorem dX0_makeCleanUnit_22 : decode cX0_makeCleanUnit 22 = .ok (.iastore, 1) := by decide +kernel
theorem dX0_makeCleanUnit_23 : decode cX0_makeCleanUnit 23 = .ok (.aload_n 0, 1) := by decide +kernel
theorem dX0_makeCleanUnit_24 : decode cX0_makeCleanUnit 24 = .ok (.getfield 21, 3) := by decide +kernel
theorem dX0_makeCleanUnit_27 : decode cX0_makeCleanUnit 27 = .ok (.iload_n 1, 1) := by decide +kernel
theorem dX0_makeCleanUnit_28 : decode cX0_makeCleanUnit 28 = .ok (.iconst (-1), 1) := by decide +kernel
theorem dX0_makeCleanUnit_29 : decode cX0_makeCleanUnit 29 = .ok (.iastore, 1) := by decide +kernel
theorem dX0_makeCleanUnit_30 : decode cX0_makeCleanUnit 30 = .ok (.return_, 1) := by decide +kernel
theorem dX0_putUnitIn_0 : decode cX0_putUnitIn 0 = .ok (.iload_n 1, 1) := by decide +kernel
theorem dX0_putUnitIn_1 : decode cX0_putUnitIn 1 = .ok (.ifCond .lt 17, 3) := by decide +kernel
theorem dX0_putUnitIn_4 : decode cX0_putUnitIn 4 = .ok (.iload_n 1, 1) := by decide +kernel
theorem dX0_putUnitIn_5 : decode cX0_putUnitIn 5 = .ok (.sipush 200, 3) := by decide +kernel
theorem dX0_putUnitIn_8 : decode cX0_putUnitIn 8 = .ok (.if_icmp .ge 10, 3) := by decide +kernel
theorem dX0_putUnitIn_11 : decode cX0_putUnitIn 11 = .ok (.aload_n 0, 1) := by decide +kernel
theorem dX0_putUnitIn_12 : decode cX0_putUnitIn 12 = .ok (.getfield 24, 3) := by decide +kernel
theorem dX0_putUnitIn_15 : decode cX0_putUnitIn 15 = .ok (.iload_n 1, 1) := by decide +kernel
theorem dX0_putUnitIn_16 : decode cX0_putUnitIn 16 = .ok (.iload_n 2, 1) := by decide +kernel
theorem dX0_putUnitIn_17 : decode cX0_putUnitIn 17 = .ok (.iastore, 1) := by decide +kernel
theorem dX0_putUnitIn_18 : decode cX0_putUnitIn 18 = .ok (.return_, 1) := by decide +kernel
theorem dX0_dropUnit_0 : decode cX0_dropUnit 0 = .ok (.iload_n 1, 1) := by decide +kernel
theorem dX0_dropUnit_1 : decode cX0_dropUnit 1 = .ok (.ifCond .lt 38, 3) := by decide +kernel
theorem dX0_dropUnit_4 : decode cX0_dropUnit 4 = .ok (.iload_n 1, 1) := by decide +kernel
theorem dX0_dropUnit_5 : decode cX0_dropUnit 5 = .ok (.sipush 200, 3) := by decide +kernel
theorem dX0_dropUnit_8 : decode cX0_dropUnit 8 = .ok (.if_icmp .ge 31, 3) := by decide +kernel
theorem dX0_dropUnit_11 : decode cX0_dropUnit 11 = .ok (.aload_n 0, 1) := by decide +kernel
theorem dX0_dropUnit_12 : decode cX0_dropUnit 12 = .ok (.getfield 15, 3) := by decide +kernel
theorem dX0_dropUnit_15 : decode cX0_dropUnit 15 = .ok (.iload_n 1, 1) := by decide +kernel
theorem dX0_dropUnit_16 : decode cX0_dropUnit 16 = .ok (.iconst (-1), 1) := by decide +kernel
theorem dX0_dropUnit_17 : decode cX0_dropUnit 17 = .ok (.iastore, 1) := by decide +kernel
theorem dX0_dropUnit_18 : decode cX0_dropUnit 18 = .ok (.aload_n 0, 1) := by decide +kernel
theorem dX0_dropUnit_19 : decode cX0_dropUnit 19 = .ok (.getfield 18, 3) := by decide +kernel
theorem dX0_dropUnit_22 : decode cX0_dropUnit 22 = .ok (.iload_n 1, 1) := by decide +kernel
theorem dX0_dropUnit_23 : decode cX0_dropUnit 23 = .ok (.iconst (-1), 1) := by decide +kernel
theorem dX0_dropUnit_24 : decode cX0_dropUnit 24 = .ok (.iastore, 1) := by decide +kernel
theorem dX0_dropUnit_25 : decode cX0_dropUnit 25 = .ok (.aload_n 0, 1) := by decide +kernel
theorem dX0_dropUnit_26 : decode cX0_dropUnit 26 = .ok (.getfield 21, 3) := by decide +kernel
theorem dX0_dropUnit_29 : decode cX0_dropUnit 29 = .ok (.iload_n 1, 1) := by decide +kernel
theorem dX0_dropUnit_30 : decode cX0_dropUnit 30 = .ok (.iconst (-1), 1) := by decide +kernel
theorem dX0_dropUnit_31 : decode cX0_dropUnit 31 = .ok (.iastore, 1) := by decide +kernel
theorem dX0_dropUnit_32 : decode cX0_dropUnit 32 = .ok (.aload_n 0, 1) := by decide +kernel
theorem dX0_dropUnit_33 : decode cX0_dropUnit 33 = .ok (.getfield 24, 3) := by decide +kernel
theorem dX0_dropUnit_36 : decode cX0_dropUnit 36 = .ok (.iload_n 1, 1) := by decide +kernel
theorem dX0_dropUnit_37 : decode cX0_dropUnit 37 = .ok (.iconst (-1), 1) := by decide +kernel
theorem dX0_dropUnit_38 : decode cX0_dropUnit 38 = .ok (.iastore, 1) := by decide +kernel
theorem dX0_dropUnit_39 : decode cX0_dropUnit 39 = .ok (.return_, 1) := by decide +kernel
theorem dX0_dropAll_0 : decode cX0_dropAll 0 = .ok (.iconst 0, 1) := by decide +kernel
theorem dX0_dropAll_1 : decode cX0_dropAll 1 = .ok (.istore_n 1, 1) := by decide +kernel
theorem dX0_dropAll_2 : decode cX0_dropAll 2 = .ok (.iload_n 1, 1) := by decide +kernel
theorem dX0_dropAll_3 : decode cX0_dropAll 3 = .ok (.sipush 200, 3) := by decide +kernel
theorem dX0_dropAll_6 : decode cX0_dropAll 6 = .ok (.if_icmp .ge 44, 3) := by decide +kernel
theorem dX0_dropAll_9 : decode cX0_dropAll 9 = .ok (.aload_n 0, 1) := by decide +kernel
theorem dX0_dropAll_10 : decode cX0_dropAll 10 = .ok (.getfield 15, 3) := by decide +kernel
theorem dX0_dropAll_13 : decode cX0_dropAll 13 = .ok (.iload_n 1, 1) := by decide +kernel
theorem dX0_dropAll_14 : decode cX0_dropAll 14 = .ok (.iconst (-1), 1) := by decide +kernel
theorem dX0_dropAll_15 : decode cX0_dropAll 15 = .ok (.iastore, 1) := by decide +kernel
theorem dX0_dropAll_16 : decode cX0_dropAll 16 = .ok (.aload_n 0, 1) := by decide +kernel
theorem dX0_dropAll_17 : decode cX0_dropAll 17 = .ok (.getfield 18, 3) := by decide +kernel
theorem dX0_dropAll_20 : decode cX0_dropAll 20 = .ok (.iload_n 1, 1) := by decide +kernel
theorem dX0_dropAll_21 : decode cX0_dropAll 21 = .ok (.iconst (-1), 1) := by decide +kernel
theorem dX0_dropAll_22 : decode cX0_dropAll 22 = .ok (.iastore, 1) := by decide +kernel
theorem dX0_dropAll_23 : decode cX0_dropAll 23 = .ok (.aload_n 0, 1) := by decide +kernel
theorem dX0_dropAll_24 : decode cX0_dropAll 24 = .ok (.getfield 21, 3) := by decide +kernel
theorem dX0_dropAll_27 : decode cX0_dropAll 27 = .ok (.iload_n 1, 1) := by decide +kernel
theorem dX0_dropAll_28 : decode cX0_dropAll 28 = .ok (.iconst (-1), 1) := by decide +kernel
theorem dX0_dropAll_29 : decode cX0_dropAll 29 = .ok (.iastore, 1) := by decide +kernel
theorem dX0_dropAll_30 : decode cX0_dropAll 30 = .ok (.aload_n 0, 1) := by decide +kernel
theorem dX0_dropAll_31 : decode cX0_dropAll 31 = .ok (.getfield 24, 3) := by decide +kernel
theorem dX0_dropAll_34 : decode cX0_dropAll 34 = .ok (.iload_n 1, 1) := by decide +kernel
theorem dX0_dropAll_35 : decode cX0_dropAll 35 = .ok (.iconst (-1), 1) := by decide +kernel
theorem dX0_dropAll_36 : decode cX0_dropAll 36 = .ok (.iastore, 1) := by decide +kernel
theorem dX0_dropAll_37 : decode cX0_dropAll 37 = .ok (.aload_n 0, 1) := by decide +kernel
theorem dX0_dropAll_38 : decode cX0_dropAll 38 = .ok (.getfield 27, 3) := by decide +kernel
theorem dX0_dropAll_41 : decode cX0_dropAll 41 = .ok (.iload_n 1, 1) := by decide +kernel
theorem dX0_dropAll_42 : decode cX0_dropAll 42 = .ok (.iconst (-1), 1) := by decide +kernel
theorem dX0_dropAll_43 : decode cX0_dropAll 43 = .ok (.iastore, 1) := by decide +kernel
theorem dX0_dropAll_44 : decode cX0_dropAll 44 = .ok (.iinc 1 1, 3) := by decide +kernel
theorem dX0_dropAll_47 : decode cX0_dropAll 47 = .ok (.goto (-45), 3) := by decide +kernel
theorem dX0_dropAll_50 : decode cX0_dropAll 50 = .ok (.return_, 1) := by decide +kernel
theorem dX0_makeGhostOf_0 : decode cX0_makeGhostOf 0 = .ok (.iload_n 1, 1) := by decide +kernel
theorem dX0_makeGhostOf_1 : decode cX0_makeGhostOf 1 = .ok (.ifCond .lt 17, 3) := by decide +kernel
theorem dX0_makeGhostOf_4 : decode cX0_makeGhostOf 4 = .ok (.iload_n 1, 1) := by decide +kernel
theorem dX0_makeGhostOf_5 : decode cX0_makeGhostOf 5 = .ok (.sipush 200, 3) := by decide +kernel
theorem dX0_makeGhostOf_8 : decode cX0_makeGhostOf 8 = .ok (.if_icmp .ge 10, 3) := by decide +kernel
theorem dX0_makeGhostOf_11 : decode cX0_makeGhostOf 11 = .ok (.aload_n 0, 1) := by decide +kernel
theorem dX0_makeGhostOf_12 : decode cX0_makeGhostOf 12 = .ok (.getfield 27, 3) := by decide +kernel
theorem dX0_makeGhostOf_15 : decode cX0_makeGhostOf 15 = .ok (.iload_n 1, 1) := by decide +kernel
theorem dX0_makeGhostOf_16 : decode cX0_makeGhostOf 16 = .ok (.iload_n 2, 1) := by decide +kernel
theorem dX0_makeGhostOf_17 : decode cX0_makeGhostOf 17 = .ok (.iastore, 1) := by decide +kernel
theorem dX0_makeGhostOf_18 : decode cX0_makeGhostOf 18 = .ok (.return_, 1) := by decide +kernel
theorem dX0_giveTo_0 : decode cX0_giveTo 0 = .ok (.iload_n 1, 1) := by decide +kernel
theorem dX0_giveTo_1 : decode cX0_giveTo 1 = .ok (.ifCond .lt 17, 3) := by decide +kernel
theorem dX0_giveTo_4 : decode cX0_giveTo 4 = .ok (.iload_n 1, 1) := by decide +kernel
theorem dX0_giveTo_5 : decode cX0_giveTo 5 = .ok (.sipush 200, 3) := by decide +kernel
theorem dX0_giveTo_8 : decode cX0_giveTo 8 = .ok (.if_icmp .ge 10, 3) := by decide +kernel
theorem dX0_giveTo_11 : decode cX0_giveTo 11 = .ok (.aload_n 0, 1) := by decide +kernel
theorem dX0_giveTo_12 : decode cX0_giveTo 12 = .ok (.getfield 18, 3) := by decide +kernel
theorem dX0_giveTo_15 : decode cX0_giveTo 15 = .ok (.iload_n 1, 1) := by decide +kernel
theorem dX0_giveTo_16 : decode cX0_giveTo 16 = .ok (.iload_n 2, 1) := by decide +kernel
theorem dX0_giveTo_17 : decode cX0_giveTo 17 = .ok (.iastore, 1) := by decide +kernel
theorem dX0_giveTo_18 : decode cX0_giveTo 18 = .ok (.return_, 1) := by decide +kernel
theorem dX0_changeValue_0 : decode cX0_changeValue 0 = .ok (.iload_n 1, 1) := by decide +kernel
theorem dX0_changeValue_1 : decode cX0_changeValue 1 = .ok (.ifCond .lt 34, 3) := by decide +kernel
theorem dX0_changeValue_4 : decode cX0_changeValue 4 = .ok (.iload_n 1, 1) := by decide +kernel
theorem dX0_changeValue_5 : decode cX0_changeValue 5 = .ok (.sipush 200, 3) := by decide +kernel
theorem dX0_changeValue_8 : decode cX0_changeValue 8 = .ok (.if_icmp .ge 27, 3) := by decide +kernel
theorem dX0_changeValue_11 : decode cX0_changeValue 11 = .ok (.aload_n 0, 1) := by decide +kernel
theorem dX0_changeValue_12 : decode cX0_changeValue 12 = .ok (.getfield 15, 3) := by decide +kernel
theorem dX0_changeValue_15 : decode cX0_changeValue 15 = .ok (.iload_n 1, 1) := by decide +kernel
theorem dX0_changeValue_16 : decode cX0_changeValue 16 = .ok (.iload_n 2, 1) := by decide +kernel
theorem dX0_changeValue_17 : decode cX0_changeValue 17 = .ok (.iastore, 1) := by decide +kernel
theorem dX0_changeValue_18 : decode cX0_changeValue 18 = .ok (.aload_n 0, 1) := by decide +kernel
theorem dX0_changeValue_19 : decode cX0_changeValue 19 = .ok (.getfield 21, 3) := by decide +kernel
theorem dX0_changeValue_22 : decode cX0_changeValue 22 = .ok (.iload_n 1, 1) := by decide +kernel
theorem dX0_changeValue_23 : decode cX0_changeValue 23 = .ok (.iaload, 1) := by decide +kernel
theorem dX0_changeValue_24 : decode cX0_changeValue 24 = .ok (.iconst (-1), 1) := by decide +kernel
theorem dX0_changeValue_25 : decode cX0_changeValue 25 = .ok (.if_icmp .ne 10, 3) := by decide +kernel
theorem dX0_changeValue_28 : decode cX0_changeValue 28 = .ok (.aload_n 0, 1) := by decide +kernel
theorem dX0_changeValue_29 : decode cX0_changeValue 29 = .ok (.getfield 21, 3) := by decide +kernel
theorem dX0_changeValue_32 : decode cX0_changeValue 32 = .ok (.iload_n 1, 1) := by decide +kernel
theorem dX0_changeValue_33 : decode cX0_changeValue 33 = .ok (.iload_n 3, 1) := by decide +kernel
theorem dX0_changeValue_34 : decode cX0_changeValue 34 = .ok (.iastore, 1) := by decide +kernel
theorem dX0_changeValue_35 : decode cX0_changeValue 35 = .ok (.return_, 1) := by decide +kernel
theorem dX0_writeBack_0 : decode cX0_writeBack 0 = .ok (.iload_n 1, 1) := by decide +kernel
theorem dX0_writeBack_1 : decode cX0_writeBack 1 = .ok (.ifCond .lt 59, 3) := by decide +kernel
theorem dX0_writeBack_4 : decode cX0_writeBack 4 = .ok (.iload_n 1, 1) := by decide +kernel
theorem dX0_writeBack_5 : decode cX0_writeBack 5 = .ok (.sipush 200, 3) := by decide +kernel
theorem dX0_writeBack_8 : decode cX0_writeBack 8 = .ok (.if_icmp .ge 52, 3) := by decide +kernel
theorem dX0_writeBack_11 : decode cX0_writeBack 11 = .ok (.aload_n 0, 1) := by decide +kernel
theorem dX0_writeBack_12 : decode cX0_writeBack 12 = .ok (.getfield 9, 3) := by decide +kernel
theorem dX0_writeBack_15 : decode cX0_writeBack 15 = .ok (.iload_n 1, 1) := by decide +kernel
theorem dX0_writeBack_16 : decode cX0_writeBack 16 = .ok (.aload_n 0, 1) := by decide +kernel
theorem dX0_writeBack_17 : decode cX0_writeBack 17 = .ok (.getfield 15, 3) := by decide +kernel
theorem dX0_writeBack_20 : decode cX0_writeBack 20 = .ok (.iload_n 1, 1) := by decide +kernel
theorem dX0_writeBack_21 : decode cX0_writeBack 21 = .ok (.iaload, 1) := by decide +kernel
theorem dX0_writeBack_22 : decode cX0_writeBack 22 = .ok (.iastore, 1) := by decide +kernel
theorem dX0_writeBack_23 : decode cX0_writeBack 23 = .ok (.aload_n 0, 1) := by decide +kernel
theorem dX0_writeBack_24 : decode cX0_writeBack 24 = .ok (.getfield 21, 3) := by decide +kernel
theorem dX0_writeBack_27 : decode cX0_writeBack 27 = .ok (.iload_n 1, 1) := by decide +kernel
theorem dX0_writeBack_28 : decode cX0_writeBack 28 = .ok (.iconst (-1), 1) := by decide +kernel
theorem dX0_writeBack_29 : decode cX0_writeBack 29 = .ok (.iastore, 1) := by decide +kernel
theorem dX0_writeBack_30 : decode cX0_writeBack 30 = .ok (.aload_n 0, 1) := by decide +kernel
theorem dX0_writeBack_31 : decode cX0_writeBack 31 = .ok (.iload_n 1, 1) := by decide +kernel
theorem dX0_writeBack_32 : decode cX0_writeBack 32 = .ok (.iconst 1, 1) := by decide +kernel
theorem dX0_writeBack_33 : decode cX0_writeBack 33 = .ok (.iadd, 1) := by decide +kernel
theorem dX0_writeBack_34 : decode cX0_writeBack 34 = .ok (.sipush 200, 3) := by decide +kernel
theorem dX0_writeBack_37 : decode cX0_writeBack 37 = .ok (.if_icmp .ne 7, 3) := by decide +kernel
theorem dX0_writeBack_40 : decode cX0_writeBack 40 = .ok (.iconst 0, 1) := by decide +kernel
theorem dX0_writeBack_41 : decode cX0_writeBack 41 = .ok (.goto 6, 3) := by decide +kernel
theorem dX0_writeBack_44 : decode cX0_writeBack 44 = .ok (.iload_n 1, 1) := by decide +kernel
theorem dX0_writeBack_45 : decode cX0_writeBack 45 = .ok (.iconst 1, 1) := by decide +kernel
theorem dX0_writeBack_46 : decode cX0_writeBack 46 = .ok (.iadd, 1) := by decide +kernel
theorem dX0_writeBack_47 : decode cX0_writeBack 47 = .ok (.putfield 30, 3) := by decide +kernel
theorem dX0_writeBack_50 : decode cX0_writeBack 50 = .ok (.aload_n 0, 1) := by decide +kernel
theorem dX0_writeBack_51 : decode cX0_writeBack 51 = .ok (.dup, 1) := by decide +kernel
theorem dX0_writeBack_52 : decode cX0_writeBack 52 = .ok (.getfield 34, 3) := by decide +kernel
theorem dX0_writeBack_55 : decode cX0_writeBack 55 = .ok (.iconst 1, 1) := by decide +kernel
theorem dX0_writeBack_56 : decode cX0_writeBack 56 = .ok (.iadd, 1) := by decide +kernel
theorem dX0_writeBack_57 : decode cX0_writeBack 57 = .ok (.putfield 34, 3) := by decide +kernel
theorem dX0_writeBack_60 : decode cX0_writeBack 60 = .ok (.return_, 1) := by decide +kernel
theorem dX0_writeBackSome_0 : decode cX0_writeBackSome 0 = .ok (.iconst 0, 1) := by decide +kernel
theorem dX0_writeBackSome_1 : decode cX0_writeBackSome 1 = .ok (.istore_n 2, 1) := by decide +kernel
theorem dX0_writeBackSome_2 : decode cX0_writeBackSome 2 = .ok (.iload_n 2, 1) := by decide +kernel
theorem dX0_writeBackSome_3 : decode cX0_writeBackSome 3 = .ok (.iload_n 1, 1) := by decide +kernel
theorem dX0_writeBackSome_4 : decode cX0_writeBackSome 4 = .ok (.if_icmp .ge 34, 3) := by decide +kernel
theorem dX0_writeBackSome_7 : decode cX0_writeBackSome 7 = .ok (.iload_n 2, 1) := by decide +kernel
theorem dX0_writeBackSome_8 : decode cX0_writeBackSome 8 = .ok (.sipush 200, 3) := by decide +kernel
theorem dX0_writeBackSome_11 : decode cX0_writeBackSome 11 = .ok (.if_icmp .ge 27, 3) := by decide +kernel
theorem dX0_writeBackSome_14 : decode cX0_writeBackSome 14 = .ok (.aload_n 0, 1) := by decide +kernel
theorem dX0_writeBackSome_15 : decode cX0_writeBackSome 15 = .ok (.iconst 0, 1) := by decide +kernel
theorem dX0_writeBackSome_16 : decode cX0_writeBackSome 16 = .ok (.invokevirtual 37, 3) := by decide +kernel
theorem dX0_writeBackSome_19 : decode cX0_writeBackSome 19 = .ok (.istore_n 3, 1) := by decide +kernel
theorem dX0_writeBackSome_20 : decode cX0_writeBackSome 20 = .ok (.iload_n 3, 1) := by decide +kernel
theorem dX0_writeBackSome_21 : decode cX0_writeBackSome 21 = .ok (.iconst (-1), 1) := by decide +kernel
theorem dX0_writeBackSome_22 : decode cX0_writeBackSome 22 = .ok (.if_icmp .ne 5, 3) := by decide +kernel
theorem dX0_writeBackSome_25 : decode cX0_writeBackSome 25 = .ok (.iload_n 2, 1) := by decide +kernel
theorem dX0_writeBackSome_26 : decode cX0_writeBackSome 26 = .ok (.ireturn, 1) := by decide +kernel
theorem dX0_writeBackSome_27 : decode cX0_writeBackSome 27 = .ok (.aload_n 0, 1) := by decide +kernel
theorem dX0_writeBackSome_28 : decode cX0_writeBackSome 28 = .ok (.iload_n 3, 1) := by decide +kernel
theorem dX0_writeBackSome_29 : decode cX0_writeBackSome 29 = .ok (.invokevirtual 41, 3) := by decide +kernel
theorem dX0_writeBackSome_32 : decode cX0_writeBackSome 32 = .ok (.iinc 2 1, 3) := by decide +kernel
theorem dX0_writeBackSome_35 : decode cX0_writeBackSome 35 = .ok (.goto (-33), 3) := by decide +kernel
theorem dX0_writeBackSome_38 : decode cX0_writeBackSome 38 = .ok (.iload_n 2, 1) := by decide +kernel
theorem dX0_writeBackSome_39 : decode cX0_writeBackSome 39 = .ok (.ireturn, 1) := by decide +kernel
theorem dX0_howManyDirty_0 : decode cX0_howManyDirty 0 = .ok (.iconst 0, 1) := by decide +kernel
theorem dX0_howManyDirty_1 : decode cX0_howManyDirty 1 = .ok (.istore_n 1, 1) := by decide +kernel
theorem dX0_howManyDirty_2 : decode cX0_howManyDirty 2 = .ok (.iconst 0, 1) := by decide +kernel
theorem dX0_howManyDirty_3 : decode cX0_howManyDirty 3 = .ok (.istore_n 2, 1) := by decide +kernel
theorem dX0_howManyDirty_4 : decode cX0_howManyDirty 4 = .ok (.iload_n 2, 1) := by decide +kernel
theorem dX0_howManyDirty_5 : decode cX0_howManyDirty 5 = .ok (.sipush 200, 3) := by decide +kernel
theorem dX0_howManyDirty_8 : decode cX0_howManyDirty 8 = .ok (.if_icmp .ge 22, 3) := by decide +kernel
theorem dX0_howManyDirty_11 : decode cX0_howManyDirty 11 = .ok (.aload_n 0, 1) := by decide +kernel
theorem dX0_howManyDirty_12 : decode cX0_howManyDirty 12 = .ok (.getfield 21, 3) := by decide +kernel
theorem dX0_howManyDirty_15 : decode cX0_howManyDirty 15 = .ok (.iload_n 2, 1) := by decide +kernel
theorem dX0_howManyDirty_16 : decode cX0_howManyDirty 16 = .ok (.iaload, 1) := by decide +kernel
theorem dX0_howManyDirty_17 : decode cX0_howManyDirty 17 = .ok (.iconst (-1), 1) := by decide +kernel
theorem dX0_howManyDirty_18 : decode cX0_howManyDirty 18 = .ok (.if_icmp .eq 6, 3) := by decide +kernel
theorem dX0_howManyDirty_21 : decode cX0_howManyDirty 21 = .ok (.iinc 1 1, 3) := by decide +kernel
theorem dX0_howManyDirty_24 : decode cX0_howManyDirty 24 = .ok (.iinc 2 1, 3) := by decide +kernel
theorem dX0_howManyDirty_27 : decode cX0_howManyDirty 27 = .ok (.goto (-23), 3) := by decide +kernel
theorem dX0_howManyDirty_30 : decode cX0_howManyDirty 30 = .ok (.iload_n 1, 1) := by decide +kernel
theorem dX0_howManyDirty_31 : decode cX0_howManyDirty 31 = .ok (.ireturn, 1) := by decide +kernel
theorem dX0_dirtyAt_0 : decode cX0_dirtyAt 0 = .ok (.iconst 0, 1) := by decide +kernel
theorem dX0_dirtyAt_1 : decode cX0_dirtyAt 1 = .ok (.istore_n 2, 1) := by decide +kernel
theorem dX0_dirtyAt_2 : decode cX0_dirtyAt 2 = .ok (.iconst 0, 1) := by decide +kernel
theorem dX0_dirtyAt_3 : decode cX0_dirtyAt 3 = .ok (.istore_n 3, 1) := by decide +kernel
theorem dX0_dirtyAt_4 : decode cX0_dirtyAt 4 = .ok (.iload_n 3, 1) := by decide +kernel
theorem dX0_dirtyAt_5 : decode cX0_dirtyAt 5 = .ok (.sipush 200, 3) := by decide +kernel
theorem dX0_dirtyAt_8 : decode cX0_dirtyAt 8 = .ok (.if_icmp .ge 41, 3) := by decide +kernel
theorem dX0_dirtyAt_11 : decode cX0_dirtyAt 11 = .ok (.aload_n 0, 1) := by decide +kernel
theorem dX0_dirtyAt_12 : decode cX0_dirtyAt 12 = .ok (.getfield 30, 3) := by decide +kernel
theorem dX0_dirtyAt_15 : decode cX0_dirtyAt 15 = .ok (.iload_n 3, 1) := by decide +kernel
theorem dX0_dirtyAt_16 : decode cX0_dirtyAt 16 = .ok (.iadd, 1) := by decide +kernel
theorem dX0_dirtyAt_17 : decode cX0_dirtyAt 17 = .ok (.sipush 200, 3) := by decide +kernel
theorem dX0_dirtyAt_20 : decode cX0_dirtyAt 20 = .ok (.irem, 1) := by decide +kernel
theorem dX0_dirtyAt_21 : decode cX0_dirtyAt 21 = .ok (.istore 4, 2) := by decide +kernel
theorem dX0_dirtyAt_23 : decode cX0_dirtyAt 23 = .ok (.aload_n 0, 1) := by decide +kernel
theorem dX0_dirtyAt_24 : decode cX0_dirtyAt 24 = .ok (.iload 4, 2) := by decide +kernel
theorem dX0_dirtyAt_26 : decode cX0_dirtyAt 26 = .ok (.invokevirtual 45, 3) := by decide +kernel
theorem dX0_dirtyAt_29 : decode cX0_dirtyAt 29 = .ok (.ifCond .eq 14, 3) := by decide +kernel
theorem dX0_dirtyAt_32 : decode cX0_dirtyAt 32 = .ok (.iload_n 2, 1) := by decide +kernel
theorem dX0_dirtyAt_33 : decode cX0_dirtyAt 33 = .ok (.iload_n 1, 1) := by decide +kernel
theorem dX0_dirtyAt_34 : decode cX0_dirtyAt 34 = .ok (.if_icmp .ne 6, 3) := by decide +kernel
theorem dX0_dirtyAt_37 : decode cX0_dirtyAt 37 = .ok (.iload 4, 2) := by decide +kernel
theorem dX0_dirtyAt_39 : decode cX0_dirtyAt 39 = .ok (.ireturn, 1) := by decide +kernel
theorem dX0_dirtyAt_40 : decode cX0_dirtyAt 40 = .ok (.iinc 2 1, 3) := by decide +kernel
theorem dX0_dirtyAt_43 : decode cX0_dirtyAt 43 = .ok (.iinc 3 1, 3) := by decide +kernel
theorem dX0_dirtyAt_46 : decode cX0_dirtyAt 46 = .ok (.goto (-42), 3) := by decide +kernel
theorem dX0_dirtyAt_49 : decode cX0_dirtyAt 49 = .ok (.iconst (-1), 1) := by decide +kernel
theorem dX0_dirtyAt_50 : decode cX0_dirtyAt 50 = .ok (.ireturn, 1) := by decide +kernel
theorem dX0_rankOf_0 : decode cX0_rankOf 0 = .ok (.aload_n 0, 1) := by decide +kernel
theorem dX0_rankOf_1 : decode cX0_rankOf 1 = .ok (.iload_n 1, 1) := by decide +kernel
theorem dX0_rankOf_2 : decode cX0_rankOf 2 = .ok (.invokevirtual 45, 3) := by decide +kernel
theorem dX0_rankOf_5 : decode cX0_rankOf 5 = .ok (.ifCond .ne 5, 3) := by decide +kernel
theorem dX0_rankOf_8 : decode cX0_rankOf 8 = .ok (.iconst (-1), 1) := by decide +kernel
theorem dX0_rankOf_9 : decode cX0_rankOf 9 = .ok (.ireturn, 1) := by decide +kernel
theorem dX0_rankOf_10 : decode cX0_rankOf 10 = .ok (.iconst 0, 1) := by decide +kernel
theorem dX0_rankOf_11 : decode cX0_rankOf 11 = .ok (.istore_n 2, 1) := by decide +kernel
theorem dX0_rankOf_12 : decode cX0_rankOf 12 = .ok (.iconst 0, 1) := by decide +kernel
theorem dX0_rankOf_13 : decode cX0_rankOf 13 = .ok (.istore_n 3, 1) := by decide +kernel
theorem dX0_rankOf_14 : decode cX0_rankOf 14 = .ok (.iload_n 3, 1) := by decide +kernel
theorem dX0_rankOf_15 : decode cX0_rankOf 15 = .ok (.sipush 200, 3) := by decide +kernel
theorem dX0_rankOf_18 : decode cX0_rankOf 18 = .ok (.if_icmp .ge 41, 3) := by decide +kernel
theorem dX0_rankOf_21 : decode cX0_rankOf 21 = .ok (.aload_n 0, 1) := by decide +kernel
theorem dX0_rankOf_22 : decode cX0_rankOf 22 = .ok (.getfield 30, 3) := by decide +kernel
theorem dX0_rankOf_25 : decode cX0_rankOf 25 = .ok (.iload_n 3, 1) := by decide +kernel
theorem dX0_rankOf_26 : decode cX0_rankOf 26 = .ok (.iadd, 1) := by decide +kernel
theorem dX0_rankOf_27 : decode cX0_rankOf 27 = .ok (.sipush 200, 3) := by decide +kernel
theorem dX0_rankOf_30 : decode cX0_rankOf 30 = .ok (.irem, 1) := by decide +kernel
theorem dX0_rankOf_31 : decode cX0_rankOf 31 = .ok (.istore 4, 2) := by decide +kernel
theorem dX0_rankOf_33 : decode cX0_rankOf 33 = .ok (.iload 4, 2) := by decide +kernel
theorem dX0_rankOf_35 : decode cX0_rankOf 35 = .ok (.iload_n 1, 1) := by decide +kernel
theorem dX0_rankOf_36 : decode cX0_rankOf 36 = .ok (.if_icmp .ne 5, 3) := by decide +kernel
theorem dX0_rankOf_39 : decode cX0_rankOf 39 = .ok (.iload_n 2, 1) := by decide +kernel
theorem dX0_rankOf_40 : decode cX0_rankOf 40 = .ok (.ireturn, 1) := by decide +kernel
theorem dX0_rankOf_41 : decode cX0_rankOf 41 = .ok (.aload_n 0, 1) := by decide +kernel
theorem dX0_rankOf_42 : decode cX0_rankOf 42 = .ok (.iload 4, 2) := by decide +kernel
theorem dX0_rankOf_44 : decode cX0_rankOf 44 = .ok (.invokevirtual 45, 3) := by decide +kernel
theorem dX0_rankOf_47 : decode cX0_rankOf 47 = .ok (.ifCond .eq 6, 3) := by decide +kernel
theorem dX0_rankOf_50 : decode cX0_rankOf 50 = .ok (.iinc 2 1, 3) := by decide +kernel
theorem dX0_rankOf_53 : decode cX0_rankOf 53 = .ok (.iinc 3 1, 3) := by decide +kernel
theorem dX0_rankOf_56 : decode cX0_rankOf 56 = .ok (.goto (-42), 3) := by decide +kernel
theorem dX0_rankOf_59 : decode cX0_rankOf 59 = .ok (.iconst (-1), 1) := by decide +kernel
theorem dX0_rankOf_60 : decode cX0_rankOf 60 = .ok (.ireturn, 1) := by decide +kernel
theorem dX0_dirtyLongest_0 : decode cX0_dirtyLongest 0 = .ok (.iconst (-1), 1) := by decide +kernel
theorem dX0_dirtyLongest_1 : decode cX0_dirtyLongest 1 = .ok (.istore_n 1, 1) := by decide +kernel
theorem dX0_dirtyLongest_2 : decode cX0_dirtyLongest 2 = .ok (.iconst 0, 1) := by decide +kernel
theorem dX0_dirtyLongest_3 : decode cX0_dirtyLongest 3 = .ok (.istore_n 2, 1) := by decide +kernel
theorem dX0_dirtyLongest_4 : decode cX0_dirtyLongest 4 = .ok (.iload_n 2, 1) := by decide +kernel
theorem dX0_dirtyLongest_5 : decode cX0_dirtyLongest 5 = .ok (.sipush 200, 3) := by decide +kernel
theorem dX0_dirtyLongest_8 : decode cX0_dirtyLongest 8 = .ok (.if_icmp .ge 40, 3) := by decide +kernel
theorem dX0_dirtyLongest_11 : decode cX0_dirtyLongest 11 = .ok (.aload_n 0, 1) := by decide +kernel
theorem dX0_dirtyLongest_12 : decode cX0_dirtyLongest 12 = .ok (.getfield 21, 3) := by decide +kernel
theorem dX0_dirtyLongest_15 : decode cX0_dirtyLongest 15 = .ok (.iload_n 2, 1) := by decide +kernel
theorem dX0_dirtyLongest_16 : decode cX0_dirtyLongest 16 = .ok (.iaload, 1) := by decide +kernel
theorem dX0_dirtyLongest_17 : decode cX0_dirtyLongest 17 = .ok (.iconst (-1), 1) := by decide +kernel
theorem dX0_dirtyLongest_18 : decode cX0_dirtyLongest 18 = .ok (.if_icmp .eq 24, 3) := by decide +kernel
theorem dX0_dirtyLongest_21 : decode cX0_dirtyLongest 21 = .ok (.iload_n 1, 1) := by decide +kernel
theorem dX0_dirtyLongest_22 : decode cX0_dirtyLongest 22 = .ok (.iconst (-1), 1) := by decide +kernel
theorem dX0_dirtyLongest_23 : decode cX0_dirtyLongest 23 = .ok (.if_icmp .eq 17, 3) := by decide +kernel
theorem dX0_dirtyLongest_26 : decode cX0_dirtyLongest 26 = .ok (.aload_n 0, 1) := by decide +kernel
theorem dX0_dirtyLongest_27 : decode cX0_dirtyLongest 27 = .ok (.getfield 21, 3) := by decide +kernel
theorem dX0_dirtyLongest_30 : decode cX0_dirtyLongest 30 = .ok (.iload_n 2, 1) := by decide +kernel
theorem dX0_dirtyLongest_31 : decode cX0_dirtyLongest 31 = .ok (.iaload, 1) := by decide +kernel
theorem dX0_dirtyLongest_32 : decode cX0_dirtyLongest 32 = .ok (.aload_n 0, 1) := by decide +kernel
theorem dX0_dirtyLongest_33 : decode cX0_dirtyLongest 33 = .ok (.iload_n 1, 1) := by decide +kernel
theorem dX0_dirtyLongest_34 : decode cX0_dirtyLongest 34 = .ok (.invokevirtual 49, 3) := by decide +kernel
theorem dX0_dirtyLongest_37 : decode cX0_dirtyLongest 37 = .ok (.if_icmp .ge 5, 3) := by decide +kernel
theorem dX0_dirtyLongest_40 : decode cX0_dirtyLongest 40 = .ok (.iload_n 2, 1) := by decide +kernel
theorem dX0_dirtyLongest_41 : decode cX0_dirtyLongest 41 = .ok (.istore_n 1, 1) := by decide +kernel
theorem dX0_dirtyLongest_42 : decode cX0_dirtyLongest 42 = .ok (.iinc 2 1, 3) := by decide +kernel
theorem dX0_dirtyLongest_45 : decode cX0_dirtyLongest 45 = .ok (.goto (-41), 3) := by decide +kernel
theorem dX0_dirtyLongest_48 : decode cX0_dirtyLongest 48 = .ok (.iload_n 1, 1) := by decide +kernel
theorem dX0_dirtyLongest_49 : decode cX0_dirtyLongest 49 = .ok (.ireturn, 1) := by decide +kernel
theorem dX0_howManyDirtySince_0 : decode cX0_howManyDirtySince 0 = .ok (.iconst 0, 1) := by decide +kernel
theorem dX0_howManyDirtySince_1 : decode cX0_howManyDirtySince 1 = .ok (.istore_n 2, 1) := by decide +kernel
theorem dX0_howManyDirtySince_2 : decode cX0_howManyDirtySince 2 = .ok (.iconst 0, 1) := by decide +kernel
theorem dX0_howManyDirtySince_3 : decode cX0_howManyDirtySince 3 = .ok (.istore_n 3, 1) := by decide +kernel
theorem dX0_howManyDirtySince_4 : decode cX0_howManyDirtySince 4 = .ok (.iload_n 3, 1) := by decide +kernel
theorem dX0_howManyDirtySince_5 : decode cX0_howManyDirtySince 5 = .ok (.sipush 200, 3) := by decide +kernel
theorem dX0_howManyDirtySince_8 : decode cX0_howManyDirtySince 8 = .ok (.if_icmp .ge 32, 3) := by decide +kernel
theorem dX0_howManyDirtySince_11 : decode cX0_howManyDirtySince 11 = .ok (.aload_n 0, 1) := by decide +kernel
theorem dX0_howManyDirtySince_12 : decode cX0_howManyDirtySince 12 = .ok (.getfield 21, 3) := by decide +kernel
theorem dX0_howManyDirtySince_15 : decode cX0_howManyDirtySince 15 = .ok (.iload_n 3, 1) := by decide +kernel
theorem dX0_howManyDirtySince_16 : decode cX0_howManyDirtySince 16 = .ok (.iaload, 1) := by decide +kernel
theorem dX0_howManyDirtySince_17 : decode cX0_howManyDirtySince 17 = .ok (.iconst (-1), 1) := by decide +kernel
theorem dX0_howManyDirtySince_18 : decode cX0_howManyDirtySince 18 = .ok (.if_icmp .eq 16, 3) := by decide +kernel
theorem dX0_howManyDirtySince_21 : decode cX0_howManyDirtySince 21 = .ok (.aload_n 0, 1) := by decide +kernel
theorem dX0_howManyDirtySince_22 : decode cX0_howManyDirtySince 22 = .ok (.getfield 21, 3) := by decide +kernel
theorem dX0_howManyDirtySince_25 : decode cX0_howManyDirtySince 25 = .ok (.iload_n 3, 1) := by decide +kernel
theorem dX0_howManyDirtySince_26 : decode cX0_howManyDirtySince 26 = .ok (.iaload, 1) := by decide +kernel
theorem dX0_howManyDirtySince_27 : decode cX0_howManyDirtySince 27 = .ok (.iload_n 1, 1) := by decide +kernel
theorem dX0_howManyDirtySince_28 : decode cX0_howManyDirtySince 28 = .ok (.if_icmp .gt 6, 3) := by decide +kernel
theorem dX0_howManyDirtySince_31 : decode cX0_howManyDirtySince 31 = .ok (.iinc 2 1, 3) := by decide +kernel
theorem dX0_howManyDirtySince_34 : decode cX0_howManyDirtySince 34 = .ok (.iinc 3 1, 3) := by decide +kernel
theorem dX0_howManyDirtySince_37 : decode cX0_howManyDirtySince 37 = .ok (.goto (-33), 3) := by decide +kernel
theorem dX0_howManyDirtySince_40 : decode cX0_howManyDirtySince 40 = .ok (.iload_n 2, 1) := by decide +kernel
theorem dX0_howManyDirtySince_41 : decode cX0_howManyDirtySince 41 = .ok (.ireturn, 1) := by decide +kernel
theorem dX0_howManyDiffer_0 : decode cX0_howManyDiffer 0 = .ok (.iconst 0, 1) := by decide +kernel
theorem dX0_howManyDiffer_1 : decode cX0_howManyDiffer 1 = .ok (.istore_n 1, 1) := by decide +kernel
theorem dX0_howManyDiffer_2 : decode cX0_howManyDiffer 2 = .ok (.iconst 0, 1) := by decide +kernel
theorem dX0_howManyDiffer_3 : decode cX0_howManyDiffer 3 = .ok (.istore_n 2, 1) := by decide +kernel
theorem dX0_howManyDiffer_4 : decode cX0_howManyDiffer 4 = .ok (.iload_n 2, 1) := by decide +kernel
theorem dX0_howManyDiffer_5 : decode cX0_howManyDiffer 5 = .ok (.sipush 200, 3) := by decide +kernel
theorem dX0_howManyDiffer_8 : decode cX0_howManyDiffer 8 = .ok (.if_icmp .ge 37, 3) := by decide +kernel
theorem dX0_howManyDiffer_11 : decode cX0_howManyDiffer 11 = .ok (.aload_n 0, 1) := by decide +kernel
theorem dX0_howManyDiffer_12 : decode cX0_howManyDiffer 12 = .ok (.getfield 24, 3) := by decide +kernel
theorem dX0_howManyDiffer_15 : decode cX0_howManyDiffer 15 = .ok (.iload_n 2, 1) := by decide +kernel
theorem dX0_howManyDiffer_16 : decode cX0_howManyDiffer 16 = .ok (.iaload, 1) := by decide +kernel
theorem dX0_howManyDiffer_17 : decode cX0_howManyDiffer 17 = .ok (.iconst (-1), 1) := by decide +kernel
theorem dX0_howManyDiffer_18 : decode cX0_howManyDiffer 18 = .ok (.if_icmp .eq 21, 3) := by decide +kernel
theorem dX0_howManyDiffer_21 : decode cX0_howManyDiffer 21 = .ok (.aload_n 0, 1) := by decide +kernel
theorem dX0_howManyDiffer_22 : decode cX0_howManyDiffer 22 = .ok (.getfield 15, 3) := by decide +kernel
theorem dX0_howManyDiffer_25 : decode cX0_howManyDiffer 25 = .ok (.iload_n 2, 1) := by decide +kernel
theorem dX0_howManyDiffer_26 : decode cX0_howManyDiffer 26 = .ok (.iaload, 1) := by decide +kernel
theorem dX0_howManyDiffer_27 : decode cX0_howManyDiffer 27 = .ok (.aload_n 0, 1) := by decide +kernel
theorem dX0_howManyDiffer_28 : decode cX0_howManyDiffer 28 = .ok (.getfield 9, 3) := by decide +kernel
theorem dX0_howManyDiffer_31 : decode cX0_howManyDiffer 31 = .ok (.iload_n 2, 1) := by decide +kernel
theorem dX0_howManyDiffer_32 : decode cX0_howManyDiffer 32 = .ok (.iaload, 1) := by decide +kernel
theorem dX0_howManyDiffer_33 : decode cX0_howManyDiffer 33 = .ok (.if_icmp .eq 6, 3) := by decide +kernel
theorem dX0_howManyDiffer_36 : decode cX0_howManyDiffer 36 = .ok (.iinc 1 1, 3) := by decide +kernel
theorem dX0_howManyDiffer_39 : decode cX0_howManyDiffer 39 = .ok (.iinc 2 1, 3) := by decide +kernel
theorem dX0_howManyDiffer_42 : decode cX0_howManyDiffer 42 = .ok (.goto (-38), 3) := by decide +kernel
theorem dX0_howManyDiffer_45 : decode cX0_howManyDiffer 45 = .ok (.iload_n 1, 1) := by decide +kernel
theorem dX0_howManyDiffer_46 : decode cX0_howManyDiffer 46 = .ok (.ireturn, 1) := by decide +kernel
theorem dX0_longestChain_0 : decode cX0_longestChain 0 = .ok (.iconst 0, 1) := by decide +kernel
theorem dX0_longestChain_1 : decode cX0_longestChain 1 = .ok (.istore_n 2, 1) := by decide +kernel
theorem dX0_longestChain_2 : decode cX0_longestChain 2 = .ok (.iconst 0, 1) := by decide +kernel
theorem dX0_longestChain_3 : decode cX0_longestChain 3 = .ok (.istore_n 3, 1) := by decide +kernel
theorem dX0_longestChain_4 : decode cX0_longestChain 4 = .ok (.iconst 0, 1) := by decide +kernel
theorem dX0_longestChain_5 : decode cX0_longestChain 5 = .ok (.istore 4, 2) := by decide +kernel
theorem dX0_longestChain_7 : decode cX0_longestChain 7 = .ok (.iload 4, 2) := by decide +kernel
theorem dX0_longestChain_9 : decode cX0_longestChain 9 = .ok (.sipush 200, 3) := by decide +kernel
theorem dX0_longestChain_12 : decode cX0_longestChain 12 = .ok (.if_icmp .ge 57, 3) := by decide +kernel
theorem dX0_longestChain_15 : decode cX0_longestChain 15 = .ok (.aload_n 0, 1) := by decide +kernel
theorem dX0_longestChain_16 : decode cX0_longestChain 16 = .ok (.getfield 24, 3) := by decide +kernel
theorem dX0_longestChain_19 : decode cX0_longestChain 19 = .ok (.iload 4, 2) := by decide +kernel
theorem dX0_longestChain_21 : decode cX0_longestChain 21 = .ok (.iaload, 1) := by decide +kernel
theorem dX0_longestChain_22 : decode cX0_longestChain 22 = .ok (.iload_n 1, 1) := by decide +kernel
theorem dX0_longestChain_23 : decode cX0_longestChain 23 = .ok (.if_icmp .eq 14, 3) := by decide +kernel
theorem dX0_longestChain_26 : decode cX0_longestChain 26 = .ok (.aload_n 0, 1) := by decide +kernel
theorem dX0_longestChain_27 : decode cX0_longestChain 27 = .ok (.getfield 27, 3) := by decide +kernel
theorem dX0_longestChain_30 : decode cX0_longestChain 30 = .ok (.iload 4, 2) := by decide +kernel
theorem dX0_longestChain_32 : decode cX0_longestChain 32 = .ok (.iaload, 1) := by decide +kernel
theorem dX0_longestChain_33 : decode cX0_longestChain 33 = .ok (.iload_n 1, 1) := by decide +kernel
theorem dX0_longestChain_34 : decode cX0_longestChain 34 = .ok (.if_icmp .ne 7, 3) := by decide +kernel
theorem dX0_longestChain_37 : decode cX0_longestChain 37 = .ok (.iconst 1, 1) := by decide +kernel
theorem dX0_longestChain_38 : decode cX0_longestChain 38 = .ok (.goto 4, 3) := by decide +kernel
theorem dX0_longestChain_41 : decode cX0_longestChain 41 = .ok (.iconst 0, 1) := by decide +kernel
theorem dX0_longestChain_42 : decode cX0_longestChain 42 = .ok (.istore 5, 2) := by decide +kernel
theorem dX0_longestChain_44 : decode cX0_longestChain 44 = .ok (.iload 5, 2) := by decide +kernel
theorem dX0_longestChain_46 : decode cX0_longestChain 46 = .ok (.ifCond .eq 9, 3) := by decide +kernel
theorem dX0_longestChain_49 : decode cX0_longestChain 49 = .ok (.iload_n 3, 1) := by decide +kernel
theorem dX0_longestChain_50 : decode cX0_longestChain 50 = .ok (.iconst 1, 1) := by decide +kernel
theorem dX0_longestChain_51 : decode cX0_longestChain 51 = .ok (.iadd, 1) := by decide +kernel
theorem dX0_longestChain_52 : decode cX0_longestChain 52 = .ok (.goto 4, 3) := by decide +kernel
theorem dX0_longestChain_55 : decode cX0_longestChain 55 = .ok (.iconst 0, 1) := by decide +kernel
theorem dX0_longestChain_56 : decode cX0_longestChain 56 = .ok (.istore_n 3, 1) := by decide +kernel
theorem dX0_longestChain_57 : decode cX0_longestChain 57 = .ok (.iload_n 2, 1) := by decide +kernel
theorem dX0_longestChain_58 : decode cX0_longestChain 58 = .ok (.iload_n 3, 1) := by decide +kernel
theorem dX0_longestChain_59 : decode cX0_longestChain 59 = .ok (.invokestatic 52, 3) := by decide +kernel
theorem dX0_longestChain_62 : decode cX0_longestChain 62 = .ok (.istore_n 2, 1) := by decide +kernel
theorem dX0_longestChain_63 : decode cX0_longestChain 63 = .ok (.iinc 4 1, 3) := by decide +kernel
theorem dX0_longestChain_66 : decode cX0_longestChain 66 = .ok (.goto (-59), 3) := by decide +kernel
theorem dX0_longestChain_69 : decode cX0_longestChain 69 = .ok (.iload_n 2, 1) := by decide +kernel
theorem dX0_longestChain_70 : decode cX0_longestChain 70 = .ok (.ireturn, 1) := by decide +kernel
theorem dX0_copyFrom_0 : decode cX0_copyFrom 0 = .ok (.aload_n 1, 1) := by decide +kernel
theorem dX0_copyFrom_1 : decode cX0_copyFrom 1 = .ok (.getfield 9, 3) := by decide +kernel
theorem dX0_copyFrom_4 : decode cX0_copyFrom 4 = .ok (.iconst 0, 1) := by decide +kernel
theorem dX0_copyFrom_5 : decode cX0_copyFrom 5 = .ok (.aload_n 0, 1) := by decide +kernel
theorem dX0_copyFrom_6 : decode cX0_copyFrom 6 = .ok (.getfield 9, 3) := by decide +kernel
theorem dX0_copyFrom_9 : decode cX0_copyFrom 9 = .ok (.iconst 0, 1) := by decide +kernel
theorem dX0_copyFrom_10 : decode cX0_copyFrom 10 = .ok (.sipush 200, 3) := by decide +kernel
theorem dX0_copyFrom_13 : decode cX0_copyFrom 13 = .ok (.invokestatic 58, 3) := by decide +kernel
theorem dX0_copyFrom_16 : decode cX0_copyFrom 16 = .ok (.aload_n 1, 1) := by decide +kernel
theorem dX0_copyFrom_17 : decode cX0_copyFrom 17 = .ok (.getfield 15, 3) := by decide +kernel
theorem dX0_copyFrom_20 : decode cX0_copyFrom 20 = .ok (.iconst 0, 1) := by decide +kernel
theorem dX0_copyFrom_21 : decode cX0_copyFrom 21 = .ok (.aload_n 0, 1) := by decide +kernel
theorem dX0_copyFrom_22 : decode cX0_copyFrom 22 = .ok (.getfield 15, 3) := by decide +kernel
theorem dX0_copyFrom_25 : decode cX0_copyFrom 25 = .ok (.iconst 0, 1) := by decide +kernel
theorem dX0_copyFrom_26 : decode cX0_copyFrom 26 = .ok (.sipush 200, 3) := by decide +kernel
theorem dX0_copyFrom_29 : decode cX0_copyFrom 29 = .ok (.invokestatic 58, 3) := by decide +kernel
theorem dX0_copyFrom_32 : decode cX0_copyFrom 32 = .ok (.aload_n 1, 1) := by decide +kernel
theorem dX0_copyFrom_33 : decode cX0_copyFrom 33 = .ok (.getfield 18, 3) := by decide +kernel
theorem dX0_copyFrom_36 : decode cX0_copyFrom 36 = .ok (.iconst 0, 1) := by decide +kernel
theorem dX0_copyFrom_37 : decode cX0_copyFrom 37 = .ok (.aload_n 0, 1) := by decide +kernel
theorem dX0_copyFrom_38 : decode cX0_copyFrom 38 = .ok (.getfield 18, 3) := by decide +kernel
theorem dX0_copyFrom_41 : decode cX0_copyFrom 41 = .ok (.iconst 0, 1) := by decide +kernel
theorem dX0_copyFrom_42 : decode cX0_copyFrom 42 = .ok (.sipush 200, 3) := by decide +kernel
theorem dX0_copyFrom_45 : decode cX0_copyFrom 45 = .ok (.invokestatic 58, 3) := by decide +kernel
theorem dX0_copyFrom_48 : decode cX0_copyFrom 48 = .ok (.aload_n 1, 1) := by decide +kernel
theorem dX0_copyFrom_49 : decode cX0_copyFrom 49 = .ok (.getfield 21, 3) := by decide +kernel
theorem dX0_copyFrom_52 : decode cX0_copyFrom 52 = .ok (.iconst 0, 1) := by decide +kernel
theorem dX0_copyFrom_53 : decode cX0_copyFrom 53 = .ok (.aload_n 0, 1) := by decide +kernel
theorem dX0_copyFrom_54 : decode cX0_copyFrom 54 = .ok (.getfield 21, 3) := by decide +kernel
theorem dX0_copyFrom_57 : decode cX0_copyFrom 57 = .ok (.iconst 0, 1) := by decide +kernel
theorem dX0_copyFrom_58 : decode cX0_copyFrom 58 = .ok (.sipush 200, 3) := by decide +kernel
theorem dX0_copyFrom_61 : decode cX0_copyFrom 61 = .ok (.invokestatic 58, 3) := by decide +kernel
theorem dX0_copyFrom_64 : decode cX0_copyFrom 64 = .ok (.aload_n 1, 1) := by decide +kernel
theorem dX0_copyFrom_65 : decode cX0_copyFrom 65 = .ok (.getfield 24, 3) := by decide +kernel
theorem dX0_copyFrom_68 : decode cX0_copyFrom 68 = .ok (.iconst 0, 1) := by decide +kernel
theorem dX0_copyFrom_69 : decode cX0_copyFrom 69 = .ok (.aload_n 0, 1) := by decide +kernel
theorem dX0_copyFrom_70 : decode cX0_copyFrom 70 = .ok (.getfield 24, 3) := by decide +kernel
theorem dX0_copyFrom_73 : decode cX0_copyFrom 73 = .ok (.iconst 0, 1) := by decide +kernel
theorem dX0_copyFrom_74 : decode cX0_copyFrom 74 = .ok (.sipush 200, 3) := by decide +kernel
theorem dX0_copyFrom_77 : decode cX0_copyFrom 77 = .ok (.invokestatic 58, 3) := by decide +kernel
theorem dX0_copyFrom_80 : decode cX0_copyFrom 80 = .ok (.aload_n 1, 1) := by decide +kernel
theorem dX0_copyFrom_81 : decode cX0_copyFrom 81 = .ok (.getfield 27, 3) := by decide +kernel
theorem dX0_copyFrom_84 : decode cX0_copyFrom 84 = .ok (.iconst 0, 1) := by decide +kernel
theorem dX0_copyFrom_85 : decode cX0_copyFrom 85 = .ok (.aload_n 0, 1) := by decide +kernel
theorem dX0_copyFrom_86 : decode cX0_copyFrom 86 = .ok (.getfield 27, 3) := by decide +kernel
theorem dX0_copyFrom_89 : decode cX0_copyFrom 89 = .ok (.iconst 0, 1) := by decide +kernel
theorem dX0_copyFrom_90 : decode cX0_copyFrom 90 = .ok (.sipush 200, 3) := by decide +kernel
theorem dX0_copyFrom_93 : decode cX0_copyFrom 93 = .ok (.invokestatic 58, 3) := by decide +kernel
theorem dX0_copyFrom_96 : decode cX0_copyFrom 96 = .ok (.aload_n 0, 1) := by decide +kernel
theorem dX0_copyFrom_97 : decode cX0_copyFrom 97 = .ok (.aload_n 1, 1) := by decide +kernel
theorem dX0_copyFrom_98 : decode cX0_copyFrom 98 = .ok (.getfield 30, 3) := by decide +kernel
theorem dX0_copyFrom_101 : decode cX0_copyFrom 101 = .ok (.putfield 30, 3) := by decide +kernel
theorem dX0_copyFrom_104 : decode cX0_copyFrom 104 = .ok (.aload_n 0, 1) := by decide +kernel
theorem dX0_copyFrom_105 : decode cX0_copyFrom 105 = .ok (.aload_n 1, 1) := by decide +kernel
theorem dX0_copyFrom_106 : decode cX0_copyFrom 106 = .ok (.getfield 34, 3) := by decide +kernel
theorem dX0_copyFrom_109 : decode cX0_copyFrom 109 = .ok (.putfield 34, 3) := by decide +kernel
theorem dX0_copyFrom_112 : decode cX0_copyFrom 112 = .ok (.return_, 1) := by decide +kernel
theorem dX1_init_0 : decode cX1_init 0 = .ok (.aload_n 0, 1) := by decide +kernel
theorem dX1_init_1 : decode cX1_init 1 = .ok (.invokespecial 3, 3) := by decide +kernel
theorem dX1_init_4 : decode cX1_init 4 = .ok (.aload_n 0, 1) := by decide +kernel
theorem dX1_init_5 : decode cX1_init 5 = .ok (.new 9, 3) := by decide +kernel
theorem dX1_init_8 : decode cX1_init 8 = .ok (.dup, 1) := by decide +kernel
theorem dX1_init_9 : decode cX1_init 9 = .ok (.invokespecial 11, 3) := by decide +kernel
theorem dX1_init_12 : decode cX1_init 12 = .ok (.putfield 12, 3) := by decide +kernel
theorem dX1_init_15 : decode cX1_init 15 = .ok (.aload_n 0, 1) := by decide +kernel
theorem dX1_init_16 : decode cX1_init 16 = .ok (.new 18, 3) := by decide +kernel
theorem dX1_init_19 : decode cX1_init 19 = .ok (.dup, 1) := by decide +kernel
theorem dX1_init_20 : decode cX1_init 20 = .ok (.invokespecial 20, 3) := by decide +kernel
theorem dX1_init_23 : decode cX1_init 23 = .ok (.putfield 21, 3) := by decide +kernel
theorem dX1_init_26 : decode cX1_init 26 = .ok (.aload_n 0, 1) := by decide +kernel
theorem dX1_init_27 : decode cX1_init 27 = .ok (.new 25, 3) := by decide +kernel
theorem dX1_init_30 : decode cX1_init 30 = .ok (.dup, 1) := by decide +kernel
theorem dX1_init_31 : decode cX1_init 31 = .ok (.invokespecial 27, 3) := by decide +kernel
theorem dX1_init_34 : decode cX1_init 34 = .ok (.putfield 28, 3) := by decide +kernel
theorem dX1_init_37 : decode cX1_init 37 = .ok (.aload_n 0, 1) := by decide +kernel
theorem dX1_init_38 : decode cX1_init 38 = .ok (.new 25, 3) := by decide +kernel
theorem dX1_init_41 : decode cX1_init 41 = .ok (.dup, 1) := by decide +kernel
theorem dX1_init_42 : decode cX1_init 42 = .ok (.invokespecial 27, 3) := by decide +kernel
theorem dX1_init_45 : decode cX1_init 45 = .ok (.putfield 32, 3) := by decide +kernel
theorem dX1_init_48 : decode cX1_init 48 = .ok (.aload_n 0, 1) := by decide +kernel
theorem dX1_init_49 : decode cX1_init 49 = .ok (.new 25, 3) := by decide +kernel
theorem dX1_init_52 : decode cX1_init 52 = .ok (.dup, 1) := by decide +kernel
theorem dX1_init_53 : decode cX1_init 53 = .ok (.invokespecial 27, 3) := by decide +kernel
theorem dX1_init_56 : decode cX1_init 56 = .ok (.putfield 35, 3) := by decide +kernel
theorem dX1_init_59 : decode cX1_init 59 = .ok (.aload_n 0, 1) := by decide +kernel
theorem dX1_init_60 : decode cX1_init 60 = .ok (.new 25, 3) := by decide +kernel
theorem dX1_init_63 : decode cX1_init 63 = .ok (.dup, 1) := by decide +kernel
theorem dX1_init_64 : decode cX1_init 64 = .ok (.invokespecial 27, 3) := by decide +kernel
theorem dX1_init_67 : decode cX1_init 67 = .ok (.putfield 38, 3) := by decide +kernel
theorem dX1_init_70 : decode cX1_init 70 = .ok (.aload_n 0, 1) := by decide +kernel
theorem dX1_init_71 : decode cX1_init 71 = .ok (.new 25, 3) := by decide +kernel
theorem dX1_init_74 : decode cX1_init 74 = .ok (.dup, 1) := by decide +kernel
theorem dX1_init_75 : decode cX1_init 75 = .ok (.invokespecial 27, 3) := by decide +kernel
theorem dX1_init_78 : decode cX1_init 78 = .ok (.putfield 41, 3) := by decide +kernel
theorem dX1_init_81 : decode cX1_init 81 = .ok (.aload_n 0, 1) := by decide +kernel
theorem dX1_init_82 : decode cX1_init 82 = .ok (.iconst 4, 1) := by decide +kernel
theorem dX1_init_83 : decode cX1_init 83 = .ok (.newarray .int, 2) := by decide +kernel
theorem dX1_init_85 : decode cX1_init 85 = .ok (.putfield 44, 3) := by decide +kernel
theorem dX1_init_88 : decode cX1_init 88 = .ok (.aload_n 0, 1) := by decide +kernel
theorem dX1_init_89 : decode cX1_init 89 = .ok (.iconst 4, 1) := by decide +kernel
theorem dX1_init_90 : decode cX1_init 90 = .ok (.anewarray 48, 3) := by decide +kernel
theorem dX1_init_93 : decode cX1_init 93 = .ok (.putfield 50, 3) := by decide +kernel
theorem dX1_init_96 : decode cX1_init 96 = .ok (.iconst 0, 1) := by decide +kernel
theorem dX1_init_97 : decode cX1_init 97 = .ok (.istore_n 1, 1) := by decide +kernel
theorem dX1_init_98 : decode cX1_init 98 = .ok (.iload_n 1, 1) := by decide +kernel
theorem dX1_init_99 : decode cX1_init 99 = .ok (.iconst 4, 1) := by decide +kernel
theorem dX1_init_100 : decode cX1_init 100 = .ok (.if_icmp .ge 22, 3) := by decide +kernel
theorem dX1_init_103 : decode cX1_init 103 = .ok (.aload_n 0, 1) := by decide +kernel
theorem dX1_init_104 : decode cX1_init 104 = .ok (.getfield 50, 3) := by decide +kernel
theorem dX1_init_107 : decode cX1_init 107 = .ok (.iload_n 1, 1) := by decide +kernel
theorem dX1_init_108 : decode cX1_init 108 = .ok (.new 48, 3) := by decide +kernel
theorem dX1_init_111 : decode cX1_init 111 = .ok (.dup, 1) := by decide +kernel
theorem dX1_init_112 : decode cX1_init 112 = .ok (.invokespecial 54, 3) := by decide +kernel
theorem dX1_init_115 : decode cX1_init 115 = .ok (.aastore, 1) := by decide +kernel
theorem dX1_init_116 : decode cX1_init 116 = .ok (.iinc 1 1, 3) := by decide +kernel
theorem dX1_init_119 : decode cX1_init 119 = .ok (.goto (-21), 3) := by decide +kernel
theorem dX1_init_122 : decode cX1_init 122 = .ok (.aload_n 0, 1) := by decide +kernel
theorem dX1_init_123 : decode cX1_init 123 = .ok (.iconst 4, 1) := by decide +kernel
theorem dX1_init_124 : decode cX1_init 124 = .ok (.putfield 55, 3) := by decide +kernel
theorem dX1_init_127 : decode cX1_init 127 = .ok (.aload_n 0, 1) := by decide +kernel
theorem dX1_init_128 : decode cX1_init 128 = .ok (.bipush 8, 2) := by decide +kernel
theorem dX1_init_130 : decode cX1_init 130 = .ok (.putfield 59, 3) := by decide +kernel
theorem dX1_init_133 : decode cX1_init 133 = .ok (.aload_n 0, 1) := by decide +kernel
theorem dX1_init_134 : decode cX1_init 134 = .ok (.bipush 6, 2) := by decide +kernel
theorem dX1_init_136 : decode cX1_init 136 = .ok (.putfield 62, 3) := by decide +kernel
theorem dX1_init_139 : decode cX1_init 139 = .ok (.aload_n 0, 1) := by decide +kernel
theorem dX1_init_140 : decode cX1_init 140 = .ok (.bipush 10, 2) := by decide +kernel
theorem dX1_init_142 : decode cX1_init 142 = .ok (.putfield 65, 3) := by decide +kernel
theorem dX1_init_145 : decode cX1_init 145 = .ok (.return_, 1) := by decide +kernel
theorem dX1_rowOf_0 : decode cX1_rowOf 0 = .ok (.iload_n 1, 1) := by decide +kernel
theorem dX1_rowOf_1 : decode cX1_rowOf 1 = .ok (.tableswitch 51 0 3 #[31, 36, 41, 46], 31) := by decide +kernel
theorem dX1_rowOf_32 : decode cX1_rowOf 32 = .ok (.aload_n 0, 1) := by decide +kernel
theorem dX1_rowOf_33 : decode cX1_rowOf 33 = .ok (.getfield 28, 3) := by decide +kernel
theorem dX1_rowOf_36 : decode cX1_rowOf 36 = .ok (.areturn, 1) := by decide +kernel
theorem dX1_rowOf_37 : decode cX1_rowOf 37 = .ok (.aload_n 0, 1) := by decide +kernel
theorem dX1_rowOf_38 : decode cX1_rowOf 38 = .ok (.getfield 32, 3) := by decide +kernel
theorem dX1_rowOf_41 : decode cX1_rowOf 41 = .ok (.areturn, 1) := by decide +kernel
theorem dX1_rowOf_42 : decode cX1_rowOf 42 = .ok (.aload_n 0, 1) := by decide +kernel
theorem dX1_rowOf_43 : decode cX1_rowOf 43 = .ok (.getfield 35, 3) := by decide +kernel
theorem dX1_rowOf_46 : decode cX1_rowOf 46 = .ok (.areturn, 1) := by decide +kernel
theorem dX1_rowOf_47 : decode cX1_rowOf 47 = .ok (.aload_n 0, 1) := by decide +kernel
theorem dX1_rowOf_48 : decode cX1_rowOf 48 = .ok (.getfield 38, 3) := by decide +kernel
theorem dX1_rowOf_51 : decode cX1_rowOf 51 = .ok (.areturn, 1) := by decide +kernel
theorem dX1_rowOf_52 : decode cX1_rowOf 52 = .ok (.aload_n 0, 1) := by decide +kernel
theorem dX1_rowOf_53 : decode cX1_rowOf 53 = .ok (.getfield 41, 3) := by decide +kernel
theorem dX1_rowOf_56 : decode cX1_rowOf 56 = .ok (.areturn, 1) := by decide +kernel
theorem dX1_clientOf_0 : decode cX1_clientOf 0 = .ok (.iload_n 1, 1) := by decide +kernel
theorem dX1_clientOf_1 : decode cX1_clientOf 1 = .ok (.ifCond .lt 24, 3) := by decide +kernel
theorem dX1_clientOf_4 : decode cX1_clientOf 4 = .ok (.iload_n 1, 1) := by decide +kernel
theorem dX1_clientOf_5 : decode cX1_clientOf 5 = .ok (.aload_n 0, 1) := by decide +kernel
theorem dX1_clientOf_6 : decode cX1_clientOf 6 = .ok (.getfield 68, 3) := by decide +kernel
theorem dX1_clientOf_9 : decode cX1_clientOf 9 = .ok (.if_icmp .ge 16, 3) := by decide +kernel
theorem dX1_clientOf_12 : decode cX1_clientOf 12 = .ok (.iload_n 1, 1) := by decide +kernel
theorem dX1_clientOf_13 : decode cX1_clientOf 13 = .ok (.aload_n 0, 1) := by decide +kernel
theorem dX1_clientOf_14 : decode cX1_clientOf 14 = .ok (.getfield 50, 3) := by decide +kernel
theorem dX1_clientOf_17 : decode cX1_clientOf 17 = .ok (.arraylength, 1) := by decide +kernel
theorem dX1_clientOf_18 : decode cX1_clientOf 18 = .ok (.if_icmp .ge 7, 3) := by decide +kernel
theorem dX1_clientOf_21 : decode cX1_clientOf 21 = .ok (.iconst 1, 1) := by decide +kernel
theorem dX1_clientOf_22 : decode cX1_clientOf 22 = .ok (.goto 4, 3) := by decide +kernel
theorem dX1_clientOf_25 : decode cX1_clientOf 25 = .ok (.iconst 0, 1) := by decide +kernel
theorem dX1_clientOf_26 : decode cX1_clientOf 26 = .ok (.istore_n 2, 1) := by decide +kernel
theorem dX1_clientOf_27 : decode cX1_clientOf 27 = .ok (.iload_n 2, 1) := by decide +kernel
theorem dX1_clientOf_28 : decode cX1_clientOf 28 = .ok (.ifCond .eq 12, 3) := by decide +kernel
theorem dX1_clientOf_31 : decode cX1_clientOf 31 = .ok (.aload_n 0, 1) := by decide +kernel
theorem dX1_clientOf_32 : decode cX1_clientOf 32 = .ok (.getfield 50, 3) := by decide +kernel
theorem dX1_clientOf_35 : decode cX1_clientOf 35 = .ok (.iload_n 1, 1) := by decide +kernel
theorem dX1_clientOf_36 : decode cX1_clientOf 36 = .ok (.aaload, 1) := by decide +kernel
theorem dX1_clientOf_37 : decode cX1_clientOf 37 = .ok (.goto 4, 3) := by decide +kernel
theorem dX1_clientOf_40 : decode cX1_clientOf 40 = .ok (.aconst_null, 1) := by decide +kernel
theorem dX1_clientOf_41 : decode cX1_clientOf 41 = .ok (.areturn, 1) := by decide +kernel
theorem dX1_weightOf_0 : decode cX1_weightOf 0 = .ok (.aload_n 0, 1) := by decide +kernel
theorem dX1_weightOf_1 : decode cX1_weightOf 1 = .ok (.iload_n 1, 1) := by decide +kernel
theorem dX1_weightOf_2 : decode cX1_weightOf 2 = .ok (.invokevirtual 71, 3) := by decide +kernel
theorem dX1_weightOf_5 : decode cX1_weightOf 5 = .ok (.astore_n 2, 1) := by decide +kernel
theorem dX1_weightOf_6 : decode cX1_weightOf 6 = .ok (.aload_n 2, 1) := by decide +kernel
theorem dX1_weightOf_7 : decode cX1_weightOf 7 = .ok (.ifnonnull 7, 3) := by decide +kernel
theorem dX1_weightOf_10 : decode cX1_weightOf 10 = .ok (.iconst 0, 1) := by decide +kernel
theorem dX1_weightOf_11 : decode cX1_weightOf 11 = .ok (.goto 7, 3) := by decide +kernel
theorem dX1_weightOf_14 : decode cX1_weightOf 14 = .ok (.aload_n 2, 1) := by decide +kernel
theorem dX1_weightOf_15 : decode cX1_weightOf 15 = .ok (.getfield 75, 3) := by decide +kernel
theorem dX1_weightOf_18 : decode cX1_weightOf 18 = .ok (.ireturn, 1) := by decide +kernel
theorem dX1_runAt_0 : decode cX1_runAt 0 = .ok (.aload_n 0, 1) := by decide +kernel
theorem dX1_runAt_1 : decode cX1_runAt 1 = .ok (.iload_n 1, 1) := by decide +kernel
theorem dX1_runAt_2 : decode cX1_runAt 2 = .ok (.invokevirtual 71, 3) := by decide +kernel
theorem dX1_runAt_5 : decode cX1_runAt 5 = .ok (.astore_n 3, 1) := by decide +kernel
theorem dX1_runAt_6 : decode cX1_runAt 6 = .ok (.aload_n 3, 1) := by decide +kernel
theorem dX1_runAt_7 : decode cX1_runAt 7 = .ok (.ifnonnull 7, 3) := by decide +kernel
theorem dX1_runAt_10 : decode cX1_runAt 10 = .ok (.iconst 1, 1) := by decide +kernel
theorem dX1_runAt_11 : decode cX1_runAt 11 = .ok (.goto 8, 3) := by decide +kernel
theorem dX1_runAt_14 : decode cX1_runAt 14 = .ok (.aload_n 3, 1) := by decide +kernel
theorem dX1_runAt_15 : decode cX1_runAt 15 = .ok (.iload_n 2, 1) := by decide +kernel
theorem dX1_runAt_16 : decode cX1_runAt 16 = .ok (.invokevirtual 78, 3) := by decide +kernel
theorem dX1_runAt_19 : decode cX1_runAt 19 = .ok (.ireturn, 1) := by decide +kernel
theorem dX1_sumOfWeights_0 : decode cX1_sumOfWeights 0 = .ok (.iconst 0, 1) := by decide +kernel
theorem dX1_sumOfWeights_1 : decode cX1_sumOfWeights 1 = .ok (.istore_n 1, 1) := by decide +kernel
theorem dX1_sumOfWeights_2 : decode cX1_sumOfWeights 2 = .ok (.iconst 0, 1) := by decide +kernel
theorem dX1_sumOfWeights_3 : decode cX1_sumOfWeights 3 = .ok (.istore_n 2, 1) := by decide +kernel
theorem dX1_sumOfWeights_4 : decode cX1_sumOfWeights 4 = .ok (.iload_n 2, 1) := by decide +kernel
theorem dX1_sumOfWeights_5 : decode cX1_sumOfWeights 5 = .ok (.aload_n 0, 1) := by decide +kernel
theorem dX1_sumOfWeights_6 : decode cX1_sumOfWeights 6 = .ok (.getfield 68, 3) := by decide +kernel
theorem dX1_sumOfWeights_9 : decode cX1_sumOfWeights 9 = .ok (.if_icmp .ge 30, 3) := by decide +kernel
theorem dX1_sumOfWeights_12 : decode cX1_sumOfWeights 12 = .ok (.aload_n 0, 1) := by decide +kernel
theorem dX1_sumOfWeights_13 : decode cX1_sumOfWeights 13 = .ok (.iload_n 2, 1) := by decide +kernel
theorem dX1_sumOfWeights_14 : decode cX1_sumOfWeights 14 = .ok (.invokevirtual 71, 3) := by decide +kernel
theorem dX1_sumOfWeights_17 : decode cX1_sumOfWeights 17 = .ok (.astore_n 3, 1) := by decide +kernel
theorem dX1_sumOfWeights_18 : decode cX1_sumOfWeights 18 = .ok (.iload_n 1, 1) := by decide +kernel
theorem dX1_sumOfWeights_19 : decode cX1_sumOfWeights 19 = .ok (.aload_n 3, 1) := by decide +kernel
theorem dX1_sumOfWeights_20 : decode cX1_sumOfWeights 20 = .ok (.ifnonnull 7, 3) := by decide +kernel
theorem dX1_sumOfWeights_23 : decode cX1_sumOfWeights 23 = .ok (.iconst 0, 1) := by decide +kernel
theorem dX1_sumOfWeights_24 : decode cX1_sumOfWeights 24 = .ok (.goto 7, 3) := by decide +kernel
theorem dX1_sumOfWeights_27 : decode cX1_sumOfWeights 27 = .ok (.aload_n 3, 1) := by decide +kernel
theorem dX1_sumOfWeights_28 : decode cX1_sumOfWeights 28 = .ok (.getfield 75, 3) := by decide +kernel
theorem dX1_sumOfWeights_31 : decode cX1_sumOfWeights 31 = .ok (.iadd, 1) := by decide +kernel
theorem dX1_sumOfWeights_32 : decode cX1_sumOfWeights 32 = .ok (.istore_n 1, 1) := by decide +kernel
theorem dX1_sumOfWeights_33 : decode cX1_sumOfWeights 33 = .ok (.iinc 2 1, 3) := by decide +kernel
theorem dX1_sumOfWeights_36 : decode cX1_sumOfWeights 36 = .ok (.goto (-32), 3) := by decide +kernel
theorem dX1_sumOfWeights_39 : decode cX1_sumOfWeights 39 = .ok (.iload_n 1, 1) := by decide +kernel
theorem dX1_sumOfWeights_40 : decode cX1_sumOfWeights 40 = .ok (.ireturn, 1) := by decide +kernel
theorem dX1_numberOf_0 : decode cX1_numberOf 0 = .ok (.iload_n 1, 1) := by decide +kernel
theorem dX1_numberOf_1 : decode cX1_numberOf 1 = .ok (.tableswitch 169 0 21 #[103, 108, 113, 118, 123, 169, 128, 133, 133, 133, 133, 133, 145, 153, 169, 169, 169, 169, 169, 169, 169, 161], 103) := by decide +kernel
theorem dX1_numberOf_104 : decode cX1_numberOf 104 = .ok (.aload_n 0, 1) := by decide +kernel
theorem dX1_numberOf_105 : decode cX1_numberOf 105 = .ok (.getfield 55, 3) := by decide +kernel
theorem dX1_numberOf_108 : decode cX1_numberOf 108 = .ok (.ireturn, 1) := by decide +kernel
theorem dX1_numberOf_109 : decode cX1_numberOf 109 = .ok (.aload_n 0, 1) := by decide +kernel
theorem dX1_numberOf_110 : decode cX1_numberOf 110 = .ok (.getfield 59, 3) := by decide +kernel
theorem dX1_numberOf_113 : decode cX1_numberOf 113 = .ok (.ireturn, 1) := by decide +kernel
theorem dX1_numberOf_114 : decode cX1_numberOf 114 = .ok (.aload_n 0, 1) := by decide +kernel
theorem dX1_numberOf_115 : decode cX1_numberOf 115 = .ok (.getfield 62, 3) := by decide +kernel
theorem dX1_numberOf_118 : decode cX1_numberOf 118 = .ok (.ireturn, 1) := by decide +kernel
theorem dX1_numberOf_119 : decode cX1_numberOf 119 = .ok (.aload_n 0, 1) := by decide +kernel
theorem dX1_numberOf_120 : decode cX1_numberOf 120 = .ok (.getfield 65, 3) := by decide +kernel
theorem dX1_numberOf_123 : decode cX1_numberOf 123 = .ok (.ireturn, 1) := by decide +kernel
theorem dX1_numberOf_124 : decode cX1_numberOf 124 = .ok (.aload_n 0, 1) := by decide +kernel
theorem dX1_numberOf_125 : decode cX1_numberOf 125 = .ok (.getfield 82, 3) := by decide +kernel
theorem dX1_numberOf_128 : decode cX1_numberOf 128 = .ok (.ireturn, 1) := by decide +kernel
theorem dX1_numberOf_129 : decode cX1_numberOf 129 = .ok (.aload_n 0, 1) := by decide +kernel
theorem dX1_numberOf_130 : decode cX1_numberOf 130 = .ok (.getfield 68, 3) := by decide +kernel
theorem dX1_numberOf_133 : decode cX1_numberOf 133 = .ok (.ireturn, 1) := by decide +kernel
theorem dX1_numberOf_134 : decode cX1_numberOf 134 = .ok (.aload_n 0, 1) := by decide +kernel
theorem dX1_numberOf_135 : decode cX1_numberOf 135 = .ok (.iload_n 1, 1) := by decide +kernel
theorem dX1_numberOf_136 : decode cX1_numberOf 136 = .ok (.bipush 7, 2) := by decide +kernel
theorem dX1_numberOf_138 : decode cX1_numberOf 138 = .ok (.isub, 1) := by decide +kernel
theorem dX1_numberOf_139 : decode cX1_numberOf 139 = .ok (.invokevirtual 85, 3) := by decide +kernel
theorem dX1_numberOf_142 : decode cX1_numberOf 142 = .ok (.getfield 89, 3) := by decide +kernel
theorem dX1_numberOf_145 : decode cX1_numberOf 145 = .ok (.ireturn, 1) := by decide +kernel
theorem dX1_numberOf_146 : decode cX1_numberOf 146 = .ok (.aload_n 0, 1) := by decide +kernel
theorem dX1_numberOf_147 : decode cX1_numberOf 147 = .ok (.getfield 12, 3) := by decide +kernel
theorem dX1_numberOf_150 : decode cX1_numberOf 150 = .ok (.invokevirtual 92, 3) := by decide +kernel
theorem dX1_numberOf_153 : decode cX1_numberOf 153 = .ok (.ireturn, 1) := by decide +kernel
theorem dX1_numberOf_154 : decode cX1_numberOf 154 = .ok (.aload_n 0, 1) := by decide +kernel
theorem dX1_numberOf_155 : decode cX1_numberOf 155 = .ok (.getfield 12, 3) := by decide +kernel
theorem dX1_numberOf_158 : decode cX1_numberOf 158 = .ok (.getfield 96, 3) := by decide +kernel
theorem dX1_numberOf_161 : decode cX1_numberOf 161 = .ok (.ireturn, 1) := by decide +kernel
theorem dX1_numberOf_162 : decode cX1_numberOf 162 = .ok (.aload_n 0, 1) := by decide +kernel
theorem dX1_numberOf_163 : decode cX1_numberOf 163 = .ok (.getfield 12, 3) := by decide +kernel
theorem dX1_numberOf_166 : decode cX1_numberOf 166 = .ok (.getfield 99, 3) := by decide +kernel
theorem dX1_numberOf_169 : decode cX1_numberOf 169 = .ok (.ireturn, 1) := by decide +kernel
theorem dX1_numberOf_170 : decode cX1_numberOf 170 = .ok (.aload_n 0, 1) := by decide +kernel
theorem dX1_numberOf_171 : decode cX1_numberOf 171 = .ok (.getfield 21, 3) := by decide +kernel
theorem dX1_numberOf_174 : decode cX1_numberOf 174 = .ok (.iload_n 1, 1) := by decide +kernel
theorem dX1_numberOf_175 : decode cX1_numberOf 175 = .ok (.invokevirtual 102, 3) := by decide +kernel
theorem dX1_numberOf_178 : decode cX1_numberOf 178 = .ok (.ireturn, 1) := by decide +kernel
theorem dX1_numberOfClient_0 : decode cX1_numberOfClient 0 = .ok (.aload_n 0, 1) := by decide +kernel
theorem dX1_numberOfClient_1 : decode cX1_numberOfClient 1 = .ok (.iload_n 1, 1) := by decide +kernel
theorem dX1_numberOfClient_2 : decode cX1_numberOfClient 2 = .ok (.invokevirtual 71, 3) := by decide +kernel
theorem dX1_numberOfClient_5 : decode cX1_numberOfClient 5 = .ok (.astore_n 3, 1) := by decide +kernel
theorem dX1_numberOfClient_6 : decode cX1_numberOfClient 6 = .ok (.aload_n 3, 1) := by decide +kernel
theorem dX1_numberOfClient_7 : decode cX1_numberOfClient 7 = .ok (.ifnonnull 5, 3) := by decide +kernel
theorem dX1_numberOfClient_10 : decode cX1_numberOfClient 10 = .ok (.iconst (-1), 1) := by decide +kernel
theorem dX1_numberOfClient_11 : decode cX1_numberOfClient 11 = .ok (.ireturn, 1) := by decide +kernel
theorem dX1_numberOfClient_12 : decode cX1_numberOfClient 12 = .ok (.iload_n 2, 1) := by decide +kernel
theorem dX1_numberOfClient_13 : decode cX1_numberOfClient 13 = .ok (.lookupswitch 74 #[(1, 35), (2, 41), (10, 51)], 35) := by decide +kernel
theorem dX1_numberOfClient_48 : decode cX1_numberOfClient 48 = .ok (.aload_n 0, 1) := by decide +kernel
theorem dX1_numberOfClient_49 : decode cX1_numberOfClient 49 = .ok (.iload_n 1, 1) := by decide +kernel
theorem dX1_numberOfClient_50 : decode cX1_numberOfClient 50 = .ok (.invokevirtual 105, 3) := by decide +kernel
theorem dX1_numberOfClient_53 : decode cX1_numberOfClient 53 = .ok (.ireturn, 1) := by decide +kernel
theorem dX1_numberOfClient_54 : decode cX1_numberOfClient 54 = .ok (.aload_n 0, 1) := by decide +kernel
theorem dX1_numberOfClient_55 : decode cX1_numberOfClient 55 = .ok (.aload_n 0, 1) := by decide +kernel
theorem dX1_numberOfClient_56 : decode cX1_numberOfClient 56 = .ok (.getfield 35, 3) := by decide +kernel
theorem dX1_numberOfClient_59 : decode cX1_numberOfClient 59 = .ok (.iload_n 1, 1) := by decide +kernel
theorem dX1_numberOfClient_60 : decode cX1_numberOfClient 60 = .ok (.invokevirtual 108, 3) := by decide +kernel
theorem dX1_numberOfClient_63 : decode cX1_numberOfClient 63 = .ok (.ireturn, 1) := by decide +kernel
theorem dX1_numberOfClient_64 : decode cX1_numberOfClient 64 = .ok (.aload_n 0, 1) := by decide +kernel
theorem dX1_numberOfClient_65 : decode cX1_numberOfClient 65 = .ok (.iload_n 1, 1) := by decide +kernel
theorem dX1_numberOfClient_66 : decode cX1_numberOfClient 66 = .ok (.aload_n 0, 1) := by decide +kernel
theorem dX1_numberOfClient_67 : decode cX1_numberOfClient 67 = .ok (.iload_n 1, 1) := by decide +kernel
theorem dX1_numberOfClient_68 : decode cX1_numberOfClient 68 = .ok (.invokevirtual 105, 3) := by decide +kernel
theorem dX1_numberOfClient_71 : decode cX1_numberOfClient 71 = .ok (.aload_n 0, 1) := by decide +kernel
theorem dX1_numberOfClient_72 : decode cX1_numberOfClient 72 = .ok (.invokevirtual 112, 3) := by decide +kernel
theorem dX1_numberOfClient_75 : decode cX1_numberOfClient 75 = .ok (.invokevirtual 115, 3) := by decide +kernel
theorem dX1_numberOfClient_78 : decode cX1_numberOfClient 78 = .ok (.ifCond .le 7, 3) := by decide +kernel
theorem dX1_numberOfClient_81 : decode cX1_numberOfClient 81 = .ok (.iconst 1, 1) := by decide +kernel
theorem dX1_numberOfClient_82 : decode cX1_numberOfClient 82 = .ok (.goto 4, 3) := by decide +kernel
theorem dX1_numberOfClient_85 : decode cX1_numberOfClient 85 = .ok (.iconst 0, 1) := by decide +kernel
theorem dX1_numberOfClient_86 : decode cX1_numberOfClient 86 = .ok (.ireturn, 1) := by decide +kernel
theorem dX1_numberOfClient_87 : decode cX1_numberOfClient 87 = .ok (.aload_n 3, 1) := by decide +kernel
theorem dX1_numberOfClient_88 : decode cX1_numberOfClient 88 = .ok (.iload_n 2, 1) := by decide +kernel
theorem dX1_numberOfClient_89 : decode cX1_numberOfClient 89 = .ok (.invokevirtual 119, 3) := by decide +kernel
theorem dX1_numberOfClient_92 : decode cX1_numberOfClient 92 = .ok (.ireturn, 1) := by decide +kernel
theorem dX1_numberOfBlock_0 : decode cX1_numberOfBlock 0 = .ok (.iload_n 2, 1) := by decide +kernel
theorem dX1_numberOfBlock_1 : decode cX1_numberOfBlock 1 = .ok (.tableswitch 90 0 5 #[39, 48, 54, 63, 72, 81], 39) := by decide +kernel
theorem dX1_numberOfBlock_40 : decode cX1_numberOfBlock 40 = .ok (.aload_n 0, 1) := by decide +kernel
theorem dX1_numberOfBlock_41 : decode cX1_numberOfBlock 41 = .ok (.getfield 12, 3) := by decide +kernel
theorem dX1_numberOfBlock_44 : decode cX1_numberOfBlock 44 = .ok (.iload_n 1, 1) := by decide +kernel
theorem dX1_numberOfBlock_45 : decode cX1_numberOfBlock 45 = .ok (.invokevirtual 120, 3) := by decide +kernel
theorem dX1_numberOfBlock_48 : decode cX1_numberOfBlock 48 = .ok (.ireturn, 1) := by decide +kernel
theorem dX1_numberOfBlock_49 : decode cX1_numberOfBlock 49 = .ok (.aload_n 0, 1) := by decide +kernel
theorem dX1_numberOfBlock_50 : decode cX1_numberOfBlock 50 = .ok (.iload_n 1, 1) := by decide +kernel
theorem dX1_numberOfBlock_51 : decode cX1_numberOfBlock 51 = .ok (.invokevirtual 123, 3) := by decide +kernel
theorem dX1_numberOfBlock_54 : decode cX1_numberOfBlock 54 = .ok (.ireturn, 1) := by decide +kernel
theorem dX1_numberOfBlock_55 : decode cX1_numberOfBlock 55 = .ok (.aload_n 0, 1) := by decide +kernel
theorem dX1_numberOfBlock_56 : decode cX1_numberOfBlock 56 = .ok (.getfield 12, 3) := by decide +kernel
theorem dX1_numberOfBlock_59 : decode cX1_numberOfBlock 59 = .ok (.iload_n 1, 1) := by decide +kernel
theorem dX1_numberOfBlock_60 : decode cX1_numberOfBlock 60 = .ok (.invokevirtual 126, 3) := by decide +kernel
theorem dX1_numberOfBlock_63 : decode cX1_numberOfBlock 63 = .ok (.ireturn, 1) := by decide +kernel
theorem dX1_numberOfBlock_64 : decode cX1_numberOfBlock 64 = .ok (.aload_n 0, 1) := by decide +kernel
theorem dX1_numberOfBlock_65 : decode cX1_numberOfBlock 65 = .ok (.getfield 12, 3) := by decide +kernel
theorem dX1_numberOfBlock_68 : decode cX1_numberOfBlock 68 = .ok (.iload_n 1, 1) := by decide +kernel
theorem dX1_numberOfBlock_69 : decode cX1_numberOfBlock 69 = .ok (.invokevirtual 129, 3) := by decide +kernel
theorem dX1_numberOfBlock_72 : decode cX1_numberOfBlock 72 = .ok (.ireturn, 1) := by decide +kernel
theorem dX1_numberOfBlock_73 : decode cX1_numberOfBlock 73 = .ok (.aload_n 0, 1) := by decide +kernel
theorem dX1_numberOfBlock_74 : decode cX1_numberOfBlock 74 = .ok (.getfield 12, 3) := by decide +kernel
theorem dX1_numberOfBlock_77 : decode cX1_numberOfBlock 77 = .ok (.iload_n 1, 1) := by decide +kernel
theorem dX1_numberOfBlock_78 : decode cX1_numberOfBlock 78 = .ok (.invokevirtual 132, 3) := by decide +kernel
theorem dX1_numberOfBlock_81 : decode cX1_numberOfBlock 81 = .ok (.ireturn, 1) := by decide +kernel
theorem dX1_numberOfBlock_82 : decode cX1_numberOfBlock 82 = .ok (.aload_n 0, 1) := by decide +kernel
theorem dX1_numberOfBlock_83 : decode cX1_numberOfBlock 83 = .ok (.getfield 12, 3) := by decide +kernel
theorem dX1_numberOfBlock_86 : decode cX1_numberOfBlock 86 = .ok (.iload_n 1, 1) := by decide +kernel
theorem dX1_numberOfBlock_87 : decode cX1_numberOfBlock 87 = .ok (.invokevirtual 135, 3) := by decide +kernel
theorem dX1_numberOfBlock_90 : decode cX1_numberOfBlock 90 = .ok (.ireturn, 1) := by decide +kernel
theorem dX1_numberOfBlock_91 : decode cX1_numberOfBlock 91 = .ok (.aload_n 0, 1) := by decide +kernel
theorem dX1_numberOfBlock_92 : decode cX1_numberOfBlock 92 = .ok (.getfield 12, 3) := by decide +kernel
theorem dX1_numberOfBlock_95 : decode cX1_numberOfBlock 95 = .ok (.iload_n 1, 1) := by decide +kernel
theorem dX1_numberOfBlock_96 : decode cX1_numberOfBlock 96 = .ok (.invokevirtual 138, 3) := by decide +kernel
theorem dX1_numberOfBlock_99 : decode cX1_numberOfBlock 99 = .ok (.ireturn, 1) := by decide +kernel
theorem dX1_placeOfUnit_0 : decode cX1_placeOfUnit 0 = .ok (.aload_n 0, 1) := by decide +kernel
theorem dX1_placeOfUnit_1 : decode cX1_placeOfUnit 1 = .ok (.getfield 12, 3) := by decide +kernel
theorem dX1_placeOfUnit_4 : decode cX1_placeOfUnit 4 = .ok (.iload_n 1, 1) := by decide +kernel
theorem dX1_placeOfUnit_5 : decode cX1_placeOfUnit 5 = .ok (.invokevirtual 120, 3) := by decide +kernel
theorem dX1_placeOfUnit_8 : decode cX1_placeOfUnit 8 = .ok (.istore_n 2, 1) := by decide +kernel
theorem dX1_placeOfUnit_9 : decode cX1_placeOfUnit 9 = .ok (.iload_n 2, 1) := by decide +kernel
theorem dX1_placeOfUnit_10 : decode cX1_placeOfUnit 10 = .ok (.iconst (-1), 1) := by decide +kernel
theorem dX1_placeOfUnit_11 : decode cX1_placeOfUnit 11 = .ok (.if_icmp .ne 7, 3) := by decide +kernel
theorem dX1_placeOfUnit_14 : decode cX1_placeOfUnit 14 = .ok (.iconst (-1), 1) := by decide +kernel
theorem dX1_placeOfUnit_15 : decode cX1_placeOfUnit 15 = .ok (.goto 12, 3) := by decide +kernel
theorem dX1_placeOfUnit_18 : decode cX1_placeOfUnit 18 = .ok (.aload_n 0, 1) := by decide +kernel
theorem dX1_placeOfUnit_19 : decode cX1_placeOfUnit 19 = .ok (.iload_n 2, 1) := by decide +kernel
theorem dX1_placeOfUnit_20 : decode cX1_placeOfUnit 20 = .ok (.invokevirtual 85, 3) := by decide +kernel
theorem dX1_placeOfUnit_23 : decode cX1_placeOfUnit 23 = .ok (.iload_n 1, 1) := by decide +kernel
theorem dX1_placeOfUnit_24 : decode cX1_placeOfUnit 24 = .ok (.invokevirtual 141, 3) := by decide +kernel
theorem dX1_placeOfUnit_27 : decode cX1_placeOfUnit 27 = .ok (.ireturn, 1) := by decide +kernel
theorem dX1_ownedBlock_0 : decode cX1_ownedBlock 0 = .ok (.aload_n 0, 1) := by decide +kernel
theorem dX1_ownedBlock_1 : decode cX1_ownedBlock 1 = .ok (.iload_n 2, 1) := by decide +kernel
theorem dX1_ownedBlock_2 : decode cX1_ownedBlock 2 = .ok (.invokevirtual 85, 3) := by decide +kernel
theorem dX1_ownedBlock_5 : decode cX1_ownedBlock 5 = .ok (.astore 4, 2) := by decide +kernel
theorem dX1_ownedBlock_7 : decode cX1_ownedBlock 7 = .ok (.iconst 0, 1) := by decide +kernel
theorem dX1_ownedBlock_8 : decode cX1_ownedBlock 8 = .ok (.istore 5, 2) := by decide +kernel
theorem dX1_ownedBlock_10 : decode cX1_ownedBlock 10 = .ok (.iconst 0, 1) := by decide +kernel
theorem dX1_ownedBlock_11 : decode cX1_ownedBlock 11 = .ok (.istore 6, 2) := by decide +kernel
theorem dX1_ownedBlock_13 : decode cX1_ownedBlock 13 = .ok (.iload 6, 2) := by decide +kernel
theorem dX1_ownedBlock_15 : decode cX1_ownedBlock 15 = .ok (.aload 4, 2) := by decide +kernel
theorem dX1_ownedBlock_17 : decode cX1_ownedBlock 17 = .ok (.getfield 89, 3) := by decide +kernel
theorem dX1_ownedBlock_20 : decode cX1_ownedBlock 20 = .ok (.if_icmp .ge 43, 3) := by decide +kernel
theorem dX1_ownedBlock_23 : decode cX1_ownedBlock 23 = .ok (.aload 4, 2) := by decide +kernel
theorem dX1_ownedBlock_25 : decode cX1_ownedBlock 25 = .ok (.iload 6, 2) := by decide +kernel
theorem dX1_ownedBlock_27 : decode cX1_ownedBlock 27 = .ok (.invokevirtual 144, 3) := by decide +kernel
theorem dX1_ownedBlock_30 : decode cX1_ownedBlock 30 = .ok (.istore 7, 2) := by decide +kernel
theorem dX1_ownedBlock_32 : decode cX1_ownedBlock 32 = .ok (.aload_n 0, 1) := by decide +kernel
theorem dX1_ownedBlock_33 : decode cX1_ownedBlock 33 = .ok (.getfield 12, 3) := by decide +kernel
theorem dX1_ownedBlock_36 : decode cX1_ownedBlock 36 = .ok (.iload 7, 2) := by decide +kernel
theorem dX1_ownedBlock_38 : decode cX1_ownedBlock 38 = .ok (.invokevirtual 129, 3) := by decide +kernel
theorem dX1_ownedBlock_41 : decode cX1_ownedBlock 41 = .ok (.iload_n 1, 1) := by decide +kernel
theorem dX1_ownedBlock_42 : decode cX1_ownedBlock 42 = .ok (.if_icmp .ne 15, 3) := by decide +kernel
theorem dX1_ownedBlock_45 : decode cX1_ownedBlock 45 = .ok (.iload 5, 2) := by decide +kernel
theorem dX1_ownedBlock_47 : decode cX1_ownedBlock 47 = .ok (.iload_n 3, 1) := by decide +kernel
theorem dX1_ownedBlock_48 : decode cX1_ownedBlock 48 = .ok (.if_icmp .ne 6, 3) := by decide +kernel
theorem dX1_ownedBlock_51 : decode cX1_ownedBlock 51 = .ok (.iload 7, 2) := by decide +kernel
theorem dX1_ownedBlock_53 : decode cX1_ownedBlock 53 = .ok (.ireturn, 1) := by decide +kernel
theorem dX1_ownedBlock_54 : decode cX1_ownedBlock 54 = .ok (.iinc 5 1, 3) := by decide +kernel
theorem dX1_ownedBlock_57 : decode cX1_ownedBlock 57 = .ok (.iinc 6 1, 3) := by decide +kernel
theorem dX1_ownedBlock_60 : decode cX1_ownedBlock 60 = .ok (.goto (-47), 3) := by decide +kernel
theorem dX1_ownedBlock_63 : decode cX1_ownedBlock 63 = .ok (.iconst (-1), 1) := by decide +kernel
theorem dX1_ownedBlock_64 : decode cX1_ownedBlock 64 = .ok (.ireturn, 1) := by decide +kernel
theorem dX1_sumOfAges_0 : decode cX1_sumOfAges 0 = .ok (.aload_n 0, 1) := by decide +kernel
theorem dX1_sumOfAges_1 : decode cX1_sumOfAges 1 = .ok (.iload_n 1, 1) := by decide +kernel
theorem dX1_sumOfAges_2 : decode cX1_sumOfAges 2 = .ok (.invokevirtual 85, 3) := by decide +kernel
theorem dX1_sumOfAges_5 : decode cX1_sumOfAges 5 = .ok (.astore_n 2, 1) := by decide +kernel
theorem dX1_sumOfAges_6 : decode cX1_sumOfAges 6 = .ok (.iconst 0, 1) := by decide +kernel
theorem dX1_sumOfAges_7 : decode cX1_sumOfAges 7 = .ok (.istore_n 3, 1) := by decide +kernel
theorem dX1_sumOfAges_8 : decode cX1_sumOfAges 8 = .ok (.iconst 0, 1) := by decide +kernel
theorem dX1_sumOfAges_9 : decode cX1_sumOfAges 9 = .ok (.istore 4, 2) := by decide +kernel
theorem dX1_sumOfAges_11 : decode cX1_sumOfAges 11 = .ok (.iload 4, 2) := by decide +kernel
theorem dX1_sumOfAges_13 : decode cX1_sumOfAges 13 = .ok (.aload_n 2, 1) := by decide +kernel
theorem dX1_sumOfAges_14 : decode cX1_sumOfAges 14 = .ok (.getfield 89, 3) := by decide +kernel
theorem dX1_sumOfAges_17 : decode cX1_sumOfAges 17 = .ok (.if_icmp .ge 49, 3) := by decide +kernel
theorem dX1_sumOfAges_20 : decode cX1_sumOfAges 20 = .ok (.aload_n 2, 1) := by decide +kernel
theorem dX1_sumOfAges_21 : decode cX1_sumOfAges 21 = .ok (.iload 4, 2) := by decide +kernel
theorem dX1_sumOfAges_23 : decode cX1_sumOfAges 23 = .ok (.invokevirtual 144, 3) := by decide +kernel
theorem dX1_sumOfAges_26 : decode cX1_sumOfAges 26 = .ok (.istore 5, 2) := by decide +kernel
theorem dX1_sumOfAges_28 : decode cX1_sumOfAges 28 = .ok (.aload_n 0, 1) := by decide +kernel
theorem dX1_sumOfAges_29 : decode cX1_sumOfAges 29 = .ok (.getfield 12, 3) := by decide +kernel
theorem dX1_sumOfAges_32 : decode cX1_sumOfAges 32 = .ok (.iload 5, 2) := by decide +kernel
theorem dX1_sumOfAges_34 : decode cX1_sumOfAges 34 = .ok (.invokevirtual 147, 3) := by decide +kernel
theorem dX1_sumOfAges_37 : decode cX1_sumOfAges 37 = .ok (.ifCond .eq 23, 3) := by decide +kernel
theorem dX1_sumOfAges_40 : decode cX1_sumOfAges 40 = .ok (.iload_n 3, 1) := by decide +kernel
theorem dX1_sumOfAges_41 : decode cX1_sumOfAges 41 = .ok (.aload_n 0, 1) := by decide +kernel
theorem dX1_sumOfAges_42 : decode cX1_sumOfAges 42 = .ok (.getfield 21, 3) := by decide +kernel
theorem dX1_sumOfAges_45 : decode cX1_sumOfAges 45 = .ok (.getfield 151, 3) := by decide +kernel
theorem dX1_sumOfAges_48 : decode cX1_sumOfAges 48 = .ok (.aload_n 0, 1) := by decide +kernel
theorem dX1_sumOfAges_49 : decode cX1_sumOfAges 49 = .ok (.getfield 12, 3) := by decide +kernel
theorem dX1_sumOfAges_52 : decode cX1_sumOfAges 52 = .ok (.iload 5, 2) := by decide +kernel
theorem dX1_sumOfAges_54 : decode cX1_sumOfAges 54 = .ok (.invokevirtual 132, 3) := by decide +kernel
theorem dX1_sumOfAges_57 : decode cX1_sumOfAges 57 = .ok (.isub, 1) := by decide +kernel
theorem dX1_sumOfAges_58 : decode cX1_sumOfAges 58 = .ok (.iadd, 1) := by decide +kernel
theorem dX1_sumOfAges_59 : decode cX1_sumOfAges 59 = .ok (.istore_n 3, 1) := by decide +kernel
theorem dX1_sumOfAges_60 : decode cX1_sumOfAges 60 = .ok (.iinc 4 1, 3) := by decide +kernel
theorem dX1_sumOfAges_63 : decode cX1_sumOfAges 63 = .ok (.goto (-52), 3) := by decide +kernel
theorem dX1_sumOfAges_66 : decode cX1_sumOfAges 66 = .ok (.iload_n 3, 1) := by decide +kernel
theorem dX1_sumOfAges_67 : decode cX1_sumOfAges 67 = .ok (.ireturn, 1) := by decide +kernel
theorem dX1_howManyOwned_0 : decode cX1_howManyOwned 0 = .ok (.iconst 0, 1) := by decide +kernel
theorem dX1_howManyOwned_1 : decode cX1_howManyOwned 1 = .ok (.istore_n 3, 1) := by decide +kernel
theorem dX1_howManyOwned_2 : decode cX1_howManyOwned 2 = .ok (.iconst 0, 1) := by decide +kernel
theorem dX1_howManyOwned_3 : decode cX1_howManyOwned 3 = .ok (.istore 4, 2) := by decide +kernel
theorem dX1_howManyOwned_5 : decode cX1_howManyOwned 5 = .ok (.iload 4, 2) := by decide +kernel
theorem dX1_howManyOwned_7 : decode cX1_howManyOwned 7 = .ok (.aload_n 1, 1) := by decide +kernel
theorem dX1_howManyOwned_8 : decode cX1_howManyOwned 8 = .ok (.getfield 89, 3) := by decide +kernel
theorem dX1_howManyOwned_11 : decode cX1_howManyOwned 11 = .ok (.if_icmp .ge 29, 3) := by decide +kernel
theorem dX1_howManyOwned_14 : decode cX1_howManyOwned 14 = .ok (.aload_n 0, 1) := by decide +kernel
theorem dX1_howManyOwned_15 : decode cX1_howManyOwned 15 = .ok (.getfield 12, 3) := by decide +kernel
theorem dX1_howManyOwned_18 : decode cX1_howManyOwned 18 = .ok (.aload_n 1, 1) := by decide +kernel
theorem dX1_howManyOwned_19 : decode cX1_howManyOwned 19 = .ok (.iload 4, 2) := by decide +kernel
theorem dX1_howManyOwned_21 : decode cX1_howManyOwned 21 = .ok (.invokevirtual 144, 3) := by decide +kernel
theorem dX1_howManyOwned_24 : decode cX1_howManyOwned 24 = .ok (.invokevirtual 129, 3) := by decide +kernel
theorem dX1_howManyOwned_27 : decode cX1_howManyOwned 27 = .ok (.iload_n 2, 1) := by decide +kernel
theorem dX1_howManyOwned_28 : decode cX1_howManyOwned 28 = .ok (.if_icmp .ne 6, 3) := by decide +kernel
theorem dX1_howManyOwned_31 : decode cX1_howManyOwned 31 = .ok (.iinc 3 1, 3) := by decide +kernel
theorem dX1_howManyOwned_34 : decode cX1_howManyOwned 34 = .ok (.iinc 4 1, 3) := by decide +kernel
theorem dX1_howManyOwned_37 : decode cX1_howManyOwned 37 = .ok (.goto (-32), 3) := by decide +kernel
theorem dX1_howManyOwned_40 : decode cX1_howManyOwned 40 = .ok (.iload_n 3, 1) := by decide +kernel
theorem dX1_howManyOwned_41 : decode cX1_howManyOwned 41 = .ok (.ireturn, 1) := by decide +kernel
theorem dX1_upperUnitsOf_0 : decode cX1_upperUnitsOf 0 = .ok (.aload_n 0, 1) := by decide +kernel
theorem dX1_upperUnitsOf_1 : decode cX1_upperUnitsOf 1 = .ok (.aload_n 0, 1) := by decide +kernel
theorem dX1_upperUnitsOf_2 : decode cX1_upperUnitsOf 2 = .ok (.getfield 28, 3) := by decide +kernel
theorem dX1_upperUnitsOf_5 : decode cX1_upperUnitsOf 5 = .ok (.iload_n 1, 1) := by decide +kernel
theorem dX1_upperUnitsOf_6 : decode cX1_upperUnitsOf 6 = .ok (.invokevirtual 108, 3) := by decide +kernel
theorem dX1_upperUnitsOf_9 : decode cX1_upperUnitsOf 9 = .ok (.aload_n 0, 1) := by decide +kernel
theorem dX1_upperUnitsOf_10 : decode cX1_upperUnitsOf 10 = .ok (.aload_n 0, 1) := by decide +kernel
theorem dX1_upperUnitsOf_11 : decode cX1_upperUnitsOf 11 = .ok (.getfield 32, 3) := by decide +kernel
theorem dX1_upperUnitsOf_14 : decode cX1_upperUnitsOf 14 = .ok (.iload_n 1, 1) := by decide +kernel
theorem dX1_upperUnitsOf_15 : decode cX1_upperUnitsOf 15 = .ok (.invokevirtual 108, 3) := by decide +kernel
theorem dX1_upperUnitsOf_18 : decode cX1_upperUnitsOf 18 = .ok (.iadd, 1) := by decide +kernel
theorem dX1_upperUnitsOf_19 : decode cX1_upperUnitsOf 19 = .ok (.ireturn, 1) := by decide +kernel
theorem dX1_unitsAbove_0 : decode cX1_unitsAbove 0 = .ok (.aload_n 0, 1) := by decide +kernel
theorem dX1_unitsAbove_1 : decode cX1_unitsAbove 1 = .ok (.iload_n 1, 1) := by decide +kernel
theorem dX1_unitsAbove_2 : decode cX1_unitsAbove 2 = .ok (.invokevirtual 71, 3) := by decide +kernel
theorem dX1_unitsAbove_5 : decode cX1_unitsAbove 5 = .ok (.astore 4, 2) := by decide +kernel
theorem dX1_unitsAbove_7 : decode cX1_unitsAbove 7 = .ok (.aload 4, 2) := by decide +kernel
theorem dX1_unitsAbove_9 : decode cX1_unitsAbove 9 = .ok (.ifnonnull 7, 3) := by decide +kernel
theorem dX1_unitsAbove_12 : decode cX1_unitsAbove 12 = .ok (.iconst 0, 1) := by decide +kernel
theorem dX1_unitsAbove_13 : decode cX1_unitsAbove 13 = .ok (.goto 17, 3) := by decide +kernel
theorem dX1_unitsAbove_16 : decode cX1_unitsAbove 16 = .ok (.iload_n 2, 1) := by decide +kernel
theorem dX1_unitsAbove_17 : decode cX1_unitsAbove 17 = .ok (.iload_n 3, 1) := by decide +kernel
theorem dX1_unitsAbove_18 : decode cX1_unitsAbove 18 = .ok (.imul, 1) := by decide +kernel
theorem dX1_unitsAbove_19 : decode cX1_unitsAbove 19 = .ok (.aload_n 0, 1) := by decide +kernel
theorem dX1_unitsAbove_20 : decode cX1_unitsAbove 20 = .ok (.getfield 62, 3) := by decide +kernel
theorem dX1_unitsAbove_23 : decode cX1_unitsAbove 23 = .ok (.aload 4, 2) := by decide +kernel
theorem dX1_unitsAbove_25 : decode cX1_unitsAbove 25 = .ok (.getfield 75, 3) := by decide +kernel
theorem dX1_unitsAbove_28 : decode cX1_unitsAbove 28 = .ok (.imul, 1) := by decide +kernel
theorem dX1_unitsAbove_29 : decode cX1_unitsAbove 29 = .ok (.isub, 1) := by decide +kernel
theorem dX1_unitsAbove_30 : decode cX1_unitsAbove 30 = .ok (.ireturn, 1) := by decide +kernel
theorem dX1_addOne_0 : decode cX1_addOne 0 = .ok (.aload_n 0, 1) := by decide +kernel
theorem dX1_addOne_1 : decode cX1_addOne 1 = .ok (.getfield 68, 3) := by decide +kernel
theorem dX1_addOne_4 : decode cX1_addOne 4 = .ok (.aload_n 0, 1) := by decide +kernel
theorem dX1_addOne_5 : decode cX1_addOne 5 = .ok (.getfield 50, 3) := by decide +kernel
theorem dX1_addOne_8 : decode cX1_addOne 8 = .ok (.arraylength, 1) := by decide +kernel
theorem dX1_addOne_9 : decode cX1_addOne 9 = .ok (.if_icmp .lt 5, 3) := by decide +kernel
theorem dX1_addOne_12 : decode cX1_addOne 12 = .ok (.iconst (-1), 1) := by decide +kernel
theorem dX1_addOne_13 : decode cX1_addOne 13 = .ok (.ireturn, 1) := by decide +kernel
theorem dX1_addOne_14 : decode cX1_addOne 14 = .ok (.aload_n 0, 1) := by decide +kernel
theorem dX1_addOne_15 : decode cX1_addOne 15 = .ok (.getfield 68, 3) := by decide +kernel
theorem dX1_addOne_18 : decode cX1_addOne 18 = .ok (.istore_n 2, 1) := by decide +kernel
theorem dX1_addOne_19 : decode cX1_addOne 19 = .ok (.aload_n 0, 1) := by decide +kernel
theorem dX1_addOne_20 : decode cX1_addOne 20 = .ok (.dup, 1) := by decide +kernel
theorem dX1_addOne_21 : decode cX1_addOne 21 = .ok (.getfield 68, 3) := by decide +kernel
theorem dX1_addOne_24 : decode cX1_addOne 24 = .ok (.iconst 1, 1) := by decide +kernel
theorem dX1_addOne_25 : decode cX1_addOne 25 = .ok (.iadd, 1) := by decide +kernel
theorem dX1_addOne_26 : decode cX1_addOne 26 = .ok (.putfield 68, 3) := by decide +kernel
theorem dX1_addOne_29 : decode cX1_addOne 29 = .ok (.aload_n 0, 1) := by decide +kernel
theorem dX1_addOne_30 : decode cX1_addOne 30 = .ok (.iload_n 2, 1) := by decide +kernel
theorem dX1_addOne_31 : decode cX1_addOne 31 = .ok (.invokevirtual 71, 3) := by decide +kernel
theorem dX1_addOne_34 : decode cX1_addOne 34 = .ok (.astore_n 3, 1) := by decide +kernel
theorem dX1_addOne_35 : decode cX1_addOne 35 = .ok (.aload_n 3, 1) := by decide +kernel
theorem dX1_addOne_36 : decode cX1_addOne 36 = .ok (.ifnull 8, 3) := by decide +kernel
theorem dX1_addOne_39 : decode cX1_addOne 39 = .ok (.aload_n 3, 1) := by decide +kernel
theorem dX1_addOne_40 : decode cX1_addOne 40 = .ok (.iload_n 1, 1) := by decide +kernel
theorem dX1_addOne_41 : decode cX1_addOne 41 = .ok (.invokevirtual 154, 3) := by decide +kernel
theorem dX1_addOne_44 : decode cX1_addOne 44 = .ok (.iload_n 2, 1) := by decide +kernel
theorem dX1_addOne_45 : decode cX1_addOne 45 = .ok (.ireturn, 1) := by decide +kernel
theorem dX1_changeWeight_0 : decode cX1_changeWeight 0 = .ok (.aload_n 0, 1) := by decide +kernel
theorem dX1_changeWeight_1 : decode cX1_changeWeight 1 = .ok (.iload_n 1, 1) := by decide +kernel
theorem dX1_changeWeight_2 : decode cX1_changeWeight 2 = .ok (.invokevirtual 71, 3) := by decide +kernel
theorem dX1_changeWeight_5 : decode cX1_changeWeight 5 = .ok (.astore_n 3, 1) := by decide +kernel
theorem dX1_changeWeight_6 : decode cX1_changeWeight 6 = .ok (.aload_n 3, 1) := by decide +kernel
theorem dX1_changeWeight_7 : decode cX1_changeWeight 7 = .ok (.ifnonnull 5, 3) := by decide +kernel
theorem dX1_changeWeight_10 : decode cX1_changeWeight 10 = .ok (.iconst (-1), 1) := by decide +kernel
theorem dX1_changeWeight_11 : decode cX1_changeWeight 11 = .ok (.ireturn, 1) := by decide +kernel
theorem dX1_changeWeight_12 : decode cX1_changeWeight 12 = .ok (.aload_n 3, 1) := by decide +kernel
theorem dX1_changeWeight_13 : decode cX1_changeWeight 13 = .ok (.getfield 75, 3) := by decide +kernel
theorem dX1_changeWeight_16 : decode cX1_changeWeight 16 = .ok (.istore 4, 2) := by decide +kernel
theorem dX1_changeWeight_18 : decode cX1_changeWeight 18 = .ok (.aload_n 3, 1) := by decide +kernel
theorem dX1_changeWeight_19 : decode cX1_changeWeight 19 = .ok (.iload_n 2, 1) := by decide +kernel
theorem dX1_changeWeight_20 : decode cX1_changeWeight 20 = .ok (.putfield 75, 3) := by decide +kernel
theorem dX1_changeWeight_23 : decode cX1_changeWeight 23 = .ok (.iload 4, 2) := by decide +kernel
theorem dX1_changeWeight_25 : decode cX1_changeWeight 25 = .ok (.ireturn, 1) := by decide +kernel
theorem dX1_changeSetting_0 : decode cX1_changeSetting 0 = .ok (.iload_n 1, 1) := by decide +kernel
theorem dX1_changeSetting_1 : decode cX1_changeSetting 1 = .ok (.ifCond .ne 10, 3) := by decide +kernel
theorem dX1_changeSetting_4 : decode cX1_changeSetting 4 = .ok (.aload_n 0, 1) := by decide +kernel
theorem dX1_changeSetting_5 : decode cX1_changeSetting 5 = .ok (.getfield 55, 3) := by decide +kernel
theorem dX1_changeSetting_8 : decode cX1_changeSetting 8 = .ok (.goto 7, 3) := by decide +kernel
theorem dX1_changeSetting_11 : decode cX1_changeSetting 11 = .ok (.aload_n 0, 1) := by decide +kernel
theorem dX1_changeSetting_12 : decode cX1_changeSetting 12 = .ok (.getfield 59, 3) := by decide +kernel
theorem dX1_changeSetting_15 : decode cX1_changeSetting 15 = .ok (.istore_n 3, 1) := by decide +kernel
theorem dX1_changeSetting_16 : decode cX1_changeSetting 16 = .ok (.iload_n 1, 1) := by decide +kernel
theorem dX1_changeSetting_17 : decode cX1_changeSetting 17 = .ok (.ifCond .ne 11, 3) := by decide +kernel
theorem dX1_changeSetting_20 : decode cX1_changeSetting 20 = .ok (.aload_n 0, 1) := by decide +kernel
theorem dX1_changeSetting_21 : decode cX1_changeSetting 21 = .ok (.iload_n 2, 1) := by decide +kernel
theorem dX1_changeSetting_22 : decode cX1_changeSetting 22 = .ok (.putfield 55, 3) := by decide +kernel
theorem dX1_changeSetting_25 : decode cX1_changeSetting 25 = .ok (.goto 8, 3) := by decide +kernel
theorem dX1_changeSetting_28 : decode cX1_changeSetting 28 = .ok (.aload_n 0, 1) := by decide +kernel
theorem dX1_changeSetting_29 : decode cX1_changeSetting 29 = .ok (.iload_n 2, 1) := by decide +kernel
theorem dX1_changeSetting_30 : decode cX1_changeSetting 30 = .ok (.putfield 59, 3) := by decide +kernel
theorem dX1_changeSetting_33 : decode cX1_changeSetting 33 = .ok (.iload_n 3, 1) := by decide +kernel
theorem dX1_changeSetting_34 : decode cX1_changeSetting 34 = .ok (.ireturn, 1) := by decide +kernel
theorem dX1_reshape_0 : decode cX1_reshape 0 = .ok (.aload_n 0, 1) := by decide +kernel
theorem dX1_reshape_1 : decode cX1_reshape 1 = .ok (.getfield 28, 3) := by decide +kernel
theorem dX1_reshape_4 : decode cX1_reshape 4 = .ok (.getfield 89, 3) := by decide +kernel
theorem dX1_reshape_7 : decode cX1_reshape 7 = .ok (.aload_n 0, 1) := by decide +kernel
theorem dX1_reshape_8 : decode cX1_reshape 8 = .ok (.getfield 32, 3) := by decide +kernel
theorem dX1_reshape_11 : decode cX1_reshape 11 = .ok (.getfield 89, 3) := by decide +kernel
theorem dX1_reshape_14 : decode cX1_reshape 14 = .ok (.iadd, 1) := by decide +kernel
theorem dX1_reshape_15 : decode cX1_reshape 15 = .ok (.aload_n 0, 1) := by decide +kernel
theorem dX1_reshape_16 : decode cX1_reshape 16 = .ok (.getfield 35, 3) := by decide +kernel
theorem dX1_reshape_19 : decode cX1_reshape 19 = .ok (.getfield 89, 3) := by decide +kernel
theorem dX1_reshape_22 : decode cX1_reshape 22 = .ok (.iadd, 1) := by decide +kernel
theorem dX1_reshape_23 : decode cX1_reshape 23 = .ok (.istore_n 3, 1) := by decide +kernel
theorem dX1_reshape_24 : decode cX1_reshape 24 = .ok (.aload_n 0, 1) := by decide +kernel
theorem dX1_reshape_25 : decode cX1_reshape 25 = .ok (.getfield 12, 3) := by decide +kernel
theorem dX1_reshape_28 : decode cX1_reshape 28 = .ok (.sipush 200, 3) := by decide +kernel
theorem dX1_reshape_31 : decode cX1_reshape 31 = .ok (.invokevirtual 158, 3) := by decide +kernel
theorem dX1_reshape_34 : decode cX1_reshape 34 = .ok (.pop, 1) := by decide +kernel
theorem dX1_reshape_35 : decode cX1_reshape 35 = .ok (.aload_n 0, 1) := by decide +kernel
theorem dX1_reshape_36 : decode cX1_reshape 36 = .ok (.getfield 12, 3) := by decide +kernel
theorem dX1_reshape_39 : decode cX1_reshape 39 = .ok (.invokevirtual 161, 3) := by decide +kernel
theorem dX1_reshape_42 : decode cX1_reshape 42 = .ok (.aload_n 0, 1) := by decide +kernel
theorem dX1_reshape_43 : decode cX1_reshape 43 = .ok (.getfield 28, 3) := by decide +kernel
theorem dX1_reshape_46 : decode cX1_reshape 46 = .ok (.iconst 0, 1) := by decide +kernel
theorem dX1_reshape_47 : decode cX1_reshape 47 = .ok (.putfield 89, 3) := by decide +kernel
theorem dX1_reshape_50 : decode cX1_reshape 50 = .ok (.aload_n 0, 1) := by decide +kernel
theorem dX1_reshape_51 : decode cX1_reshape 51 = .ok (.getfield 32, 3) := by decide +kernel
theorem dX1_reshape_54 : decode cX1_reshape 54 = .ok (.iconst 0, 1) := by decide +kernel
theorem dX1_reshape_55 : decode cX1_reshape 55 = .ok (.putfield 89, 3) := by decide +kernel
theorem dX1_reshape_58 : decode cX1_reshape 58 = .ok (.aload_n 0, 1) := by decide +kernel
theorem dX1_reshape_59 : decode cX1_reshape 59 = .ok (.getfield 35, 3) := by decide +kernel
theorem dX1_reshape_62 : decode cX1_reshape 62 = .ok (.iconst 0, 1) := by decide +kernel
theorem dX1_reshape_63 : decode cX1_reshape 63 = .ok (.putfield 89, 3) := by decide +kernel
theorem dX1_reshape_66 : decode cX1_reshape 66 = .ok (.aload_n 0, 1) := by decide +kernel
theorem dX1_reshape_67 : decode cX1_reshape 67 = .ok (.getfield 38, 3) := by decide +kernel
theorem dX1_reshape_70 : decode cX1_reshape 70 = .ok (.iconst 0, 1) := by decide +kernel
theorem dX1_reshape_71 : decode cX1_reshape 71 = .ok (.putfield 89, 3) := by decide +kernel
theorem dX1_reshape_74 : decode cX1_reshape 74 = .ok (.aload_n 0, 1) := by decide +kernel
theorem dX1_reshape_75 : decode cX1_reshape 75 = .ok (.getfield 41, 3) := by decide +kernel
theorem dX1_reshape_78 : decode cX1_reshape 78 = .ok (.iconst 0, 1) := by decide +kernel
theorem dX1_reshape_79 : decode cX1_reshape 79 = .ok (.putfield 89, 3) := by decide +kernel
theorem dX1_reshape_82 : decode cX1_reshape 82 = .ok (.aload_n 0, 1) := by decide +kernel
theorem dX1_reshape_83 : decode cX1_reshape 83 = .ok (.iconst 0, 1) := by decide +kernel
theorem dX1_reshape_84 : decode cX1_reshape 84 = .ok (.putfield 82, 3) := by decide +kernel
theorem dX1_reshape_87 : decode cX1_reshape 87 = .ok (.aload_n 0, 1) := by decide +kernel
theorem dX1_reshape_88 : decode cX1_reshape 88 = .ok (.iload_n 1, 1) := by decide +kernel
theorem dX1_reshape_89 : decode cX1_reshape 89 = .ok (.putfield 62, 3) := by decide +kernel
theorem dX1_reshape_92 : decode cX1_reshape 92 = .ok (.aload_n 0, 1) := by decide +kernel
theorem dX1_reshape_93 : decode cX1_reshape 93 = .ok (.iload_n 2, 1) := by decide +kernel
theorem dX1_reshape_94 : decode cX1_reshape 94 = .ok (.putfield 65, 3) := by decide +kernel
theorem dX1_reshape_97 : decode cX1_reshape 97 = .ok (.iload_n 3, 1) := by decide +kernel
theorem dX1_reshape_98 : decode cX1_reshape 98 = .ok (.ireturn, 1) := by decide +kernel
theorem dX1_access_0 : decode cX1_access 0 = .ok (.aload_n 0, 1) := by decide +kernel
theorem dX1_access_1 : decode cX1_access 1 = .ok (.iload_n 1, 1) := by decide +kernel
theorem dX1_access_2 : decode cX1_access 2 = .ok (.invokevirtual 71, 3) := by decide +kernel
theorem dX1_access_5 : decode cX1_access 5 = .ok (.astore 4, 2) := by decide +kernel
theorem dX1_access_7 : decode cX1_access 7 = .ok (.aload 4, 2) := by decide +kernel
theorem dX1_access_9 : decode cX1_access 9 = .ok (.ifnonnull 5, 3) := by decide +kernel
theorem dX1_access_12 : decode cX1_access 12 = .ok (.iconst 2, 1) := by decide +kernel
theorem dX1_access_13 : decode cX1_access 13 = .ok (.ireturn, 1) := by decide +kernel
theorem dX1_access_14 : decode cX1_access 14 = .ok (.aload 4, 2) := by decide +kernel
theorem dX1_access_16 : decode cX1_access 16 = .ok (.aload 4, 2) := by decide +kernel
theorem dX1_access_18 : decode cX1_access 18 = .ok (.iload_n 2, 1) := by decide +kernel
theorem dX1_access_19 : decode cX1_access 19 = .ok (.invokevirtual 78, 3) := by decide +kernel
theorem dX1_access_22 : decode cX1_access 22 = .ok (.putfield 164, 3) := by decide +kernel
theorem dX1_access_25 : decode cX1_access 25 = .ok (.aload 4, 2) := by decide +kernel
theorem dX1_access_27 : decode cX1_access 27 = .ok (.iload_n 2, 1) := by decide +kernel
theorem dX1_access_28 : decode cX1_access 28 = .ok (.putfield 167, 3) := by decide +kernel
theorem dX1_access_31 : decode cX1_access 31 = .ok (.aload 4, 2) := by decide +kernel
theorem dX1_access_33 : decode cX1_access 33 = .ok (.getfield 164, 3) := by decide +kernel
theorem dX1_access_36 : decode cX1_access 36 = .ok (.aload_n 0, 1) := by decide +kernel
theorem dX1_access_37 : decode cX1_access 37 = .ok (.getfield 55, 3) := by decide +kernel
theorem dX1_access_40 : decode cX1_access 40 = .ok (.if_icmp .lt 7, 3) := by decide +kernel
theorem dX1_access_43 : decode cX1_access 43 = .ok (.iconst 1, 1) := by decide +kernel
theorem dX1_access_44 : decode cX1_access 44 = .ok (.goto 4, 3) := by decide +kernel
theorem dX1_access_47 : decode cX1_access 47 = .ok (.iconst 0, 1) := by decide +kernel
theorem dX1_access_48 : decode cX1_access 48 = .ok (.istore 5, 2) := by decide +kernel
theorem dX1_access_50 : decode cX1_access 50 = .ok (.aload_n 0, 1) := by decide +kernel
theorem dX1_access_51 : decode cX1_access 51 = .ok (.iload_n 2, 1) := by decide +kernel
theorem dX1_access_52 : decode cX1_access 52 = .ok (.invokevirtual 170, 3) := by decide +kernel
theorem dX1_access_55 : decode cX1_access 55 = .ok (.istore 6, 2) := by decide +kernel
theorem dX1_access_57 : decode cX1_access 57 = .ok (.aload 4, 2) := by decide +kernel
theorem dX1_access_59 : decode cX1_access 59 = .ok (.iload 6, 2) := by decide +kernel
theorem dX1_access_61 : decode cX1_access 61 = .ok (.iload_n 3, 1) := by decide +kernel
theorem dX1_access_62 : decode cX1_access 62 = .ok (.invokevirtual 173, 3) := by decide +kernel
theorem dX1_access_65 : decode cX1_access 65 = .ok (.aload_n 0, 1) := by decide +kernel
theorem dX1_access_66 : decode cX1_access 66 = .ok (.getfield 21, 3) := by decide +kernel
theorem dX1_access_69 : decode cX1_access 69 = .ok (.iload 6, 2) := by decide +kernel
theorem dX1_access_71 : decode cX1_access 71 = .ok (.iload 5, 2) := by decide +kernel
theorem dX1_access_73 : decode cX1_access 73 = .ok (.invokevirtual 177, 3) := by decide +kernel
theorem dX1_access_76 : decode cX1_access 76 = .ok (.iload 6, 2) := by decide +kernel
theorem dX1_access_78 : decode cX1_access 78 = .ok (.ifCond .ne 16, 3) := by decide +kernel
theorem dX1_access_81 : decode cX1_access 81 = .ok (.iload 5, 2) := by decide +kernel
theorem dX1_access_83 : decode cX1_access 83 = .ok (.ifCond .ne 29, 3) := by decide +kernel
theorem dX1_access_86 : decode cX1_access 86 = .ok (.aload_n 0, 1) := by decide +kernel
theorem dX1_access_87 : decode cX1_access 87 = .ok (.iload_n 2, 1) := by decide +kernel
theorem dX1_access_88 : decode cX1_access 88 = .ok (.invokevirtual 178, 3) := by decide +kernel
theorem dX1_access_91 : decode cX1_access 91 = .ok (.goto 21, 3) := by decide +kernel
theorem dX1_access_94 : decode cX1_access 94 = .ok (.iload 5, 2) := by decide +kernel
theorem dX1_access_96 : decode cX1_access 96 = .ok (.ifCond .eq 11, 3) := by decide +kernel
theorem dX1_access_99 : decode cX1_access 99 = .ok (.aload_n 0, 1) := by decide +kernel
theorem dX1_access_100 : decode cX1_access 100 = .ok (.iload_n 2, 1) := by decide +kernel
theorem dX1_access_101 : decode cX1_access 101 = .ok (.invokevirtual 181, 3) := by decide +kernel
theorem dX1_access_104 : decode cX1_access 104 = .ok (.goto 8, 3) := by decide +kernel
theorem dX1_access_107 : decode cX1_access 107 = .ok (.aload_n 0, 1) := by decide +kernel
theorem dX1_access_108 : decode cX1_access 108 = .ok (.iload_n 2, 1) := by decide +kernel
theorem dX1_access_109 : decode cX1_access 109 = .ok (.invokevirtual 184, 3) := by decide +kernel
theorem dX1_access_112 : decode cX1_access 112 = .ok (.aload_n 0, 1) := by decide +kernel
theorem dX1_access_113 : decode cX1_access 113 = .ok (.getfield 12, 3) := by decide +kernel
theorem dX1_access_116 : decode cX1_access 116 = .ok (.iload_n 2, 1) := by decide +kernel
theorem dX1_access_117 : decode cX1_access 117 = .ok (.iload_n 1, 1) := by decide +kernel
theorem dX1_access_118 : decode cX1_access 118 = .ok (.invokevirtual 187, 3) := by decide +kernel
theorem dX1_access_121 : decode cX1_access 121 = .ok (.iload 6, 2) := by decide +kernel
theorem dX1_access_123 : decode cX1_access 123 = .ok (.ireturn, 1) := by decide +kernel
theorem dX1_kindOf_0 : decode cX1_kindOf 0 = .ok (.aload_n 0, 1) := by decide +kernel
theorem dX1_kindOf_1 : decode cX1_kindOf 1 = .ok (.getfield 12, 3) := by decide +kernel
theorem dX1_kindOf_4 : decode cX1_kindOf 4 = .ok (.iload_n 1, 1) := by decide +kernel
theorem dX1_kindOf_5 : decode cX1_kindOf 5 = .ok (.invokevirtual 120, 3) := by decide +kernel
theorem dX1_kindOf_8 : decode cX1_kindOf 8 = .ok (.istore_n 2, 1) := by decide +kernel
theorem dX1_kindOf_9 : decode cX1_kindOf 9 = .ok (.iload_n 2, 1) := by decide +kernel
theorem dX1_kindOf_10 : decode cX1_kindOf 10 = .ok (.iconst (-1), 1) := by decide +kernel
theorem dX1_kindOf_11 : decode cX1_kindOf 11 = .ok (.if_icmp .ne 5, 3) := by decide +kernel
theorem dX1_kindOf_14 : decode cX1_kindOf 14 = .ok (.iconst 2, 1) := by decide +kernel
theorem dX1_kindOf_15 : decode cX1_kindOf 15 = .ok (.ireturn, 1) := by decide +kernel
theorem dX1_kindOf_16 : decode cX1_kindOf 16 = .ok (.iload_n 2, 1) := by decide +kernel
theorem dX1_kindOf_17 : decode cX1_kindOf 17 = .ok (.iconst 2, 1) := by decide +kernel
theorem dX1_kindOf_18 : decode cX1_kindOf 18 = .ok (.if_icmp .ne 7, 3) := by decide +kernel
theorem dX1_kindOf_21 : decode cX1_kindOf 21 = .ok (.iconst 1, 1) := by decide +kernel
theorem dX1_kindOf_22 : decode cX1_kindOf 22 = .ok (.goto 4, 3) := by decide +kernel
theorem dX1_kindOf_25 : decode cX1_kindOf 25 = .ok (.iconst 0, 1) := by decide +kernel
theorem dX1_kindOf_26 : decode cX1_kindOf 26 = .ok (.ireturn, 1) := by decide +kernel
theorem dX1_makeMostFrequent_0 : decode cX1_makeMostFrequent 0 = .ok (.aload_n 0, 1) := by decide +kernel
theorem dX1_makeMostFrequent_1 : decode cX1_makeMostFrequent 1 = .ok (.aload_n 0, 1) := by decide +kernel
theorem dX1_makeMostFrequent_2 : decode cX1_makeMostFrequent 2 = .ok (.getfield 12, 3) := by decide +kernel
theorem dX1_makeMostFrequent_5 : decode cX1_makeMostFrequent 5 = .ok (.iload_n 1, 1) := by decide +kernel
theorem dX1_makeMostFrequent_6 : decode cX1_makeMostFrequent 6 = .ok (.invokevirtual 120, 3) := by decide +kernel
theorem dX1_makeMostFrequent_9 : decode cX1_makeMostFrequent 9 = .ok (.invokevirtual 85, 3) := by decide +kernel
theorem dX1_makeMostFrequent_12 : decode cX1_makeMostFrequent 12 = .ok (.iload_n 1, 1) := by decide +kernel
theorem dX1_makeMostFrequent_13 : decode cX1_makeMostFrequent 13 = .ok (.invokevirtual 191, 3) := by decide +kernel
theorem dX1_makeMostFrequent_16 : decode cX1_makeMostFrequent 16 = .ok (.aload_n 0, 1) := by decide +kernel
theorem dX1_makeMostFrequent_17 : decode cX1_makeMostFrequent 17 = .ok (.getfield 32, 3) := by decide +kernel
theorem dX1_makeMostFrequent_20 : decode cX1_makeMostFrequent 20 = .ok (.iload_n 1, 1) := by decide +kernel
theorem dX1_makeMostFrequent_21 : decode cX1_makeMostFrequent 21 = .ok (.invokevirtual 194, 3) := by decide +kernel
theorem dX1_makeMostFrequent_24 : decode cX1_makeMostFrequent 24 = .ok (.aload_n 0, 1) := by decide +kernel
theorem dX1_makeMostFrequent_25 : decode cX1_makeMostFrequent 25 = .ok (.getfield 12, 3) := by decide +kernel
theorem dX1_makeMostFrequent_28 : decode cX1_makeMostFrequent 28 = .ok (.iload_n 1, 1) := by decide +kernel
theorem dX1_makeMostFrequent_29 : decode cX1_makeMostFrequent 29 = .ok (.iconst 1, 1) := by decide +kernel
theorem dX1_makeMostFrequent_30 : decode cX1_makeMostFrequent 30 = .ok (.invokevirtual 197, 3) := by decide +kernel
theorem dX1_makeMostFrequent_33 : decode cX1_makeMostFrequent 33 = .ok (.return_, 1) := by decide +kernel
theorem dX1_scanInLower_0 : decode cX1_scanInLower 0 = .ok (.aload_n 0, 1) := by decide +kernel
theorem dX1_scanInLower_1 : decode cX1_scanInLower 1 = .ok (.getfield 12, 3) := by decide +kernel
theorem dX1_scanInLower_4 : decode cX1_scanInLower 4 = .ok (.iload_n 1, 1) := by decide +kernel
theorem dX1_scanInLower_5 : decode cX1_scanInLower 5 = .ok (.invokevirtual 120, 3) := by decide +kernel
theorem dX1_scanInLower_8 : decode cX1_scanInLower 8 = .ok (.iconst 2, 1) := by decide +kernel
theorem dX1_scanInLower_9 : decode cX1_scanInLower 9 = .ok (.if_icmp .ne 14, 3) := by decide +kernel
theorem dX1_scanInLower_12 : decode cX1_scanInLower 12 = .ok (.aload_n 0, 1) := by decide +kernel
theorem dX1_scanInLower_13 : decode cX1_scanInLower 13 = .ok (.getfield 35, 3) := by decide +kernel
theorem dX1_scanInLower_16 : decode cX1_scanInLower 16 = .ok (.iload_n 1, 1) := by decide +kernel
theorem dX1_scanInLower_17 : decode cX1_scanInLower 17 = .ok (.invokevirtual 191, 3) := by decide +kernel
theorem dX1_scanInLower_20 : decode cX1_scanInLower 20 = .ok (.goto 24, 3) := by decide +kernel
theorem dX1_scanInLower_23 : decode cX1_scanInLower 23 = .ok (.aload_n 0, 1) := by decide +kernel
theorem dX1_scanInLower_24 : decode cX1_scanInLower 24 = .ok (.invokevirtual 200, 3) := by decide +kernel
theorem dX1_scanInLower_27 : decode cX1_scanInLower 27 = .ok (.aload_n 0, 1) := by decide +kernel
theorem dX1_scanInLower_28 : decode cX1_scanInLower 28 = .ok (.getfield 12, 3) := by decide +kernel
theorem dX1_scanInLower_31 : decode cX1_scanInLower 31 = .ok (.iload_n 1, 1) := by decide +kernel
theorem dX1_scanInLower_32 : decode cX1_scanInLower 32 = .ok (.invokevirtual 203, 3) := by decide +kernel
theorem dX1_scanInLower_35 : decode cX1_scanInLower 35 = .ok (.aload_n 0, 1) := by decide +kernel
theorem dX1_scanInLower_36 : decode cX1_scanInLower 36 = .ok (.getfield 12, 3) := by decide +kernel
theorem dX1_scanInLower_39 : decode cX1_scanInLower 39 = .ok (.iload_n 1, 1) := by decide +kernel
theorem dX1_scanInLower_40 : decode cX1_scanInLower 40 = .ok (.iconst 2, 1) := by decide +kernel
theorem dX1_scanInLower_41 : decode cX1_scanInLower 41 = .ok (.invokevirtual 197, 3) := by decide +kernel
theorem dX1_scanInLower_44 : decode cX1_scanInLower 44 = .ok (.aload_n 0, 1) := by decide +kernel
theorem dX1_scanInLower_45 : decode cX1_scanInLower 45 = .ok (.getfield 35, 3) := by decide +kernel
theorem dX1_scanInLower_48 : decode cX1_scanInLower 48 = .ok (.iload_n 1, 1) := by decide +kernel
theorem dX1_scanInLower_49 : decode cX1_scanInLower 49 = .ok (.invokevirtual 194, 3) := by decide +kernel
theorem dX1_scanInLower_52 : decode cX1_scanInLower 52 = .ok (.return_, 1) := by decide +kernel
theorem dX1_bringToUpper_0 : decode cX1_bringToUpper 0 = .ok (.aload_n 0, 1) := by decide +kernel
theorem dX1_bringToUpper_1 : decode cX1_bringToUpper 1 = .ok (.getfield 12, 3) := by decide +kernel
theorem dX1_bringToUpper_4 : decode cX1_bringToUpper 4 = .ok (.iload_n 1, 1) := by decide +kernel
theorem dX1_bringToUpper_5 : decode cX1_bringToUpper 5 = .ok (.invokevirtual 120, 3) := by decide +kernel
theorem dX1_bringToUpper_8 : decode cX1_bringToUpper 8 = .ok (.iconst 2, 1) := by decide +kernel
theorem dX1_bringToUpper_9 : decode cX1_bringToUpper 9 = .ok (.if_icmp .ne 14, 3) := by decide +kernel
theorem dX1_bringToUpper_12 : decode cX1_bringToUpper 12 = .ok (.aload_n 0, 1) := by decide +kernel
theorem dX1_bringToUpper_13 : decode cX1_bringToUpper 13 = .ok (.getfield 35, 3) := by decide +kernel
theorem dX1_bringToUpper_16 : decode cX1_bringToUpper 16 = .ok (.iload_n 1, 1) := by decide +kernel
theorem dX1_bringToUpper_17 : decode cX1_bringToUpper 17 = .ok (.invokevirtual 191, 3) := by decide +kernel
theorem dX1_bringToUpper_20 : decode cX1_bringToUpper 20 = .ok (.goto 11, 3) := by decide +kernel
theorem dX1_bringToUpper_23 : decode cX1_bringToUpper 23 = .ok (.aload_n 0, 1) := by decide +kernel
theorem dX1_bringToUpper_24 : decode cX1_bringToUpper 24 = .ok (.getfield 12, 3) := by decide +kernel
theorem dX1_bringToUpper_27 : decode cX1_bringToUpper 27 = .ok (.iload_n 1, 1) := by decide +kernel
theorem dX1_bringToUpper_28 : decode cX1_bringToUpper 28 = .ok (.invokevirtual 203, 3) := by decide +kernel
theorem dX1_bringToUpper_31 : decode cX1_bringToUpper 31 = .ok (.aload_n 0, 1) := by decide +kernel
theorem dX1_bringToUpper_32 : decode cX1_bringToUpper 32 = .ok (.getfield 12, 3) := by decide +kernel
theorem dX1_bringToUpper_35 : decode cX1_bringToUpper 35 = .ok (.iload_n 1, 1) := by decide +kernel
theorem dX1_bringToUpper_36 : decode cX1_bringToUpper 36 = .ok (.invokevirtual 135, 3) := by decide +kernel
theorem dX1_bringToUpper_39 : decode cX1_bringToUpper 39 = .ok (.istore_n 2, 1) := by decide +kernel
theorem dX1_bringToUpper_40 : decode cX1_bringToUpper 40 = .ok (.aload_n 0, 1) := by decide +kernel
theorem dX1_bringToUpper_41 : decode cX1_bringToUpper 41 = .ok (.iload_n 2, 1) := by decide +kernel
theorem dX1_bringToUpper_42 : decode cX1_bringToUpper 42 = .ok (.invokevirtual 206, 3) := by decide +kernel
theorem dX1_bringToUpper_45 : decode cX1_bringToUpper 45 = .ok (.aload_n 0, 1) := by decide +kernel
theorem dX1_bringToUpper_46 : decode cX1_bringToUpper 46 = .ok (.iload_n 1, 1) := by decide +kernel
theorem dX1_bringToUpper_47 : decode cX1_bringToUpper 47 = .ok (.invokevirtual 209, 3) := by decide +kernel
theorem dX1_bringToUpper_50 : decode cX1_bringToUpper 50 = .ok (.aload_n 0, 1) := by decide +kernel
theorem dX1_bringToUpper_51 : decode cX1_bringToUpper 51 = .ok (.iload_n 2, 1) := by decide +kernel
theorem dX1_bringToUpper_52 : decode cX1_bringToUpper 52 = .ok (.iconst 4, 1) := by decide +kernel
theorem dX1_bringToUpper_53 : decode cX1_bringToUpper 53 = .ok (.if_icmp .ne 7, 3) := by decide +kernel
theorem dX1_bringToUpper_56 : decode cX1_bringToUpper 56 = .ok (.iconst 1, 1) := by decide +kernel
theorem dX1_bringToUpper_57 : decode cX1_bringToUpper 57 = .ok (.goto 4, 3) := by decide +kernel
theorem dX1_bringToUpper_60 : decode cX1_bringToUpper 60 = .ok (.iconst 0, 1) := by decide +kernel
theorem dX1_bringToUpper_61 : decode cX1_bringToUpper 61 = .ok (.invokevirtual 212, 3) := by decide +kernel
theorem dX1_bringToUpper_64 : decode cX1_bringToUpper 64 = .ok (.istore_n 3, 1) := by decide +kernel
theorem dX1_bringToUpper_65 : decode cX1_bringToUpper 65 = .ok (.iload_n 3, 1) := by decide +kernel
theorem dX1_bringToUpper_66 : decode cX1_bringToUpper 66 = .ok (.iconst (-1), 1) := by decide +kernel
theorem dX1_bringToUpper_67 : decode cX1_bringToUpper 67 = .ok (.if_icmp .eq 12, 3) := by decide +kernel
theorem dX1_bringToUpper_70 : decode cX1_bringToUpper 70 = .ok (.aload_n 0, 1) := by decide +kernel
theorem dX1_bringToUpper_71 : decode cX1_bringToUpper 71 = .ok (.invokevirtual 200, 3) := by decide +kernel
theorem dX1_bringToUpper_74 : decode cX1_bringToUpper 74 = .ok (.aload_n 0, 1) := by decide +kernel
theorem dX1_bringToUpper_75 : decode cX1_bringToUpper 75 = .ok (.iload_n 3, 1) := by decide +kernel
theorem dX1_bringToUpper_76 : decode cX1_bringToUpper 76 = .ok (.invokevirtual 216, 3) := by decide +kernel
theorem dX1_bringToUpper_79 : decode cX1_bringToUpper 79 = .ok (.iload_n 2, 1) := by decide +kernel
theorem dX1_bringToUpper_80 : decode cX1_bringToUpper 80 = .ok (.iconst (-1), 1) := by decide +kernel
theorem dX1_bringToUpper_81 : decode cX1_bringToUpper 81 = .ok (.if_icmp .ne 7, 3) := by decide +kernel
theorem dX1_bringToUpper_84 : decode cX1_bringToUpper 84 = .ok (.iconst 0, 1) := by decide +kernel
theorem dX1_bringToUpper_85 : decode cX1_bringToUpper 85 = .ok (.goto 4, 3) := by decide +kernel
theorem dX1_bringToUpper_88 : decode cX1_bringToUpper 88 = .ok (.iconst 1, 1) := by decide +kernel
theorem dX1_bringToUpper_89 : decode cX1_bringToUpper 89 = .ok (.istore 4, 2) := by decide +kernel
theorem dX1_bringToUpper_91 : decode cX1_bringToUpper 91 = .ok (.aload_n 0, 1) := by decide +kernel
theorem dX1_bringToUpper_92 : decode cX1_bringToUpper 92 = .ok (.iload 4, 2) := by decide +kernel
theorem dX1_bringToUpper_94 : decode cX1_bringToUpper 94 = .ok (.invokevirtual 85, 3) := by decide +kernel
theorem dX1_bringToUpper_97 : decode cX1_bringToUpper 97 = .ok (.iload_n 1, 1) := by decide +kernel
theorem dX1_bringToUpper_98 : decode cX1_bringToUpper 98 = .ok (.invokevirtual 194, 3) := by decide +kernel
theorem dX1_bringToUpper_101 : decode cX1_bringToUpper 101 = .ok (.aload_n 0, 1) := by decide +kernel
theorem dX1_bringToUpper_102 : decode cX1_bringToUpper 102 = .ok (.getfield 12, 3) := by decide +kernel
theorem dX1_bringToUpper_105 : decode cX1_bringToUpper 105 = .ok (.iload_n 1, 1) := by decide +kernel
theorem dX1_bringToUpper_106 : decode cX1_bringToUpper 106 = .ok (.iload 4, 2) := by decide +kernel
theorem dX1_bringToUpper_108 : decode cX1_bringToUpper 108 = .ok (.invokevirtual 197, 3) := by decide +kernel
theorem dX1_bringToUpper_111 : decode cX1_bringToUpper 111 = .ok (.return_, 1) := by decide +kernel
theorem dX1_learnFrom_0 : decode cX1_learnFrom 0 = .ok (.aload_n 0, 1) := by decide +kernel
theorem dX1_learnFrom_1 : decode cX1_learnFrom 1 = .ok (.getfield 38, 3) := by decide +kernel
theorem dX1_learnFrom_4 : decode cX1_learnFrom 4 = .ok (.getfield 89, 3) := by decide +kernel
theorem dX1_learnFrom_7 : decode cX1_learnFrom 7 = .ok (.istore_n 2, 1) := by decide +kernel
theorem dX1_learnFrom_8 : decode cX1_learnFrom 8 = .ok (.aload_n 0, 1) := by decide +kernel
theorem dX1_learnFrom_9 : decode cX1_learnFrom 9 = .ok (.getfield 41, 3) := by decide +kernel
theorem dX1_learnFrom_12 : decode cX1_learnFrom 12 = .ok (.getfield 89, 3) := by decide +kernel
theorem dX1_learnFrom_15 : decode cX1_learnFrom 15 = .ok (.istore_n 3, 1) := by decide +kernel
theorem dX1_learnFrom_16 : decode cX1_learnFrom 16 = .ok (.iload_n 1, 1) := by decide +kernel
theorem dX1_learnFrom_17 : decode cX1_learnFrom 17 = .ok (.iconst 3, 1) := by decide +kernel
theorem dX1_learnFrom_18 : decode cX1_learnFrom 18 = .ok (.if_icmp .ne 54, 3) := by decide +kernel
theorem dX1_learnFrom_21 : decode cX1_learnFrom 21 = .ok (.aload_n 0, 1) := by decide +kernel
theorem dX1_learnFrom_22 : decode cX1_learnFrom 22 = .ok (.getfield 21, 3) := by decide +kernel
theorem dX1_learnFrom_25 : decode cX1_learnFrom 25 = .ok (.dup, 1) := by decide +kernel
theorem dX1_learnFrom_26 : decode cX1_learnFrom 26 = .ok (.getfield 219, 3) := by decide +kernel
theorem dX1_learnFrom_29 : decode cX1_learnFrom 29 = .ok (.iconst 1, 1) := by decide +kernel
theorem dX1_learnFrom_30 : decode cX1_learnFrom 30 = .ok (.iadd, 1) := by decide +kernel
theorem dX1_learnFrom_31 : decode cX1_learnFrom 31 = .ok (.putfield 219, 3) := by decide +kernel
theorem dX1_learnFrom_34 : decode cX1_learnFrom 34 = .ok (.iload_n 2, 1) := by decide +kernel
theorem dX1_learnFrom_35 : decode cX1_learnFrom 35 = .ok (.ifCond .ne 7, 3) := by decide +kernel
theorem dX1_learnFrom_38 : decode cX1_learnFrom 38 = .ok (.iconst 0, 1) := by decide +kernel
theorem dX1_learnFrom_39 : decode cX1_learnFrom 39 = .ok (.goto 6, 3) := by decide +kernel
theorem dX1_learnFrom_42 : decode cX1_learnFrom 42 = .ok (.iload_n 3, 1) := by decide +kernel
theorem dX1_learnFrom_43 : decode cX1_learnFrom 43 = .ok (.iload_n 2, 1) := by decide +kernel
theorem dX1_learnFrom_44 : decode cX1_learnFrom 44 = .ok (.idiv, 1) := by decide +kernel
theorem dX1_learnFrom_45 : decode cX1_learnFrom 45 = .ok (.istore 4, 2) := by decide +kernel
theorem dX1_learnFrom_47 : decode cX1_learnFrom 47 = .ok (.aload_n 0, 1) := by decide +kernel
theorem dX1_learnFrom_48 : decode cX1_learnFrom 48 = .ok (.aload_n 0, 1) := by decide +kernel
theorem dX1_learnFrom_49 : decode cX1_learnFrom 49 = .ok (.getfield 62, 3) := by decide +kernel
theorem dX1_learnFrom_52 : decode cX1_learnFrom 52 = .ok (.aload_n 0, 1) := by decide +kernel
theorem dX1_learnFrom_53 : decode cX1_learnFrom 53 = .ok (.getfield 82, 3) := by decide +kernel
theorem dX1_learnFrom_56 : decode cX1_learnFrom 56 = .ok (.iconst 1, 1) := by decide +kernel
theorem dX1_learnFrom_57 : decode cX1_learnFrom 57 = .ok (.iload 4, 2) := by decide +kernel
theorem dX1_learnFrom_59 : decode cX1_learnFrom 59 = .ok (.invokestatic 221, 3) := by decide +kernel
theorem dX1_learnFrom_62 : decode cX1_learnFrom 62 = .ok (.iadd, 1) := by decide +kernel
theorem dX1_learnFrom_63 : decode cX1_learnFrom 63 = .ok (.invokestatic 227, 3) := by decide +kernel
theorem dX1_learnFrom_66 : decode cX1_learnFrom 66 = .ok (.putfield 82, 3) := by decide +kernel
theorem dX1_learnFrom_69 : decode cX1_learnFrom 69 = .ok (.goto 53, 3) := by decide +kernel
theorem dX1_learnFrom_72 : decode cX1_learnFrom 72 = .ok (.iload_n 1, 1) := by decide +kernel
theorem dX1_learnFrom_73 : decode cX1_learnFrom 73 = .ok (.iconst 4, 1) := by decide +kernel
theorem dX1_learnFrom_74 : decode cX1_learnFrom 74 = .ok (.if_icmp .ne 48, 3) := by decide +kernel
theorem dX1_learnFrom_77 : decode cX1_learnFrom 77 = .ok (.aload_n 0, 1) := by decide +kernel
theorem dX1_learnFrom_78 : decode cX1_learnFrom 78 = .ok (.getfield 21, 3) := by decide +kernel
theorem dX1_learnFrom_81 : decode cX1_learnFrom 81 = .ok (.dup, 1) := by decide +kernel
theorem dX1_learnFrom_82 : decode cX1_learnFrom 82 = .ok (.getfield 230, 3) := by decide +kernel
theorem dX1_learnFrom_85 : decode cX1_learnFrom 85 = .ok (.iconst 1, 1) := by decide +kernel
theorem dX1_learnFrom_86 : decode cX1_learnFrom 86 = .ok (.iadd, 1) := by decide +kernel
theorem dX1_learnFrom_87 : decode cX1_learnFrom 87 = .ok (.putfield 230, 3) := by decide +kernel
theorem dX1_learnFrom_90 : decode cX1_learnFrom 90 = .ok (.iload_n 3, 1) := by decide +kernel
theorem dX1_learnFrom_91 : decode cX1_learnFrom 91 = .ok (.ifCond .ne 7, 3) := by decide +kernel
theorem dX1_learnFrom_94 : decode cX1_learnFrom 94 = .ok (.iconst 0, 1) := by decide +kernel
theorem dX1_learnFrom_95 : decode cX1_learnFrom 95 = .ok (.goto 6, 3) := by decide +kernel
theorem dX1_learnFrom_98 : decode cX1_learnFrom 98 = .ok (.iload_n 2, 1) := by decide +kernel
theorem dX1_learnFrom_99 : decode cX1_learnFrom 99 = .ok (.iload_n 3, 1) := by decide +kernel
theorem dX1_learnFrom_100 : decode cX1_learnFrom 100 = .ok (.idiv, 1) := by decide +kernel
theorem dX1_learnFrom_101 : decode cX1_learnFrom 101 = .ok (.istore 4, 2) := by decide +kernel
theorem dX1_learnFrom_103 : decode cX1_learnFrom 103 = .ok (.aload_n 0, 1) := by decide +kernel
theorem dX1_learnFrom_104 : decode cX1_learnFrom 104 = .ok (.iconst 0, 1) := by decide +kernel
theorem dX1_learnFrom_105 : decode cX1_learnFrom 105 = .ok (.aload_n 0, 1) := by decide +kernel
theorem dX1_learnFrom_106 : decode cX1_learnFrom 106 = .ok (.getfield 82, 3) := by decide +kernel
theorem dX1_learnFrom_109 : decode cX1_learnFrom 109 = .ok (.iconst 1, 1) := by decide +kernel
theorem dX1_learnFrom_110 : decode cX1_learnFrom 110 = .ok (.iload 4, 2) := by decide +kernel
theorem dX1_learnFrom_112 : decode cX1_learnFrom 112 = .ok (.invokestatic 221, 3) := by decide +kernel
theorem dX1_learnFrom_115 : decode cX1_learnFrom 115 = .ok (.isub, 1) := by decide +kernel
theorem dX1_learnFrom_116 : decode cX1_learnFrom 116 = .ok (.invokestatic 221, 3) := by decide +kernel
theorem dX1_learnFrom_119 : decode cX1_learnFrom 119 = .ok (.putfield 82, 3) := by decide +kernel
theorem dX1_learnFrom_122 : decode cX1_learnFrom 122 = .ok (.return_, 1) := by decide +kernel
theorem dX1_loseGhost_0 : decode cX1_loseGhost 0 = .ok (.aload_n 0, 1) := by decide +kernel
theorem dX1_loseGhost_1 : decode cX1_loseGhost 1 = .ok (.getfield 12, 3) := by decide +kernel
theorem dX1_loseGhost_4 : decode cX1_loseGhost 4 = .ok (.iload_n 1, 1) := by decide +kernel
theorem dX1_loseGhost_5 : decode cX1_loseGhost 5 = .ok (.invokevirtual 135, 3) := by decide +kernel
theorem dX1_loseGhost_8 : decode cX1_loseGhost 8 = .ok (.istore_n 2, 1) := by decide +kernel
theorem dX1_loseGhost_9 : decode cX1_loseGhost 9 = .ok (.iload_n 2, 1) := by decide +kernel
theorem dX1_loseGhost_10 : decode cX1_loseGhost 10 = .ok (.iconst (-1), 1) := by decide +kernel
theorem dX1_loseGhost_11 : decode cX1_loseGhost 11 = .ok (.if_icmp .eq 21, 3) := by decide +kernel
theorem dX1_loseGhost_14 : decode cX1_loseGhost 14 = .ok (.aload_n 0, 1) := by decide +kernel
theorem dX1_loseGhost_15 : decode cX1_loseGhost 15 = .ok (.iload_n 2, 1) := by decide +kernel
theorem dX1_loseGhost_16 : decode cX1_loseGhost 16 = .ok (.invokevirtual 85, 3) := by decide +kernel
theorem dX1_loseGhost_19 : decode cX1_loseGhost 19 = .ok (.iload_n 1, 1) := by decide +kernel
theorem dX1_loseGhost_20 : decode cX1_loseGhost 20 = .ok (.invokevirtual 191, 3) := by decide +kernel
theorem dX1_loseGhost_23 : decode cX1_loseGhost 23 = .ok (.aload_n 0, 1) := by decide +kernel
theorem dX1_loseGhost_24 : decode cX1_loseGhost 24 = .ok (.getfield 12, 3) := by decide +kernel
theorem dX1_loseGhost_27 : decode cX1_loseGhost 27 = .ok (.iload_n 1, 1) := by decide +kernel
theorem dX1_loseGhost_28 : decode cX1_loseGhost 28 = .ok (.iconst (-1), 1) := by decide +kernel
theorem dX1_loseGhost_29 : decode cX1_loseGhost 29 = .ok (.invokevirtual 232, 3) := by decide +kernel
theorem dX1_loseGhost_32 : decode cX1_loseGhost 32 = .ok (.return_, 1) := by decide +kernel
theorem dX1_unitToDemote_0 : decode cX1_unitToDemote 0 = .ok (.aload_n 0, 1) := by decide +kernel
theorem dX1_unitToDemote_1 : decode cX1_unitToDemote 1 = .ok (.getfield 28, 3) := by decide +kernel
theorem dX1_unitToDemote_4 : decode cX1_unitToDemote 4 = .ok (.getfield 89, 3) := by decide +kernel
theorem dX1_unitToDemote_7 : decode cX1_unitToDemote 7 = .ok (.aload_n 0, 1) := by decide +kernel
theorem dX1_unitToDemote_8 : decode cX1_unitToDemote 8 = .ok (.getfield 32, 3) := by decide +kernel
theorem dX1_unitToDemote_11 : decode cX1_unitToDemote 11 = .ok (.getfield 89, 3) := by decide +kernel
theorem dX1_unitToDemote_14 : decode cX1_unitToDemote 14 = .ok (.iadd, 1) := by decide +kernel
theorem dX1_unitToDemote_15 : decode cX1_unitToDemote 15 = .ok (.aload_n 0, 1) := by decide +kernel
theorem dX1_unitToDemote_16 : decode cX1_unitToDemote 16 = .ok (.getfield 62, 3) := by decide +kernel
theorem dX1_unitToDemote_19 : decode cX1_unitToDemote 19 = .ok (.if_icmp .ge 5, 3) := by decide +kernel
theorem dX1_unitToDemote_22 : decode cX1_unitToDemote 22 = .ok (.iconst (-1), 1) := by decide +kernel
theorem dX1_unitToDemote_23 : decode cX1_unitToDemote 23 = .ok (.ireturn, 1) := by decide +kernel
theorem dX1_unitToDemote_24 : decode cX1_unitToDemote 24 = .ok (.aload_n 0, 1) := by decide +kernel
theorem dX1_unitToDemote_25 : decode cX1_unitToDemote 25 = .ok (.iload_n 1, 1) := by decide +kernel
theorem dX1_unitToDemote_26 : decode cX1_unitToDemote 26 = .ok (.invokevirtual 235, 3) := by decide +kernel
theorem dX1_unitToDemote_29 : decode cX1_unitToDemote 29 = .ok (.ifCond .eq 10, 3) := by decide +kernel
theorem dX1_unitToDemote_32 : decode cX1_unitToDemote 32 = .ok (.aload_n 0, 1) := by decide +kernel
theorem dX1_unitToDemote_33 : decode cX1_unitToDemote 33 = .ok (.getfield 28, 3) := by decide +kernel
theorem dX1_unitToDemote_36 : decode cX1_unitToDemote 36 = .ok (.goto 7, 3) := by decide +kernel
theorem dX1_unitToDemote_39 : decode cX1_unitToDemote 39 = .ok (.aload_n 0, 1) := by decide +kernel
theorem dX1_unitToDemote_40 : decode cX1_unitToDemote 40 = .ok (.getfield 32, 3) := by decide +kernel
theorem dX1_unitToDemote_43 : decode cX1_unitToDemote 43 = .ok (.astore_n 2, 1) := by decide +kernel
theorem dX1_unitToDemote_44 : decode cX1_unitToDemote 44 = .ok (.iconst 0, 1) := by decide +kernel
theorem dX1_unitToDemote_45 : decode cX1_unitToDemote 45 = .ok (.istore_n 3, 1) := by decide +kernel
theorem dX1_unitToDemote_46 : decode cX1_unitToDemote 46 = .ok (.iload_n 3, 1) := by decide +kernel
theorem dX1_unitToDemote_47 : decode cX1_unitToDemote 47 = .ok (.iconst 4, 1) := by decide +kernel
theorem dX1_unitToDemote_48 : decode cX1_unitToDemote 48 = .ok (.if_icmp .ge 16, 3) := by decide +kernel
theorem dX1_unitToDemote_51 : decode cX1_unitToDemote 51 = .ok (.aload_n 0, 1) := by decide +kernel
theorem dX1_unitToDemote_52 : decode cX1_unitToDemote 52 = .ok (.getfield 44, 3) := by decide +kernel
theorem dX1_unitToDemote_55 : decode cX1_unitToDemote 55 = .ok (.iload_n 3, 1) := by decide +kernel
theorem dX1_unitToDemote_56 : decode cX1_unitToDemote 56 = .ok (.iconst 0, 1) := by decide +kernel
theorem dX1_unitToDemote_57 : decode cX1_unitToDemote 57 = .ok (.iastore, 1) := by decide +kernel
theorem dX1_unitToDemote_58 : decode cX1_unitToDemote 58 = .ok (.iinc 3 1, 3) := by decide +kernel
theorem dX1_unitToDemote_61 : decode cX1_unitToDemote 61 = .ok (.goto (-15), 3) := by decide +kernel
theorem dX1_unitToDemote_64 : decode cX1_unitToDemote 64 = .ok (.aload_n 0, 1) := by decide +kernel
theorem dX1_unitToDemote_65 : decode cX1_unitToDemote 65 = .ok (.aload_n 0, 1) := by decide +kernel
theorem dX1_unitToDemote_66 : decode cX1_unitToDemote 66 = .ok (.getfield 28, 3) := by decide +kernel
theorem dX1_unitToDemote_69 : decode cX1_unitToDemote 69 = .ok (.invokevirtual 239, 3) := by decide +kernel
theorem dX1_unitToDemote_72 : decode cX1_unitToDemote 72 = .ok (.aload_n 0, 1) := by decide +kernel
theorem dX1_unitToDemote_73 : decode cX1_unitToDemote 73 = .ok (.aload_n 0, 1) := by decide +kernel
theorem dX1_unitToDemote_74 : decode cX1_unitToDemote 74 = .ok (.getfield 32, 3) := by decide +kernel
theorem dX1_unitToDemote_77 : decode cX1_unitToDemote 77 = .ok (.invokevirtual 239, 3) := by decide +kernel
theorem dX1_unitToDemote_80 : decode cX1_unitToDemote 80 = .ok (.aload_n 0, 1) := by decide +kernel
theorem dX1_unitToDemote_81 : decode cX1_unitToDemote 81 = .ok (.invokevirtual 112, 3) := by decide +kernel
theorem dX1_unitToDemote_84 : decode cX1_unitToDemote 84 = .ok (.istore_n 3, 1) := by decide +kernel
theorem dX1_unitToDemote_85 : decode cX1_unitToDemote 85 = .ok (.aload_n 2, 1) := by decide +kernel
theorem dX1_unitToDemote_86 : decode cX1_unitToDemote 86 = .ok (.getfield 89, 3) := by decide +kernel
theorem dX1_unitToDemote_89 : decode cX1_unitToDemote 89 = .ok (.iconst 1, 1) := by decide +kernel
theorem dX1_unitToDemote_90 : decode cX1_unitToDemote 90 = .ok (.isub, 1) := by decide +kernel
theorem dX1_unitToDemote_91 : decode cX1_unitToDemote 91 = .ok (.istore 4, 2) := by decide +kernel
theorem dX1_unitToDemote_93 : decode cX1_unitToDemote 93 = .ok (.iload 4, 2) := by decide +kernel
theorem dX1_unitToDemote_95 : decode cX1_unitToDemote 95 = .ok (.ifCond .lt 59, 3) := by decide +kernel
theorem dX1_unitToDemote_98 : decode cX1_unitToDemote 98 = .ok (.aload_n 0, 1) := by decide +kernel
theorem dX1_unitToDemote_99 : decode cX1_unitToDemote 99 = .ok (.getfield 12, 3) := by decide +kernel
theorem dX1_unitToDemote_102 : decode cX1_unitToDemote 102 = .ok (.aload_n 2, 1) := by decide +kernel
theorem dX1_unitToDemote_103 : decode cX1_unitToDemote 103 = .ok (.iload 4, 2) := by decide +kernel
theorem dX1_unitToDemote_105 : decode cX1_unitToDemote 105 = .ok (.invokevirtual 144, 3) := by decide +kernel
theorem dX1_unitToDemote_108 : decode cX1_unitToDemote 108 = .ok (.invokevirtual 129, 3) := by decide +kernel
theorem dX1_unitToDemote_111 : decode cX1_unitToDemote 111 = .ok (.istore 5, 2) := by decide +kernel
theorem dX1_unitToDemote_113 : decode cX1_unitToDemote 113 = .ok (.iload 5, 2) := by decide +kernel
theorem dX1_unitToDemote_115 : decode cX1_unitToDemote 115 = .ok (.ifCond .lt 33, 3) := by decide +kernel
theorem dX1_unitToDemote_118 : decode cX1_unitToDemote 118 = .ok (.iload 5, 2) := by decide +kernel
theorem dX1_unitToDemote_120 : decode cX1_unitToDemote 120 = .ok (.iconst 4, 1) := by decide +kernel
theorem dX1_unitToDemote_121 : decode cX1_unitToDemote 121 = .ok (.if_icmp .ge 27, 3) := by decide +kernel
theorem dX1_unitToDemote_124 : decode cX1_unitToDemote 124 = .ok (.aload_n 0, 1) := by decide +kernel
theorem dX1_unitToDemote_125 : decode cX1_unitToDemote 125 = .ok (.iload 5, 2) := by decide +kernel
theorem dX1_unitToDemote_127 : decode cX1_unitToDemote 127 = .ok (.aload_n 0, 1) := by decide +kernel
theorem dX1_unitToDemote_128 : decode cX1_unitToDemote 128 = .ok (.getfield 44, 3) := by decide +kernel
theorem dX1_unitToDemote_131 : decode cX1_unitToDemote 131 = .ok (.iload 5, 2) := by decide +kernel
theorem dX1_unitToDemote_133 : decode cX1_unitToDemote 133 = .ok (.iaload, 1) := by decide +kernel
theorem dX1_unitToDemote_134 : decode cX1_unitToDemote 134 = .ok (.iload_n 3, 1) := by decide +kernel
theorem dX1_unitToDemote_135 : decode cX1_unitToDemote 135 = .ok (.invokevirtual 115, 3) := by decide +kernel
theorem dX1_unitToDemote_138 : decode cX1_unitToDemote 138 = .ok (.ifCond .le 10, 3) := by decide +kernel
theorem dX1_unitToDemote_141 : decode cX1_unitToDemote 141 = .ok (.aload_n 2, 1) := by decide +kernel
theorem dX1_unitToDemote_142 : decode cX1_unitToDemote 142 = .ok (.iload 4, 2) := by decide +kernel
theorem dX1_unitToDemote_144 : decode cX1_unitToDemote 144 = .ok (.invokevirtual 144, 3) := by decide +kernel
theorem dX1_unitToDemote_147 : decode cX1_unitToDemote 147 = .ok (.ireturn, 1) := by decide +kernel
theorem dX1_unitToDemote_148 : decode cX1_unitToDemote 148 = .ok (.iinc 4 (-1), 3) := by decide +kernel
theorem dX1_unitToDemote_151 : decode cX1_unitToDemote 151 = .ok (.goto (-58), 3) := by decide +kernel
theorem dX1_unitToDemote_154 : decode cX1_unitToDemote 154 = .ok (.aload_n 2, 1) := by decide +kernel
theorem dX1_unitToDemote_155 : decode cX1_unitToDemote 155 = .ok (.aload_n 2, 1) := by decide +kernel
theorem dX1_unitToDemote_156 : decode cX1_unitToDemote 156 = .ok (.getfield 89, 3) := by decide +kernel
theorem dX1_unitToDemote_159 : decode cX1_unitToDemote 159 = .ok (.iconst 1, 1) := by decide +kernel
theorem dX1_unitToDemote_160 : decode cX1_unitToDemote 160 = .ok (.isub, 1) := by decide +kernel
theorem dX1_unitToDemote_161 : decode cX1_unitToDemote 161 = .ok (.invokevirtual 144, 3) := by decide +kernel
theorem dX1_unitToDemote_164 : decode cX1_unitToDemote 164 = .ok (.ireturn, 1) := by decide +kernel
theorem dX1_isRecentTooLong_0 : decode cX1_isRecentTooLong 0 = .ok (.aload_n 0, 1) := by decide +kernel
theorem dX1_isRecentTooLong_1 : decode cX1_isRecentTooLong 1 = .ok (.getfield 28, 3) := by decide +kernel
theorem dX1_isRecentTooLong_4 : decode cX1_isRecentTooLong 4 = .ok (.getfield 89, 3) := by decide +kernel
theorem dX1_isRecentTooLong_7 : decode cX1_isRecentTooLong 7 = .ok (.ifCond .ne 5, 3) := by decide +kernel
theorem dX1_isRecentTooLong_10 : decode cX1_isRecentTooLong 10 = .ok (.iconst 0, 1) := by decide +kernel
theorem dX1_isRecentTooLong_11 : decode cX1_isRecentTooLong 11 = .ok (.ireturn, 1) := by decide +kernel
theorem dX1_isRecentTooLong_12 : decode cX1_isRecentTooLong 12 = .ok (.aload_n 0, 1) := by decide +kernel
theorem dX1_isRecentTooLong_13 : decode cX1_isRecentTooLong 13 = .ok (.getfield 28, 3) := by decide +kernel
theorem dX1_isRecentTooLong_16 : decode cX1_isRecentTooLong 16 = .ok (.getfield 89, 3) := by decide +kernel
theorem dX1_isRecentTooLong_19 : decode cX1_isRecentTooLong 19 = .ok (.aload_n 0, 1) := by decide +kernel
theorem dX1_isRecentTooLong_20 : decode cX1_isRecentTooLong 20 = .ok (.getfield 82, 3) := by decide +kernel
theorem dX1_isRecentTooLong_23 : decode cX1_isRecentTooLong 23 = .ok (.if_icmp .gt 31, 3) := by decide +kernel
theorem dX1_isRecentTooLong_26 : decode cX1_isRecentTooLong 26 = .ok (.aload_n 0, 1) := by decide +kernel
theorem dX1_isRecentTooLong_27 : decode cX1_isRecentTooLong 27 = .ok (.getfield 28, 3) := by decide +kernel
theorem dX1_isRecentTooLong_30 : decode cX1_isRecentTooLong 30 = .ok (.getfield 89, 3) := by decide +kernel
theorem dX1_isRecentTooLong_33 : decode cX1_isRecentTooLong 33 = .ok (.aload_n 0, 1) := by decide +kernel
theorem dX1_isRecentTooLong_34 : decode cX1_isRecentTooLong 34 = .ok (.getfield 82, 3) := by decide +kernel
theorem dX1_isRecentTooLong_37 : decode cX1_isRecentTooLong 37 = .ok (.if_icmp .ne 7, 3) := by decide +kernel
theorem dX1_isRecentTooLong_40 : decode cX1_isRecentTooLong 40 = .ok (.iload_n 1, 1) := by decide +kernel
theorem dX1_isRecentTooLong_41 : decode cX1_isRecentTooLong 41 = .ok (.ifCond .ne 13, 3) := by decide +kernel
theorem dX1_isRecentTooLong_44 : decode cX1_isRecentTooLong 44 = .ok (.aload_n 0, 1) := by decide +kernel
theorem dX1_isRecentTooLong_45 : decode cX1_isRecentTooLong 45 = .ok (.getfield 32, 3) := by decide +kernel
theorem dX1_isRecentTooLong_48 : decode cX1_isRecentTooLong 48 = .ok (.getfield 89, 3) := by decide +kernel
theorem dX1_isRecentTooLong_51 : decode cX1_isRecentTooLong 51 = .ok (.ifCond .ne 7, 3) := by decide +kernel
theorem dX1_isRecentTooLong_54 : decode cX1_isRecentTooLong 54 = .ok (.iconst 1, 1) := by decide +kernel
theorem dX1_isRecentTooLong_55 : decode cX1_isRecentTooLong 55 = .ok (.goto 4, 3) := by decide +kernel
theorem dX1_isRecentTooLong_58 : decode cX1_isRecentTooLong 58 = .ok (.iconst 0, 1) := by decide +kernel
theorem dX1_isRecentTooLong_59 : decode cX1_isRecentTooLong 59 = .ok (.ireturn, 1) := by decide +kernel
theorem dX1_addOwners_0 : decode cX1_addOwners 0 = .ok (.iconst 0, 1) := by decide +kernel
theorem dX1_addOwners_1 : decode cX1_addOwners 1 = .ok (.istore_n 2, 1) := by decide +kernel
theorem dX1_addOwners_2 : decode cX1_addOwners 2 = .ok (.iload_n 2, 1) := by decide +kernel
theorem dX1_addOwners_3 : decode cX1_addOwners 3 = .ok (.aload_n 1, 1) := by decide +kernel
theorem dX1_addOwners_4 : decode cX1_addOwners 4 = .ok (.getfield 89, 3) := by decide +kernel
theorem dX1_addOwners_7 : decode cX1_addOwners 7 = .ok (.if_icmp .ge 41, 3) := by decide +kernel
theorem dX1_addOwners_10 : decode cX1_addOwners 10 = .ok (.aload_n 0, 1) := by decide +kernel
theorem dX1_addOwners_11 : decode cX1_addOwners 11 = .ok (.getfield 12, 3) := by decide +kernel
theorem dX1_addOwners_14 : decode cX1_addOwners 14 = .ok (.aload_n 1, 1) := by decide +kernel
theorem dX1_addOwners_15 : decode cX1_addOwners 15 = .ok (.iload_n 2, 1) := by decide +kernel
theorem dX1_addOwners_16 : decode cX1_addOwners 16 = .ok (.invokevirtual 144, 3) := by decide +kernel
theorem dX1_addOwners_19 : decode cX1_addOwners 19 = .ok (.invokevirtual 129, 3) := by decide +kernel
theorem dX1_addOwners_22 : decode cX1_addOwners 22 = .ok (.istore_n 3, 1) := by decide +kernel
theorem dX1_addOwners_23 : decode cX1_addOwners 23 = .ok (.iload_n 3, 1) := by decide +kernel
theorem dX1_addOwners_24 : decode cX1_addOwners 24 = .ok (.ifCond .lt 18, 3) := by decide +kernel
theorem dX1_addOwners_27 : decode cX1_addOwners 27 = .ok (.iload_n 3, 1) := by decide +kernel
theorem dX1_addOwners_28 : decode cX1_addOwners 28 = .ok (.iconst 4, 1) := by decide +kernel
theorem dX1_addOwners_29 : decode cX1_addOwners 29 = .ok (.if_icmp .ge 13, 3) := by decide +kernel
theorem dX1_addOwners_32 : decode cX1_addOwners 32 = .ok (.aload_n 0, 1) := by decide +kernel
theorem dX1_addOwners_33 : decode cX1_addOwners 33 = .ok (.getfield 44, 3) := by decide +kernel
theorem dX1_addOwners_36 : decode cX1_addOwners 36 = .ok (.iload_n 3, 1) := by decide +kernel
theorem dX1_addOwners_37 : decode cX1_addOwners 37 = .ok (.dup2, 1) := by decide +kernel
theorem dX1_addOwners_38 : decode cX1_addOwners 38 = .ok (.iaload, 1) := by decide +kernel
theorem dX1_addOwners_39 : decode cX1_addOwners 39 = .ok (.iconst 1, 1) := by decide +kernel
theorem dX1_addOwners_40 : decode cX1_addOwners 40 = .ok (.iadd, 1) := by decide +kernel
theorem dX1_addOwners_41 : decode cX1_addOwners 41 = .ok (.iastore, 1) := by decide +kernel
theorem dX1_addOwners_42 : decode cX1_addOwners 42 = .ok (.iinc 2 1, 3) := by decide +kernel
theorem dX1_addOwners_45 : decode cX1_addOwners 45 = .ok (.goto (-43), 3) := by decide +kernel
theorem dX1_addOwners_48 : decode cX1_addOwners 48 = .ok (.return_, 1) := by decide +kernel
theorem dX1_demote_0 : decode cX1_demote 0 = .ok (.aload_n 0, 1) := by decide +kernel
theorem dX1_demote_1 : decode cX1_demote 1 = .ok (.getfield 12, 3) := by decide +kernel
theorem dX1_demote_4 : decode cX1_demote 4 = .ok (.iload_n 1, 1) := by decide +kernel
theorem dX1_demote_5 : decode cX1_demote 5 = .ok (.invokevirtual 120, 3) := by decide +kernel
theorem dX1_demote_8 : decode cX1_demote 8 = .ok (.ifCond .ne 7, 3) := by decide +kernel
theorem dX1_demote_11 : decode cX1_demote 11 = .ok (.iconst 1, 1) := by decide +kernel
theorem dX1_demote_12 : decode cX1_demote 12 = .ok (.goto 4, 3) := by decide +kernel
theorem dX1_demote_15 : decode cX1_demote 15 = .ok (.iconst 0, 1) := by decide +kernel
theorem dX1_demote_16 : decode cX1_demote 16 = .ok (.istore_n 2, 1) := by decide +kernel
theorem dX1_demote_17 : decode cX1_demote 17 = .ok (.iload_n 2, 1) := by decide +kernel
theorem dX1_demote_18 : decode cX1_demote 18 = .ok (.ifCond .eq 10, 3) := by decide +kernel
theorem dX1_demote_21 : decode cX1_demote 21 = .ok (.aload_n 0, 1) := by decide +kernel
theorem dX1_demote_22 : decode cX1_demote 22 = .ok (.getfield 38, 3) := by decide +kernel
theorem dX1_demote_25 : decode cX1_demote 25 = .ok (.goto 7, 3) := by decide +kernel
theorem dX1_demote_28 : decode cX1_demote 28 = .ok (.aload_n 0, 1) := by decide +kernel
theorem dX1_demote_29 : decode cX1_demote 29 = .ok (.getfield 41, 3) := by decide +kernel
theorem dX1_demote_32 : decode cX1_demote 32 = .ok (.astore_n 3, 1) := by decide +kernel
theorem dX1_demote_33 : decode cX1_demote 33 = .ok (.aload_n 0, 1) := by decide +kernel
theorem dX1_demote_34 : decode cX1_demote 34 = .ok (.iload_n 2, 1) := by decide +kernel
theorem dX1_demote_35 : decode cX1_demote 35 = .ok (.ifCond .eq 7, 3) := by decide +kernel
theorem dX1_demote_38 : decode cX1_demote 38 = .ok (.iconst 0, 1) := by decide +kernel
theorem dX1_demote_39 : decode cX1_demote 39 = .ok (.goto 4, 3) := by decide +kernel
theorem dX1_demote_42 : decode cX1_demote 42 = .ok (.iconst 1, 1) := by decide +kernel
theorem dX1_demote_43 : decode cX1_demote 43 = .ok (.invokevirtual 85, 3) := by decide +kernel
theorem dX1_demote_46 : decode cX1_demote 46 = .ok (.iload_n 1, 1) := by decide +kernel
theorem dX1_demote_47 : decode cX1_demote 47 = .ok (.invokevirtual 191, 3) := by decide +kernel
theorem dX1_demote_50 : decode cX1_demote 50 = .ok (.aload_n 3, 1) := by decide +kernel
theorem dX1_demote_51 : decode cX1_demote 51 = .ok (.getfield 89, 3) := by decide +kernel
theorem dX1_demote_54 : decode cX1_demote 54 = .ok (.aload_n 0, 1) := by decide +kernel
theorem dX1_demote_55 : decode cX1_demote 55 = .ok (.getfield 62, 3) := by decide +kernel
theorem dX1_demote_58 : decode cX1_demote 58 = .ok (.if_icmp .lt 17, 3) := by decide +kernel
theorem dX1_demote_61 : decode cX1_demote 61 = .ok (.aload_n 0, 1) := by decide +kernel
theorem dX1_demote_62 : decode cX1_demote 62 = .ok (.aload_n 3, 1) := by decide +kernel
theorem dX1_demote_63 : decode cX1_demote 63 = .ok (.aload_n 3, 1) := by decide +kernel
theorem dX1_demote_64 : decode cX1_demote 64 = .ok (.getfield 89, 3) := by decide +kernel
theorem dX1_demote_67 : decode cX1_demote 67 = .ok (.iconst 1, 1) := by decide +kernel
theorem dX1_demote_68 : decode cX1_demote 68 = .ok (.isub, 1) := by decide +kernel
theorem dX1_demote_69 : decode cX1_demote 69 = .ok (.invokevirtual 144, 3) := by decide +kernel
theorem dX1_demote_72 : decode cX1_demote 72 = .ok (.invokevirtual 209, 3) := by decide +kernel
theorem dX1_demote_75 : decode cX1_demote 75 = .ok (.aload_n 3, 1) := by decide +kernel
theorem dX1_demote_76 : decode cX1_demote 76 = .ok (.iload_n 1, 1) := by decide +kernel
theorem dX1_demote_77 : decode cX1_demote 77 = .ok (.invokevirtual 194, 3) := by decide +kernel
theorem dX1_demote_80 : decode cX1_demote 80 = .ok (.aload_n 0, 1) := by decide +kernel
theorem dX1_demote_81 : decode cX1_demote 81 = .ok (.getfield 12, 3) := by decide +kernel
theorem dX1_demote_84 : decode cX1_demote 84 = .ok (.iload_n 1, 1) := by decide +kernel
theorem dX1_demote_85 : decode cX1_demote 85 = .ok (.iload_n 2, 1) := by decide +kernel
theorem dX1_demote_86 : decode cX1_demote 86 = .ok (.ifCond .eq 7, 3) := by decide +kernel
theorem dX1_demote_89 : decode cX1_demote 89 = .ok (.iconst 3, 1) := by decide +kernel
theorem dX1_demote_90 : decode cX1_demote 90 = .ok (.goto 4, 3) := by decide +kernel
theorem dX1_demote_93 : decode cX1_demote 93 = .ok (.iconst 4, 1) := by decide +kernel
theorem dX1_demote_94 : decode cX1_demote 94 = .ok (.invokevirtual 232, 3) := by decide +kernel
theorem dX1_demote_97 : decode cX1_demote 97 = .ok (.aload_n 0, 1) := by decide +kernel
theorem dX1_demote_98 : decode cX1_demote 98 = .ok (.getfield 35, 3) := by decide +kernel
theorem dX1_demote_101 : decode cX1_demote 101 = .ok (.iload_n 1, 1) := by decide +kernel
theorem dX1_demote_102 : decode cX1_demote 102 = .ok (.invokevirtual 194, 3) := by decide +kernel
theorem dX1_demote_105 : decode cX1_demote 105 = .ok (.aload_n 0, 1) := by decide +kernel
theorem dX1_demote_106 : decode cX1_demote 106 = .ok (.getfield 12, 3) := by decide +kernel
theorem dX1_demote_109 : decode cX1_demote 109 = .ok (.iload_n 1, 1) := by decide +kernel
theorem dX1_demote_110 : decode cX1_demote 110 = .ok (.iconst 2, 1) := by decide +kernel
theorem dX1_demote_111 : decode cX1_demote 111 = .ok (.invokevirtual 197, 3) := by decide +kernel
theorem dX1_demote_114 : decode cX1_demote 114 = .ok (.aload_n 0, 1) := by decide +kernel
theorem dX1_demote_115 : decode cX1_demote 115 = .ok (.getfield 21, 3) := by decide +kernel
theorem dX1_demote_118 : decode cX1_demote 118 = .ok (.dup, 1) := by decide +kernel
theorem dX1_demote_119 : decode cX1_demote 119 = .ok (.getfield 243, 3) := by decide +kernel
theorem dX1_demote_122 : decode cX1_demote 122 = .ok (.iconst 1, 1) := by decide +kernel
theorem dX1_demote_123 : decode cX1_demote 123 = .ok (.iadd, 1) := by decide +kernel
theorem dX1_demote_124 : decode cX1_demote 124 = .ok (.putfield 243, 3) := by decide +kernel
theorem dX1_demote_127 : decode cX1_demote 127 = .ok (.aload_n 0, 1) := by decide +kernel
theorem dX1_demote_128 : decode cX1_demote 128 = .ok (.getfield 21, 3) := by decide +kernel
theorem dX1_demote_131 : decode cX1_demote 131 = .ok (.iload_n 1, 1) := by decide +kernel
theorem dX1_demote_132 : decode cX1_demote 132 = .ok (.putfield 246, 3) := by decide +kernel
theorem dX1_demote_135 : decode cX1_demote 135 = .ok (.return_, 1) := by decide +kernel
theorem dX1_unitToLeave_0 : decode cX1_unitToLeave 0 = .ok (.aload_n 0, 1) := by decide +kernel
theorem dX1_unitToLeave_1 : decode cX1_unitToLeave 1 = .ok (.getfield 35, 3) := by decide +kernel
theorem dX1_unitToLeave_4 : decode cX1_unitToLeave 4 = .ok (.getfield 89, 3) := by decide +kernel
theorem dX1_unitToLeave_7 : decode cX1_unitToLeave 7 = .ok (.aload_n 0, 1) := by decide +kernel
theorem dX1_unitToLeave_8 : decode cX1_unitToLeave 8 = .ok (.getfield 65, 3) := by decide +kernel
theorem dX1_unitToLeave_11 : decode cX1_unitToLeave 11 = .ok (.if_icmp .ge 5, 3) := by decide +kernel
theorem dX1_unitToLeave_14 : decode cX1_unitToLeave 14 = .ok (.iconst (-1), 1) := by decide +kernel
theorem dX1_unitToLeave_15 : decode cX1_unitToLeave 15 = .ok (.ireturn, 1) := by decide +kernel
theorem dX1_unitToLeave_16 : decode cX1_unitToLeave 16 = .ok (.aload_n 0, 1) := by decide +kernel
theorem dX1_unitToLeave_17 : decode cX1_unitToLeave 17 = .ok (.getfield 35, 3) := by decide +kernel
theorem dX1_unitToLeave_20 : decode cX1_unitToLeave 20 = .ok (.getfield 89, 3) := by decide +kernel
theorem dX1_unitToLeave_23 : decode cX1_unitToLeave 23 = .ok (.iconst 1, 1) := by decide +kernel
theorem dX1_unitToLeave_24 : decode cX1_unitToLeave 24 = .ok (.isub, 1) := by decide +kernel
theorem dX1_unitToLeave_25 : decode cX1_unitToLeave 25 = .ok (.istore_n 1, 1) := by decide +kernel
theorem dX1_unitToLeave_26 : decode cX1_unitToLeave 26 = .ok (.iload_n 1, 1) := by decide +kernel
theorem dX1_unitToLeave_27 : decode cX1_unitToLeave 27 = .ok (.ifCond .lt 31, 3) := by decide +kernel
theorem dX1_unitToLeave_30 : decode cX1_unitToLeave 30 = .ok (.aload_n 0, 1) := by decide +kernel
theorem dX1_unitToLeave_31 : decode cX1_unitToLeave 31 = .ok (.getfield 35, 3) := by decide +kernel
theorem dX1_unitToLeave_34 : decode cX1_unitToLeave 34 = .ok (.iload_n 1, 1) := by decide +kernel
theorem dX1_unitToLeave_35 : decode cX1_unitToLeave 35 = .ok (.invokevirtual 144, 3) := by decide +kernel
theorem dX1_unitToLeave_38 : decode cX1_unitToLeave 38 = .ok (.istore_n 2, 1) := by decide +kernel
theorem dX1_unitToLeave_39 : decode cX1_unitToLeave 39 = .ok (.aload_n 0, 1) := by decide +kernel
theorem dX1_unitToLeave_40 : decode cX1_unitToLeave 40 = .ok (.getfield 12, 3) := by decide +kernel
theorem dX1_unitToLeave_43 : decode cX1_unitToLeave 43 = .ok (.iload_n 2, 1) := by decide +kernel
theorem dX1_unitToLeave_44 : decode cX1_unitToLeave 44 = .ok (.invokevirtual 147, 3) := by decide +kernel
theorem dX1_unitToLeave_47 : decode cX1_unitToLeave 47 = .ok (.ifCond .ne 5, 3) := by decide +kernel
theorem dX1_unitToLeave_50 : decode cX1_unitToLeave 50 = .ok (.iload_n 2, 1) := by decide +kernel
theorem dX1_unitToLeave_51 : decode cX1_unitToLeave 51 = .ok (.ireturn, 1) := by decide +kernel
theorem dX1_unitToLeave_52 : decode cX1_unitToLeave 52 = .ok (.iinc 1 (-1), 3) := by decide +kernel
theorem dX1_unitToLeave_55 : decode cX1_unitToLeave 55 = .ok (.goto (-29), 3) := by decide +kernel
theorem dX1_unitToLeave_58 : decode cX1_unitToLeave 58 = .ok (.aload_n 0, 1) := by decide +kernel
theorem dX1_unitToLeave_59 : decode cX1_unitToLeave 59 = .ok (.getfield 35, 3) := by decide +kernel
theorem dX1_unitToLeave_62 : decode cX1_unitToLeave 62 = .ok (.aload_n 0, 1) := by decide +kernel
theorem dX1_unitToLeave_63 : decode cX1_unitToLeave 63 = .ok (.getfield 35, 3) := by decide +kernel
theorem dX1_unitToLeave_66 : decode cX1_unitToLeave 66 = .ok (.getfield 89, 3) := by decide +kernel
theorem dX1_unitToLeave_69 : decode cX1_unitToLeave 69 = .ok (.iconst 1, 1) := by decide +kernel
theorem dX1_unitToLeave_70 : decode cX1_unitToLeave 70 = .ok (.isub, 1) := by decide +kernel
theorem dX1_unitToLeave_71 : decode cX1_unitToLeave 71 = .ok (.invokevirtual 144, 3) := by decide +kernel
theorem dX1_unitToLeave_74 : decode cX1_unitToLeave 74 = .ok (.ireturn, 1) := by decide +kernel
theorem dX1_makeRoomInLower_0 : decode cX1_makeRoomInLower 0 = .ok (.aload_n 0, 1) := by decide +kernel
theorem dX1_makeRoomInLower_1 : decode cX1_makeRoomInLower 1 = .ok (.invokevirtual 249, 3) := by decide +kernel
theorem dX1_makeRoomInLower_4 : decode cX1_makeRoomInLower 4 = .ok (.istore_n 1, 1) := by decide +kernel
theorem dX1_makeRoomInLower_5 : decode cX1_makeRoomInLower 5 = .ok (.iload_n 1, 1) := by decide +kernel
theorem dX1_makeRoomInLower_6 : decode cX1_makeRoomInLower 6 = .ok (.iconst (-1), 1) := by decide +kernel
theorem dX1_makeRoomInLower_7 : decode cX1_makeRoomInLower 7 = .ok (.if_icmp .ne 4, 3) := by decide +kernel
theorem dX1_makeRoomInLower_10 : decode cX1_makeRoomInLower 10 = .ok (.return_, 1) := by decide +kernel
theorem dX1_makeRoomInLower_11 : decode cX1_makeRoomInLower 11 = .ok (.aload_n 0, 1) := by decide +kernel
theorem dX1_makeRoomInLower_12 : decode cX1_makeRoomInLower 12 = .ok (.getfield 12, 3) := by decide +kernel
theorem dX1_makeRoomInLower_15 : decode cX1_makeRoomInLower 15 = .ok (.iload_n 1, 1) := by decide +kernel
theorem dX1_makeRoomInLower_16 : decode cX1_makeRoomInLower 16 = .ok (.invokevirtual 147, 3) := by decide +kernel
theorem dX1_makeRoomInLower_19 : decode cX1_makeRoomInLower 19 = .ok (.ifCond .eq 11, 3) := by decide +kernel
theorem dX1_makeRoomInLower_22 : decode cX1_makeRoomInLower 22 = .ok (.aload_n 0, 1) := by decide +kernel
theorem dX1_makeRoomInLower_23 : decode cX1_makeRoomInLower 23 = .ok (.getfield 12, 3) := by decide +kernel
theorem dX1_makeRoomInLower_26 : decode cX1_makeRoomInLower 26 = .ok (.iload_n 1, 1) := by decide +kernel
theorem dX1_makeRoomInLower_27 : decode cX1_makeRoomInLower 27 = .ok (.invokevirtual 252, 3) := by decide +kernel
theorem dX1_makeRoomInLower_30 : decode cX1_makeRoomInLower 30 = .ok (.aload_n 0, 1) := by decide +kernel
theorem dX1_makeRoomInLower_31 : decode cX1_makeRoomInLower 31 = .ok (.getfield 35, 3) := by decide +kernel
theorem dX1_makeRoomInLower_34 : decode cX1_makeRoomInLower 34 = .ok (.iload_n 1, 1) := by decide +kernel
theorem dX1_makeRoomInLower_35 : decode cX1_makeRoomInLower 35 = .ok (.invokevirtual 191, 3) := by decide +kernel
theorem dX1_makeRoomInLower_38 : decode cX1_makeRoomInLower 38 = .ok (.aload_n 0, 1) := by decide +kernel
theorem dX1_makeRoomInLower_39 : decode cX1_makeRoomInLower 39 = .ok (.getfield 12, 3) := by decide +kernel
theorem dX1_makeRoomInLower_42 : decode cX1_makeRoomInLower 42 = .ok (.iload_n 1, 1) := by decide +kernel
theorem dX1_makeRoomInLower_43 : decode cX1_makeRoomInLower 43 = .ok (.invokevirtual 255, 3) := by decide +kernel
theorem dX1_makeRoomInLower_46 : decode cX1_makeRoomInLower 46 = .ok (.aload_n 0, 1) := by decide +kernel
theorem dX1_makeRoomInLower_47 : decode cX1_makeRoomInLower 47 = .ok (.getfield 21, 3) := by decide +kernel
theorem dX1_makeRoomInLower_50 : decode cX1_makeRoomInLower 50 = .ok (.dup, 1) := by decide +kernel
theorem dX1_makeRoomInLower_51 : decode cX1_makeRoomInLower 51 = .ok (.getfield 258, 3) := by decide +kernel
theorem dX1_makeRoomInLower_54 : decode cX1_makeRoomInLower 54 = .ok (.iconst 1, 1) := by decide +kernel
theorem dX1_makeRoomInLower_55 : decode cX1_makeRoomInLower 55 = .ok (.iadd, 1) := by decide +kernel
theorem dX1_makeRoomInLower_56 : decode cX1_makeRoomInLower 56 = .ok (.putfield 258, 3) := by decide +kernel
theorem dX1_makeRoomInLower_59 : decode cX1_makeRoomInLower 59 = .ok (.aload_n 0, 1) := by decide +kernel
theorem dX1_makeRoomInLower_60 : decode cX1_makeRoomInLower 60 = .ok (.getfield 21, 3) := by decide +kernel
theorem dX1_makeRoomInLower_63 : decode cX1_makeRoomInLower 63 = .ok (.iload_n 1, 1) := by decide +kernel
theorem dX1_makeRoomInLower_64 : decode cX1_makeRoomInLower 64 = .ok (.putfield 261, 3) := by decide +kernel
theorem dX1_makeRoomInLower_67 : decode cX1_makeRoomInLower 67 = .ok (.return_, 1) := by decide +kernel
theorem dX1_finishWrite_0 : decode cX1_finishWrite 0 = .ok (.aload_n 0, 1) := by decide +kernel
theorem dX1_finishWrite_1 : decode cX1_finishWrite 1 = .ok (.getfield 12, 3) := by decide +kernel
theorem dX1_finishWrite_4 : decode cX1_finishWrite 4 = .ok (.iload_n 1, 1) := by decide +kernel
theorem dX1_finishWrite_5 : decode cX1_finishWrite 5 = .ok (.iload_n 2, 1) := by decide +kernel
theorem dX1_finishWrite_6 : decode cX1_finishWrite 6 = .ok (.aload_n 0, 1) := by decide +kernel
theorem dX1_finishWrite_7 : decode cX1_finishWrite 7 = .ok (.getfield 21, 3) := by decide +kernel
theorem dX1_finishWrite_10 : decode cX1_finishWrite 10 = .ok (.getfield 151, 3) := by decide +kernel
theorem dX1_finishWrite_13 : decode cX1_finishWrite 13 = .ok (.invokevirtual 264, 3) := by decide +kernel
theorem dX1_finishWrite_16 : decode cX1_finishWrite 16 = .ok (.aload_n 0, 1) := by decide +kernel
theorem dX1_finishWrite_17 : decode cX1_finishWrite 17 = .ok (.getfield 12, 3) := by decide +kernel
theorem dX1_finishWrite_20 : decode cX1_finishWrite 20 = .ok (.invokevirtual 92, 3) := by decide +kernel
theorem dX1_finishWrite_23 : decode cX1_finishWrite 23 = .ok (.aload_n 0, 1) := by decide +kernel
theorem dX1_finishWrite_24 : decode cX1_finishWrite 24 = .ok (.getfield 59, 3) := by decide +kernel
theorem dX1_finishWrite_27 : decode cX1_finishWrite 27 = .ok (.isub, 1) := by decide +kernel
theorem dX1_finishWrite_28 : decode cX1_finishWrite 28 = .ok (.istore_n 3, 1) := by decide +kernel
theorem dX1_finishWrite_29 : decode cX1_finishWrite 29 = .ok (.iload_n 3, 1) := by decide +kernel
theorem dX1_finishWrite_30 : decode cX1_finishWrite 30 = .ok (.ifCond .le 12, 3) := by decide +kernel
theorem dX1_finishWrite_33 : decode cX1_finishWrite 33 = .ok (.aload_n 0, 1) := by decide +kernel
theorem dX1_finishWrite_34 : decode cX1_finishWrite 34 = .ok (.getfield 12, 3) := by decide +kernel
theorem dX1_finishWrite_37 : decode cX1_finishWrite 37 = .ok (.iload_n 3, 1) := by decide +kernel
theorem dX1_finishWrite_38 : decode cX1_finishWrite 38 = .ok (.invokevirtual 158, 3) := by decide +kernel
theorem dX1_finishWrite_41 : decode cX1_finishWrite 41 = .ok (.pop, 1) := by decide +kernel
theorem dX1_finishWrite_42 : decode cX1_finishWrite 42 = .ok (.return_, 1) := by decide +kernel
theorem dX1_loseBlock_0 : decode cX1_loseBlock 0 = .ok (.aload_n 0, 1) := by decide +kernel
theorem dX1_loseBlock_1 : decode cX1_loseBlock 1 = .ok (.getfield 12, 3) := by decide +kernel
theorem dX1_loseBlock_4 : decode cX1_loseBlock 4 = .ok (.iload_n 1, 1) := by decide +kernel
theorem dX1_loseBlock_5 : decode cX1_loseBlock 5 = .ok (.invokevirtual 120, 3) := by decide +kernel
theorem dX1_loseBlock_8 : decode cX1_loseBlock 8 = .ok (.istore_n 2, 1) := by decide +kernel
theorem dX1_loseBlock_9 : decode cX1_loseBlock 9 = .ok (.aload_n 0, 1) := by decide +kernel
theorem dX1_loseBlock_10 : decode cX1_loseBlock 10 = .ok (.iload_n 1, 1) := by decide +kernel
theorem dX1_loseBlock_11 : decode cX1_loseBlock 11 = .ok (.invokevirtual 209, 3) := by decide +kernel
theorem dX1_loseBlock_14 : decode cX1_loseBlock 14 = .ok (.iload_n 2, 1) := by decide +kernel
theorem dX1_loseBlock_15 : decode cX1_loseBlock 15 = .ok (.iconst (-1), 1) := by decide +kernel
theorem dX1_loseBlock_16 : decode cX1_loseBlock 16 = .ok (.if_icmp .ne 5, 3) := by decide +kernel
theorem dX1_loseBlock_19 : decode cX1_loseBlock 19 = .ok (.iconst 0, 1) := by decide +kernel
theorem dX1_loseBlock_20 : decode cX1_loseBlock 20 = .ok (.ireturn, 1) := by decide +kernel
theorem dX1_loseBlock_21 : decode cX1_loseBlock 21 = .ok (.aload_n 0, 1) := by decide +kernel
theorem dX1_loseBlock_22 : decode cX1_loseBlock 22 = .ok (.iload_n 2, 1) := by decide +kernel
theorem dX1_loseBlock_23 : decode cX1_loseBlock 23 = .ok (.invokevirtual 85, 3) := by decide +kernel
theorem dX1_loseBlock_26 : decode cX1_loseBlock 26 = .ok (.iload_n 1, 1) := by decide +kernel
theorem dX1_loseBlock_27 : decode cX1_loseBlock 27 = .ok (.invokevirtual 191, 3) := by decide +kernel
theorem dX1_loseBlock_30 : decode cX1_loseBlock 30 = .ok (.aload_n 0, 1) := by decide +kernel
theorem dX1_loseBlock_31 : decode cX1_loseBlock 31 = .ok (.getfield 12, 3) := by decide +kernel
theorem dX1_loseBlock_34 : decode cX1_loseBlock 34 = .ok (.iload_n 1, 1) := by decide +kernel
theorem dX1_loseBlock_35 : decode cX1_loseBlock 35 = .ok (.invokevirtual 255, 3) := by decide +kernel
theorem dX1_loseBlock_38 : decode cX1_loseBlock 38 = .ok (.iconst 1, 1) := by decide +kernel
theorem dX1_loseBlock_39 : decode cX1_loseBlock 39 = .ok (.ireturn, 1) := by decide +kernel
theorem dX1_copyFrom_0 : decode cX1_copyFrom 0 = .ok (.aload_n 0, 1) := by decide +kernel
theorem dX1_copyFrom_1 : decode cX1_copyFrom 1 = .ok (.getfield 12, 3) := by decide +kernel
theorem dX1_copyFrom_4 : decode cX1_copyFrom 4 = .ok (.aload_n 1, 1) := by decide +kernel
theorem dX1_copyFrom_5 : decode cX1_copyFrom 5 = .ok (.getfield 12, 3) := by decide +kernel
theorem dX1_copyFrom_8 : decode cX1_copyFrom 8 = .ok (.invokevirtual 268, 3) := by decide +kernel
theorem dX1_copyFrom_11 : decode cX1_copyFrom 11 = .ok (.aload_n 0, 1) := by decide +kernel
theorem dX1_copyFrom_12 : decode cX1_copyFrom 12 = .ok (.getfield 21, 3) := by decide +kernel
theorem dX1_copyFrom_15 : decode cX1_copyFrom 15 = .ok (.aload_n 1, 1) := by decide +kernel
theorem dX1_copyFrom_16 : decode cX1_copyFrom 16 = .ok (.getfield 21, 3) := by decide +kernel
theorem dX1_copyFrom_19 : decode cX1_copyFrom 19 = .ok (.invokevirtual 272, 3) := by decide +kernel
theorem dX1_copyFrom_22 : decode cX1_copyFrom 22 = .ok (.aload_n 0, 1) := by decide +kernel
theorem dX1_copyFrom_23 : decode cX1_copyFrom 23 = .ok (.getfield 28, 3) := by decide +kernel
theorem dX1_copyFrom_26 : decode cX1_copyFrom 26 = .ok (.aload_n 1, 1) := by decide +kernel
theorem dX1_copyFrom_27 : decode cX1_copyFrom 27 = .ok (.getfield 28, 3) := by decide +kernel
theorem dX1_copyFrom_30 : decode cX1_copyFrom 30 = .ok (.invokevirtual 275, 3) := by decide +kernel
theorem dX1_copyFrom_33 : decode cX1_copyFrom 33 = .ok (.aload_n 0, 1) := by decide +kernel
theorem dX1_copyFrom_34 : decode cX1_copyFrom 34 = .ok (.getfield 32, 3) := by decide +kernel
theorem dX1_copyFrom_37 : decode cX1_copyFrom 37 = .ok (.aload_n 1, 1) := by decide +kernel
theorem dX1_copyFrom_38 : decode cX1_copyFrom 38 = .ok (.getfield 32, 3) := by decide +kernel
theorem dX1_copyFrom_41 : decode cX1_copyFrom 41 = .ok (.invokevirtual 275, 3) := by decide +kernel
theorem dX1_copyFrom_44 : decode cX1_copyFrom 44 = .ok (.aload_n 0, 1) := by decide +kernel
theorem dX1_copyFrom_45 : decode cX1_copyFrom 45 = .ok (.getfield 35, 3) := by decide +kernel
theorem dX1_copyFrom_48 : decode cX1_copyFrom 48 = .ok (.aload_n 1, 1) := by decide +kernel
theorem dX1_copyFrom_49 : decode cX1_copyFrom 49 = .ok (.getfield 35, 3) := by decide +kernel
theorem dX1_copyFrom_52 : decode cX1_copyFrom 52 = .ok (.invokevirtual 275, 3) := by decide +kernel
theorem dX1_copyFrom_55 : decode cX1_copyFrom 55 = .ok (.aload_n 0, 1) := by decide +kernel
theorem dX1_copyFrom_56 : decode cX1_copyFrom 56 = .ok (.getfield 38, 3) := by decide +kernel
theorem dX1_copyFrom_59 : decode cX1_copyFrom 59 = .ok (.aload_n 1, 1) := by decide +kernel
theorem dX1_copyFrom_60 : decode cX1_copyFrom 60 = .ok (.getfield 38, 3) := by decide +kernel
theorem dX1_copyFrom_63 : decode cX1_copyFrom 63 = .ok (.invokevirtual 275, 3) := by decide +kernel
theorem dX1_copyFrom_66 : decode cX1_copyFrom 66 = .ok (.aload_n 0, 1) := by decide +kernel
theorem dX1_copyFrom_67 : decode cX1_copyFrom 67 = .ok (.getfield 41, 3) := by decide +kernel
theorem dX1_copyFrom_70 : decode cX1_copyFrom 70 = .ok (.aload_n 1, 1) := by decide +kernel
theorem dX1_copyFrom_71 : decode cX1_copyFrom 71 = .ok (.getfield 41, 3) := by decide +kernel
theorem dX1_copyFrom_74 : decode cX1_copyFrom 74 = .ok (.invokevirtual 275, 3) := by decide +kernel
theorem dX1_copyFrom_77 : decode cX1_copyFrom 77 = .ok (.aload_n 0, 1) := by decide +kernel
theorem dX1_copyFrom_78 : decode cX1_copyFrom 78 = .ok (.aload_n 1, 1) := by decide +kernel
theorem dX1_copyFrom_79 : decode cX1_copyFrom 79 = .ok (.getfield 68, 3) := by decide +kernel
theorem dX1_copyFrom_82 : decode cX1_copyFrom 82 = .ok (.putfield 68, 3) := by decide +kernel
theorem dX1_copyFrom_85 : decode cX1_copyFrom 85 = .ok (.aload_n 0, 1) := by decide +kernel
theorem dX1_copyFrom_86 : decode cX1_copyFrom 86 = .ok (.aload_n 1, 1) := by decide +kernel
theorem dX1_copyFrom_87 : decode cX1_copyFrom 87 = .ok (.getfield 55, 3) := by decide +kernel
theorem dX1_copyFrom_90 : decode cX1_copyFrom 90 = .ok (.putfield 55, 3) := by decide +kernel
theorem dX1_copyFrom_93 : decode cX1_copyFrom 93 = .ok (.aload_n 0, 1) := by decide +kernel
theorem dX1_copyFrom_94 : decode cX1_copyFrom 94 = .ok (.aload_n 1, 1) := by decide +kernel
theorem dX1_copyFrom_95 : decode cX1_copyFrom 95 = .ok (.getfield 59, 3) := by decide +kernel
theorem dX1_copyFrom_98 : decode cX1_copyFrom 98 = .ok (.putfield 59, 3) := by decide +kernel
theorem dX1_copyFrom_101 : decode cX1_copyFrom 101 = .ok (.aload_n 0, 1) := by decide +kernel
theorem dX1_copyFrom_102 : decode cX1_copyFrom 102 = .ok (.aload_n 1, 1) := by decide +kernel
theorem dX1_copyFrom_103 : decode cX1_copyFrom 103 = .ok (.getfield 62, 3) := by decide +kernel
theorem dX1_copyFrom_106 : decode cX1_copyFrom 106 = .ok (.putfield 62, 3) := by decide +kernel
theorem dX1_copyFrom_109 : decode cX1_copyFrom 109 = .ok (.aload_n 0, 1) := by decide +kernel
theorem dX1_copyFrom_110 : decode cX1_copyFrom 110 = .ok (.aload_n 1, 1) := by decide +kernel
theorem dX1_copyFrom_111 : decode cX1_copyFrom 111 = .ok (.getfield 65, 3) := by decide +kernel
theorem dX1_copyFrom_114 : decode cX1_copyFrom 114 = .ok (.putfield 65, 3) := by decide +kernel
theorem dX1_copyFrom_117 : decode cX1_copyFrom 117 = .ok (.aload_n 0, 1) := by decide +kernel
theorem dX1_copyFrom_118 : decode cX1_copyFrom 118 = .ok (.aload_n 1, 1) := by decide +kernel
theorem dX1_copyFrom_119 : decode cX1_copyFrom 119 = .ok (.getfield 82, 3) := by decide +kernel
theorem dX1_copyFrom_122 : decode cX1_copyFrom 122 = .ok (.putfield 82, 3) := by decide +kernel
theorem dX1_copyFrom_125 : decode cX1_copyFrom 125 = .ok (.iconst 0, 1) := by decide +kernel
theorem dX1_copyFrom_126 : decode cX1_copyFrom 126 = .ok (.istore_n 2, 1) := by decide +kernel
theorem dX1_copyFrom_127 : decode cX1_copyFrom 127 = .ok (.iload_n 2, 1) := by decide +kernel
theorem dX1_copyFrom_128 : decode cX1_copyFrom 128 = .ok (.aload_n 0, 1) := by decide +kernel
theorem dX1_copyFrom_129 : decode cX1_copyFrom 129 = .ok (.getfield 68, 3) := by decide +kernel
theorem dX1_copyFrom_132 : decode cX1_copyFrom 132 = .ok (.if_icmp .ge 37, 3) := by decide +kernel
theorem dX1_copyFrom_135 : decode cX1_copyFrom 135 = .ok (.aload_n 0, 1) := by decide +kernel
theorem dX1_copyFrom_136 : decode cX1_copyFrom 136 = .ok (.iload_n 2, 1) := by decide +kernel
theorem dX1_copyFrom_137 : decode cX1_copyFrom 137 = .ok (.invokevirtual 71, 3) := by decide +kernel
theorem dX1_copyFrom_140 : decode cX1_copyFrom 140 = .ok (.astore_n 3, 1) := by decide +kernel
theorem dX1_copyFrom_141 : decode cX1_copyFrom 141 = .ok (.aload_n 1, 1) := by decide +kernel
theorem dX1_copyFrom_142 : decode cX1_copyFrom 142 = .ok (.iload_n 2, 1) := by decide +kernel
theorem dX1_copyFrom_143 : decode cX1_copyFrom 143 = .ok (.invokevirtual 71, 3) := by decide +kernel
theorem dX1_copyFrom_146 : decode cX1_copyFrom 146 = .ok (.astore 4, 2) := by decide +kernel
theorem dX1_copyFrom_148 : decode cX1_copyFrom 148 = .ok (.aload_n 3, 1) := by decide +kernel
theorem dX1_copyFrom_149 : decode cX1_copyFrom 149 = .ok (.ifnull 14, 3) := by decide +kernel
theorem dX1_copyFrom_152 : decode cX1_copyFrom 152 = .ok (.aload 4, 2) := by decide +kernel
theorem dX1_copyFrom_154 : decode cX1_copyFrom 154 = .ok (.ifnull 9, 3) := by decide +kernel
theorem dX1_copyFrom_157 : decode cX1_copyFrom 157 = .ok (.aload_n 3, 1) := by decide +kernel
theorem dX1_copyFrom_158 : decode cX1_copyFrom 158 = .ok (.aload 4, 2) := by decide +kernel
theorem dX1_copyFrom_160 : decode cX1_copyFrom 160 = .ok (.invokevirtual 277, 3) := by decide +kernel
theorem dX1_copyFrom_163 : decode cX1_copyFrom 163 = .ok (.iinc 2 1, 3) := by decide +kernel
theorem dX1_copyFrom_166 : decode cX1_copyFrom 166 = .ok (.goto (-39), 3) := by decide +kernel
theorem dX1_copyFrom_169 : decode cX1_copyFrom 169 = .ok (.return_, 1) := by decide +kernel
theorem dX2_init_0 : decode cX2_init 0 = .ok (.aload_n 0, 1) := by decide +kernel
theorem dX2_init_1 : decode cX2_init 1 = .ok (.invokespecial 3, 3) := by decide +kernel
theorem dX2_init_4 : decode cX2_init 4 = .ok (.aload_n 0, 1) := by decide +kernel
theorem dX2_init_5 : decode cX2_init 5 = .ok (.iconst (-1), 1) := by decide +kernel
theorem dX2_init_6 : decode cX2_init 6 = .ok (.putfield 9, 3) := by decide +kernel
theorem dX2_init_9 : decode cX2_init 9 = .ok (.return_, 1) := by decide +kernel
theorem dX2_startAfresh_0 : decode cX2_startAfresh 0 = .ok (.aload_n 0, 1) := by decide +kernel
theorem dX2_startAfresh_1 : decode cX2_startAfresh 1 = .ok (.iload_n 1, 1) := by decide +kernel
theorem dX2_startAfresh_2 : decode cX2_startAfresh 2 = .ok (.putfield 15, 3) := by decide +kernel
theorem dX2_startAfresh_5 : decode cX2_startAfresh 5 = .ok (.aload_n 0, 1) := by decide +kernel
theorem dX2_startAfresh_6 : decode cX2_startAfresh 6 = .ok (.iconst 0, 1) := by decide +kernel
theorem dX2_startAfresh_7 : decode cX2_startAfresh 7 = .ok (.putfield 18, 3) := by decide +kernel
theorem dX2_startAfresh_10 : decode cX2_startAfresh 10 = .ok (.aload_n 0, 1) := by decide +kernel
theorem dX2_startAfresh_11 : decode cX2_startAfresh 11 = .ok (.iconst (-1), 1) := by decide +kernel
theorem dX2_startAfresh_12 : decode cX2_startAfresh 12 = .ok (.putfield 9, 3) := by decide +kernel
theorem dX2_startAfresh_15 : decode cX2_startAfresh 15 = .ok (.aload_n 0, 1) := by decide +kernel
theorem dX2_startAfresh_16 : decode cX2_startAfresh 16 = .ok (.iconst 0, 1) := by decide +kernel
theorem dX2_startAfresh_17 : decode cX2_startAfresh 17 = .ok (.putfield 21, 3) := by decide +kernel
theorem dX2_startAfresh_20 : decode cX2_startAfresh 20 = .ok (.aload_n 0, 1) := by decide +kernel
theorem dX2_startAfresh_21 : decode cX2_startAfresh 21 = .ok (.iconst 0, 1) := by decide +kernel
theorem dX2_startAfresh_22 : decode cX2_startAfresh 22 = .ok (.putfield 24, 3) := by decide +kernel
theorem dX2_startAfresh_25 : decode cX2_startAfresh 25 = .ok (.aload_n 0, 1) := by decide +kernel
theorem dX2_startAfresh_26 : decode cX2_startAfresh 26 = .ok (.iconst 0, 1) := by decide +kernel
theorem dX2_startAfresh_27 : decode cX2_startAfresh 27 = .ok (.putfield 27, 3) := by decide +kernel
theorem dX2_startAfresh_30 : decode cX2_startAfresh 30 = .ok (.aload_n 0, 1) := by decide +kernel
theorem dX2_startAfresh_31 : decode cX2_startAfresh 31 = .ok (.iconst 0, 1) := by decide +kernel
theorem dX2_startAfresh_32 : decode cX2_startAfresh 32 = .ok (.putfield 30, 3) := by decide +kernel
theorem dX2_startAfresh_35 : decode cX2_startAfresh 35 = .ok (.aload_n 0, 1) := by decide +kernel
theorem dX2_startAfresh_36 : decode cX2_startAfresh 36 = .ok (.iconst 0, 1) := by decide +kernel
theorem dX2_startAfresh_37 : decode cX2_startAfresh 37 = .ok (.putfield 33, 3) := by decide +kernel
theorem dX2_startAfresh_40 : decode cX2_startAfresh 40 = .ok (.return_, 1) := by decide +kernel
theorem dX2_runWith_0 : decode cX2_runWith 0 = .ok (.aload_n 0, 1) := by decide +kernel
theorem dX2_runWith_1 : decode cX2_runWith 1 = .ok (.getfield 9, 3) := by decide +kernel
theorem dX2_runWith_4 : decode cX2_runWith 4 = .ok (.iconst (-1), 1) := by decide +kernel
theorem dX2_runWith_5 : decode cX2_runWith 5 = .ok (.if_icmp .eq 22, 3) := by decide +kernel
theorem dX2_runWith_8 : decode cX2_runWith 8 = .ok (.iload_n 1, 1) := by decide +kernel
theorem dX2_runWith_9 : decode cX2_runWith 9 = .ok (.aload_n 0, 1) := by decide +kernel
theorem dX2_runWith_10 : decode cX2_runWith 10 = .ok (.getfield 9, 3) := by decide +kernel
theorem dX2_runWith_13 : decode cX2_runWith 13 = .ok (.iconst 1, 1) := by decide +kernel
theorem dX2_runWith_14 : decode cX2_runWith 14 = .ok (.iadd, 1) := by decide +kernel
theorem dX2_runWith_15 : decode cX2_runWith 15 = .ok (.if_icmp .ne 12, 3) := by decide +kernel
theorem dX2_runWith_18 : decode cX2_runWith 18 = .ok (.aload_n 0, 1) := by decide +kernel
theorem dX2_runWith_19 : decode cX2_runWith 19 = .ok (.getfield 18, 3) := by decide +kernel
theorem dX2_runWith_22 : decode cX2_runWith 22 = .ok (.iconst 1, 1) := by decide +kernel
theorem dX2_runWith_23 : decode cX2_runWith 23 = .ok (.iadd, 1) := by decide +kernel
theorem dX2_runWith_24 : decode cX2_runWith 24 = .ok (.goto 4, 3) := by decide +kernel
theorem dX2_runWith_27 : decode cX2_runWith 27 = .ok (.iconst 1, 1) := by decide +kernel
theorem dX2_runWith_28 : decode cX2_runWith 28 = .ok (.ireturn, 1) := by decide +kernel
theorem dX2_countAccess_0 : decode cX2_countAccess 0 = .ok (.iload_n 2, 1) := by decide +kernel
theorem dX2_countAccess_1 : decode cX2_countAccess 1 = .ok (.ifCond .eq 16, 3) := by decide +kernel
theorem dX2_countAccess_4 : decode cX2_countAccess 4 = .ok (.aload_n 0, 1) := by decide +kernel
theorem dX2_countAccess_5 : decode cX2_countAccess 5 = .ok (.dup, 1) := by decide +kernel
theorem dX2_countAccess_6 : decode cX2_countAccess 6 = .ok (.getfield 24, 3) := by decide +kernel
theorem dX2_countAccess_9 : decode cX2_countAccess 9 = .ok (.iconst 1, 1) := by decide +kernel
theorem dX2_countAccess_10 : decode cX2_countAccess 10 = .ok (.iadd, 1) := by decide +kernel
theorem dX2_countAccess_11 : decode cX2_countAccess 11 = .ok (.putfield 24, 3) := by decide +kernel
theorem dX2_countAccess_14 : decode cX2_countAccess 14 = .ok (.goto 13, 3) := by decide +kernel
theorem dX2_countAccess_17 : decode cX2_countAccess 17 = .ok (.aload_n 0, 1) := by decide +kernel
theorem dX2_countAccess_18 : decode cX2_countAccess 18 = .ok (.dup, 1) := by decide +kernel
theorem dX2_countAccess_19 : decode cX2_countAccess 19 = .ok (.getfield 21, 3) := by decide +kernel
theorem dX2_countAccess_22 : decode cX2_countAccess 22 = .ok (.iconst 1, 1) := by decide +kernel
theorem dX2_countAccess_23 : decode cX2_countAccess 23 = .ok (.iadd, 1) := by decide +kernel
theorem dX2_countAccess_24 : decode cX2_countAccess 24 = .ok (.putfield 21, 3) := by decide +kernel
theorem dX2_countAccess_27 : decode cX2_countAccess 27 = .ok (.iload_n 1, 1) := by decide +kernel
theorem dX2_countAccess_28 : decode cX2_countAccess 28 = .ok (.ifCond .ne 16, 3) := by decide +kernel
theorem dX2_countAccess_31 : decode cX2_countAccess 31 = .ok (.aload_n 0, 1) := by decide +kernel
theorem dX2_countAccess_32 : decode cX2_countAccess 32 = .ok (.dup, 1) := by decide +kernel
theorem dX2_countAccess_33 : decode cX2_countAccess 33 = .ok (.getfield 27, 3) := by decide +kernel
theorem dX2_countAccess_36 : decode cX2_countAccess 36 = .ok (.iconst 1, 1) := by decide +kernel
theorem dX2_countAccess_37 : decode cX2_countAccess 37 = .ok (.iadd, 1) := by decide +kernel
theorem dX2_countAccess_38 : decode cX2_countAccess 38 = .ok (.putfield 27, 3) := by decide +kernel
theorem dX2_countAccess_41 : decode cX2_countAccess 41 = .ok (.goto 31, 3) := by decide +kernel
theorem dX2_countAccess_44 : decode cX2_countAccess 44 = .ok (.iload_n 1, 1) := by decide +kernel
theorem dX2_countAccess_45 : decode cX2_countAccess 45 = .ok (.iconst 1, 1) := by decide +kernel
theorem dX2_countAccess_46 : decode cX2_countAccess 46 = .ok (.if_icmp .ne 16, 3) := by decide +kernel
theorem dX2_countAccess_49 : decode cX2_countAccess 49 = .ok (.aload_n 0, 1) := by decide +kernel
theorem dX2_countAccess_50 : decode cX2_countAccess 50 = .ok (.dup, 1) := by decide +kernel
theorem dX2_countAccess_51 : decode cX2_countAccess 51 = .ok (.getfield 30, 3) := by decide +kernel
theorem dX2_countAccess_54 : decode cX2_countAccess 54 = .ok (.iconst 1, 1) := by decide +kernel
theorem dX2_countAccess_55 : decode cX2_countAccess 55 = .ok (.iadd, 1) := by decide +kernel
theorem dX2_countAccess_56 : decode cX2_countAccess 56 = .ok (.putfield 30, 3) := by decide +kernel
theorem dX2_countAccess_59 : decode cX2_countAccess 59 = .ok (.goto 13, 3) := by decide +kernel
theorem dX2_countAccess_62 : decode cX2_countAccess 62 = .ok (.aload_n 0, 1) := by decide +kernel
theorem dX2_countAccess_63 : decode cX2_countAccess 63 = .ok (.dup, 1) := by decide +kernel
theorem dX2_countAccess_64 : decode cX2_countAccess 64 = .ok (.getfield 33, 3) := by decide +kernel
theorem dX2_countAccess_67 : decode cX2_countAccess 67 = .ok (.iconst 1, 1) := by decide +kernel
theorem dX2_countAccess_68 : decode cX2_countAccess 68 = .ok (.iadd, 1) := by decide +kernel
theorem dX2_countAccess_69 : decode cX2_countAccess 69 = .ok (.putfield 33, 3) := by decide +kernel
theorem dX2_countAccess_72 : decode cX2_countAccess 72 = .ok (.return_, 1) := by decide +kernel
theorem dX2_numberOf_0 : decode cX2_numberOf 0 = .ok (.iload_n 1, 1) := by decide +kernel
theorem dX2_numberOf_1 : decode cX2_numberOf 1 = .ok (.tableswitch 86 0 8 #[51, 86, 86, 56, 61, 66, 71, 76, 81], 51) := by decide +kernel
theorem dX2_numberOf_52 : decode cX2_numberOf 52 = .ok (.aload_n 0, 1) := by decide +kernel
theorem dX2_numberOf_53 : decode cX2_numberOf 53 = .ok (.getfield 15, 3) := by decide +kernel
theorem dX2_numberOf_56 : decode cX2_numberOf 56 = .ok (.ireturn, 1) := by decide +kernel
theorem dX2_numberOf_57 : decode cX2_numberOf 57 = .ok (.aload_n 0, 1) := by decide +kernel
theorem dX2_numberOf_58 : decode cX2_numberOf 58 = .ok (.getfield 18, 3) := by decide +kernel
theorem dX2_numberOf_61 : decode cX2_numberOf 61 = .ok (.ireturn, 1) := by decide +kernel
theorem dX2_numberOf_62 : decode cX2_numberOf 62 = .ok (.aload_n 0, 1) := by decide +kernel
theorem dX2_numberOf_63 : decode cX2_numberOf 63 = .ok (.getfield 9, 3) := by decide +kernel
theorem dX2_numberOf_66 : decode cX2_numberOf 66 = .ok (.ireturn, 1) := by decide +kernel
theorem dX2_numberOf_67 : decode cX2_numberOf 67 = .ok (.aload_n 0, 1) := by decide +kernel
theorem dX2_numberOf_68 : decode cX2_numberOf 68 = .ok (.getfield 21, 3) := by decide +kernel
theorem dX2_numberOf_71 : decode cX2_numberOf 71 = .ok (.ireturn, 1) := by decide +kernel
theorem dX2_numberOf_72 : decode cX2_numberOf 72 = .ok (.aload_n 0, 1) := by decide +kernel
theorem dX2_numberOf_73 : decode cX2_numberOf 73 = .ok (.getfield 24, 3) := by decide +kernel
theorem dX2_numberOf_76 : decode cX2_numberOf 76 = .ok (.ireturn, 1) := by decide +kernel
theorem dX2_numberOf_77 : decode cX2_numberOf 77 = .ok (.aload_n 0, 1) := by decide +kernel
theorem dX2_numberOf_78 : decode cX2_numberOf 78 = .ok (.getfield 27, 3) := by decide +kernel
theorem dX2_numberOf_81 : decode cX2_numberOf 81 = .ok (.ireturn, 1) := by decide +kernel
theorem dX2_numberOf_82 : decode cX2_numberOf 82 = .ok (.aload_n 0, 1) := by decide +kernel
theorem dX2_numberOf_83 : decode cX2_numberOf 83 = .ok (.getfield 30, 3) := by decide +kernel
theorem dX2_numberOf_86 : decode cX2_numberOf 86 = .ok (.ireturn, 1) := by decide +kernel
theorem dX2_numberOf_87 : decode cX2_numberOf 87 = .ok (.aload_n 0, 1) := by decide +kernel
theorem dX2_numberOf_88 : decode cX2_numberOf 88 = .ok (.getfield 33, 3) := by decide +kernel
theorem dX2_numberOf_91 : decode cX2_numberOf 91 = .ok (.ireturn, 1) := by decide +kernel
theorem dX2_copyFrom_0 : decode cX2_copyFrom 0 = .ok (.aload_n 0, 1) := by decide +kernel
theorem dX2_copyFrom_1 : decode cX2_copyFrom 1 = .ok (.aload_n 1, 1) := by decide +kernel
theorem dX2_copyFrom_2 : decode cX2_copyFrom 2 = .ok (.getfield 15, 3) := by decide +kernel
theorem dX2_copyFrom_5 : decode cX2_copyFrom 5 = .ok (.putfield 15, 3) := by decide +kernel
theorem dX2_copyFrom_8 : decode cX2_copyFrom 8 = .ok (.aload_n 0, 1) := by decide +kernel
theorem dX2_copyFrom_9 : decode cX2_copyFrom 9 = .ok (.aload_n 1, 1) := by decide +kernel
theorem dX2_copyFrom_10 : decode cX2_copyFrom 10 = .ok (.getfield 18, 3) := by decide +kernel
theorem dX2_copyFrom_13 : decode cX2_copyFrom 13 = .ok (.putfield 18, 3) := by decide +kernel
theorem dX2_copyFrom_16 : decode cX2_copyFrom 16 = .ok (.aload_n 0, 1) := by decide +kernel
theorem dX2_copyFrom_17 : decode cX2_copyFrom 17 = .ok (.aload_n 1, 1) := by decide +kernel
theorem dX2_copyFrom_18 : decode cX2_copyFrom 18 = .ok (.getfield 9, 3) := by decide +kernel
theorem dX2_copyFrom_21 : decode cX2_copyFrom 21 = .ok (.putfield 9, 3) := by decide +kernel
theorem dX2_copyFrom_24 : decode cX2_copyFrom 24 = .ok (.aload_n 0, 1) := by decide +kernel
theorem dX2_copyFrom_25 : decode cX2_copyFrom 25 = .ok (.aload_n 1, 1) := by decide +kernel
theorem dX2_copyFrom_26 : decode cX2_copyFrom 26 = .ok (.getfield 21, 3) := by decide +kernel
theorem dX2_copyFrom_29 : decode cX2_copyFrom 29 = .ok (.putfield 21, 3) := by decide +kernel
theorem dX2_copyFrom_32 : decode cX2_copyFrom 32 = .ok (.aload_n 0, 1) := by decide +kernel
theorem dX2_copyFrom_33 : decode cX2_copyFrom 33 = .ok (.aload_n 1, 1) := by decide +kernel
theorem dX2_copyFrom_34 : decode cX2_copyFrom 34 = .ok (.getfield 24, 3) := by decide +kernel
theorem dX2_copyFrom_37 : decode cX2_copyFrom 37 = .ok (.putfield 24, 3) := by decide +kernel
theorem dX2_copyFrom_40 : decode cX2_copyFrom 40 = .ok (.aload_n 0, 1) := by decide +kernel
theorem dX2_copyFrom_41 : decode cX2_copyFrom 41 = .ok (.aload_n 1, 1) := by decide +kernel
theorem dX2_copyFrom_42 : decode cX2_copyFrom 42 = .ok (.getfield 27, 3) := by decide +kernel
theorem dX2_copyFrom_45 : decode cX2_copyFrom 45 = .ok (.putfield 27, 3) := by decide +kernel
theorem dX2_copyFrom_48 : decode cX2_copyFrom 48 = .ok (.aload_n 0, 1) := by decide +kernel
theorem dX2_copyFrom_49 : decode cX2_copyFrom 49 = .ok (.aload_n 1, 1) := by decide +kernel
theorem dX2_copyFrom_50 : decode cX2_copyFrom 50 = .ok (.getfield 30, 3) := by decide +kernel
theorem dX2_copyFrom_53 : decode cX2_copyFrom 53 = .ok (.putfield 30, 3) := by decide +kernel
theorem dX2_copyFrom_56 : decode cX2_copyFrom 56 = .ok (.aload_n 0, 1) := by decide +kernel
theorem dX2_copyFrom_57 : decode cX2_copyFrom 57 = .ok (.aload_n 1, 1) := by decide +kernel
theorem dX2_copyFrom_58 : decode cX2_copyFrom 58 = .ok (.getfield 33, 3) := by decide +kernel
theorem dX2_copyFrom_61 : decode cX2_copyFrom 61 = .ok (.putfield 33, 3) := by decide +kernel
theorem dX2_copyFrom_64 : decode cX2_copyFrom 64 = .ok (.return_, 1) := by decide +kernel
theorem dX3_init_0 : decode cX3_init 0 = .ok (.aload_n 0, 1) := by decide +kernel
theorem dX3_init_1 : decode cX3_init 1 = .ok (.invokespecial 3, 3) := by decide +kernel
theorem dX3_init_4 : decode cX3_init 4 = .ok (.aload_n 0, 1) := by decide +kernel
theorem dX3_init_5 : decode cX3_init 5 = .ok (.bipush 8, 2) := by decide +kernel
theorem dX3_init_7 : decode cX3_init 7 = .ok (.anewarray 9, 3) := by decide +kernel
theorem dX3_init_10 : decode cX3_init 10 = .ok (.putfield 11, 3) := by decide +kernel
theorem dX3_init_13 : decode cX3_init 13 = .ok (.iconst 0, 1) := by decide +kernel
theorem dX3_init_14 : decode cX3_init 14 = .ok (.istore_n 1, 1) := by decide +kernel
theorem dX3_init_15 : decode cX3_init 15 = .ok (.iload_n 1, 1) := by decide +kernel
theorem dX3_init_16 : decode cX3_init 16 = .ok (.bipush 8, 2) := by decide +kernel
theorem dX3_init_18 : decode cX3_init 18 = .ok (.if_icmp .ge 22, 3) := by decide +kernel
theorem dX3_init_21 : decode cX3_init 21 = .ok (.aload_n 0, 1) := by decide +kernel
theorem dX3_init_22 : decode cX3_init 22 = .ok (.getfield 11, 3) := by decide +kernel
theorem dX3_init_25 : decode cX3_init 25 = .ok (.iload_n 1, 1) := by decide +kernel
theorem dX3_init_26 : decode cX3_init 26 = .ok (.new 9, 3) := by decide +kernel
theorem dX3_init_29 : decode cX3_init 29 = .ok (.dup, 1) := by decide +kernel
theorem dX3_init_30 : decode cX3_init 30 = .ok (.invokespecial 17, 3) := by decide +kernel
theorem dX3_init_33 : decode cX3_init 33 = .ok (.aastore, 1) := by decide +kernel
theorem dX3_init_34 : decode cX3_init 34 = .ok (.iinc 1 1, 3) := by decide +kernel
theorem dX3_init_37 : decode cX3_init 37 = .ok (.goto (-22), 3) := by decide +kernel
theorem dX3_init_40 : decode cX3_init 40 = .ok (.return_, 1) := by decide +kernel
theorem dX3_keep_0 : decode cX3_keep 0 = .ok (.aload_n 0, 1) := by decide +kernel
theorem dX3_keep_1 : decode cX3_keep 1 = .ok (.getfield 18, 3) := by decide +kernel
theorem dX3_keep_4 : decode cX3_keep 4 = .ok (.ifCond .lt 24, 3) := by decide +kernel
theorem dX3_keep_7 : decode cX3_keep 7 = .ok (.aload_n 0, 1) := by decide +kernel
theorem dX3_keep_8 : decode cX3_keep 8 = .ok (.getfield 18, 3) := by decide +kernel
theorem dX3_keep_11 : decode cX3_keep 11 = .ok (.bipush 8, 2) := by decide +kernel
theorem dX3_keep_13 : decode cX3_keep 13 = .ok (.if_icmp .ge 15, 3) := by decide +kernel
theorem dX3_keep_16 : decode cX3_keep 16 = .ok (.aload_n 0, 1) := by decide +kernel
theorem dX3_keep_17 : decode cX3_keep 17 = .ok (.getfield 11, 3) := by decide +kernel
theorem dX3_keep_20 : decode cX3_keep 20 = .ok (.aload_n 0, 1) := by decide +kernel
theorem dX3_keep_21 : decode cX3_keep 21 = .ok (.getfield 18, 3) := by decide +kernel
theorem dX3_keep_24 : decode cX3_keep 24 = .ok (.aaload, 1) := by decide +kernel
theorem dX3_keep_25 : decode cX3_keep 25 = .ok (.goto 4, 3) := by decide +kernel
theorem dX3_keep_28 : decode cX3_keep 28 = .ok (.aconst_null, 1) := by decide +kernel
theorem dX3_keep_29 : decode cX3_keep 29 = .ok (.astore_n 2, 1) := by decide +kernel
theorem dX3_keep_30 : decode cX3_keep 30 = .ok (.aload_n 2, 1) := by decide +kernel
theorem dX3_keep_31 : decode cX3_keep 31 = .ok (.ifnonnull 4, 3) := by decide +kernel
theorem dX3_keep_34 : decode cX3_keep 34 = .ok (.return_, 1) := by decide +kernel
theorem dX3_keep_35 : decode cX3_keep 35 = .ok (.aload_n 2, 1) := by decide +kernel
theorem dX3_keep_36 : decode cX3_keep 36 = .ok (.aload_n 1, 1) := by decide +kernel
theorem dX3_keep_37 : decode cX3_keep 37 = .ok (.invokevirtual 22, 3) := by decide +kernel
theorem dX3_keep_40 : decode cX3_keep 40 = .ok (.aload_n 0, 1) := by decide +kernel
theorem dX3_keep_41 : decode cX3_keep 41 = .ok (.aload_n 0, 1) := by decide +kernel
theorem dX3_keep_42 : decode cX3_keep 42 = .ok (.getfield 18, 3) := by decide +kernel
theorem dX3_keep_45 : decode cX3_keep 45 = .ok (.iconst 1, 1) := by decide +kernel
theorem dX3_keep_46 : decode cX3_keep 46 = .ok (.iadd, 1) := by decide +kernel
theorem dX3_keep_47 : decode cX3_keep 47 = .ok (.bipush 8, 2) := by decide +kernel
theorem dX3_keep_49 : decode cX3_keep 49 = .ok (.irem, 1) := by decide +kernel
theorem dX3_keep_50 : decode cX3_keep 50 = .ok (.putfield 18, 3) := by decide +kernel
theorem dX3_keep_53 : decode cX3_keep 53 = .ok (.aload_n 0, 1) := by decide +kernel
theorem dX3_keep_54 : decode cX3_keep 54 = .ok (.bipush 8, 2) := by decide +kernel
theorem dX3_keep_56 : decode cX3_keep 56 = .ok (.aload_n 0, 1) := by decide +kernel
theorem dX3_keep_57 : decode cX3_keep 57 = .ok (.getfield 26, 3) := by decide +kernel
theorem dX3_keep_60 : decode cX3_keep 60 = .ok (.iconst 1, 1) := by decide +kernel
theorem dX3_keep_61 : decode cX3_keep 61 = .ok (.iadd, 1) := by decide +kernel
theorem dX3_keep_62 : decode cX3_keep 62 = .ok (.invokestatic 29, 3) := by decide +kernel
theorem dX3_keep_65 : decode cX3_keep 65 = .ok (.putfield 26, 3) := by decide +kernel
theorem dX3_keep_68 : decode cX3_keep 68 = .ok (.return_, 1) := by decide +kernel
theorem dX3_takeBack_0 : decode cX3_takeBack 0 = .ok (.aload_n 0, 1) := by decide +kernel
theorem dX3_takeBack_1 : decode cX3_takeBack 1 = .ok (.getfield 18, 3) := by decide +kernel
theorem dX3_takeBack_4 : decode cX3_takeBack 4 = .ok (.ifCond .ne 8, 3) := by decide +kernel
theorem dX3_takeBack_7 : decode cX3_takeBack 7 = .ok (.bipush 7, 2) := by decide +kernel
theorem dX3_takeBack_9 : decode cX3_takeBack 9 = .ok (.goto 9, 3) := by decide +kernel
theorem dX3_takeBack_12 : decode cX3_takeBack 12 = .ok (.aload_n 0, 1) := by decide +kernel
theorem dX3_takeBack_13 : decode cX3_takeBack 13 = .ok (.getfield 18, 3) := by decide +kernel
theorem dX3_takeBack_16 : decode cX3_takeBack 16 = .ok (.iconst 1, 1) := by decide +kernel
theorem dX3_takeBack_17 : decode cX3_takeBack 17 = .ok (.isub, 1) := by decide +kernel
theorem dX3_takeBack_18 : decode cX3_takeBack 18 = .ok (.istore_n 2, 1) := by decide +kernel
theorem dX3_takeBack_19 : decode cX3_takeBack 19 = .ok (.iload_n 2, 1) := by decide +kernel
theorem dX3_takeBack_20 : decode cX3_takeBack 20 = .ok (.ifCond .lt 18, 3) := by decide +kernel
theorem dX3_takeBack_23 : decode cX3_takeBack 23 = .ok (.iload_n 2, 1) := by decide +kernel
theorem dX3_takeBack_24 : decode cX3_takeBack 24 = .ok (.bipush 8, 2) := by decide +kernel
theorem dX3_takeBack_26 : decode cX3_takeBack 26 = .ok (.if_icmp .ge 12, 3) := by decide +kernel
theorem dX3_takeBack_29 : decode cX3_takeBack 29 = .ok (.aload_n 0, 1) := by decide +kernel
theorem dX3_takeBack_30 : decode cX3_takeBack 30 = .ok (.getfield 11, 3) := by decide +kernel
theorem dX3_takeBack_33 : decode cX3_takeBack 33 = .ok (.iload_n 2, 1) := by decide +kernel
theorem dX3_takeBack_34 : decode cX3_takeBack 34 = .ok (.aaload, 1) := by decide +kernel
theorem dX3_takeBack_35 : decode cX3_takeBack 35 = .ok (.goto 4, 3) := by decide +kernel
theorem dX3_takeBack_38 : decode cX3_takeBack 38 = .ok (.aconst_null, 1) := by decide +kernel
theorem dX3_takeBack_39 : decode cX3_takeBack 39 = .ok (.astore_n 3, 1) := by decide +kernel
theorem dX3_takeBack_40 : decode cX3_takeBack 40 = .ok (.aload_n 0, 1) := by decide +kernel
theorem dX3_takeBack_41 : decode cX3_takeBack 41 = .ok (.getfield 26, 3) := by decide +kernel
theorem dX3_takeBack_44 : decode cX3_takeBack 44 = .ok (.ifCond .eq 7, 3) := by decide +kernel
theorem dX3_takeBack_47 : decode cX3_takeBack 47 = .ok (.aload_n 3, 1) := by decide +kernel
theorem dX3_takeBack_48 : decode cX3_takeBack 48 = .ok (.ifnonnull 5, 3) := by decide +kernel
theorem dX3_takeBack_51 : decode cX3_takeBack 51 = .ok (.iconst 0, 1) := by decide +kernel
theorem dX3_takeBack_52 : decode cX3_takeBack 52 = .ok (.ireturn, 1) := by decide +kernel
theorem dX3_takeBack_53 : decode cX3_takeBack 53 = .ok (.aload_n 1, 1) := by decide +kernel
theorem dX3_takeBack_54 : decode cX3_takeBack 54 = .ok (.aload_n 3, 1) := by decide +kernel
theorem dX3_takeBack_55 : decode cX3_takeBack 55 = .ok (.invokevirtual 22, 3) := by decide +kernel
theorem dX3_takeBack_58 : decode cX3_takeBack 58 = .ok (.aload_n 0, 1) := by decide +kernel
theorem dX3_takeBack_59 : decode cX3_takeBack 59 = .ok (.iload_n 2, 1) := by decide +kernel
theorem dX3_takeBack_60 : decode cX3_takeBack 60 = .ok (.putfield 18, 3) := by decide +kernel
theorem dX3_takeBack_63 : decode cX3_takeBack 63 = .ok (.aload_n 0, 1) := by decide +kernel
theorem dX3_takeBack_64 : decode cX3_takeBack 64 = .ok (.dup, 1) := by decide +kernel
theorem dX3_takeBack_65 : decode cX3_takeBack 65 = .ok (.getfield 26, 3) := by decide +kernel
theorem dX3_takeBack_68 : decode cX3_takeBack 68 = .ok (.iconst 1, 1) := by decide +kernel
theorem dX3_takeBack_69 : decode cX3_takeBack 69 = .ok (.isub, 1) := by decide +kernel
theorem dX3_takeBack_70 : decode cX3_takeBack 70 = .ok (.putfield 26, 3) := by decide +kernel
theorem dX3_takeBack_73 : decode cX3_takeBack 73 = .ok (.iconst 1, 1) := by decide +kernel
theorem dX3_takeBack_74 : decode cX3_takeBack 74 = .ok (.ireturn, 1) := by decide +kernel
theorem dX4_init_0 : decode cX4_init 0 = .ok (.aload_n 0, 1) := by decide +kernel
theorem dX4_init_1 : decode cX4_init 1 = .ok (.invokespecial 3, 3) := by decide +kernel
theorem dX4_init_4 : decode cX4_init 4 = .ok (.aload_n 0, 1) := by decide +kernel
theorem dX4_init_5 : decode cX4_init 5 = .ok (.bipush 120, 2) := by decide +kernel
theorem dX4_init_7 : decode cX4_init 7 = .ok (.newarray .int, 2) := by decide +kernel
theorem dX4_init_9 : decode cX4_init 9 = .ok (.putfield 11, 3) := by decide +kernel
theorem dX4_init_12 : decode cX4_init 12 = .ok (.return_, 1) := by decide +kernel
theorem dX4_byteAt_0 : decode cX4_byteAt 0 = .ok (.iload_n 1, 1) := by decide +kernel
theorem dX4_byteAt_1 : decode cX4_byteAt 1 = .ok (.ifCond .lt 26, 3) := by decide +kernel
theorem dX4_byteAt_4 : decode cX4_byteAt 4 = .ok (.iload_n 1, 1) := by decide +kernel
theorem dX4_byteAt_5 : decode cX4_byteAt 5 = .ok (.aload_n 0, 1) := by decide +kernel
theorem dX4_byteAt_6 : decode cX4_byteAt 6 = .ok (.getfield 15, 3) := by decide +kernel
theorem dX4_byteAt_9 : decode cX4_byteAt 9 = .ok (.if_icmp .ge 18, 3) := by decide +kernel
theorem dX4_byteAt_12 : decode cX4_byteAt 12 = .ok (.iload_n 1, 1) := by decide +kernel
theorem dX4_byteAt_13 : decode cX4_byteAt 13 = .ok (.bipush 120, 2) := by decide +kernel
theorem dX4_byteAt_15 : decode cX4_byteAt 15 = .ok (.if_icmp .ge 12, 3) := by decide +kernel
theorem dX4_byteAt_18 : decode cX4_byteAt 18 = .ok (.aload_n 0, 1) := by decide +kernel
theorem dX4_byteAt_19 : decode cX4_byteAt 19 = .ok (.getfield 11, 3) := by decide +kernel
theorem dX4_byteAt_22 : decode cX4_byteAt 22 = .ok (.iload_n 1, 1) := by decide +kernel
theorem dX4_byteAt_23 : decode cX4_byteAt 23 = .ok (.iaload, 1) := by decide +kernel
theorem dX4_byteAt_24 : decode cX4_byteAt 24 = .ok (.goto 4, 3) := by decide +kernel
theorem dX4_byteAt_27 : decode cX4_byteAt 27 = .ok (.iconst (-1), 1) := by decide +kernel
theorem dX4_byteAt_28 : decode cX4_byteAt 28 = .ok (.ireturn, 1) := by decide +kernel
theorem dX4_addByte_0 : decode cX4_addByte 0 = .ok (.aload_n 0, 1) := by decide +kernel
theorem dX4_addByte_1 : decode cX4_addByte 1 = .ok (.getfield 15, 3) := by decide +kernel
theorem dX4_addByte_4 : decode cX4_addByte 4 = .ok (.ifCond .lt 32, 3) := by decide +kernel
theorem dX4_addByte_7 : decode cX4_addByte 7 = .ok (.aload_n 0, 1) := by decide +kernel
theorem dX4_addByte_8 : decode cX4_addByte 8 = .ok (.getfield 15, 3) := by decide +kernel
theorem dX4_addByte_11 : decode cX4_addByte 11 = .ok (.bipush 120, 2) := by decide +kernel
theorem dX4_addByte_13 : decode cX4_addByte 13 = .ok (.if_icmp .ge 23, 3) := by decide +kernel
theorem dX4_addByte_16 : decode cX4_addByte 16 = .ok (.aload_n 0, 1) := by decide +kernel
theorem dX4_addByte_17 : decode cX4_addByte 17 = .ok (.getfield 11, 3) := by decide +kernel
theorem dX4_addByte_20 : decode cX4_addByte 20 = .ok (.aload_n 0, 1) := by decide +kernel
theorem dX4_addByte_21 : decode cX4_addByte 21 = .ok (.getfield 15, 3) := by decide +kernel
theorem dX4_addByte_24 : decode cX4_addByte 24 = .ok (.iload_n 1, 1) := by decide +kernel
theorem dX4_addByte_25 : decode cX4_addByte 25 = .ok (.iastore, 1) := by decide +kernel
theorem dX4_addByte_26 : decode cX4_addByte 26 = .ok (.aload_n 0, 1) := by decide +kernel
theorem dX4_addByte_27 : decode cX4_addByte 27 = .ok (.dup, 1) := by decide +kernel
theorem dX4_addByte_28 : decode cX4_addByte 28 = .ok (.getfield 15, 3) := by decide +kernel
theorem dX4_addByte_31 : decode cX4_addByte 31 = .ok (.iconst 1, 1) := by decide +kernel
theorem dX4_addByte_32 : decode cX4_addByte 32 = .ok (.iadd, 1) := by decide +kernel
theorem dX4_addByte_33 : decode cX4_addByte 33 = .ok (.putfield 15, 3) := by decide +kernel
theorem dX4_addByte_36 : decode cX4_addByte 36 = .ok (.return_, 1) := by decide +kernel
theorem dX4_addNumber_0 : decode cX4_addNumber 0 = .ok (.iload_n 1, 1) := by decide +kernel
theorem dX4_addNumber_1 : decode cX4_addNumber 1 = .ok (.bipush 100, 2) := by decide +kernel
theorem dX4_addNumber_3 : decode cX4_addNumber 3 = .ok (.if_icmp .lt 17, 3) := by decide +kernel
theorem dX4_addNumber_6 : decode cX4_addNumber 6 = .ok (.aload_n 0, 1) := by decide +kernel
theorem dX4_addNumber_7 : decode cX4_addNumber 7 = .ok (.bipush 48, 2) := by decide +kernel
theorem dX4_addNumber_9 : decode cX4_addNumber 9 = .ok (.iload_n 1, 1) := by decide +kernel
theorem dX4_addNumber_10 : decode cX4_addNumber 10 = .ok (.bipush 100, 2) := by decide +kernel
theorem dX4_addNumber_12 : decode cX4_addNumber 12 = .ok (.idiv, 1) := by decide +kernel
theorem dX4_addNumber_13 : decode cX4_addNumber 13 = .ok (.bipush 10, 2) := by decide +kernel
theorem dX4_addNumber_15 : decode cX4_addNumber 15 = .ok (.irem, 1) := by decide +kernel
theorem dX4_addNumber_16 : decode cX4_addNumber 16 = .ok (.iadd, 1) := by decide +kernel
theorem dX4_addNumber_17 : decode cX4_addNumber 17 = .ok (.invokevirtual 19, 3) := by decide +kernel
theorem dX4_addNumber_20 : decode cX4_addNumber 20 = .ok (.iload_n 1, 1) := by decide +kernel
theorem dX4_addNumber_21 : decode cX4_addNumber 21 = .ok (.bipush 10, 2) := by decide +kernel
theorem dX4_addNumber_23 : decode cX4_addNumber 23 = .ok (.if_icmp .lt 17, 3) := by decide +kernel
theorem dX4_addNumber_26 : decode cX4_addNumber 26 = .ok (.aload_n 0, 1) := by decide +kernel
theorem dX4_addNumber_27 : decode cX4_addNumber 27 = .ok (.bipush 48, 2) := by decide +kernel
theorem dX4_addNumber_29 : decode cX4_addNumber 29 = .ok (.iload_n 1, 1) := by decide +kernel
theorem dX4_addNumber_30 : decode cX4_addNumber 30 = .ok (.bipush 10, 2) := by decide +kernel
theorem dX4_addNumber_32 : decode cX4_addNumber 32 = .ok (.idiv, 1) := by decide +kernel
theorem dX4_addNumber_33 : decode cX4_addNumber 33 = .ok (.bipush 10, 2) := by decide +kernel
theorem dX4_addNumber_35 : decode cX4_addNumber 35 = .ok (.irem, 1) := by decide +kernel
theorem dX4_addNumber_36 : decode cX4_addNumber 36 = .ok (.iadd, 1) := by decide +kernel
theorem dX4_addNumber_37 : decode cX4_addNumber 37 = .ok (.invokevirtual 19, 3) := by decide +kernel
theorem dX4_addNumber_40 : decode cX4_addNumber 40 = .ok (.aload_n 0, 1) := by decide +kernel
theorem dX4_addNumber_41 : decode cX4_addNumber 41 = .ok (.bipush 48, 2) := by decide +kernel
theorem dX4_addNumber_43 : decode cX4_addNumber 43 = .ok (.iload_n 1, 1) := by decide +kernel
theorem dX4_addNumber_44 : decode cX4_addNumber 44 = .ok (.bipush 10, 2) := by decide +kernel
theorem dX4_addNumber_46 : decode cX4_addNumber 46 = .ok (.irem, 1) := by decide +kernel
theorem dX4_addNumber_47 : decode cX4_addNumber 47 = .ok (.iadd, 1) := by decide +kernel
theorem dX4_addNumber_48 : decode cX4_addNumber 48 = .ok (.invokevirtual 19, 3) := by decide +kernel
theorem dX4_addNumber_51 : decode cX4_addNumber 51 = .ok (.return_, 1) := by decide +kernel
theorem dX5_init_0 : decode cX5_init 0 = .ok (.aload_n 0, 1) := by decide +kernel
theorem dX5_init_1 : decode cX5_init 1 = .ok (.invokespecial 3, 3) := by decide +kernel
theorem dX5_init_4 : decode cX5_init 4 = .ok (.aload_n 0, 1) := by decide +kernel
theorem dX5_init_5 : decode cX5_init 5 = .ok (.bipush 24, 2) := by decide +kernel
theorem dX5_init_7 : decode cX5_init 7 = .ok (.newarray .int, 2) := by decide +kernel
theorem dX5_init_9 : decode cX5_init 9 = .ok (.putfield 9, 3) := by decide +kernel
theorem dX5_init_12 : decode cX5_init 12 = .ok (.return_, 1) := by decide +kernel
theorem dX5_blockAt_0 : decode cX5_blockAt 0 = .ok (.iload_n 1, 1) := by decide +kernel
theorem dX5_blockAt_1 : decode cX5_blockAt 1 = .ok (.ifCond .lt 29, 3) := by decide +kernel
theorem dX5_blockAt_4 : decode cX5_blockAt 4 = .ok (.iload_n 1, 1) := by decide +kernel
theorem dX5_blockAt_5 : decode cX5_blockAt 5 = .ok (.aload_n 0, 1) := by decide +kernel
theorem dX5_blockAt_6 : decode cX5_blockAt 6 = .ok (.getfield 15, 3) := by decide +kernel
theorem dX5_blockAt_9 : decode cX5_blockAt 9 = .ok (.if_icmp .ge 21, 3) := by decide +kernel
theorem dX5_blockAt_12 : decode cX5_blockAt 12 = .ok (.iload_n 1, 1) := by decide +kernel
theorem dX5_blockAt_13 : decode cX5_blockAt 13 = .ok (.aload_n 0, 1) := by decide +kernel
theorem dX5_blockAt_14 : decode cX5_blockAt 14 = .ok (.getfield 9, 3) := by decide +kernel
theorem dX5_blockAt_17 : decode cX5_blockAt 17 = .ok (.arraylength, 1) := by decide +kernel
theorem dX5_blockAt_18 : decode cX5_blockAt 18 = .ok (.if_icmp .ge 12, 3) := by decide +kernel
theorem dX5_blockAt_21 : decode cX5_blockAt 21 = .ok (.aload_n 0, 1) := by decide +kernel
theorem dX5_blockAt_22 : decode cX5_blockAt 22 = .ok (.getfield 9, 3) := by decide +kernel
theorem dX5_blockAt_25 : decode cX5_blockAt 25 = .ok (.iload_n 1, 1) := by decide +kernel
theorem dX5_blockAt_26 : decode cX5_blockAt 26 = .ok (.iaload, 1) := by decide +kernel
theorem dX5_blockAt_27 : decode cX5_blockAt 27 = .ok (.goto 4, 3) := by decide +kernel
theorem dX5_blockAt_30 : decode cX5_blockAt 30 = .ok (.iconst (-1), 1) := by decide +kernel
theorem dX5_blockAt_31 : decode cX5_blockAt 31 = .ok (.ireturn, 1) := by decide +kernel
theorem dX5_placeOf_0 : decode cX5_placeOf 0 = .ok (.iconst 0, 1) := by decide +kernel
theorem dX5_placeOf_1 : decode cX5_placeOf 1 = .ok (.istore_n 2, 1) := by decide +kernel
theorem dX5_placeOf_2 : decode cX5_placeOf 2 = .ok (.iload_n 2, 1) := by decide +kernel
theorem dX5_placeOf_3 : decode cX5_placeOf 3 = .ok (.aload_n 0, 1) := by decide +kernel
theorem dX5_placeOf_4 : decode cX5_placeOf 4 = .ok (.getfield 15, 3) := by decide +kernel
theorem dX5_placeOf_7 : decode cX5_placeOf 7 = .ok (.if_icmp .ge 30, 3) := by decide +kernel
theorem dX5_placeOf_10 : decode cX5_placeOf 10 = .ok (.iload_n 2, 1) := by decide +kernel
theorem dX5_placeOf_11 : decode cX5_placeOf 11 = .ok (.aload_n 0, 1) := by decide +kernel
theorem dX5_placeOf_12 : decode cX5_placeOf 12 = .ok (.getfield 9, 3) := by decide +kernel
theorem dX5_placeOf_15 : decode cX5_placeOf 15 = .ok (.arraylength, 1) := by decide +kernel
theorem dX5_placeOf_16 : decode cX5_placeOf 16 = .ok (.if_icmp .ge 21, 3) := by decide +kernel
theorem dX5_placeOf_19 : decode cX5_placeOf 19 = .ok (.aload_n 0, 1) := by decide +kernel
theorem dX5_placeOf_20 : decode cX5_placeOf 20 = .ok (.getfield 9, 3) := by decide +kernel
theorem dX5_placeOf_23 : decode cX5_placeOf 23 = .ok (.iload_n 2, 1) := by decide +kernel
theorem dX5_placeOf_24 : decode cX5_placeOf 24 = .ok (.iaload, 1) := by decide +kernel
theorem dX5_placeOf_25 : decode cX5_placeOf 25 = .ok (.iload_n 1, 1) := by decide +kernel
theorem dX5_placeOf_26 : decode cX5_placeOf 26 = .ok (.if_icmp .ne 5, 3) := by decide +kernel
theorem dX5_placeOf_29 : decode cX5_placeOf 29 = .ok (.iload_n 2, 1) := by decide +kernel
theorem dX5_placeOf_30 : decode cX5_placeOf 30 = .ok (.ireturn, 1) := by decide +kernel
theorem dX5_placeOf_31 : decode cX5_placeOf 31 = .ok (.iinc 2 1, 3) := by decide +kernel
theorem dX5_placeOf_34 : decode cX5_placeOf 34 = .ok (.goto (-32), 3) := by decide +kernel
theorem dX5_placeOf_37 : decode cX5_placeOf 37 = .ok (.iconst (-1), 1) := by decide +kernel
theorem dX5_placeOf_38 : decode cX5_placeOf 38 = .ok (.ireturn, 1) := by decide +kernel
theorem dX5_howManyIn_0 : decode cX5_howManyIn 0 = .ok (.iconst 0, 1) := by decide +kernel
theorem dX5_howManyIn_1 : decode cX5_howManyIn 1 = .ok (.istore_n 3, 1) := by decide +kernel
theorem dX5_howManyIn_2 : decode cX5_howManyIn 2 = .ok (.iconst 0, 1) := by decide +kernel
theorem dX5_howManyIn_3 : decode cX5_howManyIn 3 = .ok (.istore 4, 2) := by decide +kernel
theorem dX5_howManyIn_5 : decode cX5_howManyIn 5 = .ok (.iload 4, 2) := by decide +kernel
theorem dX5_howManyIn_7 : decode cX5_howManyIn 7 = .ok (.aload_n 0, 1) := by decide +kernel
theorem dX5_howManyIn_8 : decode cX5_howManyIn 8 = .ok (.getfield 15, 3) := by decide +kernel
theorem dX5_howManyIn_11 : decode cX5_howManyIn 11 = .ok (.if_icmp .ge 44, 3) := by decide +kernel
theorem dX5_howManyIn_14 : decode cX5_howManyIn 14 = .ok (.iload 4, 2) := by decide +kernel
theorem dX5_howManyIn_16 : decode cX5_howManyIn 16 = .ok (.aload_n 0, 1) := by decide +kernel
theorem dX5_howManyIn_17 : decode cX5_howManyIn 17 = .ok (.getfield 9, 3) := by decide +kernel
theorem dX5_howManyIn_20 : decode cX5_howManyIn 20 = .ok (.arraylength, 1) := by decide +kernel
theorem dX5_howManyIn_21 : decode cX5_howManyIn 21 = .ok (.if_icmp .ge 34, 3) := by decide +kernel
theorem dX5_howManyIn_24 : decode cX5_howManyIn 24 = .ok (.aload_n 0, 1) := by decide +kernel
theorem dX5_howManyIn_25 : decode cX5_howManyIn 25 = .ok (.getfield 9, 3) := by decide +kernel
theorem dX5_howManyIn_28 : decode cX5_howManyIn 28 = .ok (.iload 4, 2) := by decide +kernel
theorem dX5_howManyIn_30 : decode cX5_howManyIn 30 = .ok (.iaload, 1) := by decide +kernel
theorem dX5_howManyIn_31 : decode cX5_howManyIn 31 = .ok (.iload_n 1, 1) := by decide +kernel
theorem dX5_howManyIn_32 : decode cX5_howManyIn 32 = .ok (.if_icmp .lt 17, 3) := by decide +kernel
theorem dX5_howManyIn_35 : decode cX5_howManyIn 35 = .ok (.aload_n 0, 1) := by decide +kernel
theorem dX5_howManyIn_36 : decode cX5_howManyIn 36 = .ok (.getfield 9, 3) := by decide +kernel
theorem dX5_howManyIn_39 : decode cX5_howManyIn 39 = .ok (.iload 4, 2) := by decide +kernel
theorem dX5_howManyIn_41 : decode cX5_howManyIn 41 = .ok (.iaload, 1) := by decide +kernel
theorem dX5_howManyIn_42 : decode cX5_howManyIn 42 = .ok (.iload_n 2, 1) := by decide +kernel
theorem dX5_howManyIn_43 : decode cX5_howManyIn 43 = .ok (.if_icmp .gt 6, 3) := by decide +kernel
theorem dX5_howManyIn_46 : decode cX5_howManyIn 46 = .ok (.iinc 3 1, 3) := by decide +kernel
theorem dX5_howManyIn_49 : decode cX5_howManyIn 49 = .ok (.iinc 4 1, 3) := by decide +kernel
theorem dX5_howManyIn_52 : decode cX5_howManyIn 52 = .ok (.goto (-47), 3) := by decide +kernel
theorem dX5_howManyIn_55 : decode cX5_howManyIn 55 = .ok (.iload_n 3, 1) := by decide +kernel
theorem dX5_howManyIn_56 : decode cX5_howManyIn 56 = .ok (.ireturn, 1) := by decide +kernel
theorem dX5_putFirst_0 : decode cX5_putFirst 0 = .ok (.aload_n 0, 1) := by decide +kernel
theorem dX5_putFirst_1 : decode cX5_putFirst 1 = .ok (.getfield 15, 3) := by decide +kernel
theorem dX5_putFirst_4 : decode cX5_putFirst 4 = .ok (.aload_n 0, 1) := by decide +kernel
theorem dX5_putFirst_5 : decode cX5_putFirst 5 = .ok (.getfield 9, 3) := by decide +kernel
theorem dX5_putFirst_8 : decode cX5_putFirst 8 = .ok (.arraylength, 1) := by decide +kernel
theorem dX5_putFirst_9 : decode cX5_putFirst 9 = .ok (.if_icmp .lt 4, 3) := by decide +kernel
theorem dX5_putFirst_12 : decode cX5_putFirst 12 = .ok (.return_, 1) := by decide +kernel
theorem dX5_putFirst_13 : decode cX5_putFirst 13 = .ok (.aload_n 0, 1) := by decide +kernel
theorem dX5_putFirst_14 : decode cX5_putFirst 14 = .ok (.getfield 15, 3) := by decide +kernel
theorem dX5_putFirst_17 : decode cX5_putFirst 17 = .ok (.istore_n 2, 1) := by decide +kernel
theorem dX5_putFirst_18 : decode cX5_putFirst 18 = .ok (.iload_n 2, 1) := by decide +kernel
theorem dX5_putFirst_19 : decode cX5_putFirst 19 = .ok (.ifCond .le 23, 3) := by decide +kernel
theorem dX5_putFirst_22 : decode cX5_putFirst 22 = .ok (.aload_n 0, 1) := by decide +kernel
theorem dX5_putFirst_23 : decode cX5_putFirst 23 = .ok (.getfield 9, 3) := by decide +kernel
theorem dX5_putFirst_26 : decode cX5_putFirst 26 = .ok (.iload_n 2, 1) := by decide +kernel
theorem dX5_putFirst_27 : decode cX5_putFirst 27 = .ok (.aload_n 0, 1) := by decide +kernel
theorem dX5_putFirst_28 : decode cX5_putFirst 28 = .ok (.getfield 9, 3) := by decide +kernel
theorem dX5_putFirst_31 : decode cX5_putFirst 31 = .ok (.iload_n 2, 1) := by decide +kernel
theorem dX5_putFirst_32 : decode cX5_putFirst 32 = .ok (.iconst 1, 1) := by decide +kernel
theorem dX5_putFirst_33 : decode cX5_putFirst 33 = .ok (.isub, 1) := by decide +kernel
theorem dX5_putFirst_34 : decode cX5_putFirst 34 = .ok (.iaload, 1) := by decide +kernel
theorem dX5_putFirst_35 : decode cX5_putFirst 35 = .ok (.iastore, 1) := by decide +kernel
theorem dX5_putFirst_36 : decode cX5_putFirst 36 = .ok (.iinc 2 (-1), 3) := by decide +kernel
theorem dX5_putFirst_39 : decode cX5_putFirst 39 = .ok (.goto (-21), 3) := by decide +kernel
theorem dX5_putFirst_42 : decode cX5_putFirst 42 = .ok (.aload_n 0, 1) := by decide +kernel
theorem dX5_putFirst_43 : decode cX5_putFirst 43 = .ok (.getfield 9, 3) := by decide +kernel
theorem dX5_putFirst_46 : decode cX5_putFirst 46 = .ok (.iconst 0, 1) := by decide +kernel
theorem dX5_putFirst_47 : decode cX5_putFirst 47 = .ok (.iload_n 1, 1) := by decide +kernel
theorem dX5_putFirst_48 : decode cX5_putFirst 48 = .ok (.iastore, 1) := by decide +kernel
theorem dX5_putFirst_49 : decode cX5_putFirst 49 = .ok (.aload_n 0, 1) := by decide +kernel
theorem dX5_putFirst_50 : decode cX5_putFirst 50 = .ok (.dup, 1) := by decide +kernel
theorem dX5_putFirst_51 : decode cX5_putFirst 51 = .ok (.getfield 15, 3) := by decide +kernel
theorem dX5_putFirst_54 : decode cX5_putFirst 54 = .ok (.iconst 1, 1) := by decide +kernel
theorem dX5_putFirst_55 : decode cX5_putFirst 55 = .ok (.iadd, 1) := by decide +kernel
theorem dX5_putFirst_56 : decode cX5_putFirst 56 = .ok (.putfield 15, 3) := by decide +kernel
theorem dX5_putFirst_59 : decode cX5_putFirst 59 = .ok (.return_, 1) := by decide +kernel
theorem dX5_takeOut_0 : decode cX5_takeOut 0 = .ok (.iconst 0, 1) := by decide +kernel
theorem dX5_takeOut_1 : decode cX5_takeOut 1 = .ok (.istore_n 2, 1) := by decide +kernel
theorem dX5_takeOut_2 : decode cX5_takeOut 2 = .ok (.iconst 0, 1) := by decide +kernel
theorem dX5_takeOut_3 : decode cX5_takeOut 3 = .ok (.istore_n 3, 1) := by decide +kernel
theorem dX5_takeOut_4 : decode cX5_takeOut 4 = .ok (.iload_n 3, 1) := by decide +kernel
theorem dX5_takeOut_5 : decode cX5_takeOut 5 = .ok (.aload_n 0, 1) := by decide +kernel
theorem dX5_takeOut_6 : decode cX5_takeOut 6 = .ok (.getfield 15, 3) := by decide +kernel
theorem dX5_takeOut_9 : decode cX5_takeOut 9 = .ok (.if_icmp .ge 43, 3) := by decide +kernel
theorem dX5_takeOut_12 : decode cX5_takeOut 12 = .ok (.iload_n 3, 1) := by decide +kernel
theorem dX5_takeOut_13 : decode cX5_takeOut 13 = .ok (.aload_n 0, 1) := by decide +kernel
theorem dX5_takeOut_14 : decode cX5_takeOut 14 = .ok (.getfield 9, 3) := by decide +kernel
theorem dX5_takeOut_17 : decode cX5_takeOut 17 = .ok (.arraylength, 1) := by decide +kernel
theorem dX5_takeOut_18 : decode cX5_takeOut 18 = .ok (.if_icmp .ge 34, 3) := by decide +kernel
theorem dX5_takeOut_21 : decode cX5_takeOut 21 = .ok (.aload_n 0, 1) := by decide +kernel
theorem dX5_takeOut_22 : decode cX5_takeOut 22 = .ok (.getfield 9, 3) := by decide +kernel
theorem dX5_takeOut_25 : decode cX5_takeOut 25 = .ok (.iload_n 3, 1) := by decide +kernel
theorem dX5_takeOut_26 : decode cX5_takeOut 26 = .ok (.iaload, 1) := by decide +kernel
theorem dX5_takeOut_27 : decode cX5_takeOut 27 = .ok (.iload_n 1, 1) := by decide +kernel
theorem dX5_takeOut_28 : decode cX5_takeOut 28 = .ok (.if_icmp .eq 18, 3) := by decide +kernel
theorem dX5_takeOut_31 : decode cX5_takeOut 31 = .ok (.aload_n 0, 1) := by decide +kernel
theorem dX5_takeOut_32 : decode cX5_takeOut 32 = .ok (.getfield 9, 3) := by decide +kernel
theorem dX5_takeOut_35 : decode cX5_takeOut 35 = .ok (.iload_n 2, 1) := by decide +kernel
theorem dX5_takeOut_36 : decode cX5_takeOut 36 = .ok (.aload_n 0, 1) := by decide +kernel
theorem dX5_takeOut_37 : decode cX5_takeOut 37 = .ok (.getfield 9, 3) := by decide +kernel
theorem dX5_takeOut_40 : decode cX5_takeOut 40 = .ok (.iload_n 3, 1) := by decide +kernel
theorem dX5_takeOut_41 : decode cX5_takeOut 41 = .ok (.iaload, 1) := by decide +kernel
theorem dX5_takeOut_42 : decode cX5_takeOut 42 = .ok (.iastore, 1) := by decide +kernel
theorem dX5_takeOut_43 : decode cX5_takeOut 43 = .ok (.iinc 2 1, 3) := by decide +kernel
theorem dX5_takeOut_46 : decode cX5_takeOut 46 = .ok (.iinc 3 1, 3) := by decide +kernel
theorem dX5_takeOut_49 : decode cX5_takeOut 49 = .ok (.goto (-45), 3) := by decide +kernel
theorem dX5_takeOut_52 : decode cX5_takeOut 52 = .ok (.aload_n 0, 1) := by decide +kernel
theorem dX5_takeOut_53 : decode cX5_takeOut 53 = .ok (.iload_n 2, 1) := by decide +kernel
theorem dX5_takeOut_54 : decode cX5_takeOut 54 = .ok (.putfield 15, 3) := by decide +kernel
theorem dX5_takeOut_57 : decode cX5_takeOut 57 = .ok (.return_, 1) := by decide +kernel
theorem dX5_copyFrom_0 : decode cX5_copyFrom 0 = .ok (.aload_n 0, 1) := by decide +kernel
theorem dX5_copyFrom_1 : decode cX5_copyFrom 1 = .ok (.aload_n 1, 1) := by decide +kernel
theorem dX5_copyFrom_2 : decode cX5_copyFrom 2 = .ok (.getfield 15, 3) := by decide +kernel
theorem dX5_copyFrom_5 : decode cX5_copyFrom 5 = .ok (.putfield 15, 3) := by decide +kernel
theorem dX5_copyFrom_8 : decode cX5_copyFrom 8 = .ok (.iconst 0, 1) := by decide +kernel
theorem dX5_copyFrom_9 : decode cX5_copyFrom 9 = .ok (.istore_n 2, 1) := by decide +kernel
theorem dX5_copyFrom_10 : decode cX5_copyFrom 10 = .ok (.iload_n 2, 1) := by decide +kernel
theorem dX5_copyFrom_11 : decode cX5_copyFrom 11 = .ok (.aload_n 0, 1) := by decide +kernel
theorem dX5_copyFrom_12 : decode cX5_copyFrom 12 = .ok (.getfield 15, 3) := by decide +kernel
theorem dX5_copyFrom_15 : decode cX5_copyFrom 15 = .ok (.if_icmp .ge 29, 3) := by decide +kernel
theorem dX5_copyFrom_18 : decode cX5_copyFrom 18 = .ok (.iload_n 2, 1) := by decide +kernel
theorem dX5_copyFrom_19 : decode cX5_copyFrom 19 = .ok (.aload_n 0, 1) := by decide +kernel
theorem dX5_copyFrom_20 : decode cX5_copyFrom 20 = .ok (.getfield 9, 3) := by decide +kernel
theorem dX5_copyFrom_23 : decode cX5_copyFrom 23 = .ok (.arraylength, 1) := by decide +kernel
theorem dX5_copyFrom_24 : decode cX5_copyFrom 24 = .ok (.if_icmp .ge 20, 3) := by decide +kernel
theorem dX5_copyFrom_27 : decode cX5_copyFrom 27 = .ok (.aload_n 0, 1) := by decide +kernel
theorem dX5_copyFrom_28 : decode cX5_copyFrom 28 = .ok (.getfield 9, 3) := by decide +kernel
theorem dX5_copyFrom_31 : decode cX5_copyFrom 31 = .ok (.iload_n 2, 1) := by decide +kernel
theorem dX5_copyFrom_32 : decode cX5_copyFrom 32 = .ok (.aload_n 1, 1) := by decide +kernel
theorem dX5_copyFrom_33 : decode cX5_copyFrom 33 = .ok (.iload_n 2, 1) := by decide +kernel
theorem dX5_copyFrom_34 : decode cX5_copyFrom 34 = .ok (.invokevirtual 19, 3) := by decide +kernel
theorem dX5_copyFrom_37 : decode cX5_copyFrom 37 = .ok (.iastore, 1) := by decide +kernel
theorem dX5_copyFrom_38 : decode cX5_copyFrom 38 = .ok (.iinc 2 1, 3) := by decide +kernel
theorem dX5_copyFrom_41 : decode cX5_copyFrom 41 = .ok (.goto (-31), 3) := by decide +kernel
theorem dX5_copyFrom_44 : decode cX5_copyFrom 44 = .ok (.return_, 1) := by decide +kernel
theorem dX6_init_0 : decode cX6_init 0 = .ok (.aload_n 0, 1) := by decide +kernel
theorem dX6_init_1 : decode cX6_init 1 = .ok (.invokespecial 3, 3) := by decide +kernel
theorem dX6_init_4 : decode cX6_init 4 = .ok (.aload_n 0, 1) := by decide +kernel
theorem dX6_init_5 : decode cX6_init 5 = .ok (.iconst (-1), 1) := by decide +kernel
theorem dX6_init_6 : decode cX6_init 6 = .ok (.putfield 9, 3) := by decide +kernel
theorem dX6_init_9 : decode cX6_init 9 = .ok (.aload_n 0, 1) := by decide +kernel
theorem dX6_init_10 : decode cX6_init 10 = .ok (.iconst (-1), 1) := by decide +kernel
theorem dX6_init_11 : decode cX6_init 11 = .ok (.putfield 15, 3) := by decide +kernel
theorem dX6_init_14 : decode cX6_init 14 = .ok (.return_, 1) := by decide +kernel
theorem dX6_countAccess_0 : decode cX6_countAccess 0 = .ok (.aload_n 0, 1) := by decide +kernel
theorem dX6_countAccess_1 : decode cX6_countAccess 1 = .ok (.dup, 1) := by decide +kernel
theorem dX6_countAccess_2 : decode cX6_countAccess 2 = .ok (.getfield 18, 3) := by decide +kernel
theorem dX6_countAccess_5 : decode cX6_countAccess 5 = .ok (.iconst 1, 1) := by decide +kernel
theorem dX6_countAccess_6 : decode cX6_countAccess 6 = .ok (.iadd, 1) := by decide +kernel
theorem dX6_countAccess_7 : decode cX6_countAccess 7 = .ok (.putfield 18, 3) := by decide +kernel
theorem dX6_countAccess_10 : decode cX6_countAccess 10 = .ok (.aload_n 0, 1) := by decide +kernel
theorem dX6_countAccess_11 : decode cX6_countAccess 11 = .ok (.iconst (-1), 1) := by decide +kernel
theorem dX6_countAccess_12 : decode cX6_countAccess 12 = .ok (.putfield 9, 3) := by decide +kernel
theorem dX6_countAccess_15 : decode cX6_countAccess 15 = .ok (.aload_n 0, 1) := by decide +kernel
theorem dX6_countAccess_16 : decode cX6_countAccess 16 = .ok (.iconst (-1), 1) := by decide +kernel
theorem dX6_countAccess_17 : decode cX6_countAccess 17 = .ok (.putfield 15, 3) := by decide +kernel
theorem dX6_countAccess_20 : decode cX6_countAccess 20 = .ok (.iload_n 2, 1) := by decide +kernel
theorem dX6_countAccess_21 : decode cX6_countAccess 21 = .ok (.ifCond .eq 13, 3) := by decide +kernel
theorem dX6_countAccess_24 : decode cX6_countAccess 24 = .ok (.aload_n 0, 1) := by decide +kernel
theorem dX6_countAccess_25 : decode cX6_countAccess 25 = .ok (.dup, 1) := by decide +kernel
theorem dX6_countAccess_26 : decode cX6_countAccess 26 = .ok (.getfield 21, 3) := by decide +kernel
theorem dX6_countAccess_29 : decode cX6_countAccess 29 = .ok (.iconst 1, 1) := by decide +kernel
theorem dX6_countAccess_30 : decode cX6_countAccess 30 = .ok (.iadd, 1) := by decide +kernel
theorem dX6_countAccess_31 : decode cX6_countAccess 31 = .ok (.putfield 21, 3) := by decide +kernel
theorem dX6_countAccess_34 : decode cX6_countAccess 34 = .ok (.iload_n 1, 1) := by decide +kernel
theorem dX6_countAccess_35 : decode cX6_countAccess 35 = .ok (.ifCond .ne 16, 3) := by decide +kernel
theorem dX6_countAccess_38 : decode cX6_countAccess 38 = .ok (.aload_n 0, 1) := by decide +kernel
theorem dX6_countAccess_39 : decode cX6_countAccess 39 = .ok (.dup, 1) := by decide +kernel
theorem dX6_countAccess_40 : decode cX6_countAccess 40 = .ok (.getfield 24, 3) := by decide +kernel
theorem dX6_countAccess_43 : decode cX6_countAccess 43 = .ok (.iconst 1, 1) := by decide +kernel
theorem dX6_countAccess_44 : decode cX6_countAccess 44 = .ok (.iadd, 1) := by decide +kernel
theorem dX6_countAccess_45 : decode cX6_countAccess 45 = .ok (.putfield 24, 3) := by decide +kernel
theorem dX6_countAccess_48 : decode cX6_countAccess 48 = .ok (.goto 31, 3) := by decide +kernel
theorem dX6_countAccess_51 : decode cX6_countAccess 51 = .ok (.iload_n 1, 1) := by decide +kernel
theorem dX6_countAccess_52 : decode cX6_countAccess 52 = .ok (.iconst 1, 1) := by decide +kernel
theorem dX6_countAccess_53 : decode cX6_countAccess 53 = .ok (.if_icmp .ne 16, 3) := by decide +kernel
theorem dX6_countAccess_56 : decode cX6_countAccess 56 = .ok (.aload_n 0, 1) := by decide +kernel
theorem dX6_countAccess_57 : decode cX6_countAccess 57 = .ok (.dup, 1) := by decide +kernel
theorem dX6_countAccess_58 : decode cX6_countAccess 58 = .ok (.getfield 27, 3) := by decide +kernel
theorem dX6_countAccess_61 : decode cX6_countAccess 61 = .ok (.iconst 1, 1) := by decide +kernel
theorem dX6_countAccess_62 : decode cX6_countAccess 62 = .ok (.iadd, 1) := by decide +kernel
theorem dX6_countAccess_63 : decode cX6_countAccess 63 = .ok (.putfield 27, 3) := by decide +kernel
theorem dX6_countAccess_66 : decode cX6_countAccess 66 = .ok (.goto 13, 3) := by decide +kernel
theorem dX6_countAccess_69 : decode cX6_countAccess 69 = .ok (.aload_n 0, 1) := by decide +kernel
theorem dX6_countAccess_70 : decode cX6_countAccess 70 = .ok (.dup, 1) := by decide +kernel
theorem dX6_countAccess_71 : decode cX6_countAccess 71 = .ok (.getfield 30, 3) := by decide +kernel
theorem dX6_countAccess_74 : decode cX6_countAccess 74 = .ok (.iconst 1, 1) := by decide +kernel
theorem dX6_countAccess_75 : decode cX6_countAccess 75 = .ok (.iadd, 1) := by decide +kernel
theorem dX6_countAccess_76 : decode cX6_countAccess 76 = .ok (.putfield 30, 3) := by decide +kernel
theorem dX6_countAccess_79 : decode cX6_countAccess 79 = .ok (.return_, 1) := by decide +kernel
theorem dX6_numberOf_0 : decode cX6_numberOf 0 = .ok (.iload_n 1, 1) := by decide +kernel
theorem dX6_numberOf_1 : decode cX6_numberOf 1 = .ok (.tableswitch 119 5 20 #[79, 119, 119, 119, 119, 119, 119, 119, 119, 84, 89, 94, 99, 104, 109, 114], 79) := by decide +kernel
theorem dX6_numberOf_80 : decode cX6_numberOf 80 = .ok (.aload_n 0, 1) := by decide +kernel
theorem dX6_numberOf_81 : decode cX6_numberOf 81 = .ok (.getfield 18, 3) := by decide +kernel
theorem dX6_numberOf_84 : decode cX6_numberOf 84 = .ok (.ireturn, 1) := by decide +kernel
theorem dX6_numberOf_85 : decode cX6_numberOf 85 = .ok (.aload_n 0, 1) := by decide +kernel
theorem dX6_numberOf_86 : decode cX6_numberOf 86 = .ok (.getfield 24, 3) := by decide +kernel
theorem dX6_numberOf_89 : decode cX6_numberOf 89 = .ok (.ireturn, 1) := by decide +kernel
theorem dX6_numberOf_90 : decode cX6_numberOf 90 = .ok (.aload_n 0, 1) := by decide +kernel
theorem dX6_numberOf_91 : decode cX6_numberOf 91 = .ok (.getfield 27, 3) := by decide +kernel
theorem dX6_numberOf_94 : decode cX6_numberOf 94 = .ok (.ireturn, 1) := by decide +kernel
theorem dX6_numberOf_95 : decode cX6_numberOf 95 = .ok (.aload_n 0, 1) := by decide +kernel
theorem dX6_numberOf_96 : decode cX6_numberOf 96 = .ok (.getfield 30, 3) := by decide +kernel
theorem dX6_numberOf_99 : decode cX6_numberOf 99 = .ok (.ireturn, 1) := by decide +kernel
theorem dX6_numberOf_100 : decode cX6_numberOf 100 = .ok (.aload_n 0, 1) := by decide +kernel
theorem dX6_numberOf_101 : decode cX6_numberOf 101 = .ok (.getfield 33, 3) := by decide +kernel
theorem dX6_numberOf_104 : decode cX6_numberOf 104 = .ok (.ireturn, 1) := by decide +kernel
theorem dX6_numberOf_105 : decode cX6_numberOf 105 = .ok (.aload_n 0, 1) := by decide +kernel
theorem dX6_numberOf_106 : decode cX6_numberOf 106 = .ok (.getfield 36, 3) := by decide +kernel
theorem dX6_numberOf_109 : decode cX6_numberOf 109 = .ok (.ireturn, 1) := by decide +kernel
theorem dX6_numberOf_110 : decode cX6_numberOf 110 = .ok (.aload_n 0, 1) := by decide +kernel
theorem dX6_numberOf_111 : decode cX6_numberOf 111 = .ok (.getfield 39, 3) := by decide +kernel
theorem dX6_numberOf_114 : decode cX6_numberOf 114 = .ok (.ireturn, 1) := by decide +kernel
theorem dX6_numberOf_115 : decode cX6_numberOf 115 = .ok (.aload_n 0, 1) := by decide +kernel
theorem dX6_numberOf_116 : decode cX6_numberOf 116 = .ok (.getfield 42, 3) := by decide +kernel
theorem dX6_numberOf_119 : decode cX6_numberOf 119 = .ok (.ireturn, 1) := by decide +kernel
theorem dX6_numberOf_120 : decode cX6_numberOf 120 = .ok (.aload_n 0, 1) := by decide +kernel
theorem dX6_numberOf_121 : decode cX6_numberOf 121 = .ok (.getfield 21, 3) := by decide +kernel
theorem dX6_numberOf_124 : decode cX6_numberOf 124 = .ok (.ireturn, 1) := by decide +kernel
theorem dX6_copyFrom_0 : decode cX6_copyFrom 0 = .ok (.aload_n 0, 1) := by decide +kernel
theorem dX6_copyFrom_1 : decode cX6_copyFrom 1 = .ok (.aload_n 1, 1) := by decide +kernel
theorem dX6_copyFrom_2 : decode cX6_copyFrom 2 = .ok (.getfield 18, 3) := by decide +kernel
theorem dX6_copyFrom_5 : decode cX6_copyFrom 5 = .ok (.putfield 18, 3) := by decide +kernel
theorem dX6_copyFrom_8 : decode cX6_copyFrom 8 = .ok (.aload_n 0, 1) := by decide +kernel
theorem dX6_copyFrom_9 : decode cX6_copyFrom 9 = .ok (.aload_n 1, 1) := by decide +kernel
theorem dX6_copyFrom_10 : decode cX6_copyFrom 10 = .ok (.getfield 24, 3) := by decide +kernel
theorem dX6_copyFrom_13 : decode cX6_copyFrom 13 = .ok (.putfield 24, 3) := by decide +kernel
theorem dX6_copyFrom_16 : decode cX6_copyFrom 16 = .ok (.aload_n 0, 1) := by decide +kernel
theorem dX6_copyFrom_17 : decode cX6_copyFrom 17 = .ok (.aload_n 1, 1) := by decide +kernel
theorem dX6_copyFrom_18 : decode cX6_copyFrom 18 = .ok (.getfield 27, 3) := by decide +kernel
theorem dX6_copyFrom_21 : decode cX6_copyFrom 21 = .ok (.putfield 27, 3) := by decide +kernel
theorem dX6_copyFrom_24 : decode cX6_copyFrom 24 = .ok (.aload_n 0, 1) := by decide +kernel
theorem dX6_copyFrom_25 : decode cX6_copyFrom 25 = .ok (.aload_n 1, 1) := by decide +kernel
theorem dX6_copyFrom_26 : decode cX6_copyFrom 26 = .ok (.getfield 30, 3) := by decide +kernel
theorem dX6_copyFrom_29 : decode cX6_copyFrom 29 = .ok (.putfield 30, 3) := by decide +kernel
theorem dX6_copyFrom_32 : decode cX6_copyFrom 32 = .ok (.aload_n 0, 1) := by decide +kernel
theorem dX6_copyFrom_33 : decode cX6_copyFrom 33 = .ok (.aload_n 1, 1) := by decide +kernel
theorem dX6_copyFrom_34 : decode cX6_copyFrom 34 = .ok (.getfield 33, 3) := by decide +kernel
theorem dX6_copyFrom_37 : decode cX6_copyFrom 37 = .ok (.putfield 33, 3) := by decide +kernel
theorem dX6_copyFrom_40 : decode cX6_copyFrom 40 = .ok (.aload_n 0, 1) := by decide +kernel
theorem dX6_copyFrom_41 : decode cX6_copyFrom 41 = .ok (.aload_n 1, 1) := by decide +kernel
theorem dX6_copyFrom_42 : decode cX6_copyFrom 42 = .ok (.getfield 36, 3) := by decide +kernel
theorem dX6_copyFrom_45 : decode cX6_copyFrom 45 = .ok (.putfield 36, 3) := by decide +kernel
theorem dX6_copyFrom_48 : decode cX6_copyFrom 48 = .ok (.aload_n 0, 1) := by decide +kernel
theorem dX6_copyFrom_49 : decode cX6_copyFrom 49 = .ok (.aload_n 1, 1) := by decide +kernel
theorem dX6_copyFrom_50 : decode cX6_copyFrom 50 = .ok (.getfield 39, 3) := by decide +kernel
theorem dX6_copyFrom_53 : decode cX6_copyFrom 53 = .ok (.putfield 39, 3) := by decide +kernel
theorem dX6_copyFrom_56 : decode cX6_copyFrom 56 = .ok (.aload_n 0, 1) := by decide +kernel
theorem dX6_copyFrom_57 : decode cX6_copyFrom 57 = .ok (.aload_n 1, 1) := by decide +kernel
theorem dX6_copyFrom_58 : decode cX6_copyFrom 58 = .ok (.getfield 42, 3) := by decide +kernel
theorem dX6_copyFrom_61 : decode cX6_copyFrom 61 = .ok (.putfield 42, 3) := by decide +kernel
theorem dX6_copyFrom_64 : decode cX6_copyFrom 64 = .ok (.aload_n 0, 1) := by decide +kernel
theorem dX6_copyFrom_65 : decode cX6_copyFrom 65 = .ok (.aload_n 1, 1) := by decide +kernel
theorem dX6_copyFrom_66 : decode cX6_copyFrom 66 = .ok (.getfield 21, 3) := by decide +kernel
theorem dX6_copyFrom_69 : decode cX6_copyFrom 69 = .ok (.putfield 21, 3) := by decide +kernel
theorem dX6_copyFrom_72 : decode cX6_copyFrom 72 = .ok (.aload_n 0, 1) := by decide +kernel
theorem dX6_copyFrom_73 : decode cX6_copyFrom 73 = .ok (.aload_n 1, 1) := by decide +kernel
theorem dX6_copyFrom_74 : decode cX6_copyFrom 74 = .ok (.getfield 9, 3) := by decide +kernel
theorem dX6_copyFrom_77 : decode cX6_copyFrom 77 = .ok (.putfield 9, 3) := by decide +kernel
theorem dX6_copyFrom_80 : decode cX6_copyFrom 80 = .ok (.aload_n 0, 1) := by decide +kernel
theorem dX6_copyFrom_81 : decode cX6_copyFrom 81 = .ok (.aload_n 1, 1) := by decide +kernel
theorem dX6_copyFrom_82 : decode cX6_copyFrom 82 = .ok (.getfield 15, 3) := by decide +kernel
theorem dX6_copyFrom_85 : decode cX6_copyFrom 85 = .ok (.putfield 15, 3) := by decide +kernel
theorem dX6_copyFrom_88 : decode cX6_copyFrom 88 = .ok (.return_, 1) := by decide +kernel
theorem dX7_init_0 : decode cX7_init 0 = .ok (.aload_n 0, 1) := by decide +kernel
theorem dX7_init_1 : decode cX7_init 1 = .ok (.invokespecial 3, 3) := by decide +kernel
theorem dX7_init_4 : decode cX7_init 4 = .ok (.aload_n 0, 1) := by decide +kernel
theorem dX7_init_5 : decode cX7_init 5 = .ok (.sipush 600, 3) := by decide +kernel
theorem dX7_init_8 : decode cX7_init 8 = .ok (.newarray .int, 2) := by decide +kernel
theorem dX7_init_10 : decode cX7_init 10 = .ok (.putfield 9, 3) := by decide +kernel
theorem dX7_init_13 : decode cX7_init 13 = .ok (.aload_n 0, 1) := by decide +kernel
theorem dX7_init_14 : decode cX7_init 14 = .ok (.bipush 40, 2) := by decide +kernel
theorem dX7_init_16 : decode cX7_init 16 = .ok (.newarray .int, 2) := by decide +kernel
theorem dX7_init_18 : decode cX7_init 18 = .ok (.putfield 15, 3) := by decide +kernel
theorem dX7_init_21 : decode cX7_init 21 = .ok (.aload_n 0, 1) := by decide +kernel
theorem dX7_init_22 : decode cX7_init 22 = .ok (.bipush 40, 2) := by decide +kernel
theorem dX7_init_24 : decode cX7_init 24 = .ok (.newarray .int, 2) := by decide +kernel
theorem dX7_init_26 : decode cX7_init 26 = .ok (.putfield 18, 3) := by decide +kernel
theorem dX7_init_29 : decode cX7_init 29 = .ok (.aload_n 0, 1) := by decide +kernel
theorem dX7_init_30 : decode cX7_init 30 = .ok (.bipush 40, 2) := by decide +kernel
theorem dX7_init_32 : decode cX7_init 32 = .ok (.newarray .int, 2) := by decide +kernel
theorem dX7_init_34 : decode cX7_init 34 = .ok (.putfield 21, 3) := by decide +kernel
theorem dX7_init_37 : decode cX7_init 37 = .ok (.aload_n 0, 1) := by decide +kernel
theorem dX7_init_38 : decode cX7_init 38 = .ok (.bipush 40, 2) := by decide +kernel
theorem dX7_init_40 : decode cX7_init 40 = .ok (.newarray .int, 2) := by decide +kernel
theorem dX7_init_42 : decode cX7_init 42 = .ok (.putfield 24, 3) := by decide +kernel
theorem dX7_init_45 : decode cX7_init 45 = .ok (.aload_n 0, 1) := by decide +kernel
theorem dX7_init_46 : decode cX7_init 46 = .ok (.iconst (-1), 1) := by decide +kernel
theorem dX7_init_47 : decode cX7_init 47 = .ok (.putfield 27, 3) := by decide +kernel
theorem dX7_init_50 : decode cX7_init 50 = .ok (.return_, 1) := by decide +kernel
theorem dX7_addByte_0 : decode cX7_addByte 0 = .ok (.aload_n 0, 1) := by decide +kernel
theorem dX7_addByte_1 : decode cX7_addByte 1 = .ok (.getfield 31, 3) := by decide +kernel
theorem dX7_addByte_4 : decode cX7_addByte 4 = .ok (.ifCond .lt 33, 3) := by decide +kernel
theorem dX7_addByte_7 : decode cX7_addByte 7 = .ok (.aload_n 0, 1) := by decide +kernel
theorem dX7_addByte_8 : decode cX7_addByte 8 = .ok (.getfield 31, 3) := by decide +kernel
theorem dX7_addByte_11 : decode cX7_addByte 11 = .ok (.sipush 600, 3) := by decide +kernel
theorem dX7_addByte_14 : decode cX7_addByte 14 = .ok (.if_icmp .ge 23, 3) := by decide +kernel
theorem dX7_addByte_17 : decode cX7_addByte 17 = .ok (.aload_n 0, 1) := by decide +kernel
theorem dX7_addByte_18 : decode cX7_addByte 18 = .ok (.getfield 9, 3) := by decide +kernel
theorem dX7_addByte_21 : decode cX7_addByte 21 = .ok (.aload_n 0, 1) := by decide +kernel
theorem dX7_addByte_22 : decode cX7_addByte 22 = .ok (.getfield 31, 3) := by decide +kernel
theorem dX7_addByte_25 : decode cX7_addByte 25 = .ok (.iload_n 1, 1) := by decide +kernel
theorem dX7_addByte_26 : decode cX7_addByte 26 = .ok (.iastore, 1) := by decide +kernel
theorem dX7_addByte_27 : decode cX7_addByte 27 = .ok (.aload_n 0, 1) := by decide +kernel
theorem dX7_addByte_28 : decode cX7_addByte 28 = .ok (.dup, 1) := by decide +kernel
theorem dX7_addByte_29 : decode cX7_addByte 29 = .ok (.getfield 31, 3) := by decide +kernel
theorem dX7_addByte_32 : decode cX7_addByte 32 = .ok (.iconst 1, 1) := by decide +kernel
theorem dX7_addByte_33 : decode cX7_addByte 33 = .ok (.iadd, 1) := by decide +kernel
theorem dX7_addByte_34 : decode cX7_addByte 34 = .ok (.putfield 31, 3) := by decide +kernel
theorem dX7_addByte_37 : decode cX7_addByte 37 = .ok (.return_, 1) := by decide +kernel
theorem dX7_partOf_0 : decode cX7_partOf 0 = .ok (.iload_n 2, 1) := by decide +kernel
theorem dX7_partOf_1 : decode cX7_partOf 1 = .ok (.ifCond .lt 15, 3) := by decide +kernel
theorem dX7_partOf_4 : decode cX7_partOf 4 = .ok (.iload_n 2, 1) := by decide +kernel
theorem dX7_partOf_5 : decode cX7_partOf 5 = .ok (.aload_n 1, 1) := by decide +kernel
theorem dX7_partOf_6 : decode cX7_partOf 6 = .ok (.arraylength, 1) := by decide +kernel
theorem dX7_partOf_7 : decode cX7_partOf 7 = .ok (.if_icmp .ge 9, 3) := by decide +kernel
theorem dX7_partOf_10 : decode cX7_partOf 10 = .ok (.aload_n 1, 1) := by decide +kernel
theorem dX7_partOf_11 : decode cX7_partOf 11 = .ok (.iload_n 2, 1) := by decide +kernel
theorem dX7_partOf_12 : decode cX7_partOf 12 = .ok (.iaload, 1) := by decide +kernel
theorem dX7_partOf_13 : decode cX7_partOf 13 = .ok (.goto 4, 3) := by decide +kernel
theorem dX7_partOf_16 : decode cX7_partOf 16 = .ok (.iconst (-1), 1) := by decide +kernel
theorem dX7_partOf_17 : decode cX7_partOf 17 = .ok (.ireturn, 1) := by decide +kernel
theorem dX7_parse_0 : decode cX7_parse 0 = .ok (.aload_n 0, 1) := by decide +kernel
theorem dX7_parse_1 : decode cX7_parse 1 = .ok (.iconst 0, 1) := by decide +kernel
theorem dX7_parse_2 : decode cX7_parse 2 = .ok (.putfield 34, 3) := by decide +kernel
theorem dX7_parse_5 : decode cX7_parse 5 = .ok (.aload_n 0, 1) := by decide +kernel
theorem dX7_parse_6 : decode cX7_parse 6 = .ok (.iconst 0, 1) := by decide +kernel
theorem dX7_parse_7 : decode cX7_parse 7 = .ok (.putfield 37, 3) := by decide +kernel
theorem dX7_parse_10 : decode cX7_parse 10 = .ok (.aload_n 0, 1) := by decide +kernel
theorem dX7_parse_11 : decode cX7_parse 11 = .ok (.iconst 0, 1) := by decide +kernel
theorem dX7_parse_12 : decode cX7_parse 12 = .ok (.putfield 40, 3) := by decide +kernel
theorem dX7_parse_15 : decode cX7_parse 15 = .ok (.aload_n 0, 1) := by decide +kernel
theorem dX7_parse_16 : decode cX7_parse 16 = .ok (.iconst (-1), 1) := by decide +kernel
theorem dX7_parse_17 : decode cX7_parse 17 = .ok (.putfield 27, 3) := by decide +kernel
theorem dX7_parse_20 : decode cX7_parse 20 = .ok (.aload_n 0, 1) := by decide +kernel
theorem dX7_parse_21 : decode cX7_parse 21 = .ok (.invokevirtual 43, 3) := by decide +kernel
theorem dX7_parse_24 : decode cX7_parse 24 = .ok (.iconst 0, 1) := by decide +kernel
theorem dX7_parse_25 : decode cX7_parse 25 = .ok (.istore_n 1, 1) := by decide +kernel
theorem dX7_parse_26 : decode cX7_parse 26 = .ok (.iload_n 1, 1) := by decide +kernel
theorem dX7_parse_27 : decode cX7_parse 27 = .ok (.sipush 600, 3) := by decide +kernel
theorem dX7_parse_30 : decode cX7_parse 30 = .ok (.if_icmp .gt 29, 3) := by decide +kernel
theorem dX7_parse_33 : decode cX7_parse 33 = .ok (.aload_n 0, 1) := by decide +kernel
theorem dX7_parse_34 : decode cX7_parse 34 = .ok (.getfield 40, 3) := by decide +kernel
theorem dX7_parse_37 : decode cX7_parse 37 = .ok (.ifCond .ne 22, 3) := by decide +kernel
theorem dX7_parse_40 : decode cX7_parse 40 = .ok (.aload_n 0, 1) := by decide +kernel
theorem dX7_parse_41 : decode cX7_parse 41 = .ok (.getfield 46, 3) := by decide +kernel
theorem dX7_parse_44 : decode cX7_parse 44 = .ok (.bipush 9, 2) := by decide +kernel
theorem dX7_parse_46 : decode cX7_parse 46 = .ok (.if_icmp .eq 13, 3) := by decide +kernel
theorem dX7_parse_49 : decode cX7_parse 49 = .ok (.aload_n 0, 1) := by decide +kernel
theorem dX7_parse_50 : decode cX7_parse 50 = .ok (.invokevirtual 49, 3) := by decide +kernel
theorem dX7_parse_53 : decode cX7_parse 53 = .ok (.iinc 1 1, 3) := by decide +kernel
theorem dX7_parse_56 : decode cX7_parse 56 = .ok (.goto (-30), 3) := by decide +kernel
theorem dX7_parse_59 : decode cX7_parse 59 = .ok (.aload_n 0, 1) := by decide +kernel
theorem dX7_parse_60 : decode cX7_parse 60 = .ok (.getfield 40, 3) := by decide +kernel
theorem dX7_parse_63 : decode cX7_parse 63 = .ok (.ifCond .ne 7, 3) := by decide +kernel
theorem dX7_parse_66 : decode cX7_parse 66 = .ok (.iconst 1, 1) := by decide +kernel
theorem dX7_parse_67 : decode cX7_parse 67 = .ok (.goto 4, 3) := by decide +kernel
theorem dX7_parse_70 : decode cX7_parse 70 = .ok (.iconst 0, 1) := by decide +kernel
theorem dX7_parse_71 : decode cX7_parse 71 = .ok (.ireturn, 1) := by decide +kernel
theorem dX7_parseCommand_0 : decode cX7_parseCommand 0 = .ok (.aload_n 0, 1) := by decide +kernel
theorem dX7_parseCommand_1 : decode cX7_parseCommand 1 = .ok (.getfield 46, 3) := by decide +kernel
theorem dX7_parseCommand_4 : decode cX7_parseCommand 4 = .ok (.istore_n 1, 1) := by decide +kernel
theorem dX7_parseCommand_5 : decode cX7_parseCommand 5 = .ok (.iload_n 1, 1) := by decide +kernel
theorem dX7_parseCommand_6 : decode cX7_parseCommand 6 = .ok (.iconst 1, 1) := by decide +kernel
theorem dX7_parseCommand_7 : decode cX7_parseCommand 7 = .ok (.if_icmp .eq 19, 3) := by decide +kernel
theorem dX7_parseCommand_10 : decode cX7_parseCommand 10 = .ok (.iload_n 1, 1) := by decide +kernel
theorem dX7_parseCommand_11 : decode cX7_parseCommand 11 = .ok (.iconst 2, 1) := by decide +kernel
theorem dX7_parseCommand_12 : decode cX7_parseCommand 12 = .ok (.if_icmp .eq 14, 3) := by decide +kernel
theorem dX7_parseCommand_15 : decode cX7_parseCommand 15 = .ok (.iload_n 1, 1) := by decide +kernel
theorem dX7_parseCommand_16 : decode cX7_parseCommand 16 = .ok (.iconst 3, 1) := by decide +kernel
theorem dX7_parseCommand_17 : decode cX7_parseCommand 17 = .ok (.if_icmp .eq 9, 3) := by decide +kernel
theorem dX7_parseCommand_20 : decode cX7_parseCommand 20 = .ok (.aload_n 0, 1) := by decide +kernel
theorem dX7_parseCommand_21 : decode cX7_parseCommand 21 = .ok (.iconst 1, 1) := by decide +kernel
theorem dX7_parseCommand_22 : decode cX7_parseCommand 22 = .ok (.invokevirtual 52, 3) := by decide +kernel
theorem dX7_parseCommand_25 : decode cX7_parseCommand 25 = .ok (.return_, 1) := by decide +kernel
theorem dX7_parseCommand_26 : decode cX7_parseCommand 26 = .ok (.aload_n 0, 1) := by decide +kernel
theorem dX7_parseCommand_27 : decode cX7_parseCommand 27 = .ok (.getfield 34, 3) := by decide +kernel
theorem dX7_parseCommand_30 : decode cX7_parseCommand 30 = .ok (.bipush 40, 2) := by decide +kernel
theorem dX7_parseCommand_32 : decode cX7_parseCommand 32 = .ok (.if_icmp .lt 9, 3) := by decide +kernel
theorem dX7_parseCommand_35 : decode cX7_parseCommand 35 = .ok (.aload_n 0, 1) := by decide +kernel
theorem dX7_parseCommand_36 : decode cX7_parseCommand 36 = .ok (.iconst 3, 1) := by decide +kernel
theorem dX7_parseCommand_37 : decode cX7_parseCommand 37 = .ok (.invokevirtual 52, 3) := by decide +kernel
theorem dX7_parseCommand_40 : decode cX7_parseCommand 40 = .ok (.return_, 1) := by decide +kernel
theorem dX7_parseCommand_41 : decode cX7_parseCommand 41 = .ok (.aload_n 0, 1) := by decide +kernel
theorem dX7_parseCommand_42 : decode cX7_parseCommand 42 = .ok (.invokevirtual 43, 3) := by decide +kernel
theorem dX7_parseCommand_45 : decode cX7_parseCommand 45 = .ok (.iconst (-1), 1) := by decide +kernel
theorem dX7_parseCommand_46 : decode cX7_parseCommand 46 = .ok (.istore_n 2, 1) := by decide +kernel
theorem dX7_parseCommand_47 : decode cX7_parseCommand 47 = .ok (.iload_n 1, 1) := by decide +kernel
theorem dX7_parseCommand_48 : decode cX7_parseCommand 48 = .ok (.iconst 3, 1) := by decide +kernel
theorem dX7_parseCommand_49 : decode cX7_parseCommand 49 = .ok (.if_icmp .ne 14, 3) := by decide +kernel
theorem dX7_parseCommand_52 : decode cX7_parseCommand 52 = .ok (.aload_n 0, 1) := by decide +kernel
theorem dX7_parseCommand_53 : decode cX7_parseCommand 53 = .ok (.iconst 1, 1) := by decide +kernel
theorem dX7_parseCommand_54 : decode cX7_parseCommand 54 = .ok (.bipush 40, 2) := by decide +kernel
theorem dX7_parseCommand_56 : decode cX7_parseCommand 56 = .ok (.invokevirtual 56, 3) := by decide +kernel
theorem dX7_parseCommand_59 : decode cX7_parseCommand 59 = .ok (.istore_n 3, 1) := by decide +kernel
theorem dX7_parseCommand_60 : decode cX7_parseCommand 60 = .ok (.goto 19, 3) := by decide +kernel
theorem dX7_parseCommand_63 : decode cX7_parseCommand 63 = .ok (.aload_n 0, 1) := by decide +kernel
theorem dX7_parseCommand_64 : decode cX7_parseCommand 64 = .ok (.iconst 0, 1) := by decide +kernel
theorem dX7_parseCommand_65 : decode cX7_parseCommand 65 = .ok (.iconst 3, 1) := by decide +kernel
theorem dX7_parseCommand_66 : decode cX7_parseCommand 66 = .ok (.invokevirtual 56, 3) := by decide +kernel
theorem dX7_parseCommand_69 : decode cX7_parseCommand 69 = .ok (.istore_n 2, 1) := by decide +kernel
theorem dX7_parseCommand_70 : decode cX7_parseCommand 70 = .ok (.aload_n 0, 1) := by decide +kernel
theorem dX7_parseCommand_71 : decode cX7_parseCommand 71 = .ok (.iconst 0, 1) := by decide +kernel
theorem dX7_parseCommand_72 : decode cX7_parseCommand 72 = .ok (.sipush 199, 3) := by decide +kernel
theorem dX7_parseCommand_75 : decode cX7_parseCommand 75 = .ok (.invokevirtual 56, 3) := by decide +kernel
theorem dX7_parseCommand_78 : decode cX7_parseCommand 78 = .ok (.istore_n 3, 1) := by decide +kernel
theorem dX7_parseCommand_79 : decode cX7_parseCommand 79 = .ok (.iload_n 3, 1) := by decide +kernel
theorem dX7_parseCommand_80 : decode cX7_parseCommand 80 = .ok (.istore 4, 2) := by decide +kernel
theorem dX7_parseCommand_82 : decode cX7_parseCommand 82 = .ok (.iload_n 1, 1) := by decide +kernel
theorem dX7_parseCommand_83 : decode cX7_parseCommand 83 = .ok (.iconst 2, 1) := by decide +kernel
theorem dX7_parseCommand_84 : decode cX7_parseCommand 84 = .ok (.if_icmp .ne 16, 3) := by decide +kernel
theorem dX7_parseCommand_87 : decode cX7_parseCommand 87 = .ok (.aload_n 0, 1) := by decide +kernel
theorem dX7_parseCommand_88 : decode cX7_parseCommand 88 = .ok (.iconst 0, 1) := by decide +kernel
theorem dX7_parseCommand_89 : decode cX7_parseCommand 89 = .ok (.sipush 999, 3) := by decide +kernel
theorem dX7_parseCommand_92 : decode cX7_parseCommand 92 = .ok (.invokevirtual 56, 3) := by decide +kernel
theorem dX7_parseCommand_95 : decode cX7_parseCommand 95 = .ok (.istore 4, 2) := by decide +kernel
theorem dX7_parseCommand_97 : decode cX7_parseCommand 97 = .ok (.goto 37, 3) := by decide +kernel
theorem dX7_parseCommand_100 : decode cX7_parseCommand 100 = .ok (.iload_n 1, 1) := by decide +kernel
theorem dX7_parseCommand_101 : decode cX7_parseCommand 101 = .ok (.iconst 1, 1) := by decide +kernel
theorem dX7_parseCommand_102 : decode cX7_parseCommand 102 = .ok (.if_icmp .ne 32, 3) := by decide +kernel
theorem dX7_parseCommand_105 : decode cX7_parseCommand 105 = .ok (.aload_n 0, 1) := by decide +kernel
theorem dX7_parseCommand_106 : decode cX7_parseCommand 106 = .ok (.getfield 40, 3) := by decide +kernel
theorem dX7_parseCommand_109 : decode cX7_parseCommand 109 = .ok (.ifCond .ne 25, 3) := by decide +kernel
theorem dX7_parseCommand_112 : decode cX7_parseCommand 112 = .ok (.aload_n 0, 1) := by decide +kernel
theorem dX7_parseCommand_113 : decode cX7_parseCommand 113 = .ok (.getfield 46, 3) := by decide +kernel
theorem dX7_parseCommand_116 : decode cX7_parseCommand 116 = .ok (.iconst 4, 1) := by decide +kernel
theorem dX7_parseCommand_117 : decode cX7_parseCommand 117 = .ok (.if_icmp .ne 17, 3) := by decide +kernel
theorem dX7_parseCommand_120 : decode cX7_parseCommand 120 = .ok (.aload_n 0, 1) := by decide +kernel
theorem dX7_parseCommand_121 : decode cX7_parseCommand 121 = .ok (.invokevirtual 43, 3) := by decide +kernel
theorem dX7_parseCommand_124 : decode cX7_parseCommand 124 = .ok (.aload_n 0, 1) := by decide +kernel
theorem dX7_parseCommand_125 : decode cX7_parseCommand 125 = .ok (.iload_n 3, 1) := by decide +kernel
theorem dX7_parseCommand_126 : decode cX7_parseCommand 126 = .ok (.sipush 199, 3) := by decide +kernel
theorem dX7_parseCommand_129 : decode cX7_parseCommand 129 = .ok (.invokevirtual 56, 3) := by decide +kernel
theorem dX7_parseCommand_132 : decode cX7_parseCommand 132 = .ok (.istore 4, 2) := by decide +kernel
theorem dX7_parseCommand_134 : decode cX7_parseCommand 134 = .ok (.aload_n 0, 1) := by decide +kernel
theorem dX7_parseCommand_135 : decode cX7_parseCommand 135 = .ok (.invokevirtual 60, 3) := by decide +kernel
theorem dX7_parseCommand_138 : decode cX7_parseCommand 138 = .ok (.aload_n 0, 1) := by decide +kernel
theorem dX7_parseCommand_139 : decode cX7_parseCommand 139 = .ok (.getfield 15, 3) := by decide +kernel
theorem dX7_parseCommand_142 : decode cX7_parseCommand 142 = .ok (.aload_n 0, 1) := by decide +kernel
theorem dX7_parseCommand_143 : decode cX7_parseCommand 143 = .ok (.getfield 34, 3) := by decide +kernel
theorem dX7_parseCommand_146 : decode cX7_parseCommand 146 = .ok (.iload_n 1, 1) := by decide +kernel
theorem dX7_parseCommand_147 : decode cX7_parseCommand 147 = .ok (.iastore, 1) := by decide +kernel
theorem dX7_parseCommand_148 : decode cX7_parseCommand 148 = .ok (.aload_n 0, 1) := by decide +kernel
theorem dX7_parseCommand_149 : decode cX7_parseCommand 149 = .ok (.getfield 18, 3) := by decide +kernel
theorem dX7_parseCommand_152 : decode cX7_parseCommand 152 = .ok (.aload_n 0, 1) := by decide +kernel
theorem dX7_parseCommand_153 : decode cX7_parseCommand 153 = .ok (.getfield 34, 3) := by decide +kernel
theorem dX7_parseCommand_156 : decode cX7_parseCommand 156 = .ok (.iload_n 2, 1) := by decide +kernel
theorem dX7_parseCommand_157 : decode cX7_parseCommand 157 = .ok (.iastore, 1) := by decide +kernel
theorem dX7_parseCommand_158 : decode cX7_parseCommand 158 = .ok (.aload_n 0, 1) := by decide +kernel
theorem dX7_parseCommand_159 : decode cX7_parseCommand 159 = .ok (.getfield 21, 3) := by decide +kernel
theorem dX7_parseCommand_162 : decode cX7_parseCommand 162 = .ok (.aload_n 0, 1) := by decide +kernel
theorem dX7_parseCommand_163 : decode cX7_parseCommand 163 = .ok (.getfield 34, 3) := by decide +kernel
theorem dX7_parseCommand_166 : decode cX7_parseCommand 166 = .ok (.iload_n 3, 1) := by decide +kernel
theorem dX7_parseCommand_167 : decode cX7_parseCommand 167 = .ok (.iastore, 1) := by decide +kernel
theorem dX7_parseCommand_168 : decode cX7_parseCommand 168 = .ok (.aload_n 0, 1) := by decide +kernel
theorem dX7_parseCommand_169 : decode cX7_parseCommand 169 = .ok (.getfield 24, 3) := by decide +kernel
theorem dX7_parseCommand_172 : decode cX7_parseCommand 172 = .ok (.aload_n 0, 1) := by decide +kernel
theorem dX7_parseCommand_173 : decode cX7_parseCommand 173 = .ok (.getfield 34, 3) := by decide +kernel
theorem dX7_parseCommand_176 : decode cX7_parseCommand 176 = .ok (.iload 4, 2) := by decide +kernel
theorem dX7_parseCommand_178 : decode cX7_parseCommand 178 = .ok (.iastore, 1) := by decide +kernel
theorem dX7_parseCommand_179 : decode cX7_parseCommand 179 = .ok (.aload_n 0, 1) := by decide +kernel
theorem dX7_parseCommand_180 : decode cX7_parseCommand 180 = .ok (.dup, 1) := by decide +kernel
theorem dX7_parseCommand_181 : decode cX7_parseCommand 181 = .ok (.getfield 34, 3) := by decide +kernel
theorem dX7_parseCommand_184 : decode cX7_parseCommand 184 = .ok (.iconst 1, 1) := by decide +kernel
theorem dX7_parseCommand_185 : decode cX7_parseCommand 185 = .ok (.iadd, 1) := by decide +kernel
theorem dX7_parseCommand_186 : decode cX7_parseCommand 186 = .ok (.putfield 34, 3) := by decide +kernel
theorem dX7_parseCommand_189 : decode cX7_parseCommand 189 = .ok (.return_, 1) := by decide +kernel
theorem dX7_fail_0 : decode cX7_fail 0 = .ok (.aload_n 0, 1) := by decide +kernel
theorem dX7_fail_1 : decode cX7_fail 1 = .ok (.iload_n 1, 1) := by decide +kernel
theorem dX7_fail_2 : decode cX7_fail 2 = .ok (.putfield 40, 3) := by decide +kernel
theorem dX7_fail_5 : decode cX7_fail 5 = .ok (.aload_n 0, 1) := by decide +kernel
theorem dX7_fail_6 : decode cX7_fail 6 = .ok (.aload_n 0, 1) := by decide +kernel
theorem dX7_fail_7 : decode cX7_fail 7 = .ok (.getfield 63, 3) := by decide +kernel
theorem dX7_fail_10 : decode cX7_fail 10 = .ok (.putfield 27, 3) := by decide +kernel
theorem dX7_fail_13 : decode cX7_fail 13 = .ok (.return_, 1) := by decide +kernel
theorem dX7_takeNumber_0 : decode cX7_takeNumber 0 = .ok (.aload_n 0, 1) := by decide +kernel
theorem dX7_takeNumber_1 : decode cX7_takeNumber 1 = .ok (.getfield 40, 3) := by decide +kernel
theorem dX7_takeNumber_4 : decode cX7_takeNumber 4 = .ok (.ifCond .eq 5, 3) := by decide +kernel
theorem dX7_takeNumber_7 : decode cX7_takeNumber 7 = .ok (.iconst (-1), 1) := by decide +kernel
theorem dX7_takeNumber_8 : decode cX7_takeNumber 8 = .ok (.ireturn, 1) := by decide +kernel
theorem dX7_takeNumber_9 : decode cX7_takeNumber 9 = .ok (.aload_n 0, 1) := by decide +kernel
theorem dX7_takeNumber_10 : decode cX7_takeNumber 10 = .ok (.getfield 46, 3) := by decide +kernel
theorem dX7_takeNumber_13 : decode cX7_takeNumber 13 = .ok (.bipush 6, 2) := by decide +kernel
theorem dX7_takeNumber_15 : decode cX7_takeNumber 15 = .ok (.if_icmp .eq 10, 3) := by decide +kernel
theorem dX7_takeNumber_18 : decode cX7_takeNumber 18 = .ok (.aload_n 0, 1) := by decide +kernel
theorem dX7_takeNumber_19 : decode cX7_takeNumber 19 = .ok (.iconst 1, 1) := by decide +kernel
theorem dX7_takeNumber_20 : decode cX7_takeNumber 20 = .ok (.invokevirtual 52, 3) := by decide +kernel
theorem dX7_takeNumber_23 : decode cX7_takeNumber 23 = .ok (.iconst (-1), 1) := by decide +kernel
theorem dX7_takeNumber_24 : decode cX7_takeNumber 24 = .ok (.ireturn, 1) := by decide +kernel
theorem dX7_takeNumber_25 : decode cX7_takeNumber 25 = .ok (.aload_n 0, 1) := by decide +kernel
theorem dX7_takeNumber_26 : decode cX7_takeNumber 26 = .ok (.getfield 66, 3) := by decide +kernel
theorem dX7_takeNumber_29 : decode cX7_takeNumber 29 = .ok (.iload_n 1, 1) := by decide +kernel
theorem dX7_takeNumber_30 : decode cX7_takeNumber 30 = .ok (.if_icmp .lt 11, 3) := by decide +kernel
theorem dX7_takeNumber_33 : decode cX7_takeNumber 33 = .ok (.aload_n 0, 1) := by decide +kernel
theorem dX7_takeNumber_34 : decode cX7_takeNumber 34 = .ok (.getfield 66, 3) := by decide +kernel
theorem dX7_takeNumber_37 : decode cX7_takeNumber 37 = .ok (.iload_n 2, 1) := by decide +kernel
theorem dX7_takeNumber_38 : decode cX7_takeNumber 38 = .ok (.if_icmp .le 10, 3) := by decide +kernel
theorem dX7_takeNumber_41 : decode cX7_takeNumber 41 = .ok (.aload_n 0, 1) := by decide +kernel
theorem dX7_takeNumber_42 : decode cX7_takeNumber 42 = .ok (.iconst 2, 1) := by decide +kernel
theorem dX7_takeNumber_43 : decode cX7_takeNumber 43 = .ok (.invokevirtual 52, 3) := by decide +kernel
theorem dX7_takeNumber_46 : decode cX7_takeNumber 46 = .ok (.iconst (-1), 1) := by decide +kernel
theorem dX7_takeNumber_47 : decode cX7_takeNumber 47 = .ok (.ireturn, 1) := by decide +kernel
theorem dX7_takeNumber_48 : decode cX7_takeNumber 48 = .ok (.aload_n 0, 1) := by decide +kernel
theorem dX7_takeNumber_49 : decode cX7_takeNumber 49 = .ok (.getfield 66, 3) := by decide +kernel
theorem dX7_takeNumber_52 : decode cX7_takeNumber 52 = .ok (.istore_n 3, 1) := by decide +kernel
theorem dX7_takeNumber_53 : decode cX7_takeNumber 53 = .ok (.aload_n 0, 1) := by decide +kernel
theorem dX7_takeNumber_54 : decode cX7_takeNumber 54 = .ok (.invokevirtual 43, 3) := by decide +kernel
theorem dX7_takeNumber_57 : decode cX7_takeNumber 57 = .ok (.iload_n 3, 1) := by decide +kernel
theorem dX7_takeNumber_58 : decode cX7_takeNumber 58 = .ok (.ireturn, 1) := by decide +kernel
theorem dX7_takeSemicolon_0 : decode cX7_takeSemicolon 0 = .ok (.aload_n 0, 1) := by decide +kernel
theorem dX7_takeSemicolon_1 : decode cX7_takeSemicolon 1 = .ok (.getfield 40, 3) := by decide +kernel
theorem dX7_takeSemicolon_4 : decode cX7_takeSemicolon 4 = .ok (.ifCond .eq 4, 3) := by decide +kernel
theorem dX7_takeSemicolon_7 : decode cX7_takeSemicolon 7 = .ok (.return_, 1) := by decide +kernel
theorem dX7_takeSemicolon_8 : decode cX7_takeSemicolon 8 = .ok (.aload_n 0, 1) := by decide +kernel
theorem dX7_takeSemicolon_9 : decode cX7_takeSemicolon 9 = .ok (.getfield 46, 3) := by decide +kernel
theorem dX7_takeSemicolon_12 : decode cX7_takeSemicolon 12 = .ok (.bipush 7, 2) := by decide +kernel
theorem dX7_takeSemicolon_14 : decode cX7_takeSemicolon 14 = .ok (.if_icmp .ne 10, 3) := by decide +kernel
theorem dX7_takeSemicolon_17 : decode cX7_takeSemicolon 17 = .ok (.aload_n 0, 1) := by decide +kernel
theorem dX7_takeSemicolon_18 : decode cX7_takeSemicolon 18 = .ok (.invokevirtual 43, 3) := by decide +kernel
theorem dX7_takeSemicolon_21 : decode cX7_takeSemicolon 21 = .ok (.goto 8, 3) := by decide +kernel
theorem dX7_takeSemicolon_24 : decode cX7_takeSemicolon 24 = .ok (.aload_n 0, 1) := by decide +kernel
theorem dX7_takeSemicolon_25 : decode cX7_takeSemicolon 25 = .ok (.iconst 1, 1) := by decide +kernel
theorem dX7_takeSemicolon_26 : decode cX7_takeSemicolon 26 = .ok (.invokevirtual 52, 3) := by decide +kernel
theorem dX7_takeSemicolon_29 : decode cX7_takeSemicolon 29 = .ok (.return_, 1) := by decide +kernel
theorem dX7_nextToken_0 : decode cX7_nextToken 0 = .ok (.aload_n 0, 1) := by decide +kernel
theorem dX7_nextToken_1 : decode cX7_nextToken 1 = .ok (.getfield 37, 3) := by decide +kernel
theorem dX7_nextToken_4 : decode cX7_nextToken 4 = .ok (.aload_n 0, 1) := by decide +kernel
theorem dX7_nextToken_5 : decode cX7_nextToken 5 = .ok (.getfield 31, 3) := by decide +kernel
theorem dX7_nextToken_8 : decode cX7_nextToken 8 = .ok (.if_icmp .ge 30, 3) := by decide +kernel
theorem dX7_nextToken_11 : decode cX7_nextToken 11 = .ok (.aload_n 0, 1) := by decide +kernel
theorem dX7_nextToken_12 : decode cX7_nextToken 12 = .ok (.aload_n 0, 1) := by decide +kernel
theorem dX7_nextToken_13 : decode cX7_nextToken 13 = .ok (.getfield 37, 3) := by decide +kernel
theorem dX7_nextToken_16 : decode cX7_nextToken 16 = .ok (.invokevirtual 69, 3) := by decide +kernel
theorem dX7_nextToken_19 : decode cX7_nextToken 19 = .ok (.invokestatic 73, 3) := by decide +kernel
theorem dX7_nextToken_22 : decode cX7_nextToken 22 = .ok (.ifCond .eq 16, 3) := by decide +kernel
theorem dX7_nextToken_25 : decode cX7_nextToken 25 = .ok (.aload_n 0, 1) := by decide +kernel
theorem dX7_nextToken_26 : decode cX7_nextToken 26 = .ok (.dup, 1) := by decide +kernel
theorem dX7_nextToken_27 : decode cX7_nextToken 27 = .ok (.getfield 37, 3) := by decide +kernel
theorem dX7_nextToken_30 : decode cX7_nextToken 30 = .ok (.iconst 1, 1) := by decide +kernel
theorem dX7_nextToken_31 : decode cX7_nextToken 31 = .ok (.iadd, 1) := by decide +kernel
theorem dX7_nextToken_32 : decode cX7_nextToken 32 = .ok (.putfield 37, 3) := by decide +kernel
theorem dX7_nextToken_35 : decode cX7_nextToken 35 = .ok (.goto (-35), 3) := by decide +kernel
theorem dX7_nextToken_38 : decode cX7_nextToken 38 = .ok (.aload_n 0, 1) := by decide +kernel
theorem dX7_nextToken_39 : decode cX7_nextToken 39 = .ok (.aload_n 0, 1) := by decide +kernel
theorem dX7_nextToken_40 : decode cX7_nextToken 40 = .ok (.getfield 37, 3) := by decide +kernel
theorem dX7_nextToken_43 : decode cX7_nextToken 43 = .ok (.putfield 63, 3) := by decide +kernel
theorem dX7_nextToken_46 : decode cX7_nextToken 46 = .ok (.aload_n 0, 1) := by decide +kernel
theorem dX7_nextToken_47 : decode cX7_nextToken 47 = .ok (.getfield 37, 3) := by decide +kernel
theorem dX7_nextToken_50 : decode cX7_nextToken 50 = .ok (.aload_n 0, 1) := by decide +kernel
theorem dX7_nextToken_51 : decode cX7_nextToken 51 = .ok (.getfield 31, 3) := by decide +kernel
theorem dX7_nextToken_54 : decode cX7_nextToken 54 = .ok (.if_icmp .lt 10, 3) := by decide +kernel
theorem dX7_nextToken_57 : decode cX7_nextToken 57 = .ok (.aload_n 0, 1) := by decide +kernel
theorem dX7_nextToken_58 : decode cX7_nextToken 58 = .ok (.bipush 9, 2) := by decide +kernel
theorem dX7_nextToken_60 : decode cX7_nextToken 60 = .ok (.putfield 46, 3) := by decide +kernel
theorem dX7_nextToken_63 : decode cX7_nextToken 63 = .ok (.return_, 1) := by decide +kernel
theorem dX7_nextToken_64 : decode cX7_nextToken 64 = .ok (.aload_n 0, 1) := by decide +kernel
theorem dX7_nextToken_65 : decode cX7_nextToken 65 = .ok (.aload_n 0, 1) := by decide +kernel
theorem dX7_nextToken_66 : decode cX7_nextToken 66 = .ok (.getfield 37, 3) := by decide +kernel
theorem dX7_nextToken_69 : decode cX7_nextToken 69 = .ok (.invokevirtual 69, 3) := by decide +kernel
theorem dX7_nextToken_72 : decode cX7_nextToken 72 = .ok (.istore_n 1, 1) := by decide +kernel
theorem dX7_nextToken_73 : decode cX7_nextToken 73 = .ok (.iload_n 1, 1) := by decide +kernel
theorem dX7_nextToken_74 : decode cX7_nextToken 74 = .ok (.invokestatic 77, 3) := by decide +kernel
theorem dX7_nextToken_77 : decode cX7_nextToken 77 = .ok (.ifCond .eq 10, 3) := by decide +kernel
theorem dX7_nextToken_80 : decode cX7_nextToken 80 = .ok (.aload_n 0, 1) := by decide +kernel
theorem dX7_nextToken_81 : decode cX7_nextToken 81 = .ok (.invokevirtual 80, 3) := by decide +kernel
theorem dX7_nextToken_84 : decode cX7_nextToken 84 = .ok (.goto 44, 3) := by decide +kernel
theorem dX7_nextToken_87 : decode cX7_nextToken 87 = .ok (.iload_n 1, 1) := by decide +kernel
theorem dX7_nextToken_88 : decode cX7_nextToken 88 = .ok (.invokestatic 83, 3) := by decide +kernel
theorem dX7_nextToken_91 : decode cX7_nextToken 91 = .ok (.ifCond .eq 10, 3) := by decide +kernel
theorem dX7_nextToken_94 : decode cX7_nextToken 94 = .ok (.aload_n 0, 1) := by decide +kernel
theorem dX7_nextToken_95 : decode cX7_nextToken 95 = .ok (.invokevirtual 86, 3) := by decide +kernel
theorem dX7_nextToken_98 : decode cX7_nextToken 98 = .ok (.goto 30, 3) := by decide +kernel
theorem dX7_nextToken_101 : decode cX7_nextToken 101 = .ok (.aload_n 0, 1) := by decide +kernel
theorem dX7_nextToken_102 : decode cX7_nextToken 102 = .ok (.iload_n 1, 1) := by decide +kernel
theorem dX7_nextToken_103 : decode cX7_nextToken 103 = .ok (.bipush 59, 2) := by decide +kernel
theorem dX7_nextToken_105 : decode cX7_nextToken 105 = .ok (.if_icmp .ne 8, 3) := by decide +kernel
theorem dX7_nextToken_108 : decode cX7_nextToken 108 = .ok (.bipush 7, 2) := by decide +kernel
theorem dX7_nextToken_110 : decode cX7_nextToken 110 = .ok (.goto 5, 3) := by decide +kernel
theorem dX7_nextToken_113 : decode cX7_nextToken 113 = .ok (.bipush 8, 2) := by decide +kernel
theorem dX7_nextToken_115 : decode cX7_nextToken 115 = .ok (.putfield 46, 3) := by decide +kernel
theorem dX7_nextToken_118 : decode cX7_nextToken 118 = .ok (.aload_n 0, 1) := by decide +kernel
theorem dX7_nextToken_119 : decode cX7_nextToken 119 = .ok (.dup, 1) := by decide +kernel
theorem dX7_nextToken_120 : decode cX7_nextToken 120 = .ok (.getfield 37, 3) := by decide +kernel
theorem dX7_nextToken_123 : decode cX7_nextToken 123 = .ok (.iconst 1, 1) := by decide +kernel
theorem dX7_nextToken_124 : decode cX7_nextToken 124 = .ok (.iadd, 1) := by decide +kernel
theorem dX7_nextToken_125 : decode cX7_nextToken 125 = .ok (.putfield 37, 3) := by decide +kernel
theorem dX7_nextToken_128 : decode cX7_nextToken 128 = .ok (.return_, 1) := by decide +kernel
theorem dX7_readWord_0 : decode cX7_readWord 0 = .ok (.aload_n 0, 1) := by decide +kernel
theorem dX7_readWord_1 : decode cX7_readWord 1 = .ok (.getfield 37, 3) := by decide +kernel
theorem dX7_readWord_4 : decode cX7_readWord 4 = .ok (.aload_n 0, 1) := by decide +kernel
theorem dX7_readWord_5 : decode cX7_readWord 5 = .ok (.getfield 31, 3) := by decide +kernel
theorem dX7_readWord_8 : decode cX7_readWord 8 = .ok (.if_icmp .ge 30, 3) := by decide +kernel
theorem dX7_readWord_11 : decode cX7_readWord 11 = .ok (.aload_n 0, 1) := by decide +kernel
theorem dX7_readWord_12 : decode cX7_readWord 12 = .ok (.aload_n 0, 1) := by decide +kernel
theorem dX7_readWord_13 : decode cX7_readWord 13 = .ok (.getfield 37, 3) := by decide +kernel
theorem dX7_readWord_16 : decode cX7_readWord 16 = .ok (.invokevirtual 69, 3) := by decide +kernel
theorem dX7_readWord_19 : decode cX7_readWord 19 = .ok (.invokestatic 77, 3) := by decide +kernel
theorem dX7_readWord_22 : decode cX7_readWord 22 = .ok (.ifCond .eq 16, 3) := by decide +kernel
theorem dX7_readWord_25 : decode cX7_readWord 25 = .ok (.aload_n 0, 1) := by decide +kernel
theorem dX7_readWord_26 : decode cX7_readWord 26 = .ok (.dup, 1) := by decide +kernel
theorem dX7_readWord_27 : decode cX7_readWord 27 = .ok (.getfield 37, 3) := by decide +kernel
theorem dX7_readWord_30 : decode cX7_readWord 30 = .ok (.iconst 1, 1) := by decide +kernel
theorem dX7_readWord_31 : decode cX7_readWord 31 = .ok (.iadd, 1) := by decide +kernel
theorem dX7_readWord_32 : decode cX7_readWord 32 = .ok (.putfield 37, 3) := by decide +kernel
theorem dX7_readWord_35 : decode cX7_readWord 35 = .ok (.goto (-35), 3) := by decide +kernel
theorem dX7_readWord_38 : decode cX7_readWord 38 = .ok (.aload_n 0, 1) := by decide +kernel
theorem dX7_readWord_39 : decode cX7_readWord 39 = .ok (.ldc 89, 2) := by decide +kernel
theorem dX7_readWord_41 : decode cX7_readWord 41 = .ok (.invokevirtual 91, 3) := by decide +kernel
theorem dX7_readWord_44 : decode cX7_readWord 44 = .ok (.ifCond .eq 11, 3) := by decide +kernel
theorem dX7_readWord_47 : decode cX7_readWord 47 = .ok (.aload_n 0, 1) := by decide +kernel
theorem dX7_readWord_48 : decode cX7_readWord 48 = .ok (.iconst 1, 1) := by decide +kernel
theorem dX7_readWord_49 : decode cX7_readWord 49 = .ok (.putfield 46, 3) := by decide +kernel
theorem dX7_readWord_52 : decode cX7_readWord 52 = .ok (.goto 59, 3) := by decide +kernel
theorem dX7_readWord_55 : decode cX7_readWord 55 = .ok (.aload_n 0, 1) := by decide +kernel
theorem dX7_readWord_56 : decode cX7_readWord 56 = .ok (.ldc 95, 2) := by decide +kernel
theorem dX7_readWord_58 : decode cX7_readWord 58 = .ok (.invokevirtual 91, 3) := by decide +kernel
theorem dX7_readWord_61 : decode cX7_readWord 61 = .ok (.ifCond .eq 11, 3) := by decide +kernel
theorem dX7_readWord_64 : decode cX7_readWord 64 = .ok (.aload_n 0, 1) := by decide +kernel
theorem dX7_readWord_65 : decode cX7_readWord 65 = .ok (.iconst 2, 1) := by decide +kernel
theorem dX7_readWord_66 : decode cX7_readWord 66 = .ok (.putfield 46, 3) := by decide +kernel
theorem dX7_readWord_69 : decode cX7_readWord 69 = .ok (.goto 42, 3) := by decide +kernel
theorem dX7_readWord_72 : decode cX7_readWord 72 = .ok (.aload_n 0, 1) := by decide +kernel
theorem dX7_readWord_73 : decode cX7_readWord 73 = .ok (.ldc 97, 2) := by decide +kernel
theorem dX7_readWord_75 : decode cX7_readWord 75 = .ok (.invokevirtual 91, 3) := by decide +kernel
theorem dX7_readWord_78 : decode cX7_readWord 78 = .ok (.ifCond .eq 11, 3) := by decide +kernel
theorem dX7_readWord_81 : decode cX7_readWord 81 = .ok (.aload_n 0, 1) := by decide +kernel
theorem dX7_readWord_82 : decode cX7_readWord 82 = .ok (.iconst 3, 1) := by decide +kernel
theorem dX7_readWord_83 : decode cX7_readWord 83 = .ok (.putfield 46, 3) := by decide +kernel
theorem dX7_readWord_86 : decode cX7_readWord 86 = .ok (.goto 25, 3) := by decide +kernel
theorem dX7_readWord_89 : decode cX7_readWord 89 = .ok (.aload_n 0, 1) := by decide +kernel
theorem dX7_readWord_90 : decode cX7_readWord 90 = .ok (.ldc 99, 2) := by decide +kernel
theorem dX7_readWord_92 : decode cX7_readWord 92 = .ok (.invokevirtual 91, 3) := by decide +kernel
theorem dX7_readWord_95 : decode cX7_readWord 95 = .ok (.ifCond .eq 11, 3) := by decide +kernel
theorem dX7_readWord_98 : decode cX7_readWord 98 = .ok (.aload_n 0, 1) := by decide +kernel
theorem dX7_readWord_99 : decode cX7_readWord 99 = .ok (.iconst 4, 1) := by decide +kernel
theorem dX7_readWord_100 : decode cX7_readWord 100 = .ok (.putfield 46, 3) := by decide +kernel
theorem dX7_readWord_103 : decode cX7_readWord 103 = .ok (.goto 8, 3) := by decide +kernel
theorem dX7_readWord_106 : decode cX7_readWord 106 = .ok (.aload_n 0, 1) := by decide +kernel
theorem dX7_readWord_107 : decode cX7_readWord 107 = .ok (.iconst 5, 1) := by decide +kernel
theorem dX7_readWord_108 : decode cX7_readWord 108 = .ok (.putfield 46, 3) := by decide +kernel
theorem dX7_readWord_111 : decode cX7_readWord 111 = .ok (.return_, 1) := by decide +kernel
theorem dX7_isWord_0 : decode cX7_isWord 0 = .ok (.aload_n 0, 1) := by decide +kernel
theorem dX7_isWord_1 : decode cX7_isWord 1 = .ok (.getfield 37, 3) := by decide +kernel
theorem dX7_isWord_4 : decode cX7_isWord 4 = .ok (.aload_n 0, 1) := by decide +kernel
theorem dX7_isWord_5 : decode cX7_isWord 5 = .ok (.getfield 63, 3) := by decide +kernel
theorem dX7_isWord_8 : decode cX7_isWord 8 = .ok (.isub, 1) := by decide +kernel
theorem dX7_isWord_9 : decode cX7_isWord 9 = .ok (.aload_n 1, 1) := by decide +kernel
theorem dX7_isWord_10 : decode cX7_isWord 10 = .ok (.invokevirtual 101, 3) := by decide +kernel
theorem dX7_isWord_13 : decode cX7_isWord 13 = .ok (.if_icmp .eq 5, 3) := by decide +kernel
theorem dX7_isWord_16 : decode cX7_isWord 16 = .ok (.iconst 0, 1) := by decide +kernel
theorem dX7_isWord_17 : decode cX7_isWord 17 = .ok (.ireturn, 1) := by decide +kernel
theorem dX7_isWord_18 : decode cX7_isWord 18 = .ok (.iconst 0, 1) := by decide +kernel
theorem dX7_isWord_19 : decode cX7_isWord 19 = .ok (.istore_n 2, 1) := by decide +kernel
theorem dX7_isWord_20 : decode cX7_isWord 20 = .ok (.iload_n 2, 1) := by decide +kernel
theorem dX7_isWord_21 : decode cX7_isWord 21 = .ok (.aload_n 1, 1) := by decide +kernel
theorem dX7_isWord_22 : decode cX7_isWord 22 = .ok (.invokevirtual 101, 3) := by decide +kernel
theorem dX7_isWord_25 : decode cX7_isWord 25 = .ok (.if_icmp .ge 43, 3) := by decide +kernel
theorem dX7_isWord_28 : decode cX7_isWord 28 = .ok (.aload_n 0, 1) := by decide +kernel
theorem dX7_isWord_29 : decode cX7_isWord 29 = .ok (.getfield 63, 3) := by decide +kernel
theorem dX7_isWord_32 : decode cX7_isWord 32 = .ok (.iload_n 2, 1) := by decide +kernel
theorem dX7_isWord_33 : decode cX7_isWord 33 = .ok (.iadd, 1) := by decide +kernel
theorem dX7_isWord_34 : decode cX7_isWord 34 = .ok (.istore_n 3, 1) := by decide +kernel
theorem dX7_isWord_35 : decode cX7_isWord 35 = .ok (.iload_n 3, 1) := by decide +kernel
theorem dX7_isWord_36 : decode cX7_isWord 36 = .ok (.ifCond .lt 24, 3) := by decide +kernel
theorem dX7_isWord_39 : decode cX7_isWord 39 = .ok (.iload_n 3, 1) := by decide +kernel
theorem dX7_isWord_40 : decode cX7_isWord 40 = .ok (.sipush 600, 3) := by decide +kernel
theorem dX7_isWord_43 : decode cX7_isWord 43 = .ok (.if_icmp .ge 17, 3) := by decide +kernel
theorem dX7_isWord_46 : decode cX7_isWord 46 = .ok (.aload_n 0, 1) := by decide +kernel
theorem dX7_isWord_47 : decode cX7_isWord 47 = .ok (.getfield 9, 3) := by decide +kernel
theorem dX7_isWord_50 : decode cX7_isWord 50 = .ok (.iload_n 3, 1) := by decide +kernel
theorem dX7_isWord_51 : decode cX7_isWord 51 = .ok (.iaload, 1) := by decide +kernel
theorem dX7_isWord_52 : decode cX7_isWord 52 = .ok (.aload_n 1, 1) := by decide +kernel
theorem dX7_isWord_53 : decode cX7_isWord 53 = .ok (.iload_n 2, 1) := by decide +kernel
theorem dX7_isWord_54 : decode cX7_isWord 54 = .ok (.invokevirtual 107, 3) := by decide +kernel
theorem dX7_isWord_57 : decode cX7_isWord 57 = .ok (.if_icmp .eq 5, 3) := by decide +kernel
theorem dX7_isWord_60 : decode cX7_isWord 60 = .ok (.iconst 0, 1) := by decide +kernel
theorem dX7_isWord_61 : decode cX7_isWord 61 = .ok (.ireturn, 1) := by decide +kernel
theorem dX7_isWord_62 : decode cX7_isWord 62 = .ok (.iinc 2 1, 3) := by decide +kernel
theorem dX7_isWord_65 : decode cX7_isWord 65 = .ok (.goto (-45), 3) := by decide +kernel
theorem dX7_isWord_68 : decode cX7_isWord 68 = .ok (.iconst 1, 1) := by decide +kernel
theorem dX7_isWord_69 : decode cX7_isWord 69 = .ok (.ireturn, 1) := by decide +kernel
theorem dX7_readNumber_0 : decode cX7_readNumber 0 = .ok (.aload_n 0, 1) := by decide +kernel
theorem dX7_readNumber_1 : decode cX7_readNumber 1 = .ok (.bipush 6, 2) := by decide +kernel
theorem dX7_readNumber_3 : decode cX7_readNumber 3 = .ok (.putfield 46, 3) := by decide +kernel
theorem dX7_readNumber_6 : decode cX7_readNumber 6 = .ok (.aload_n 0, 1) := by decide +kernel
theorem dX7_readNumber_7 : decode cX7_readNumber 7 = .ok (.iconst 0, 1) := by decide +kernel
theorem dX7_readNumber_8 : decode cX7_readNumber 8 = .ok (.putfield 66, 3) := by decide +kernel
theorem dX7_readNumber_11 : decode cX7_readNumber 11 = .ok (.aload_n 0, 1) := by decide +kernel
theorem dX7_readNumber_12 : decode cX7_readNumber 12 = .ok (.getfield 37, 3) := by decide +kernel
theorem dX7_readNumber_15 : decode cX7_readNumber 15 = .ok (.aload_n 0, 1) := by decide +kernel
theorem dX7_readNumber_16 : decode cX7_readNumber 16 = .ok (.getfield 31, 3) := by decide +kernel
theorem dX7_readNumber_19 : decode cX7_readNumber 19 = .ok (.if_icmp .ge 59, 3) := by decide +kernel
theorem dX7_readNumber_22 : decode cX7_readNumber 22 = .ok (.aload_n 0, 1) := by decide +kernel
theorem dX7_readNumber_23 : decode cX7_readNumber 23 = .ok (.aload_n 0, 1) := by decide +kernel
theorem dX7_readNumber_24 : decode cX7_readNumber 24 = .ok (.getfield 37, 3) := by decide +kernel
theorem dX7_readNumber_27 : decode cX7_readNumber 27 = .ok (.invokevirtual 69, 3) := by decide +kernel
theorem dX7_readNumber_30 : decode cX7_readNumber 30 = .ok (.invokestatic 83, 3) := by decide +kernel
theorem dX7_readNumber_33 : decode cX7_readNumber 33 = .ok (.ifCond .eq 45, 3) := by decide +kernel
theorem dX7_readNumber_36 : decode cX7_readNumber 36 = .ok (.aload_n 0, 1) := by decide +kernel
theorem dX7_readNumber_37 : decode cX7_readNumber 37 = .ok (.sipush 1000, 3) := by decide +kernel
theorem dX7_readNumber_40 : decode cX7_readNumber 40 = .ok (.aload_n 0, 1) := by decide +kernel
theorem dX7_readNumber_41 : decode cX7_readNumber 41 = .ok (.getfield 66, 3) := by decide +kernel
theorem dX7_readNumber_44 : decode cX7_readNumber 44 = .ok (.bipush 10, 2) := by decide +kernel
theorem dX7_readNumber_46 : decode cX7_readNumber 46 = .ok (.imul, 1) := by decide +kernel
theorem dX7_readNumber_47 : decode cX7_readNumber 47 = .ok (.aload_n 0, 1) := by decide +kernel
theorem dX7_readNumber_48 : decode cX7_readNumber 48 = .ok (.aload_n 0, 1) := by decide +kernel
theorem dX7_readNumber_49 : decode cX7_readNumber 49 = .ok (.getfield 37, 3) := by decide +kernel
theorem dX7_readNumber_52 : decode cX7_readNumber 52 = .ok (.invokevirtual 69, 3) := by decide +kernel
theorem dX7_readNumber_55 : decode cX7_readNumber 55 = .ok (.iadd, 1) := by decide +kernel
theorem dX7_readNumber_56 : decode cX7_readNumber 56 = .ok (.bipush 48, 2) := by decide +kernel
theorem dX7_readNumber_58 : decode cX7_readNumber 58 = .ok (.isub, 1) := by decide +kernel
theorem dX7_readNumber_59 : decode cX7_readNumber 59 = .ok (.invokestatic 111, 3) := by decide +kernel
theorem dX7_readNumber_62 : decode cX7_readNumber 62 = .ok (.putfield 66, 3) := by decide +kernel
theorem dX7_readNumber_65 : decode cX7_readNumber 65 = .ok (.aload_n 0, 1) := by decide +kernel
theorem dX7_readNumber_66 : decode cX7_readNumber 66 = .ok (.dup, 1) := by decide +kernel
theorem dX7_readNumber_67 : decode cX7_readNumber 67 = .ok (.getfield 37, 3) := by decide +kernel
theorem dX7_readNumber_70 : decode cX7_readNumber 70 = .ok (.iconst 1, 1) := by decide +kernel
theorem dX7_readNumber_71 : decode cX7_readNumber 71 = .ok (.iadd, 1) := by decide +kernel
theorem dX7_readNumber_72 : decode cX7_readNumber 72 = .ok (.putfield 37, 3) := by decide +kernel
theorem dX7_readNumber_75 : decode cX7_readNumber 75 = .ok (.goto (-64), 3) := by decide +kernel
theorem dX7_readNumber_78 : decode cX7_readNumber 78 = .ok (.return_, 1) := by decide +kernel
theorem dX7_signAt_0 : decode cX7_signAt 0 = .ok (.iload_n 1, 1) := by decide +kernel
theorem dX7_signAt_1 : decode cX7_signAt 1 = .ok (.ifCond .lt 19, 3) := by decide +kernel
theorem dX7_signAt_4 : decode cX7_signAt 4 = .ok (.iload_n 1, 1) := by decide +kernel
theorem dX7_signAt_5 : decode cX7_signAt 5 = .ok (.sipush 600, 3) := by decide +kernel
theorem dX7_signAt_8 : decode cX7_signAt 8 = .ok (.if_icmp .ge 12, 3) := by decide +kernel
theorem dX7_signAt_11 : decode cX7_signAt 11 = .ok (.aload_n 0, 1) := by decide +kernel
theorem dX7_signAt_12 : decode cX7_signAt 12 = .ok (.getfield 9, 3) := by decide +kernel
theorem dX7_signAt_15 : decode cX7_signAt 15 = .ok (.iload_n 1, 1) := by decide +kernel
theorem dX7_signAt_16 : decode cX7_signAt 16 = .ok (.iaload, 1) := by decide +kernel
theorem dX7_signAt_17 : decode cX7_signAt 17 = .ok (.goto 4, 3) := by decide +kernel
theorem dX7_signAt_20 : decode cX7_signAt 20 = .ok (.iconst (-1), 1) := by decide +kernel
theorem dX7_signAt_21 : decode cX7_signAt 21 = .ok (.ireturn, 1) := by decide +kernel
theorem dX7_isBlank_0 : decode cX7_isBlank 0 = .ok (.iload_n 0, 1) := by decide +kernel
theorem dX7_isBlank_1 : decode cX7_isBlank 1 = .ok (.bipush 32, 2) := by decide +kernel
theorem dX7_isBlank_3 : decode cX7_isBlank 3 = .ok (.if_icmp .eq 9, 3) := by decide +kernel
theorem dX7_isBlank_6 : decode cX7_isBlank 6 = .ok (.iload_n 0, 1) := by decide +kernel
theorem dX7_isBlank_7 : decode cX7_isBlank 7 = .ok (.bipush 10, 2) := by decide +kernel
theorem dX7_isBlank_9 : decode cX7_isBlank 9 = .ok (.if_icmp .ne 7, 3) := by decide +kernel
theorem dX7_isBlank_12 : decode cX7_isBlank 12 = .ok (.iconst 1, 1) := by decide +kernel
theorem dX7_isBlank_13 : decode cX7_isBlank 13 = .ok (.goto 4, 3) := by decide +kernel
theorem dX7_isBlank_16 : decode cX7_isBlank 16 = .ok (.iconst 0, 1) := by decide +kernel
theorem dX7_isBlank_17 : decode cX7_isBlank 17 = .ok (.ireturn, 1) := by decide +kernel
theorem dX7_isLetter_0 : decode cX7_isLetter 0 = .ok (.iload_n 0, 1) := by decide +kernel
theorem dX7_isLetter_1 : decode cX7_isLetter 1 = .ok (.bipush 97, 2) := by decide +kernel
theorem dX7_isLetter_3 : decode cX7_isLetter 3 = .ok (.if_icmp .lt 13, 3) := by decide +kernel
theorem dX7_isLetter_6 : decode cX7_isLetter 6 = .ok (.iload_n 0, 1) := by decide +kernel
theorem dX7_isLetter_7 : decode cX7_isLetter 7 = .ok (.bipush 122, 2) := by decide +kernel
theorem dX7_isLetter_9 : decode cX7_isLetter 9 = .ok (.if_icmp .gt 7, 3) := by decide +kernel
theorem dX7_isLetter_12 : decode cX7_isLetter 12 = .ok (.iconst 1, 1) := by decide +kernel
theorem dX7_isLetter_13 : decode cX7_isLetter 13 = .ok (.goto 4, 3) := by decide +kernel
theorem dX7_isLetter_16 : decode cX7_isLetter 16 = .ok (.iconst 0, 1) := by decide +kernel
theorem dX7_isLetter_17 : decode cX7_isLetter 17 = .ok (.ireturn, 1) := by decide +kernel
theorem dX7_isDigit_0 : decode cX7_isDigit 0 = .ok (.iload_n 0, 1) := by decide +kernel
theorem dX7_isDigit_1 : decode cX7_isDigit 1 = .ok (.bipush 48, 2) := by decide +kernel
theorem dX7_isDigit_3 : decode cX7_isDigit 3 = .ok (.if_icmp .lt 13, 3) := by decide +kernel
theorem dX7_isDigit_6 : decode cX7_isDigit 6 = .ok (.iload_n 0, 1) := by decide +kernel
theorem dX7_isDigit_7 : decode cX7_isDigit 7 = .ok (.bipush 57, 2) := by decide +kernel
theorem dX7_isDigit_9 : decode cX7_isDigit 9 = .ok (.if_icmp .gt 7, 3) := by decide +kernel
theorem dX7_isDigit_12 : decode cX7_isDigit 12 = .ok (.iconst 1, 1) := by decide +kernel
theorem dX7_isDigit_13 : decode cX7_isDigit 13 = .ok (.goto 4, 3) := by decide +kernel
theorem dX7_isDigit_16 : decode cX7_isDigit 16 = .ok (.iconst 0, 1) := by decide +kernel
theorem dX7_isDigit_17 : decode cX7_isDigit 17 = .ok (.ireturn, 1) := by decide +kernel
theorem dX8_init_0 : decode cX8_init 0 = .ok (.aload_n 0, 1) := by decide +kernel
theorem dX8_init_1 : decode cX8_init 1 = .ok (.invokespecial 1, 3) := by decide +kernel
theorem dX8_init_4 : decode cX8_init 4 = .ok (.aload_n 0, 1) := by decide +kernel
theorem dX8_init_5 : decode cX8_init 5 = .ok (.new 7, 3) := by decide +kernel
theorem dX8_init_8 : decode cX8_init 8 = .ok (.dup, 1) := by decide +kernel
theorem dX8_init_9 : decode cX8_init 9 = .ok (.invokespecial 9, 3) := by decide +kernel
theorem dX8_init_12 : decode cX8_init 12 = .ok (.putfield 10, 3) := by decide +kernel
theorem dX8_init_15 : decode cX8_init 15 = .ok (.aload_n 0, 1) := by decide +kernel
theorem dX8_init_16 : decode cX8_init 16 = .ok (.new 16, 3) := by decide +kernel
theorem dX8_init_19 : decode cX8_init 19 = .ok (.dup, 1) := by decide +kernel
theorem dX8_init_20 : decode cX8_init 20 = .ok (.invokespecial 18, 3) := by decide +kernel
theorem dX8_init_23 : decode cX8_init 23 = .ok (.putfield 19, 3) := by decide +kernel
theorem dX8_init_26 : decode cX8_init 26 = .ok (.aload_n 0, 1) := by decide +kernel
theorem dX8_init_27 : decode cX8_init 27 = .ok (.new 23, 3) := by decide +kernel
theorem dX8_init_30 : decode cX8_init 30 = .ok (.dup, 1) := by decide +kernel
theorem dX8_init_31 : decode cX8_init 31 = .ok (.invokespecial 25, 3) := by decide +kernel
theorem dX8_init_34 : decode cX8_init 34 = .ok (.putfield 26, 3) := by decide +kernel
theorem dX8_init_37 : decode cX8_init 37 = .ok (.aload_n 0, 1) := by decide +kernel
theorem dX8_init_38 : decode cX8_init 38 = .ok (.new 23, 3) := by decide +kernel
theorem dX8_init_41 : decode cX8_init 41 = .ok (.dup, 1) := by decide +kernel
theorem dX8_init_42 : decode cX8_init 42 = .ok (.invokespecial 25, 3) := by decide +kernel
theorem dX8_init_45 : decode cX8_init 45 = .ok (.putfield 30, 3) := by decide +kernel
theorem dX8_init_48 : decode cX8_init 48 = .ok (.aload_n 0, 1) := by decide +kernel
theorem dX8_init_49 : decode cX8_init 49 = .ok (.new 33, 3) := by decide +kernel
theorem dX8_init_52 : decode cX8_init 52 = .ok (.dup, 1) := by decide +kernel
theorem dX8_init_53 : decode cX8_init 53 = .ok (.invokespecial 35, 3) := by decide +kernel
theorem dX8_init_56 : decode cX8_init 56 = .ok (.putfield 36, 3) := by decide +kernel
theorem dX8_init_59 : decode cX8_init 59 = .ok (.aload_n 0, 1) := by decide +kernel
theorem dX8_init_60 : decode cX8_init 60 = .ok (.iconst 2, 1) := by decide +kernel
theorem dX8_init_61 : decode cX8_init 61 = .ok (.anewarray 23, 3) := by decide +kernel
theorem dX8_init_64 : decode cX8_init 64 = .ok (.putfield 40, 3) := by decide +kernel
theorem dX8_init_67 : decode cX8_init 67 = .ok (.return_, 1) := by decide +kernel
theorem dX8_appendText_0 : decode cX8_appendText 0 = .ok (.aload_n 0, 1) := by decide +kernel
theorem dX8_appendText_1 : decode cX8_appendText 1 = .ok (.getfield 10, 3) := by decide +kernel
theorem dX8_appendText_4 : decode cX8_appendText 4 = .ok (.getfield 44, 3) := by decide +kernel
theorem dX8_appendText_7 : decode cX8_appendText 7 = .ok (.sipush 596, 3) := by decide +kernel
theorem dX8_appendText_10 : decode cX8_appendText 10 = .ok (.if_icmp .le 13, 3) := by decide +kernel
theorem dX8_appendText_13 : decode cX8_appendText 13 = .ok (.new 48, 3) := by decide +kernel
theorem dX8_appendText_16 : decode cX8_appendText 16 = .ok (.dup, 1) := by decide +kernel
theorem dX8_appendText_17 : decode cX8_appendText 17 = .ok (.ldc 50, 2) := by decide +kernel
theorem dX8_appendText_19 : decode cX8_appendText 19 = .ok (.invokespecial 52, 3) := by decide +kernel
theorem dX8_appendText_22 : decode cX8_appendText 22 = .ok (.athrow, 1) := by decide +kernel
theorem dX8_appendText_23 : decode cX8_appendText 23 = .ok (.bipush 24, 2) := by decide +kernel
theorem dX8_appendText_25 : decode cX8_appendText 25 = .ok (.istore_n 2, 1) := by decide +kernel
theorem dX8_appendText_26 : decode cX8_appendText 26 = .ok (.iload_n 2, 1) := by decide +kernel
theorem dX8_appendText_27 : decode cX8_appendText 27 = .ok (.ifCond .lt 23, 3) := by decide +kernel
theorem dX8_appendText_30 : decode cX8_appendText 30 = .ok (.aload_n 0, 1) := by decide +kernel
theorem dX8_appendText_31 : decode cX8_appendText 31 = .ok (.getfield 10, 3) := by decide +kernel
theorem dX8_appendText_34 : decode cX8_appendText 34 = .ok (.iload_n 1, 1) := by decide +kernel
theorem dX8_appendText_35 : decode cX8_appendText 35 = .ok (.iload_n 2, 1) := by decide +kernel
theorem dX8_appendText_36 : decode cX8_appendText 36 = .ok (.iushr, 1) := by decide +kernel
theorem dX8_appendText_37 : decode cX8_appendText 37 = .ok (.sipush 255, 3) := by decide +kernel
theorem dX8_appendText_40 : decode cX8_appendText 40 = .ok (.iand, 1) := by decide +kernel
theorem dX8_appendText_41 : decode cX8_appendText 41 = .ok (.invokevirtual 55, 3) := by decide +kernel
theorem dX8_appendText_44 : decode cX8_appendText 44 = .ok (.iinc 2 (-8), 3) := by decide +kernel
theorem dX8_appendText_47 : decode cX8_appendText 47 = .ok (.goto (-21), 3) := by decide +kernel
theorem dX8_appendText_50 : decode cX8_appendText 50 = .ok (.aload_n 0, 1) := by decide +kernel
theorem dX8_appendText_51 : decode cX8_appendText 51 = .ok (.getfield 10, 3) := by decide +kernel
theorem dX8_appendText_54 : decode cX8_appendText 54 = .ok (.getfield 44, 3) := by decide +kernel
theorem dX8_appendText_57 : decode cX8_appendText 57 = .ok (.ireturn, 1) := by decide +kernel
theorem dX8_truncateText_0 : decode cX8_truncateText 0 = .ok (.iload_n 1, 1) := by decide +kernel
theorem dX8_truncateText_1 : decode cX8_truncateText 1 = .ok (.iconst 0, 1) := by decide +kernel
theorem dX8_truncateText_2 : decode cX8_truncateText 2 = .ok (.aload_n 0, 1) := by decide +kernel
theorem dX8_truncateText_3 : decode cX8_truncateText 3 = .ok (.getfield 10, 3) := by decide +kernel
theorem dX8_truncateText_6 : decode cX8_truncateText 6 = .ok (.getfield 44, 3) := by decide +kernel
theorem dX8_truncateText_9 : decode cX8_truncateText 9 = .ok (.invokestatic 59, 3) := by decide +kernel
theorem dX8_truncateText_12 : decode cX8_truncateText 12 = .ok (.aload_n 0, 1) := by decide +kernel
theorem dX8_truncateText_13 : decode cX8_truncateText 13 = .ok (.getfield 10, 3) := by decide +kernel
theorem dX8_truncateText_16 : decode cX8_truncateText 16 = .ok (.iload_n 1, 1) := by decide +kernel
theorem dX8_truncateText_17 : decode cX8_truncateText 17 = .ok (.putfield 44, 3) := by decide +kernel
theorem dX8_truncateText_20 : decode cX8_truncateText 20 = .ok (.iload_n 1, 1) := by decide +kernel
theorem dX8_truncateText_21 : decode cX8_truncateText 21 = .ok (.ireturn, 1) := by decide +kernel
theorem dX8_runTrace_0 : decode cX8_runTrace 0 = .ok (.aload_n 0, 1) := by decide +kernel
theorem dX8_runTrace_1 : decode cX8_runTrace 1 = .ok (.getfield 10, 3) := by decide +kernel
theorem dX8_runTrace_4 : decode cX8_runTrace 4 = .ok (.invokevirtual 63, 3) := by decide +kernel
theorem dX8_runTrace_7 : decode cX8_runTrace 7 = .ok (.istore_n 1, 1) := by decide +kernel
theorem dX8_runTrace_8 : decode cX8_runTrace 8 = .ok (.aload_n 0, 1) := by decide +kernel
theorem dX8_runTrace_9 : decode cX8_runTrace 9 = .ok (.getfield 10, 3) := by decide +kernel
theorem dX8_runTrace_12 : decode cX8_runTrace 12 = .ok (.iconst 0, 1) := by decide +kernel
theorem dX8_runTrace_13 : decode cX8_runTrace 13 = .ok (.putfield 44, 3) := by decide +kernel
theorem dX8_runTrace_16 : decode cX8_runTrace 16 = .ok (.iload_n 1, 1) := by decide +kernel
theorem dX8_runTrace_17 : decode cX8_runTrace 17 = .ok (.ifCond .ne 5, 3) := by decide +kernel
theorem dX8_runTrace_20 : decode cX8_runTrace 20 = .ok (.iconst (-1), 1) := by decide +kernel
theorem dX8_runTrace_21 : decode cX8_runTrace 21 = .ok (.ireturn, 1) := by decide +kernel
theorem dX8_runTrace_22 : decode cX8_runTrace 22 = .ok (.aload_n 0, 1) := by decide +kernel
theorem dX8_runTrace_23 : decode cX8_runTrace 23 = .ok (.getfield 36, 3) := by decide +kernel
theorem dX8_runTrace_26 : decode cX8_runTrace 26 = .ok (.aload_n 0, 1) := by decide +kernel
theorem dX8_runTrace_27 : decode cX8_runTrace 27 = .ok (.getfield 26, 3) := by decide +kernel
theorem dX8_runTrace_30 : decode cX8_runTrace 30 = .ok (.invokevirtual 67, 3) := by decide +kernel
theorem dX8_runTrace_33 : decode cX8_runTrace 33 = .ok (.aload_n 0, 1) := by decide +kernel
theorem dX8_runTrace_34 : decode cX8_runTrace 34 = .ok (.getfield 26, 3) := by decide +kernel
theorem dX8_runTrace_37 : decode cX8_runTrace 37 = .ok (.getfield 71, 3) := by decide +kernel
theorem dX8_runTrace_40 : decode cX8_runTrace 40 = .ok (.getfield 75, 3) := by decide +kernel
theorem dX8_runTrace_43 : decode cX8_runTrace 43 = .ok (.istore_n 2, 1) := by decide +kernel
theorem dX8_runTrace_44 : decode cX8_runTrace 44 = .ok (.iconst 1, 1) := by decide +kernel
theorem dX8_runTrace_45 : decode cX8_runTrace 45 = .ok (.istore_n 3, 1) := by decide +kernel
theorem dX8_runTrace_46 : decode cX8_runTrace 46 = .ok (.iconst 0, 1) := by decide +kernel
theorem dX8_runTrace_47 : decode cX8_runTrace 47 = .ok (.istore 4, 2) := by decide +kernel
theorem dX8_runTrace_49 : decode cX8_runTrace 49 = .ok (.iload 4, 2) := by decide +kernel
theorem dX8_runTrace_51 : decode cX8_runTrace 51 = .ok (.aload_n 0, 1) := by decide +kernel
theorem dX8_runTrace_52 : decode cX8_runTrace 52 = .ok (.getfield 10, 3) := by decide +kernel
theorem dX8_runTrace_55 : decode cX8_runTrace 55 = .ok (.getfield 80, 3) := by decide +kernel
theorem dX8_runTrace_58 : decode cX8_runTrace 58 = .ok (.if_icmp .ge 20, 3) := by decide +kernel
theorem dX8_runTrace_61 : decode cX8_runTrace 61 = .ok (.iload_n 3, 1) := by decide +kernel
theorem dX8_runTrace_62 : decode cX8_runTrace 62 = .ok (.ifCond .eq 16, 3) := by decide +kernel
theorem dX8_runTrace_65 : decode cX8_runTrace 65 = .ok (.aload_n 0, 1) := by decide +kernel
theorem dX8_runTrace_66 : decode cX8_runTrace 66 = .ok (.iload 4, 2) := by decide +kernel
theorem dX8_runTrace_68 : decode cX8_runTrace 68 = .ok (.invokevirtual 83, 3) := by decide +kernel
theorem dX8_runTrace_71 : decode cX8_runTrace 71 = .ok (.istore_n 3, 1) := by decide +kernel
theorem dX8_runTrace_72 : decode cX8_runTrace 72 = .ok (.iinc 4 1, 3) := by decide +kernel
theorem dX8_runTrace_75 : decode cX8_runTrace 75 = .ok (.goto (-26), 3) := by decide +kernel
theorem dX8_runTrace_78 : decode cX8_runTrace 78 = .ok (.aload_n 0, 1) := by decide +kernel
theorem dX8_runTrace_79 : decode cX8_runTrace 79 = .ok (.getfield 26, 3) := by decide +kernel
theorem dX8_runTrace_82 : decode cX8_runTrace 82 = .ok (.getfield 71, 3) := by decide +kernel
theorem dX8_runTrace_85 : decode cX8_runTrace 85 = .ok (.getfield 75, 3) := by decide +kernel
theorem dX8_runTrace_88 : decode cX8_runTrace 88 = .ok (.iload_n 2, 1) := by decide +kernel
theorem dX8_runTrace_89 : decode cX8_runTrace 89 = .ok (.isub, 1) := by decide +kernel
theorem dX8_runTrace_90 : decode cX8_runTrace 90 = .ok (.ireturn, 1) := by decide +kernel
theorem dX8_errorCode_0 : decode cX8_errorCode 0 = .ok (.aload_n 0, 1) := by decide +kernel
theorem dX8_errorCode_1 : decode cX8_errorCode 1 = .ok (.getfield 10, 3) := by decide +kernel
theorem dX8_errorCode_4 : decode cX8_errorCode 4 = .ok (.getfield 87, 3) := by decide +kernel
theorem dX8_errorCode_7 : decode cX8_errorCode 7 = .ok (.ireturn, 1) := by decide +kernel
theorem dX8_errorPosition_0 : decode cX8_errorPosition 0 = .ok (.aload_n 0, 1) := by decide +kernel
theorem dX8_errorPosition_1 : decode cX8_errorPosition 1 = .ok (.getfield 10, 3) := by decide +kernel
theorem dX8_errorPosition_4 : decode cX8_errorPosition 4 = .ok (.getfield 90, 3) := by decide +kernel
theorem dX8_errorPosition_7 : decode cX8_errorPosition 7 = .ok (.ireturn, 1) := by decide +kernel
theorem dX8_addClient_0 : decode cX8_addClient 0 = .ok (.iload_n 1, 1) := by decide +kernel
theorem dX8_addClient_1 : decode cX8_addClient 1 = .ok (.iconst 1, 1) := by decide +kernel
theorem dX8_addClient_2 : decode cX8_addClient 2 = .ok (.bipush 9, 2) := by decide +kernel
theorem dX8_addClient_4 : decode cX8_addClient 4 = .ok (.invokestatic 59, 3) := by decide +kernel
theorem dX8_addClient_7 : decode cX8_addClient 7 = .ok (.aload_n 0, 1) := by decide +kernel
theorem dX8_addClient_8 : decode cX8_addClient 8 = .ok (.getfield 26, 3) := by decide +kernel
theorem dX8_addClient_11 : decode cX8_addClient 11 = .ok (.getfield 93, 3) := by decide +kernel
theorem dX8_addClient_14 : decode cX8_addClient 14 = .ok (.iconst 4, 1) := by decide +kernel
theorem dX8_addClient_15 : decode cX8_addClient 15 = .ok (.if_icmp .lt 13, 3) := by decide +kernel
theorem dX8_addClient_18 : decode cX8_addClient 18 = .ok (.new 48, 3) := by decide +kernel
theorem dX8_addClient_21 : decode cX8_addClient 21 = .ok (.dup, 1) := by decide +kernel
theorem dX8_addClient_22 : decode cX8_addClient 22 = .ok (.ldc 96, 2) := by decide +kernel
theorem dX8_addClient_24 : decode cX8_addClient 24 = .ok (.invokespecial 52, 3) := by decide +kernel
theorem dX8_addClient_27 : decode cX8_addClient 27 = .ok (.athrow, 1) := by decide +kernel
theorem dX8_addClient_28 : decode cX8_addClient 28 = .ok (.aload_n 0, 1) := by decide +kernel
theorem dX8_addClient_29 : decode cX8_addClient 29 = .ok (.getfield 36, 3) := by decide +kernel
theorem dX8_addClient_32 : decode cX8_addClient 32 = .ok (.aload_n 0, 1) := by decide +kernel
theorem dX8_addClient_33 : decode cX8_addClient 33 = .ok (.getfield 26, 3) := by decide +kernel
theorem dX8_addClient_36 : decode cX8_addClient 36 = .ok (.invokevirtual 67, 3) := by decide +kernel
theorem dX8_addClient_39 : decode cX8_addClient 39 = .ok (.aload_n 0, 1) := by decide +kernel
theorem dX8_addClient_40 : decode cX8_addClient 40 = .ok (.getfield 26, 3) := by decide +kernel
theorem dX8_addClient_43 : decode cX8_addClient 43 = .ok (.iload_n 1, 1) := by decide +kernel
theorem dX8_addClient_44 : decode cX8_addClient 44 = .ok (.invokevirtual 98, 3) := by decide +kernel
theorem dX8_addClient_47 : decode cX8_addClient 47 = .ok (.ireturn, 1) := by decide +kernel
theorem dX8_setWeight_0 : decode cX8_setWeight 0 = .ok (.aload_n 0, 1) := by decide +kernel
theorem dX8_setWeight_1 : decode cX8_setWeight 1 = .ok (.iload_n 1, 1) := by decide +kernel
theorem dX8_setWeight_2 : decode cX8_setWeight 2 = .ok (.invokevirtual 102, 3) := by decide +kernel
theorem dX8_setWeight_5 : decode cX8_setWeight 5 = .ok (.iload_n 2, 1) := by decide +kernel
theorem dX8_setWeight_6 : decode cX8_setWeight 6 = .ok (.iconst 1, 1) := by decide +kernel
theorem dX8_setWeight_7 : decode cX8_setWeight 7 = .ok (.bipush 9, 2) := by decide +kernel
theorem dX8_setWeight_9 : decode cX8_setWeight 9 = .ok (.invokestatic 59, 3) := by decide +kernel
theorem dX8_setWeight_12 : decode cX8_setWeight 12 = .ok (.aload_n 0, 1) := by decide +kernel
theorem dX8_setWeight_13 : decode cX8_setWeight 13 = .ok (.getfield 36, 3) := by decide +kernel
theorem dX8_setWeight_16 : decode cX8_setWeight 16 = .ok (.aload_n 0, 1) := by decide +kernel
theorem dX8_setWeight_17 : decode cX8_setWeight 17 = .ok (.getfield 26, 3) := by decide +kernel
theorem dX8_setWeight_20 : decode cX8_setWeight 20 = .ok (.invokevirtual 67, 3) := by decide +kernel
theorem dX8_setWeight_23 : decode cX8_setWeight 23 = .ok (.aload_n 0, 1) := by decide +kernel
theorem dX8_setWeight_24 : decode cX8_setWeight 24 = .ok (.getfield 26, 3) := by decide +kernel
theorem dX8_setWeight_27 : decode cX8_setWeight 27 = .ok (.iload_n 1, 1) := by decide +kernel
theorem dX8_setWeight_28 : decode cX8_setWeight 28 = .ok (.iload_n 2, 1) := by decide +kernel
theorem dX8_setWeight_29 : decode cX8_setWeight 29 = .ok (.invokevirtual 105, 3) := by decide +kernel
theorem dX8_setWeight_32 : decode cX8_setWeight 32 = .ok (.ireturn, 1) := by decide +kernel
theorem dX8_set_0 : decode cX8_set 0 = .ok (.iload_n 1, 1) := by decide +kernel
theorem dX8_set_1 : decode cX8_set 1 = .ok (.iconst 0, 1) := by decide +kernel
theorem dX8_set_2 : decode cX8_set 2 = .ok (.iconst 1, 1) := by decide +kernel
theorem dX8_set_3 : decode cX8_set 3 = .ok (.invokestatic 59, 3) := by decide +kernel
theorem dX8_set_6 : decode cX8_set 6 = .ok (.iload_n 1, 1) := by decide +kernel
theorem dX8_set_7 : decode cX8_set 7 = .ok (.ifCond .ne 13, 3) := by decide +kernel
theorem dX8_set_10 : decode cX8_set 10 = .ok (.iload_n 2, 1) := by decide +kernel
theorem dX8_set_11 : decode cX8_set 11 = .ok (.iconst 2, 1) := by decide +kernel
theorem dX8_set_12 : decode cX8_set 12 = .ok (.bipush 20, 2) := by decide +kernel
theorem dX8_set_14 : decode cX8_set 14 = .ok (.invokestatic 59, 3) := by decide +kernel
theorem dX8_set_17 : decode cX8_set 17 = .ok (.goto 10, 3) := by decide +kernel
theorem dX8_set_20 : decode cX8_set 20 = .ok (.iload_n 2, 1) := by decide +kernel
theorem dX8_set_21 : decode cX8_set 21 = .ok (.iconst 0, 1) := by decide +kernel
theorem dX8_set_22 : decode cX8_set 22 = .ok (.bipush 40, 2) := by decide +kernel
theorem dX8_set_24 : decode cX8_set 24 = .ok (.invokestatic 59, 3) := by decide +kernel
theorem dX8_set_27 : decode cX8_set 27 = .ok (.aload_n 0, 1) := by decide +kernel
theorem dX8_set_28 : decode cX8_set 28 = .ok (.getfield 36, 3) := by decide +kernel
theorem dX8_set_31 : decode cX8_set 31 = .ok (.aload_n 0, 1) := by decide +kernel
theorem dX8_set_32 : decode cX8_set 32 = .ok (.getfield 26, 3) := by decide +kernel
theorem dX8_set_35 : decode cX8_set 35 = .ok (.invokevirtual 67, 3) := by decide +kernel
theorem dX8_set_38 : decode cX8_set 38 = .ok (.aload_n 0, 1) := by decide +kernel
theorem dX8_set_39 : decode cX8_set 39 = .ok (.getfield 26, 3) := by decide +kernel
theorem dX8_set_42 : decode cX8_set 42 = .ok (.iload_n 1, 1) := by decide +kernel
theorem dX8_set_43 : decode cX8_set 43 = .ok (.iload_n 2, 1) := by decide +kernel
theorem dX8_set_44 : decode cX8_set 44 = .ok (.invokevirtual 109, 3) := by decide +kernel
theorem dX8_set_47 : decode cX8_set 47 = .ok (.ireturn, 1) := by decide +kernel
theorem dX8_shape_0 : decode cX8_shape 0 = .ok (.iload_n 1, 1) := by decide +kernel
theorem dX8_shape_1 : decode cX8_shape 1 = .ok (.iconst 2, 1) := by decide +kernel
theorem dX8_shape_2 : decode cX8_shape 2 = .ok (.bipush 16, 2) := by decide +kernel
theorem dX8_shape_4 : decode cX8_shape 4 = .ok (.invokestatic 59, 3) := by decide +kernel
theorem dX8_shape_7 : decode cX8_shape 7 = .ok (.iload_n 2, 1) := by decide +kernel
theorem dX8_shape_8 : decode cX8_shape 8 = .ok (.iconst 2, 1) := by decide +kernel
theorem dX8_shape_9 : decode cX8_shape 9 = .ok (.bipush 24, 2) := by decide +kernel
theorem dX8_shape_11 : decode cX8_shape 11 = .ok (.invokestatic 59, 3) := by decide +kernel
theorem dX8_shape_14 : decode cX8_shape 14 = .ok (.aload_n 0, 1) := by decide +kernel
theorem dX8_shape_15 : decode cX8_shape 15 = .ok (.getfield 36, 3) := by decide +kernel
theorem dX8_shape_18 : decode cX8_shape 18 = .ok (.aload_n 0, 1) := by decide +kernel
theorem dX8_shape_19 : decode cX8_shape 19 = .ok (.getfield 26, 3) := by decide +kernel
theorem dX8_shape_22 : decode cX8_shape 22 = .ok (.invokevirtual 67, 3) := by decide +kernel
theorem dX8_shape_25 : decode cX8_shape 25 = .ok (.aload_n 0, 1) := by decide +kernel
theorem dX8_shape_26 : decode cX8_shape 26 = .ok (.getfield 26, 3) := by decide +kernel
theorem dX8_shape_29 : decode cX8_shape 29 = .ok (.iload_n 1, 1) := by decide +kernel
theorem dX8_shape_30 : decode cX8_shape 30 = .ok (.iload_n 2, 1) := by decide +kernel
theorem dX8_shape_31 : decode cX8_shape 31 = .ok (.invokevirtual 112, 3) := by decide +kernel
theorem dX8_shape_34 : decode cX8_shape 34 = .ok (.ireturn, 1) := by decide +kernel
theorem dX8_count_0 : decode cX8_count 0 = .ok (.iload_n 1, 1) := by decide +kernel
theorem dX8_count_1 : decode cX8_count 1 = .ok (.iconst 0, 1) := by decide +kernel
theorem dX8_count_2 : decode cX8_count 2 = .ok (.bipush 23, 2) := by decide +kernel
theorem dX8_count_4 : decode cX8_count 4 = .ok (.invokestatic 59, 3) := by decide +kernel
theorem dX8_count_7 : decode cX8_count 7 = .ok (.iload_n 1, 1) := by decide +kernel
theorem dX8_count_8 : decode cX8_count 8 = .ok (.bipush 23, 2) := by decide +kernel
theorem dX8_count_10 : decode cX8_count 10 = .ok (.if_icmp .ne 13, 3) := by decide +kernel
theorem dX8_count_13 : decode cX8_count 13 = .ok (.aload_n 0, 1) := by decide +kernel
theorem dX8_count_14 : decode cX8_count 14 = .ok (.getfield 36, 3) := by decide +kernel
theorem dX8_count_17 : decode cX8_count 17 = .ok (.getfield 115, 3) := by decide +kernel
theorem dX8_count_20 : decode cX8_count 20 = .ok (.goto 11, 3) := by decide +kernel
theorem dX8_count_23 : decode cX8_count 23 = .ok (.aload_n 0, 1) := by decide +kernel
theorem dX8_count_24 : decode cX8_count 24 = .ok (.getfield 26, 3) := by decide +kernel
theorem dX8_count_27 : decode cX8_count 27 = .ok (.iload_n 1, 1) := by decide +kernel
theorem dX8_count_28 : decode cX8_count 28 = .ok (.invokevirtual 118, 3) := by decide +kernel
theorem dX8_count_31 : decode cX8_count 31 = .ok (.ireturn, 1) := by decide +kernel
theorem dX8_client_0 : decode cX8_client 0 = .ok (.aload_n 0, 1) := by decide +kernel
theorem dX8_client_1 : decode cX8_client 1 = .ok (.iload_n 1, 1) := by decide +kernel
theorem dX8_client_2 : decode cX8_client 2 = .ok (.invokevirtual 102, 3) := by decide +kernel
theorem dX8_client_5 : decode cX8_client 5 = .ok (.iload_n 2, 1) := by decide +kernel
theorem dX8_client_6 : decode cX8_client 6 = .ok (.iconst 0, 1) := by decide +kernel
theorem dX8_client_7 : decode cX8_client 7 = .ok (.bipush 10, 2) := by decide +kernel
theorem dX8_client_9 : decode cX8_client 9 = .ok (.invokestatic 59, 3) := by decide +kernel
theorem dX8_client_12 : decode cX8_client 12 = .ok (.aload_n 0, 1) := by decide +kernel
theorem dX8_client_13 : decode cX8_client 13 = .ok (.getfield 26, 3) := by decide +kernel
theorem dX8_client_16 : decode cX8_client 16 = .ok (.iload_n 1, 1) := by decide +kernel
theorem dX8_client_17 : decode cX8_client 17 = .ok (.iload_n 2, 1) := by decide +kernel
theorem dX8_client_18 : decode cX8_client 18 = .ok (.invokevirtual 121, 3) := by decide +kernel
theorem dX8_client_21 : decode cX8_client 21 = .ok (.ireturn, 1) := by decide +kernel
theorem dX8_block_0 : decode cX8_block 0 = .ok (.iload_n 1, 1) := by decide +kernel
theorem dX8_block_1 : decode cX8_block 1 = .ok (.iconst 0, 1) := by decide +kernel
theorem dX8_block_2 : decode cX8_block 2 = .ok (.sipush 199, 3) := by decide +kernel
theorem dX8_block_5 : decode cX8_block 5 = .ok (.invokestatic 59, 3) := by decide +kernel
theorem dX8_block_8 : decode cX8_block 8 = .ok (.iload_n 2, 1) := by decide +kernel
theorem dX8_block_9 : decode cX8_block 9 = .ok (.iconst 0, 1) := by decide +kernel
theorem dX8_block_10 : decode cX8_block 10 = .ok (.bipush 6, 2) := by decide +kernel
theorem dX8_block_12 : decode cX8_block 12 = .ok (.invokestatic 59, 3) := by decide +kernel
theorem dX8_block_15 : decode cX8_block 15 = .ok (.aload_n 0, 1) := by decide +kernel
theorem dX8_block_16 : decode cX8_block 16 = .ok (.getfield 26, 3) := by decide +kernel
theorem dX8_block_19 : decode cX8_block 19 = .ok (.iload_n 1, 1) := by decide +kernel
theorem dX8_block_20 : decode cX8_block 20 = .ok (.iload_n 2, 1) := by decide +kernel
theorem dX8_block_21 : decode cX8_block 21 = .ok (.invokevirtual 124, 3) := by decide +kernel
theorem dX8_block_24 : decode cX8_block 24 = .ok (.ireturn, 1) := by decide +kernel
theorem dX8_at_0 : decode cX8_at 0 = .ok (.iload_n 1, 1) := by decide +kernel
theorem dX8_at_1 : decode cX8_at 1 = .ok (.iconst 5, 1) := by decide +kernel
theorem dX8_at_2 : decode cX8_at 2 = .ok (.invokestatic 127, 3) := by decide +kernel
theorem dX8_at_5 : decode cX8_at 5 = .ok (.iload_n 2, 1) := by decide +kernel
theorem dX8_at_6 : decode cX8_at 6 = .ok (.invokestatic 131, 3) := by decide +kernel
theorem dX8_at_9 : decode cX8_at 9 = .ok (.aload_n 0, 1) := by decide +kernel
theorem dX8_at_10 : decode cX8_at 10 = .ok (.getfield 26, 3) := by decide +kernel
theorem dX8_at_13 : decode cX8_at 13 = .ok (.iload_n 1, 1) := by decide +kernel
theorem dX8_at_14 : decode cX8_at 14 = .ok (.invokevirtual 134, 3) := by decide +kernel
theorem dX8_at_17 : decode cX8_at 17 = .ok (.iload_n 2, 1) := by decide +kernel
theorem dX8_at_18 : decode cX8_at 18 = .ok (.invokevirtual 138, 3) := by decide +kernel
theorem dX8_at_21 : decode cX8_at 21 = .ok (.ireturn, 1) := by decide +kernel
theorem dX8_read_0 : decode cX8_read 0 = .ok (.aload_n 0, 1) := by decide +kernel
theorem dX8_read_1 : decode cX8_read 1 = .ok (.iload_n 1, 1) := by decide +kernel
theorem dX8_read_2 : decode cX8_read 2 = .ok (.invokevirtual 102, 3) := by decide +kernel
theorem dX8_read_5 : decode cX8_read 5 = .ok (.iload_n 2, 1) := by decide +kernel
theorem dX8_read_6 : decode cX8_read 6 = .ok (.iconst 0, 1) := by decide +kernel
theorem dX8_read_7 : decode cX8_read 7 = .ok (.sipush 199, 3) := by decide +kernel
theorem dX8_read_10 : decode cX8_read 10 = .ok (.invokestatic 59, 3) := by decide +kernel
theorem dX8_read_13 : decode cX8_read 13 = .ok (.aload_n 0, 1) := by decide +kernel
theorem dX8_read_14 : decode cX8_read 14 = .ok (.getfield 36, 3) := by decide +kernel
theorem dX8_read_17 : decode cX8_read 17 = .ok (.aload_n 0, 1) := by decide +kernel
theorem dX8_read_18 : decode cX8_read 18 = .ok (.getfield 26, 3) := by decide +kernel
theorem dX8_read_21 : decode cX8_read 21 = .ok (.invokevirtual 67, 3) := by decide +kernel
theorem dX8_read_24 : decode cX8_read 24 = .ok (.aload_n 0, 1) := by decide +kernel
theorem dX8_read_25 : decode cX8_read 25 = .ok (.getfield 26, 3) := by decide +kernel
theorem dX8_read_28 : decode cX8_read 28 = .ok (.iload_n 1, 1) := by decide +kernel
theorem dX8_read_29 : decode cX8_read 29 = .ok (.iload_n 2, 1) := by decide +kernel
theorem dX8_read_30 : decode cX8_read 30 = .ok (.iconst 0, 1) := by decide +kernel
theorem dX8_read_31 : decode cX8_read 31 = .ok (.invokevirtual 143, 3) := by decide +kernel
theorem dX8_read_34 : decode cX8_read 34 = .ok (.pop, 1) := by decide +kernel
theorem dX8_read_35 : decode cX8_read 35 = .ok (.aload_n 0, 1) := by decide +kernel
theorem dX8_read_36 : decode cX8_read 36 = .ok (.getfield 26, 3) := by decide +kernel
theorem dX8_read_39 : decode cX8_read 39 = .ok (.getfield 147, 3) := by decide +kernel
theorem dX8_read_42 : decode cX8_read 42 = .ok (.iload_n 2, 1) := by decide +kernel
theorem dX8_read_43 : decode cX8_read 43 = .ok (.invokevirtual 151, 3) := by decide +kernel
theorem dX8_read_46 : decode cX8_read 46 = .ok (.ireturn, 1) := by decide +kernel
theorem dX8_write_0 : decode cX8_write 0 = .ok (.aload_n 0, 1) := by decide +kernel
theorem dX8_write_1 : decode cX8_write 1 = .ok (.iload_n 1, 1) := by decide +kernel
theorem dX8_write_2 : decode cX8_write 2 = .ok (.invokevirtual 102, 3) := by decide +kernel
theorem dX8_write_5 : decode cX8_write 5 = .ok (.iload_n 2, 1) := by decide +kernel
theorem dX8_write_6 : decode cX8_write 6 = .ok (.iconst 0, 1) := by decide +kernel
theorem dX8_write_7 : decode cX8_write 7 = .ok (.sipush 199, 3) := by decide +kernel
theorem dX8_write_10 : decode cX8_write 10 = .ok (.invokestatic 59, 3) := by decide +kernel
theorem dX8_write_13 : decode cX8_write 13 = .ok (.iload_n 3, 1) := by decide +kernel
theorem dX8_write_14 : decode cX8_write 14 = .ok (.iconst 0, 1) := by decide +kernel
theorem dX8_write_15 : decode cX8_write 15 = .ok (.sipush 999, 3) := by decide +kernel
theorem dX8_write_18 : decode cX8_write 18 = .ok (.invokestatic 59, 3) := by decide +kernel
theorem dX8_write_21 : decode cX8_write 21 = .ok (.aload_n 0, 1) := by decide +kernel
theorem dX8_write_22 : decode cX8_write 22 = .ok (.getfield 36, 3) := by decide +kernel
theorem dX8_write_25 : decode cX8_write 25 = .ok (.aload_n 0, 1) := by decide +kernel
theorem dX8_write_26 : decode cX8_write 26 = .ok (.getfield 26, 3) := by decide +kernel
theorem dX8_write_29 : decode cX8_write 29 = .ok (.invokevirtual 67, 3) := by decide +kernel
theorem dX8_write_32 : decode cX8_write 32 = .ok (.aload_n 0, 1) := by decide +kernel
theorem dX8_write_33 : decode cX8_write 33 = .ok (.getfield 26, 3) := by decide +kernel
theorem dX8_write_36 : decode cX8_write 36 = .ok (.getfield 147, 3) := by decide +kernel
theorem dX8_write_39 : decode cX8_write 39 = .ok (.getfield 156, 3) := by decide +kernel
theorem dX8_write_42 : decode cX8_write 42 = .ok (.istore 4, 2) := by decide +kernel
theorem dX8_write_44 : decode cX8_write 44 = .ok (.aload_n 0, 1) := by decide +kernel
theorem dX8_write_45 : decode cX8_write 45 = .ok (.getfield 26, 3) := by decide +kernel
theorem dX8_write_48 : decode cX8_write 48 = .ok (.iload_n 1, 1) := by decide +kernel
theorem dX8_write_49 : decode cX8_write 49 = .ok (.iload_n 2, 1) := by decide +kernel
theorem dX8_write_50 : decode cX8_write 50 = .ok (.iconst 1, 1) := by decide +kernel
theorem dX8_write_51 : decode cX8_write 51 = .ok (.invokevirtual 143, 3) := by decide +kernel
theorem dX8_write_54 : decode cX8_write 54 = .ok (.pop, 1) := by decide +kernel
theorem dX8_write_55 : decode cX8_write 55 = .ok (.aload_n 0, 1) := by decide +kernel
theorem dX8_write_56 : decode cX8_write 56 = .ok (.getfield 26, 3) := by decide +kernel
theorem dX8_write_59 : decode cX8_write 59 = .ok (.iload_n 2, 1) := by decide +kernel
theorem dX8_write_60 : decode cX8_write 60 = .ok (.iload_n 3, 1) := by decide +kernel
theorem dX8_write_61 : decode cX8_write 61 = .ok (.invokevirtual 159, 3) := by decide +kernel
theorem dX8_write_64 : decode cX8_write 64 = .ok (.aload_n 0, 1) := by decide +kernel
theorem dX8_write_65 : decode cX8_write 65 = .ok (.getfield 26, 3) := by decide +kernel
theorem dX8_write_68 : decode cX8_write 68 = .ok (.getfield 147, 3) := by decide +kernel
theorem dX8_write_71 : decode cX8_write 71 = .ok (.getfield 156, 3) := by decide +kernel
theorem dX8_write_74 : decode cX8_write 74 = .ok (.iload 4, 2) := by decide +kernel
theorem dX8_write_76 : decode cX8_write 76 = .ok (.isub, 1) := by decide +kernel
theorem dX8_write_77 : decode cX8_write 77 = .ok (.ireturn, 1) := by decide +kernel
theorem dX8_flush_0 : decode cX8_flush 0 = .ok (.iload_n 1, 1) := by decide +kernel
theorem dX8_flush_1 : decode cX8_flush 1 = .ok (.iconst 1, 1) := by decide +kernel
theorem dX8_flush_2 : decode cX8_flush 2 = .ok (.bipush 40, 2) := by decide +kernel
theorem dX8_flush_4 : decode cX8_flush 4 = .ok (.invokestatic 59, 3) := by decide +kernel
theorem dX8_flush_7 : decode cX8_flush 7 = .ok (.aload_n 0, 1) := by decide +kernel
theorem dX8_flush_8 : decode cX8_flush 8 = .ok (.getfield 36, 3) := by decide +kernel
theorem dX8_flush_11 : decode cX8_flush 11 = .ok (.aload_n 0, 1) := by decide +kernel
theorem dX8_flush_12 : decode cX8_flush 12 = .ok (.getfield 26, 3) := by decide +kernel
theorem dX8_flush_15 : decode cX8_flush 15 = .ok (.invokevirtual 67, 3) := by decide +kernel
theorem dX8_flush_18 : decode cX8_flush 18 = .ok (.aload_n 0, 1) := by decide +kernel
theorem dX8_flush_19 : decode cX8_flush 19 = .ok (.getfield 26, 3) := by decide +kernel
theorem dX8_flush_22 : decode cX8_flush 22 = .ok (.getfield 147, 3) := by decide +kernel
theorem dX8_flush_25 : decode cX8_flush 25 = .ok (.iload_n 1, 1) := by decide +kernel
theorem dX8_flush_26 : decode cX8_flush 26 = .ok (.invokevirtual 162, 3) := by decide +kernel
theorem dX8_flush_29 : decode cX8_flush 29 = .ok (.ireturn, 1) := by decide +kernel
theorem dX8_forget_0 : decode cX8_forget 0 = .ok (.iload_n 1, 1) := by decide +kernel
theorem dX8_forget_1 : decode cX8_forget 1 = .ok (.iconst 0, 1) := by decide +kernel
theorem dX8_forget_2 : decode cX8_forget 2 = .ok (.sipush 199, 3) := by decide +kernel
theorem dX8_forget_5 : decode cX8_forget 5 = .ok (.invokestatic 59, 3) := by decide +kernel
theorem dX8_forget_8 : decode cX8_forget 8 = .ok (.aload_n 0, 1) := by decide +kernel
theorem dX8_forget_9 : decode cX8_forget 9 = .ok (.getfield 36, 3) := by decide +kernel
theorem dX8_forget_12 : decode cX8_forget 12 = .ok (.aload_n 0, 1) := by decide +kernel
theorem dX8_forget_13 : decode cX8_forget 13 = .ok (.getfield 26, 3) := by decide +kernel
theorem dX8_forget_16 : decode cX8_forget 16 = .ok (.invokevirtual 67, 3) := by decide +kernel
theorem dX8_forget_19 : decode cX8_forget 19 = .ok (.aload_n 0, 1) := by decide +kernel
theorem dX8_forget_20 : decode cX8_forget 20 = .ok (.getfield 26, 3) := by decide +kernel
theorem dX8_forget_23 : decode cX8_forget 23 = .ok (.iload_n 1, 1) := by decide +kernel
theorem dX8_forget_24 : decode cX8_forget 24 = .ok (.invokevirtual 165, 3) := by decide +kernel
theorem dX8_forget_27 : decode cX8_forget 27 = .ok (.ireturn, 1) := by decide +kernel
theorem dX8_share_0 : decode cX8_share 0 = .ok (.aload_n 0, 1) := by decide +kernel
theorem dX8_share_1 : decode cX8_share 1 = .ok (.iload_n 1, 1) := by decide +kernel
theorem dX8_share_2 : decode cX8_share 2 = .ok (.invokevirtual 102, 3) := by decide +kernel
theorem dX8_share_5 : decode cX8_share 5 = .ok (.aload_n 0, 1) := by decide +kernel
theorem dX8_share_6 : decode cX8_share 6 = .ok (.getfield 26, 3) := by decide +kernel
theorem dX8_share_9 : decode cX8_share 9 = .ok (.invokevirtual 168, 3) := by decide +kernel
theorem dX8_share_12 : decode cX8_share 12 = .ok (.istore_n 2, 1) := by decide +kernel
theorem dX8_share_13 : decode cX8_share 13 = .ok (.iload_n 2, 1) := by decide +kernel
theorem dX8_share_14 : decode cX8_share 14 = .ok (.ifCond .ne 7, 3) := by decide +kernel
theorem dX8_share_17 : decode cX8_share 17 = .ok (.dconst 0, 1) := by decide +kernel
theorem dX8_share_18 : decode cX8_share 18 = .ok (.goto 23, 3) := by decide +kernel
theorem dX8_share_21 : decode cX8_share 21 = .ok (.aload_n 0, 1) := by decide +kernel
theorem dX8_share_22 : decode cX8_share 22 = .ok (.getfield 26, 3) := by decide +kernel
theorem dX8_share_25 : decode cX8_share 25 = .ok (.getfield 172, 3) := by decide +kernel
theorem dX8_share_28 : decode cX8_share 28 = .ok (.aload_n 0, 1) := by decide +kernel
theorem dX8_share_29 : decode cX8_share 29 = .ok (.getfield 26, 3) := by decide +kernel
theorem dX8_share_32 : decode cX8_share 32 = .ok (.iload_n 1, 1) := by decide +kernel
theorem dX8_share_33 : decode cX8_share 33 = .ok (.invokevirtual 175, 3) := by decide +kernel
theorem dX8_share_36 : decode cX8_share 36 = .ok (.imul, 1) := by decide +kernel
theorem dX8_share_37 : decode cX8_share 37 = .ok (.i2d, 1) := by decide +kernel
theorem dX8_share_38 : decode cX8_share 38 = .ok (.iload_n 2, 1) := by decide +kernel
theorem dX8_share_39 : decode cX8_share 39 = .ok (.i2d, 1) := by decide +kernel
theorem dX8_share_40 : decode cX8_share 40 = .ok (.ddiv, 1) := by decide +kernel
theorem dX8_share_41 : decode cX8_share 41 = .ok (.dreturn, 1) := by decide +kernel
theorem dX8_hitShare_0 : decode cX8_hitShare 0 = .ok (.aload_n 0, 1) := by decide +kernel
theorem dX8_hitShare_1 : decode cX8_hitShare 1 = .ok (.getfield 26, 3) := by decide +kernel
theorem dX8_hitShare_4 : decode cX8_hitShare 4 = .ok (.getfield 71, 3) := by decide +kernel
theorem dX8_hitShare_7 : decode cX8_hitShare 7 = .ok (.getfield 75, 3) := by decide +kernel
theorem dX8_hitShare_10 : decode cX8_hitShare 10 = .ok (.istore_n 1, 1) := by decide +kernel
theorem dX8_hitShare_11 : decode cX8_hitShare 11 = .ok (.iload_n 1, 1) := by decide +kernel
theorem dX8_hitShare_12 : decode cX8_hitShare 12 = .ok (.ifCond .ne 7, 3) := by decide +kernel
theorem dX8_hitShare_15 : decode cX8_hitShare 15 = .ok (.fconst 0, 1) := by decide +kernel
theorem dX8_hitShare_16 : decode cX8_hitShare 16 = .ok (.goto 17, 3) := by decide +kernel
theorem dX8_hitShare_19 : decode cX8_hitShare 19 = .ok (.aload_n 0, 1) := by decide +kernel
theorem dX8_hitShare_20 : decode cX8_hitShare 20 = .ok (.getfield 26, 3) := by decide +kernel
theorem dX8_hitShare_23 : decode cX8_hitShare 23 = .ok (.getfield 71, 3) := by decide +kernel
theorem dX8_hitShare_26 : decode cX8_hitShare 26 = .ok (.getfield 178, 3) := by decide +kernel
theorem dX8_hitShare_29 : decode cX8_hitShare 29 = .ok (.i2f, 1) := by decide +kernel
theorem dX8_hitShare_30 : decode cX8_hitShare 30 = .ok (.iload_n 1, 1) := by decide +kernel
theorem dX8_hitShare_31 : decode cX8_hitShare 31 = .ok (.i2f, 1) := by decide +kernel
theorem dX8_hitShare_32 : decode cX8_hitShare 32 = .ok (.fdiv, 1) := by decide +kernel
theorem dX8_hitShare_33 : decode cX8_hitShare 33 = .ok (.freturn, 1) := by decide +kernel
theorem dX8_order_0 : decode cX8_order 0 = .ok (.iload_n 1, 1) := by decide +kernel
theorem dX8_order_1 : decode cX8_order 1 = .ok (.invokestatic 131, 3) := by decide +kernel
theorem dX8_order_4 : decode cX8_order 4 = .ok (.aload_n 0, 1) := by decide +kernel
theorem dX8_order_5 : decode cX8_order 5 = .ok (.getfield 26, 3) := by decide +kernel
theorem dX8_order_8 : decode cX8_order 8 = .ok (.getfield 147, 3) := by decide +kernel
theorem dX8_order_11 : decode cX8_order 11 = .ok (.iload_n 1, 1) := by decide +kernel
theorem dX8_order_12 : decode cX8_order 12 = .ok (.invokevirtual 181, 3) := by decide +kernel
theorem dX8_order_15 : decode cX8_order 15 = .ok (.ireturn, 1) := by decide +kernel
theorem dX8_victim_0 : decode cX8_victim 0 = .ok (.aload_n 0, 1) := by decide +kernel
theorem dX8_victim_1 : decode cX8_victim 1 = .ok (.getfield 26, 3) := by decide +kernel
theorem dX8_victim_4 : decode cX8_victim 4 = .ok (.iload_n 1, 1) := by decide +kernel
theorem dX8_victim_5 : decode cX8_victim 5 = .ok (.invokevirtual 184, 3) := by decide +kernel
theorem dX8_victim_8 : decode cX8_victim 8 = .ok (.ireturn, 1) := by decide +kernel
theorem dX8_leaving_0 : decode cX8_leaving 0 = .ok (.aload_n 0, 1) := by decide +kernel
theorem dX8_leaving_1 : decode cX8_leaving 1 = .ok (.getfield 26, 3) := by decide +kernel
theorem dX8_leaving_4 : decode cX8_leaving 4 = .ok (.invokevirtual 188, 3) := by decide +kernel
theorem dX8_leaving_7 : decode cX8_leaving 7 = .ok (.ireturn, 1) := by decide +kernel
theorem dX8_oldest_0 : decode cX8_oldest 0 = .ok (.aload_n 0, 1) := by decide +kernel
theorem dX8_oldest_1 : decode cX8_oldest 1 = .ok (.getfield 26, 3) := by decide +kernel
theorem dX8_oldest_4 : decode cX8_oldest 4 = .ok (.getfield 147, 3) := by decide +kernel
theorem dX8_oldest_7 : decode cX8_oldest 7 = .ok (.invokevirtual 191, 3) := by decide +kernel
theorem dX8_oldest_10 : decode cX8_oldest 10 = .ok (.ireturn, 1) := by decide +kernel
theorem dX8_ages_0 : decode cX8_ages 0 = .ok (.iload_n 1, 1) := by decide +kernel
theorem dX8_ages_1 : decode cX8_ages 1 = .ok (.iconst 3, 1) := by decide +kernel
theorem dX8_ages_2 : decode cX8_ages 2 = .ok (.invokestatic 127, 3) := by decide +kernel
theorem dX8_ages_5 : decode cX8_ages 5 = .ok (.aload_n 0, 1) := by decide +kernel
theorem dX8_ages_6 : decode cX8_ages 6 = .ok (.getfield 26, 3) := by decide +kernel
theorem dX8_ages_9 : decode cX8_ages 9 = .ok (.iload_n 1, 1) := by decide +kernel
theorem dX8_ages_10 : decode cX8_ages 10 = .ok (.invokevirtual 194, 3) := by decide +kernel
theorem dX8_ages_13 : decode cX8_ages 13 = .ok (.ireturn, 1) := by decide +kernel
theorem dX8_ownedAt_0 : decode cX8_ownedAt 0 = .ok (.aload_n 0, 1) := by decide +kernel
theorem dX8_ownedAt_1 : decode cX8_ownedAt 1 = .ok (.iload_n 1, 1) := by decide +kernel
theorem dX8_ownedAt_2 : decode cX8_ownedAt 2 = .ok (.invokevirtual 102, 3) := by decide +kernel
theorem dX8_ownedAt_5 : decode cX8_ownedAt 5 = .ok (.iload_n 2, 1) := by decide +kernel
theorem dX8_ownedAt_6 : decode cX8_ownedAt 6 = .ok (.iconst 3, 1) := by decide +kernel
theorem dX8_ownedAt_7 : decode cX8_ownedAt 7 = .ok (.invokestatic 127, 3) := by decide +kernel
theorem dX8_ownedAt_10 : decode cX8_ownedAt 10 = .ok (.iload_n 3, 1) := by decide +kernel
theorem dX8_ownedAt_11 : decode cX8_ownedAt 11 = .ok (.invokestatic 131, 3) := by decide +kernel
theorem dX8_ownedAt_14 : decode cX8_ownedAt 14 = .ok (.aload_n 0, 1) := by decide +kernel
theorem dX8_ownedAt_15 : decode cX8_ownedAt 15 = .ok (.getfield 26, 3) := by decide +kernel
theorem dX8_ownedAt_18 : decode cX8_ownedAt 18 = .ok (.iload_n 1, 1) := by decide +kernel
theorem dX8_ownedAt_19 : decode cX8_ownedAt 19 = .ok (.iload_n 2, 1) := by decide +kernel
theorem dX8_ownedAt_20 : decode cX8_ownedAt 20 = .ok (.iload_n 3, 1) := by decide +kernel
theorem dX8_ownedAt_21 : decode cX8_ownedAt 21 = .ok (.invokevirtual 197, 3) := by decide +kernel
theorem dX8_ownedAt_24 : decode cX8_ownedAt 24 = .ok (.ireturn, 1) := by decide +kernel
theorem dX8_excess_0 : decode cX8_excess 0 = .ok (.aload_n 0, 1) := by decide +kernel
theorem dX8_excess_1 : decode cX8_excess 1 = .ok (.iload_n 1, 1) := by decide +kernel
theorem dX8_excess_2 : decode cX8_excess 2 = .ok (.invokevirtual 102, 3) := by decide +kernel
theorem dX8_excess_5 : decode cX8_excess 5 = .ok (.aload_n 0, 1) := by decide +kernel
theorem dX8_excess_6 : decode cX8_excess 6 = .ok (.getfield 26, 3) := by decide +kernel
theorem dX8_excess_9 : decode cX8_excess 9 = .ok (.invokevirtual 168, 3) := by decide +kernel
theorem dX8_excess_12 : decode cX8_excess 12 = .ok (.istore_n 2, 1) := by decide +kernel
theorem dX8_excess_13 : decode cX8_excess 13 = .ok (.aload_n 0, 1) := by decide +kernel
theorem dX8_excess_14 : decode cX8_excess 14 = .ok (.getfield 26, 3) := by decide +kernel
theorem dX8_excess_17 : decode cX8_excess 17 = .ok (.iload_n 1, 1) := by decide +kernel
theorem dX8_excess_18 : decode cX8_excess 18 = .ok (.aload_n 0, 1) := by decide +kernel
theorem dX8_excess_19 : decode cX8_excess 19 = .ok (.getfield 26, 3) := by decide +kernel
theorem dX8_excess_22 : decode cX8_excess 22 = .ok (.iload_n 1, 1) := by decide +kernel
theorem dX8_excess_23 : decode cX8_excess 23 = .ok (.invokevirtual 201, 3) := by decide +kernel
theorem dX8_excess_26 : decode cX8_excess 26 = .ok (.iload_n 2, 1) := by decide +kernel
theorem dX8_excess_27 : decode cX8_excess 27 = .ok (.invokevirtual 204, 3) := by decide +kernel
theorem dX8_excess_30 : decode cX8_excess 30 = .ok (.istore_n 3, 1) := by decide +kernel
theorem dX8_excess_31 : decode cX8_excess 31 = .ok (.iload_n 2, 1) := by decide +kernel
theorem dX8_excess_32 : decode cX8_excess 32 = .ok (.ifCond .ne 7, 3) := by decide +kernel
theorem dX8_excess_35 : decode cX8_excess 35 = .ok (.fconst 0, 1) := by decide +kernel
theorem dX8_excess_36 : decode cX8_excess 36 = .ok (.goto 8, 3) := by decide +kernel
theorem dX8_excess_39 : decode cX8_excess 39 = .ok (.iload_n 3, 1) := by decide +kernel
theorem dX8_excess_40 : decode cX8_excess 40 = .ok (.i2f, 1) := by decide +kernel
theorem dX8_excess_41 : decode cX8_excess 41 = .ok (.iload_n 2, 1) := by decide +kernel
theorem dX8_excess_42 : decode cX8_excess 42 = .ok (.i2f, 1) := by decide +kernel
theorem dX8_excess_43 : decode cX8_excess 43 = .ok (.fdiv, 1) := by decide +kernel
theorem dX8_excess_44 : decode cX8_excess 44 = .ok (.freturn, 1) := by decide +kernel
theorem dX8_toScan_0 : decode cX8_toScan 0 = .ok (.aload_n 0, 1) := by decide +kernel
theorem dX8_toScan_1 : decode cX8_toScan 1 = .ok (.iload_n 1, 1) := by decide +kernel
theorem dX8_toScan_2 : decode cX8_toScan 2 = .ok (.invokevirtual 102, 3) := by decide +kernel
theorem dX8_toScan_5 : decode cX8_toScan 5 = .ok (.iload_n 2, 1) := by decide +kernel
theorem dX8_toScan_6 : decode cX8_toScan 6 = .ok (.iconst 0, 1) := by decide +kernel
theorem dX8_toScan_7 : decode cX8_toScan 7 = .ok (.sipush 199, 3) := by decide +kernel
theorem dX8_toScan_10 : decode cX8_toScan 10 = .ok (.invokestatic 59, 3) := by decide +kernel
theorem dX8_toScan_13 : decode cX8_toScan 13 = .ok (.iconst 1, 1) := by decide +kernel
theorem dX8_toScan_14 : decode cX8_toScan 14 = .ok (.aload_n 0, 1) := by decide +kernel
theorem dX8_toScan_15 : decode cX8_toScan 15 = .ok (.getfield 26, 3) := by decide +kernel
theorem dX8_toScan_18 : decode cX8_toScan 18 = .ok (.getfield 207, 3) := by decide +kernel
theorem dX8_toScan_21 : decode cX8_toScan 21 = .ok (.aload_n 0, 1) := by decide +kernel
theorem dX8_toScan_22 : decode cX8_toScan 22 = .ok (.getfield 26, 3) := by decide +kernel
theorem dX8_toScan_25 : decode cX8_toScan 25 = .ok (.iload_n 1, 1) := by decide +kernel
theorem dX8_toScan_26 : decode cX8_toScan 26 = .ok (.iload_n 2, 1) := by decide +kernel
theorem dX8_toScan_27 : decode cX8_toScan 27 = .ok (.invokevirtual 210, 3) := by decide +kernel
theorem dX8_toScan_30 : decode cX8_toScan 30 = .ok (.isub, 1) := by decide +kernel
theorem dX8_toScan_31 : decode cX8_toScan 31 = .ok (.iconst 1, 1) := by decide +kernel
theorem dX8_toScan_32 : decode cX8_toScan 32 = .ok (.iadd, 1) := by decide +kernel
theorem dX8_toScan_33 : decode cX8_toScan 33 = .ok (.invokestatic 213, 3) := by decide +kernel
theorem dX8_toScan_36 : decode cX8_toScan 36 = .ok (.istore_n 3, 1) := by decide +kernel
theorem dX8_toScan_37 : decode cX8_toScan 37 = .ok (.iload_n 2, 1) := by decide +kernel
theorem dX8_toScan_38 : decode cX8_toScan 38 = .ok (.iload_n 3, 1) := by decide +kernel
theorem dX8_toScan_39 : decode cX8_toScan 39 = .ok (.iadd, 1) := by decide +kernel
theorem dX8_toScan_40 : decode cX8_toScan 40 = .ok (.sipush 200, 3) := by decide +kernel
theorem dX8_toScan_43 : decode cX8_toScan 43 = .ok (.if_icmp .le 7, 3) := by decide +kernel
theorem dX8_toScan_46 : decode cX8_toScan 46 = .ok (.iconst (-1), 1) := by decide +kernel
theorem dX8_toScan_47 : decode cX8_toScan 47 = .ok (.goto 4, 3) := by decide +kernel
theorem dX8_toScan_50 : decode cX8_toScan 50 = .ok (.iload_n 3, 1) := by decide +kernel
theorem dX8_toScan_51 : decode cX8_toScan 51 = .ok (.ireturn, 1) := by decide +kernel
theorem dX8_rank_0 : decode cX8_rank 0 = .ok (.iload_n 1, 1) := by decide +kernel
theorem dX8_rank_1 : decode cX8_rank 1 = .ok (.iconst 0, 1) := by decide +kernel
theorem dX8_rank_2 : decode cX8_rank 2 = .ok (.sipush 199, 3) := by decide +kernel
theorem dX8_rank_5 : decode cX8_rank 5 = .ok (.invokestatic 59, 3) := by decide +kernel
theorem dX8_rank_8 : decode cX8_rank 8 = .ok (.aload_n 0, 1) := by decide +kernel
theorem dX8_rank_9 : decode cX8_rank 9 = .ok (.getfield 26, 3) := by decide +kernel
theorem dX8_rank_12 : decode cX8_rank 12 = .ok (.getfield 147, 3) := by decide +kernel
theorem dX8_rank_15 : decode cX8_rank 15 = .ok (.iload_n 1, 1) := by decide +kernel
theorem dX8_rank_16 : decode cX8_rank 16 = .ok (.invokevirtual 218, 3) := by decide +kernel
theorem dX8_rank_19 : decode cX8_rank 19 = .ok (.ireturn, 1) := by decide +kernel
theorem dX8_between_0 : decode cX8_between 0 = .ok (.iload_n 1, 1) := by decide +kernel
theorem dX8_between_1 : decode cX8_between 1 = .ok (.iconst 5, 1) := by decide +kernel
theorem dX8_between_2 : decode cX8_between 2 = .ok (.invokestatic 127, 3) := by decide +kernel
theorem dX8_between_5 : decode cX8_between 5 = .ok (.iload_n 2, 1) := by decide +kernel
theorem dX8_between_6 : decode cX8_between 6 = .ok (.iconst 0, 1) := by decide +kernel
theorem dX8_between_7 : decode cX8_between 7 = .ok (.sipush 199, 3) := by decide +kernel
theorem dX8_between_10 : decode cX8_between 10 = .ok (.invokestatic 59, 3) := by decide +kernel
theorem dX8_between_13 : decode cX8_between 13 = .ok (.iload_n 3, 1) := by decide +kernel
theorem dX8_between_14 : decode cX8_between 14 = .ok (.iload_n 2, 1) := by decide +kernel
theorem dX8_between_15 : decode cX8_between 15 = .ok (.sipush 199, 3) := by decide +kernel
theorem dX8_between_18 : decode cX8_between 18 = .ok (.invokestatic 59, 3) := by decide +kernel
theorem dX8_between_21 : decode cX8_between 21 = .ok (.aload_n 0, 1) := by decide +kernel
theorem dX8_between_22 : decode cX8_between 22 = .ok (.getfield 26, 3) := by decide +kernel
theorem dX8_between_25 : decode cX8_between 25 = .ok (.iload_n 1, 1) := by decide +kernel
theorem dX8_between_26 : decode cX8_between 26 = .ok (.invokevirtual 134, 3) := by decide +kernel
theorem dX8_between_29 : decode cX8_between 29 = .ok (.iload_n 2, 1) := by decide +kernel
theorem dX8_between_30 : decode cX8_between 30 = .ok (.iload_n 3, 1) := by decide +kernel
theorem dX8_between_31 : decode cX8_between 31 = .ok (.invokevirtual 221, 3) := by decide +kernel
theorem dX8_between_34 : decode cX8_between 34 = .ok (.ireturn, 1) := by decide +kernel
theorem dX8_longest_0 : decode cX8_longest 0 = .ok (.iload_n 1, 1) := by decide +kernel
theorem dX8_longest_1 : decode cX8_longest 1 = .ok (.iconst 5, 1) := by decide +kernel
theorem dX8_longest_2 : decode cX8_longest 2 = .ok (.invokestatic 127, 3) := by decide +kernel
theorem dX8_longest_5 : decode cX8_longest 5 = .ok (.aload_n 0, 1) := by decide +kernel
theorem dX8_longest_6 : decode cX8_longest 6 = .ok (.getfield 26, 3) := by decide +kernel
theorem dX8_longest_9 : decode cX8_longest 9 = .ok (.getfield 147, 3) := by decide +kernel
theorem dX8_longest_12 : decode cX8_longest 12 = .ok (.iload_n 1, 1) := by decide +kernel
theorem dX8_longest_13 : decode cX8_longest 13 = .ok (.invokevirtual 224, 3) := by decide +kernel
theorem dX8_longest_16 : decode cX8_longest 16 = .ok (.ireturn, 1) := by decide +kernel
theorem dX8_differing_0 : decode cX8_differing 0 = .ok (.aload_n 0, 1) := by decide +kernel
theorem dX8_differing_1 : decode cX8_differing 1 = .ok (.getfield 26, 3) := by decide +kernel
theorem dX8_differing_4 : decode cX8_differing 4 = .ok (.getfield 147, 3) := by decide +kernel
theorem dX8_differing_7 : decode cX8_differing 7 = .ok (.invokevirtual 227, 3) := by decide +kernel
theorem dX8_differing_10 : decode cX8_differing 10 = .ok (.ireturn, 1) := by decide +kernel
theorem dX8_stale_0 : decode cX8_stale 0 = .ok (.iload_n 1, 1) := by decide +kernel
theorem dX8_stale_1 : decode cX8_stale 1 = .ok (.ifCond .ge 13, 3) := by decide +kernel
theorem dX8_stale_4 : decode cX8_stale 4 = .ok (.new 230, 3) := by decide +kernel
theorem dX8_stale_7 : decode cX8_stale 7 = .ok (.dup, 1) := by decide +kernel
theorem dX8_stale_8 : decode cX8_stale 8 = .ok (.ldc 232, 2) := by decide +kernel
theorem dX8_stale_10 : decode cX8_stale 10 = .ok (.invokespecial 234, 3) := by decide +kernel
theorem dX8_stale_13 : decode cX8_stale 13 = .ok (.athrow, 1) := by decide +kernel
theorem dX8_stale_14 : decode cX8_stale 14 = .ok (.aload_n 0, 1) := by decide +kernel
theorem dX8_stale_15 : decode cX8_stale 15 = .ok (.getfield 26, 3) := by decide +kernel
theorem dX8_stale_18 : decode cX8_stale 18 = .ok (.getfield 147, 3) := by decide +kernel
theorem dX8_stale_21 : decode cX8_stale 21 = .ok (.aload_n 0, 1) := by decide +kernel
theorem dX8_stale_22 : decode cX8_stale 22 = .ok (.getfield 26, 3) := by decide +kernel
theorem dX8_stale_25 : decode cX8_stale 25 = .ok (.getfield 71, 3) := by decide +kernel
theorem dX8_stale_28 : decode cX8_stale 28 = .ok (.getfield 75, 3) := by decide +kernel
theorem dX8_stale_31 : decode cX8_stale 31 = .ok (.iload_n 1, 1) := by decide +kernel
theorem dX8_stale_32 : decode cX8_stale 32 = .ok (.isub, 1) := by decide +kernel
theorem dX8_stale_33 : decode cX8_stale 33 = .ok (.invokevirtual 235, 3) := by decide +kernel
theorem dX8_stale_36 : decode cX8_stale 36 = .ok (.ireturn, 1) := by decide +kernel
theorem dX8_wouldBe_0 : decode cX8_wouldBe 0 = .ok (.aload_n 0, 1) := by decide +kernel
theorem dX8_wouldBe_1 : decode cX8_wouldBe 1 = .ok (.iload_n 1, 1) := by decide +kernel
theorem dX8_wouldBe_2 : decode cX8_wouldBe 2 = .ok (.invokevirtual 102, 3) := by decide +kernel
theorem dX8_wouldBe_5 : decode cX8_wouldBe 5 = .ok (.iload_n 2, 1) := by decide +kernel
theorem dX8_wouldBe_6 : decode cX8_wouldBe 6 = .ok (.iconst 0, 1) := by decide +kernel
theorem dX8_wouldBe_7 : decode cX8_wouldBe 7 = .ok (.sipush 199, 3) := by decide +kernel
theorem dX8_wouldBe_10 : decode cX8_wouldBe 10 = .ok (.invokestatic 59, 3) := by decide +kernel
theorem dX8_wouldBe_13 : decode cX8_wouldBe 13 = .ok (.iload_n 3, 1) := by decide +kernel
theorem dX8_wouldBe_14 : decode cX8_wouldBe 14 = .ok (.iconst 0, 1) := by decide +kernel
theorem dX8_wouldBe_15 : decode cX8_wouldBe 15 = .ok (.bipush 6, 2) := by decide +kernel
theorem dX8_wouldBe_17 : decode cX8_wouldBe 17 = .ok (.invokestatic 59, 3) := by decide +kernel
theorem dX8_wouldBe_20 : decode cX8_wouldBe 20 = .ok (.aload_n 0, 1) := by decide +kernel
theorem dX8_wouldBe_21 : decode cX8_wouldBe 21 = .ok (.getfield 30, 3) := by decide +kernel
theorem dX8_wouldBe_24 : decode cX8_wouldBe 24 = .ok (.aload_n 0, 1) := by decide +kernel
theorem dX8_wouldBe_25 : decode cX8_wouldBe 25 = .ok (.getfield 26, 3) := by decide +kernel
theorem dX8_wouldBe_28 : decode cX8_wouldBe 28 = .ok (.invokevirtual 238, 3) := by decide +kernel
theorem dX8_wouldBe_31 : decode cX8_wouldBe 31 = .ok (.aload_n 0, 1) := by decide +kernel
theorem dX8_wouldBe_32 : decode cX8_wouldBe 32 = .ok (.getfield 30, 3) := by decide +kernel
theorem dX8_wouldBe_35 : decode cX8_wouldBe 35 = .ok (.iload_n 1, 1) := by decide +kernel
theorem dX8_wouldBe_36 : decode cX8_wouldBe 36 = .ok (.iload_n 2, 1) := by decide +kernel
theorem dX8_wouldBe_37 : decode cX8_wouldBe 37 = .ok (.iconst 0, 1) := by decide +kernel
theorem dX8_wouldBe_38 : decode cX8_wouldBe 38 = .ok (.invokevirtual 143, 3) := by decide +kernel
theorem dX8_wouldBe_41 : decode cX8_wouldBe 41 = .ok (.istore 4, 2) := by decide +kernel
theorem dX8_wouldBe_43 : decode cX8_wouldBe 43 = .ok (.aload_n 0, 1) := by decide +kernel
theorem dX8_wouldBe_44 : decode cX8_wouldBe 44 = .ok (.iload_n 2, 1) := by decide +kernel
theorem dX8_wouldBe_45 : decode cX8_wouldBe 45 = .ok (.iload 4, 2) := by decide +kernel
theorem dX8_wouldBe_47 : decode cX8_wouldBe 47 = .ok (.iload_n 3, 1) := by decide +kernel
theorem dX8_wouldBe_48 : decode cX8_wouldBe 48 = .ok (.invokevirtual 241, 3) := by decide +kernel
theorem dX8_wouldBe_51 : decode cX8_wouldBe 51 = .ok (.ireturn, 1) := by decide +kernel
theorem dX8_ahead_0 : decode cX8_ahead 0 = .ok (.aload_n 0, 1) := by decide +kernel
theorem dX8_ahead_1 : decode cX8_ahead 1 = .ok (.iload_n 1, 1) := by decide +kernel
theorem dX8_ahead_2 : decode cX8_ahead 2 = .ok (.iload_n 2, 1) := by decide +kernel
theorem dX8_ahead_3 : decode cX8_ahead 3 = .ok (.iload_n 3, 1) := by decide +kernel
theorem dX8_ahead_4 : decode cX8_ahead 4 = .ok (.iload 4, 2) := by decide +kernel
theorem dX8_ahead_6 : decode cX8_ahead 6 = .ok (.invokevirtual 244, 3) := by decide +kernel
theorem dX8_ahead_9 : decode cX8_ahead 9 = .ok (.iload 5, 2) := by decide +kernel
theorem dX8_ahead_11 : decode cX8_ahead 11 = .ok (.iconst 0, 1) := by decide +kernel
theorem dX8_ahead_12 : decode cX8_ahead 12 = .ok (.bipush 6, 2) := by decide +kernel
theorem dX8_ahead_14 : decode cX8_ahead 14 = .ok (.invokestatic 59, 3) := by decide +kernel
theorem dX8_ahead_17 : decode cX8_ahead 17 = .ok (.aload_n 0, 1) := by decide +kernel
theorem dX8_ahead_18 : decode cX8_ahead 18 = .ok (.iload_n 1, 1) := by decide +kernel
theorem dX8_ahead_19 : decode cX8_ahead 19 = .ok (.iload_n 2, 1) := by decide +kernel
theorem dX8_ahead_20 : decode cX8_ahead 20 = .ok (.iload_n 3, 1) := by decide +kernel
theorem dX8_ahead_21 : decode cX8_ahead 21 = .ok (.iload 4, 2) := by decide +kernel
theorem dX8_ahead_23 : decode cX8_ahead 23 = .ok (.aload_n 0, 1) := by decide +kernel
theorem dX8_ahead_24 : decode cX8_ahead 24 = .ok (.getfield 26, 3) := by decide +kernel
theorem dX8_ahead_27 : decode cX8_ahead 27 = .ok (.getfield 207, 3) := by decide +kernel
theorem dX8_ahead_30 : decode cX8_ahead 30 = .ok (.invokevirtual 248, 3) := by decide +kernel
theorem dX8_ahead_33 : decode cX8_ahead 33 = .ok (.aload_n 0, 1) := by decide +kernel
theorem dX8_ahead_34 : decode cX8_ahead 34 = .ok (.iload 5, 2) := by decide +kernel
theorem dX8_ahead_36 : decode cX8_ahead 36 = .ok (.invokevirtual 252, 3) := by decide +kernel
theorem dX8_ahead_39 : decode cX8_ahead 39 = .ok (.ireturn, 1) := by decide +kernel
theorem dX8_bestLength_0 : decode cX8_bestLength 0 = .ok (.aload_n 0, 1) := by decide +kernel
theorem dX8_bestLength_1 : decode cX8_bestLength 1 = .ok (.iload_n 1, 1) := by decide +kernel
theorem dX8_bestLength_2 : decode cX8_bestLength 2 = .ok (.iload_n 2, 1) := by decide +kernel
theorem dX8_bestLength_3 : decode cX8_bestLength 3 = .ok (.iload_n 3, 1) := by decide +kernel
theorem dX8_bestLength_4 : decode cX8_bestLength 4 = .ok (.iload 4, 2) := by decide +kernel
theorem dX8_bestLength_6 : decode cX8_bestLength 6 = .ok (.invokevirtual 244, 3) := by decide +kernel
theorem dX8_bestLength_9 : decode cX8_bestLength 9 = .ok (.iconst (-1), 1) := by decide +kernel
theorem dX8_bestLength_10 : decode cX8_bestLength 10 = .ok (.istore 5, 2) := by decide +kernel
theorem dX8_bestLength_12 : decode cX8_bestLength 12 = .ok (.iconst (-1), 1) := by decide +kernel
theorem dX8_bestLength_13 : decode cX8_bestLength 13 = .ok (.istore 6, 2) := by decide +kernel
theorem dX8_bestLength_15 : decode cX8_bestLength 15 = .ok (.iconst 2, 1) := by decide +kernel
theorem dX8_bestLength_16 : decode cX8_bestLength 16 = .ok (.istore 7, 2) := by decide +kernel
theorem dX8_bestLength_18 : decode cX8_bestLength 18 = .ok (.iload 7, 2) := by decide +kernel
theorem dX8_bestLength_20 : decode cX8_bestLength 20 = .ok (.bipush 20, 2) := by decide +kernel
theorem dX8_bestLength_22 : decode cX8_bestLength 22 = .ok (.if_icmp .gt 48, 3) := by decide +kernel
theorem dX8_bestLength_25 : decode cX8_bestLength 25 = .ok (.aload_n 0, 1) := by decide +kernel
theorem dX8_bestLength_26 : decode cX8_bestLength 26 = .ok (.iload_n 1, 1) := by decide +kernel
theorem dX8_bestLength_27 : decode cX8_bestLength 27 = .ok (.iload_n 2, 1) := by decide +kernel
theorem dX8_bestLength_28 : decode cX8_bestLength 28 = .ok (.iload_n 3, 1) := by decide +kernel
theorem dX8_bestLength_29 : decode cX8_bestLength 29 = .ok (.iload 4, 2) := by decide +kernel
theorem dX8_bestLength_31 : decode cX8_bestLength 31 = .ok (.iload 7, 2) := by decide +kernel
theorem dX8_bestLength_33 : decode cX8_bestLength 33 = .ok (.invokevirtual 248, 3) := by decide +kernel
theorem dX8_bestLength_36 : decode cX8_bestLength 36 = .ok (.aload_n 0, 1) := by decide +kernel
theorem dX8_bestLength_37 : decode cX8_bestLength 37 = .ok (.iconst 0, 1) := by decide +kernel
theorem dX8_bestLength_38 : decode cX8_bestLength 38 = .ok (.invokevirtual 252, 3) := by decide +kernel
theorem dX8_bestLength_41 : decode cX8_bestLength 41 = .ok (.aload_n 0, 1) := by decide +kernel
theorem dX8_bestLength_42 : decode cX8_bestLength 42 = .ok (.iconst 1, 1) := by decide +kernel
theorem dX8_bestLength_43 : decode cX8_bestLength 43 = .ok (.invokevirtual 252, 3) := by decide +kernel
theorem dX8_bestLength_46 : decode cX8_bestLength 46 = .ok (.iadd, 1) := by decide +kernel
theorem dX8_bestLength_47 : decode cX8_bestLength 47 = .ok (.istore 8, 2) := by decide +kernel
theorem dX8_bestLength_49 : decode cX8_bestLength 49 = .ok (.iload 8, 2) := by decide +kernel
theorem dX8_bestLength_51 : decode cX8_bestLength 51 = .ok (.iload 6, 2) := by decide +kernel
theorem dX8_bestLength_53 : decode cX8_bestLength 53 = .ok (.if_icmp .le 11, 3) := by decide +kernel
theorem dX8_bestLength_56 : decode cX8_bestLength 56 = .ok (.iload 8, 2) := by decide +kernel
theorem dX8_bestLength_58 : decode cX8_bestLength 58 = .ok (.istore 6, 2) := by decide +kernel
theorem dX8_bestLength_60 : decode cX8_bestLength 60 = .ok (.iload 7, 2) := by decide +kernel
theorem dX8_bestLength_62 : decode cX8_bestLength 62 = .ok (.istore 5, 2) := by decide +kernel
theorem dX8_bestLength_64 : decode cX8_bestLength 64 = .ok (.iinc 7 1, 3) := by decide +kernel
theorem dX8_bestLength_67 : decode cX8_bestLength 67 = .ok (.goto (-49), 3) := by decide +kernel
theorem dX8_bestLength_70 : decode cX8_bestLength 70 = .ok (.iload 5, 2) := by decide +kernel
theorem dX8_bestLength_72 : decode cX8_bestLength 72 = .ok (.ireturn, 1) := by decide +kernel
theorem dX8_show_0 : decode cX8_show 0 = .ok (.iload_n 1, 1) := by decide +kernel
theorem dX8_show_1 : decode cX8_show 1 = .ok (.iconst 5, 1) := by decide +kernel
theorem dX8_show_2 : decode cX8_show 2 = .ok (.invokestatic 127, 3) := by decide +kernel
theorem dX8_show_5 : decode cX8_show 5 = .ok (.aload_n 0, 1) := by decide +kernel
theorem dX8_show_6 : decode cX8_show 6 = .ok (.getfield 26, 3) := by decide +kernel
theorem dX8_show_9 : decode cX8_show 9 = .ok (.iload_n 1, 1) := by decide +kernel
theorem dX8_show_10 : decode cX8_show 10 = .ok (.invokevirtual 134, 3) := by decide +kernel
theorem dX8_show_13 : decode cX8_show 13 = .ok (.astore_n 2, 1) := by decide +kernel
theorem dX8_show_14 : decode cX8_show 14 = .ok (.aload_n 0, 1) := by decide +kernel
theorem dX8_show_15 : decode cX8_show 15 = .ok (.getfield 19, 3) := by decide +kernel
theorem dX8_show_18 : decode cX8_show 18 = .ok (.iconst 0, 1) := by decide +kernel
theorem dX8_show_19 : decode cX8_show 19 = .ok (.putfield 255, 3) := by decide +kernel
theorem dX8_show_22 : decode cX8_show 22 = .ok (.iconst 0, 1) := by decide +kernel
theorem dX8_show_23 : decode cX8_show 23 = .ok (.istore_n 3, 1) := by decide +kernel
theorem dX8_show_24 : decode cX8_show 24 = .ok (.iload_n 3, 1) := by decide +kernel
theorem dX8_show_25 : decode cX8_show 25 = .ok (.aload_n 2, 1) := by decide +kernel
theorem dX8_show_26 : decode cX8_show 26 = .ok (.getfield 256, 3) := by decide +kernel
theorem dX8_show_29 : decode cX8_show 29 = .ok (.if_icmp .ge 67, 3) := by decide +kernel
theorem dX8_show_32 : decode cX8_show 32 = .ok (.aload_n 2, 1) := by decide +kernel
theorem dX8_show_33 : decode cX8_show 33 = .ok (.iload_n 3, 1) := by decide +kernel
theorem dX8_show_34 : decode cX8_show 34 = .ok (.invokevirtual 138, 3) := by decide +kernel
theorem dX8_show_37 : decode cX8_show 37 = .ok (.istore 4, 2) := by decide +kernel
theorem dX8_show_39 : decode cX8_show 39 = .ok (.iload_n 3, 1) := by decide +kernel
theorem dX8_show_40 : decode cX8_show 40 = .ok (.ifCond .le 12, 3) := by decide +kernel
theorem dX8_show_43 : decode cX8_show 43 = .ok (.aload_n 0, 1) := by decide +kernel
theorem dX8_show_44 : decode cX8_show 44 = .ok (.getfield 19, 3) := by decide +kernel
theorem dX8_show_47 : decode cX8_show 47 = .ok (.bipush 44, 2) := by decide +kernel
theorem dX8_show_49 : decode cX8_show 49 = .ok (.invokevirtual 257, 3) := by decide +kernel
theorem dX8_show_52 : decode cX8_show 52 = .ok (.aload_n 0, 1) := by decide +kernel
theorem dX8_show_53 : decode cX8_show 53 = .ok (.getfield 19, 3) := by decide +kernel
theorem dX8_show_56 : decode cX8_show 56 = .ok (.iload 4, 2) := by decide +kernel
theorem dX8_show_58 : decode cX8_show 58 = .ok (.invokevirtual 258, 3) := by decide +kernel
theorem dX8_show_61 : decode cX8_show 61 = .ok (.iload_n 1, 1) := by decide +kernel
theorem dX8_show_62 : decode cX8_show 62 = .ok (.iconst 3, 1) := by decide +kernel
theorem dX8_show_63 : decode cX8_show 63 = .ok (.if_icmp .ge 27, 3) := by decide +kernel
theorem dX8_show_66 : decode cX8_show 66 = .ok (.aload_n 0, 1) := by decide +kernel
theorem dX8_show_67 : decode cX8_show 67 = .ok (.getfield 26, 3) := by decide +kernel
theorem dX8_show_70 : decode cX8_show 70 = .ok (.getfield 147, 3) := by decide +kernel
theorem dX8_show_73 : decode cX8_show 73 = .ok (.iload 4, 2) := by decide +kernel
theorem dX8_show_75 : decode cX8_show 75 = .ok (.invokevirtual 261, 3) := by decide +kernel
theorem dX8_show_78 : decode cX8_show 78 = .ok (.ifCond .eq 12, 3) := by decide +kernel
theorem dX8_show_81 : decode cX8_show 81 = .ok (.aload_n 0, 1) := by decide +kernel
theorem dX8_show_82 : decode cX8_show 82 = .ok (.getfield 19, 3) := by decide +kernel
theorem dX8_show_85 : decode cX8_show 85 = .ok (.bipush 42, 2) := by decide +kernel
theorem dX8_show_87 : decode cX8_show 87 = .ok (.invokevirtual 257, 3) := by decide +kernel
theorem dX8_show_90 : decode cX8_show 90 = .ok (.iinc 3 1, 3) := by decide +kernel
theorem dX8_show_93 : decode cX8_show 93 = .ok (.goto (-69), 3) := by decide +kernel
theorem dX8_show_96 : decode cX8_show 96 = .ok (.aload_n 0, 1) := by decide +kernel
theorem dX8_show_97 : decode cX8_show 97 = .ok (.getfield 19, 3) := by decide +kernel
theorem dX8_show_100 : decode cX8_show 100 = .ok (.getfield 255, 3) := by decide +kernel
theorem dX8_show_103 : decode cX8_show 103 = .ok (.ireturn, 1) := by decide +kernel
theorem dX8_output_0 : decode cX8_output 0 = .ok (.aload_n 0, 1) := by decide +kernel
theorem dX8_output_1 : decode cX8_output 1 = .ok (.getfield 19, 3) := by decide +kernel
theorem dX8_output_4 : decode cX8_output 4 = .ok (.iload_n 1, 1) := by decide +kernel
theorem dX8_output_5 : decode cX8_output 5 = .ok (.invokevirtual 264, 3) := by decide +kernel
theorem dX8_output_8 : decode cX8_output 8 = .ok (.ireturn, 1) := by decide +kernel
theorem dX8_undo_0 : decode cX8_undo 0 = .ok (.aload_n 0, 1) := by decide +kernel
theorem dX8_undo_1 : decode cX8_undo 1 = .ok (.getfield 36, 3) := by decide +kernel
theorem dX8_undo_4 : decode cX8_undo 4 = .ok (.aload_n 0, 1) := by decide +kernel
theorem dX8_undo_5 : decode cX8_undo 5 = .ok (.getfield 26, 3) := by decide +kernel
theorem dX8_undo_8 : decode cX8_undo 8 = .ok (.invokevirtual 267, 3) := by decide +kernel
theorem dX8_undo_11 : decode cX8_undo 11 = .ok (.ifCond .eq 13, 3) := by decide +kernel
theorem dX8_undo_14 : decode cX8_undo 14 = .ok (.aload_n 0, 1) := by decide +kernel
theorem dX8_undo_15 : decode cX8_undo 15 = .ok (.getfield 36, 3) := by decide +kernel
theorem dX8_undo_18 : decode cX8_undo 18 = .ok (.getfield 115, 3) := by decide +kernel
theorem dX8_undo_21 : decode cX8_undo 21 = .ok (.goto 4, 3) := by decide +kernel
theorem dX8_undo_24 : decode cX8_undo 24 = .ok (.iconst (-1), 1) := by decide +kernel
theorem dX8_undo_25 : decode cX8_undo 25 = .ok (.ireturn, 1) := by decide +kernel
theorem dX8_save_0 : decode cX8_save 0 = .ok (.iload_n 1, 1) := by decide +kernel
theorem dX8_save_1 : decode cX8_save 1 = .ok (.ifCond .lt 12, 3) := by decide +kernel
theorem dX8_save_4 : decode cX8_save 4 = .ok (.iload_n 1, 1) := by decide +kernel
theorem dX8_save_5 : decode cX8_save 5 = .ok (.aload_n 0, 1) := by decide +kernel
theorem dX8_save_6 : decode cX8_save 6 = .ok (.getfield 40, 3) := by decide +kernel
theorem dX8_save_9 : decode cX8_save 9 = .ok (.arraylength, 1) := by decide +kernel
theorem dX8_save_10 : decode cX8_save 10 = .ok (.if_icmp .lt 14, 3) := by decide +kernel
theorem dX8_save_13 : decode cX8_save 13 = .ok (.new 230, 3) := by decide +kernel
theorem dX8_save_16 : decode cX8_save 16 = .ok (.dup, 1) := by decide +kernel
theorem dX8_save_17 : decode cX8_save 17 = .ok (.ldc_w 271, 3) := by decide +kernel
theorem dX8_save_20 : decode cX8_save 20 = .ok (.invokespecial 234, 3) := by decide +kernel
theorem dX8_save_23 : decode cX8_save 23 = .ok (.athrow, 1) := by decide +kernel
theorem dX8_save_24 : decode cX8_save 24 = .ok (.aload_n 0, 1) := by decide +kernel
theorem dX8_save_25 : decode cX8_save 25 = .ok (.getfield 40, 3) := by decide +kernel
theorem dX8_save_28 : decode cX8_save 28 = .ok (.iload_n 1, 1) := by decide +kernel
theorem dX8_save_29 : decode cX8_save 29 = .ok (.aaload, 1) := by decide +kernel
theorem dX8_save_30 : decode cX8_save 30 = .ok (.astore_n 2, 1) := by decide +kernel
theorem dX8_save_31 : decode cX8_save 31 = .ok (.aload_n 2, 1) := by decide +kernel
theorem dX8_save_32 : decode cX8_save 32 = .ok (.ifnonnull 18, 3) := by decide +kernel
theorem dX8_save_35 : decode cX8_save 35 = .ok (.new 23, 3) := by decide +kernel
theorem dX8_save_38 : decode cX8_save 38 = .ok (.dup, 1) := by decide +kernel
theorem dX8_save_39 : decode cX8_save 39 = .ok (.invokespecial 25, 3) := by decide +kernel
theorem dX8_save_42 : decode cX8_save 42 = .ok (.astore_n 2, 1) := by decide +kernel
theorem dX8_save_43 : decode cX8_save 43 = .ok (.aload_n 0, 1) := by decide +kernel
theorem dX8_save_44 : decode cX8_save 44 = .ok (.getfield 40, 3) := by decide +kernel
theorem dX8_save_47 : decode cX8_save 47 = .ok (.iload_n 1, 1) := by decide +kernel
theorem dX8_save_48 : decode cX8_save 48 = .ok (.aload_n 2, 1) := by decide +kernel
theorem dX8_save_49 : decode cX8_save 49 = .ok (.aastore, 1) := by decide +kernel
theorem dX8_save_50 : decode cX8_save 50 = .ok (.aload_n 2, 1) := by decide +kernel
theorem dX8_save_51 : decode cX8_save 51 = .ok (.aload_n 0, 1) := by decide +kernel
theorem dX8_save_52 : decode cX8_save 52 = .ok (.getfield 26, 3) := by decide +kernel
theorem dX8_save_55 : decode cX8_save 55 = .ok (.invokevirtual 238, 3) := by decide +kernel
theorem dX8_save_58 : decode cX8_save 58 = .ok (.return_, 1) := by decide +kernel
theorem dX8_restore_0 : decode cX8_restore 0 = .ok (.iload_n 1, 1) := by decide +kernel
theorem dX8_restore_1 : decode cX8_restore 1 = .ok (.ifCond .lt 12, 3) := by decide +kernel
theorem dX8_restore_4 : decode cX8_restore 4 = .ok (.iload_n 1, 1) := by decide +kernel
theorem dX8_restore_5 : decode cX8_restore 5 = .ok (.aload_n 0, 1) := by decide +kernel
theorem dX8_restore_6 : decode cX8_restore 6 = .ok (.getfield 40, 3) := by decide +kernel
theorem dX8_restore_9 : decode cX8_restore 9 = .ok (.arraylength, 1) := by decide +kernel
theorem dX8_restore_10 : decode cX8_restore 10 = .ok (.if_icmp .lt 14, 3) := by decide +kernel
theorem dX8_restore_13 : decode cX8_restore 13 = .ok (.new 230, 3) := by decide +kernel
theorem dX8_restore_16 : decode cX8_restore 16 = .ok (.dup, 1) := by decide +kernel
theorem dX8_restore_17 : decode cX8_restore 17 = .ok (.ldc_w 271, 3) := by decide +kernel
theorem dX8_restore_20 : decode cX8_restore 20 = .ok (.invokespecial 234, 3) := by decide +kernel
theorem dX8_restore_23 : decode cX8_restore 23 = .ok (.athrow, 1) := by decide +kernel
theorem dX8_restore_24 : decode cX8_restore 24 = .ok (.aload_n 0, 1) := by decide +kernel
theorem dX8_restore_25 : decode cX8_restore 25 = .ok (.getfield 40, 3) := by decide +kernel
theorem dX8_restore_28 : decode cX8_restore 28 = .ok (.iload_n 1, 1) := by decide +kernel
theorem dX8_restore_29 : decode cX8_restore 29 = .ok (.aaload, 1) := by decide +kernel
theorem dX8_restore_30 : decode cX8_restore 30 = .ok (.astore_n 2, 1) := by decide +kernel
theorem dX8_restore_31 : decode cX8_restore 31 = .ok (.aload_n 2, 1) := by decide +kernel
theorem dX8_restore_32 : decode cX8_restore 32 = .ok (.ifnonnull 14, 3) := by decide +kernel
theorem dX8_restore_35 : decode cX8_restore 35 = .ok (.new 48, 3) := by decide +kernel
theorem dX8_restore_38 : decode cX8_restore 38 = .ok (.dup, 1) := by decide +kernel
theorem dX8_restore_39 : decode cX8_restore 39 = .ok (.ldc_w 273, 3) := by decide +kernel
theorem dX8_restore_42 : decode cX8_restore 42 = .ok (.invokespecial 52, 3) := by decide +kernel
theorem dX8_restore_45 : decode cX8_restore 45 = .ok (.athrow, 1) := by decide +kernel
theorem dX8_restore_46 : decode cX8_restore 46 = .ok (.aload_n 0, 1) := by decide +kernel
theorem dX8_restore_47 : decode cX8_restore 47 = .ok (.getfield 26, 3) := by decide +kernel
theorem dX8_restore_50 : decode cX8_restore 50 = .ok (.aload_n 2, 1) := by decide +kernel
theorem dX8_restore_51 : decode cX8_restore 51 = .ok (.invokevirtual 238, 3) := by decide +kernel
theorem dX8_restore_54 : decode cX8_restore 54 = .ok (.aload_n 0, 1) := by decide +kernel
theorem dX8_restore_55 : decode cX8_restore 55 = .ok (.getfield 36, 3) := by decide +kernel
theorem dX8_restore_58 : decode cX8_restore 58 = .ok (.iconst 0, 1) := by decide +kernel
theorem dX8_restore_59 : decode cX8_restore 59 = .ok (.putfield 115, 3) := by decide +kernel
theorem dX8_restore_62 : decode cX8_restore 62 = .ok (.return_, 1) := by decide +kernel
theorem dX8_needClient_0 : decode cX8_needClient 0 = .ok (.iload_n 1, 1) := by decide +kernel
theorem dX8_needClient_1 : decode cX8_needClient 1 = .ok (.aload_n 0, 1) := by decide +kernel
theorem dX8_needClient_2 : decode cX8_needClient 2 = .ok (.getfield 26, 3) := by decide +kernel
theorem dX8_needClient_5 : decode cX8_needClient 5 = .ok (.getfield 93, 3) := by decide +kernel
theorem dX8_needClient_8 : decode cX8_needClient 8 = .ok (.invokestatic 127, 3) := by decide +kernel
theorem dX8_needClient_11 : decode cX8_needClient 11 = .ok (.return_, 1) := by decide +kernel
theorem dX8_needIndex_0 : decode cX8_needIndex 0 = .ok (.iload_n 0, 1) := by decide +kernel
theorem dX8_needIndex_1 : decode cX8_needIndex 1 = .ok (.ifCond .lt 8, 3) := by decide +kernel
theorem dX8_needIndex_4 : decode cX8_needIndex 4 = .ok (.iload_n 0, 1) := by decide +kernel
theorem dX8_needIndex_5 : decode cX8_needIndex 5 = .ok (.iload_n 1, 1) := by decide +kernel
theorem dX8_needIndex_6 : decode cX8_needIndex 6 = .ok (.if_icmp .lt 14, 3) := by decide +kernel
theorem dX8_needIndex_9 : decode cX8_needIndex 9 = .ok (.new 275, 3) := by decide +kernel
theorem dX8_needIndex_12 : decode cX8_needIndex 12 = .ok (.dup, 1) := by decide +kernel
theorem dX8_needIndex_13 : decode cX8_needIndex 13 = .ok (.ldc_w 277, 3) := by decide +kernel
theorem dX8_needIndex_16 : decode cX8_needIndex 16 = .ok (.invokespecial 279, 3) := by decide +kernel
theorem dX8_needIndex_19 : decode cX8_needIndex 19 = .ok (.athrow, 1) := by decide +kernel
theorem dX8_needIndex_20 : decode cX8_needIndex 20 = .ok (.return_, 1) := by decide +kernel
theorem dX8_needNoLessThanZero_0 : decode cX8_needNoLessThanZero 0 = .ok (.iload_n 0, 1) := by decide +kernel
theorem dX8_needNoLessThanZero_1 : decode cX8_needNoLessThanZero 1 = .ok (.ifCond .ge 13, 3) := by decide +kernel
theorem dX8_needNoLessThanZero_4 : decode cX8_needNoLessThanZero 4 = .ok (.new 275, 3) := by decide +kernel
theorem dX8_needNoLessThanZero_7 : decode cX8_needNoLessThanZero 7 = .ok (.dup, 1) := by decide +kernel
theorem dX8_needNoLessThanZero_8 : decode cX8_needNoLessThanZero 8 = .ok (.ldc 232, 2) := by decide +kernel
theorem dX8_needNoLessThanZero_10 : decode cX8_needNoLessThanZero 10 = .ok (.invokespecial 279, 3) := by decide +kernel
theorem dX8_needNoLessThanZero_13 : decode cX8_needNoLessThanZero 13 = .ok (.athrow, 1) := by decide +kernel
theorem dX8_needNoLessThanZero_14 : decode cX8_needNoLessThanZero 14 = .ok (.return_, 1) := by decide +kernel
theorem dX8_needRange_0 : decode cX8_needRange 0 = .ok (.iload_n 0, 1) := by decide +kernel
theorem dX8_needRange_1 : decode cX8_needRange 1 = .ok (.iload_n 1, 1) := by decide +kernel
theorem dX8_needRange_2 : decode cX8_needRange 2 = .ok (.if_icmp .lt 8, 3) := by decide +kernel
theorem dX8_needRange_5 : decode cX8_needRange 5 = .ok (.iload_n 0, 1) := by decide +kernel
theorem dX8_needRange_6 : decode cX8_needRange 6 = .ok (.iload_n 2, 1) := by decide +kernel
theorem dX8_needRange_7 : decode cX8_needRange 7 = .ok (.if_icmp .le 14, 3) := by decide +kernel
theorem dX8_needRange_10 : decode cX8_needRange 10 = .ok (.new 230, 3) := by decide +kernel
theorem dX8_needRange_13 : decode cX8_needRange 13 = .ok (.dup, 1) := by decide +kernel
theorem dX8_needRange_14 : decode cX8_needRange 14 = .ok (.ldc_w 280, 3) := by decide +kernel
theorem dX8_needRange_17 : decode cX8_needRange 17 = .ok (.invokespecial 234, 3) := by decide +kernel
theorem dX8_needRange_20 : decode cX8_needRange 20 = .ok (.athrow, 1) := by decide +kernel
theorem dX8_needRange_21 : decode cX8_needRange 21 = .ok (.return_, 1) := by decide +kernel
theorem dX8_needReadsAhead_0 : decode cX8_needReadsAhead 0 = .ok (.aload_n 0, 1) := by decide +kernel
theorem dX8_needReadsAhead_1 : decode cX8_needReadsAhead 1 = .ok (.iload_n 1, 1) := by decide +kernel
theorem dX8_needReadsAhead_2 : decode cX8_needReadsAhead 2 = .ok (.invokevirtual 102, 3) := by decide +kernel
theorem dX8_needReadsAhead_5 : decode cX8_needReadsAhead 5 = .ok (.iload_n 2, 1) := by decide +kernel
theorem dX8_needReadsAhead_6 : decode cX8_needReadsAhead 6 = .ok (.iconst 0, 1) := by decide +kernel
theorem dX8_needReadsAhead_7 : decode cX8_needReadsAhead 7 = .ok (.sipush 199, 3) := by decide +kernel
theorem dX8_needReadsAhead_10 : decode cX8_needReadsAhead 10 = .ok (.invokestatic 59, 3) := by decide +kernel
theorem dX8_needReadsAhead_13 : decode cX8_needReadsAhead 13 = .ok (.iload_n 3, 1) := by decide +kernel
theorem dX8_needReadsAhead_14 : decode cX8_needReadsAhead 14 = .ok (.iconst 1, 1) := by decide +kernel
theorem dX8_needReadsAhead_15 : decode cX8_needReadsAhead 15 = .ok (.bipush 40, 2) := by decide +kernel
theorem dX8_needReadsAhead_17 : decode cX8_needReadsAhead 17 = .ok (.sipush 200, 3) := by decide +kernel
theorem dX8_needReadsAhead_20 : decode cX8_needReadsAhead 20 = .ok (.iload_n 2, 1) := by decide +kernel
theorem dX8_needReadsAhead_21 : decode cX8_needReadsAhead 21 = .ok (.isub, 1) := by decide +kernel
theorem dX8_needReadsAhead_22 : decode cX8_needReadsAhead 22 = .ok (.invokestatic 282, 3) := by decide +kernel
theorem dX8_needReadsAhead_25 : decode cX8_needReadsAhead 25 = .ok (.invokestatic 59, 3) := by decide +kernel
theorem dX8_needReadsAhead_28 : decode cX8_needReadsAhead 28 = .ok (.iload 4, 2) := by decide +kernel
theorem dX8_needReadsAhead_30 : decode cX8_needReadsAhead 30 = .ok (.iconst 1, 1) := by decide +kernel
theorem dX8_needReadsAhead_31 : decode cX8_needReadsAhead 31 = .ok (.iconst 4, 1) := by decide +kernel
theorem dX8_needReadsAhead_32 : decode cX8_needReadsAhead 32 = .ok (.invokestatic 59, 3) := by decide +kernel
theorem dX8_needReadsAhead_35 : decode cX8_needReadsAhead 35 = .ok (.return_, 1) := by decide +kernel
theorem dX8_perform_0 : decode cX8_perform 0 = .ok (.aload_n 0, 1) := by decide +kernel
theorem dX8_perform_1 : decode cX8_perform 1 = .ok (.getfield 10, 3) := by decide +kernel
theorem dX8_perform_4 : decode cX8_perform 4 = .ok (.aload_n 0, 1) := by decide +kernel
theorem dX8_perform_5 : decode cX8_perform 5 = .ok (.getfield 10, 3) := by decide +kernel
theorem dX8_perform_8 : decode cX8_perform 8 = .ok (.getfield 285, 3) := by decide +kernel
theorem dX8_perform_11 : decode cX8_perform 11 = .ok (.iload_n 1, 1) := by decide +kernel
theorem dX8_perform_12 : decode cX8_perform 12 = .ok (.invokevirtual 289, 3) := by decide +kernel
theorem dX8_perform_15 : decode cX8_perform 15 = .ok (.istore_n 2, 1) := by decide +kernel
theorem dX8_perform_16 : decode cX8_perform 16 = .ok (.aload_n 0, 1) := by decide +kernel
theorem dX8_perform_17 : decode cX8_perform 17 = .ok (.getfield 10, 3) := by decide +kernel
theorem dX8_perform_20 : decode cX8_perform 20 = .ok (.aload_n 0, 1) := by decide +kernel
theorem dX8_perform_21 : decode cX8_perform 21 = .ok (.getfield 10, 3) := by decide +kernel
theorem dX8_perform_24 : decode cX8_perform 24 = .ok (.getfield 293, 3) := by decide +kernel
theorem dX8_perform_27 : decode cX8_perform 27 = .ok (.iload_n 1, 1) := by decide +kernel
theorem dX8_perform_28 : decode cX8_perform 28 = .ok (.invokevirtual 289, 3) := by decide +kernel
theorem dX8_perform_31 : decode cX8_perform 31 = .ok (.istore_n 3, 1) := by decide +kernel
theorem dX8_perform_32 : decode cX8_perform 32 = .ok (.aload_n 0, 1) := by decide +kernel
theorem dX8_perform_33 : decode cX8_perform 33 = .ok (.getfield 10, 3) := by decide +kernel
theorem dX8_perform_36 : decode cX8_perform 36 = .ok (.aload_n 0, 1) := by decide +kernel
theorem dX8_perform_37 : decode cX8_perform 37 = .ok (.getfield 10, 3) := by decide +kernel
theorem dX8_perform_40 : decode cX8_perform 40 = .ok (.getfield 296, 3) := by decide +kernel
theorem dX8_perform_43 : decode cX8_perform 43 = .ok (.iload_n 1, 1) := by decide +kernel
theorem dX8_perform_44 : decode cX8_perform 44 = .ok (.invokevirtual 289, 3) := by decide +kernel
theorem dX8_perform_47 : decode cX8_perform 47 = .ok (.istore 4, 2) := by decide +kernel
theorem dX8_perform_49 : decode cX8_perform 49 = .ok (.iload_n 2, 1) := by decide +kernel
theorem dX8_perform_50 : decode cX8_perform 50 = .ok (.iconst 3, 1) := by decide +kernel
theorem dX8_perform_51 : decode cX8_perform 51 = .ok (.if_icmp .ne 17, 3) := by decide +kernel
theorem dX8_perform_54 : decode cX8_perform 54 = .ok (.aload_n 0, 1) := by decide +kernel
theorem dX8_perform_55 : decode cX8_perform 55 = .ok (.getfield 26, 3) := by decide +kernel
theorem dX8_perform_58 : decode cX8_perform 58 = .ok (.getfield 147, 3) := by decide +kernel
theorem dX8_perform_61 : decode cX8_perform 61 = .ok (.iload_n 3, 1) := by decide +kernel
theorem dX8_perform_62 : decode cX8_perform 62 = .ok (.invokevirtual 162, 3) := by decide +kernel
theorem dX8_perform_65 : decode cX8_perform 65 = .ok (.pop, 1) := by decide +kernel
theorem dX8_perform_66 : decode cX8_perform 66 = .ok (.iconst 1, 1) := by decide +kernel
theorem dX8_perform_67 : decode cX8_perform 67 = .ok (.ireturn, 1) := by decide +kernel
theorem dX8_perform_68 : decode cX8_perform 68 = .ok (.aload_n 0, 1) := by decide +kernel
theorem dX8_perform_69 : decode cX8_perform 69 = .ok (.getfield 10, 3) := by decide +kernel
theorem dX8_perform_72 : decode cX8_perform 72 = .ok (.aload_n 0, 1) := by decide +kernel
theorem dX8_perform_73 : decode cX8_perform 73 = .ok (.getfield 10, 3) := by decide +kernel
theorem dX8_perform_76 : decode cX8_perform 76 = .ok (.getfield 299, 3) := by decide +kernel
theorem dX8_perform_79 : decode cX8_perform 79 = .ok (.iload_n 1, 1) := by decide +kernel
theorem dX8_perform_80 : decode cX8_perform 80 = .ok (.invokevirtual 289, 3) := by decide +kernel
theorem dX8_perform_83 : decode cX8_perform 83 = .ok (.istore 5, 2) := by decide +kernel
theorem dX8_perform_85 : decode cX8_perform 85 = .ok (.iload 5, 2) := by decide +kernel
theorem dX8_perform_87 : decode cX8_perform 87 = .ok (.aload_n 0, 1) := by decide +kernel
theorem dX8_perform_88 : decode cX8_perform 88 = .ok (.getfield 26, 3) := by decide +kernel
theorem dX8_perform_91 : decode cX8_perform 91 = .ok (.getfield 93, 3) := by decide +kernel
theorem dX8_perform_94 : decode cX8_perform 94 = .ok (.if_icmp .lt 5, 3) := by decide +kernel
theorem dX8_perform_97 : decode cX8_perform 97 = .ok (.iconst 0, 1) := by decide +kernel
theorem dX8_perform_98 : decode cX8_perform 98 = .ok (.ireturn, 1) := by decide +kernel
theorem dX8_perform_99 : decode cX8_perform 99 = .ok (.iload_n 2, 1) := by decide +kernel
theorem dX8_perform_100 : decode cX8_perform 100 = .ok (.iconst 2, 1) := by decide +kernel
theorem dX8_perform_101 : decode cX8_perform 101 = .ok (.if_icmp .ne 27, 3) := by decide +kernel
theorem dX8_perform_104 : decode cX8_perform 104 = .ok (.aload_n 0, 1) := by decide +kernel
theorem dX8_perform_105 : decode cX8_perform 105 = .ok (.getfield 26, 3) := by decide +kernel
theorem dX8_perform_108 : decode cX8_perform 108 = .ok (.iload 5, 2) := by decide +kernel
theorem dX8_perform_110 : decode cX8_perform 110 = .ok (.iload_n 3, 1) := by decide +kernel
theorem dX8_perform_111 : decode cX8_perform 111 = .ok (.iconst 1, 1) := by decide +kernel
theorem dX8_perform_112 : decode cX8_perform 112 = .ok (.invokevirtual 143, 3) := by decide +kernel
theorem dX8_perform_115 : decode cX8_perform 115 = .ok (.pop, 1) := by decide +kernel
theorem dX8_perform_116 : decode cX8_perform 116 = .ok (.aload_n 0, 1) := by decide +kernel
theorem dX8_perform_117 : decode cX8_perform 117 = .ok (.getfield 26, 3) := by decide +kernel
theorem dX8_perform_120 : decode cX8_perform 120 = .ok (.iload_n 3, 1) := by decide +kernel
theorem dX8_perform_121 : decode cX8_perform 121 = .ok (.iload 4, 2) := by decide +kernel
theorem dX8_perform_123 : decode cX8_perform 123 = .ok (.invokevirtual 159, 3) := by decide +kernel
theorem dX8_perform_126 : decode cX8_perform 126 = .ok (.iconst 1, 1) := by decide +kernel
theorem dX8_perform_127 : decode cX8_perform 127 = .ok (.ireturn, 1) := by decide +kernel
theorem dX8_perform_128 : decode cX8_perform 128 = .ok (.iload_n 3, 1) := by decide +kernel
theorem dX8_perform_129 : decode cX8_perform 129 = .ok (.istore 6, 2) := by decide +kernel
theorem dX8_perform_131 : decode cX8_perform 131 = .ok (.iload 6, 2) := by decide +kernel
theorem dX8_perform_133 : decode cX8_perform 133 = .ok (.iload 4, 2) := by decide +kernel
theorem dX8_perform_135 : decode cX8_perform 135 = .ok (.if_icmp .gt 22, 3) := by decide +kernel
theorem dX8_perform_138 : decode cX8_perform 138 = .ok (.aload_n 0, 1) := by decide +kernel
theorem dX8_perform_139 : decode cX8_perform 139 = .ok (.getfield 26, 3) := by decide +kernel
theorem dX8_perform_142 : decode cX8_perform 142 = .ok (.iload 5, 2) := by decide +kernel
theorem dX8_perform_144 : decode cX8_perform 144 = .ok (.iload 6, 2) := by decide +kernel
theorem dX8_perform_146 : decode cX8_perform 146 = .ok (.iconst 0, 1) := by decide +kernel
theorem dX8_perform_147 : decode cX8_perform 147 = .ok (.invokevirtual 143, 3) := by decide +kernel
theorem dX8_perform_150 : decode cX8_perform 150 = .ok (.pop, 1) := by decide +kernel
theorem dX8_perform_151 : decode cX8_perform 151 = .ok (.iinc 6 1, 3) := by decide +kernel
theorem dX8_perform_154 : decode cX8_perform 154 = .ok (.goto (-23), 3) := by decide +kernel
theorem dX8_perform_157 : decode cX8_perform 157 = .ok (.iconst 1, 1) := by decide +kernel
theorem dX8_perform_158 : decode cX8_perform 158 = .ok (.ireturn, 1) := by decide +kernel
theorem dX8_predictionOf_0 : decode cX8_predictionOf 0 = .ok (.iload_n 3, 1) := by decide +kernel
theorem dX8_predictionOf_1 : decode cX8_predictionOf 1 = .ok (.tableswitch 119 0 5 #[39, 41, 63, 75, 86, 97], 39) := by decide +kernel
theorem dX8_predictionOf_40 : decode cX8_predictionOf 40 = .ok (.iload_n 2, 1) := by decide +kernel
theorem dX8_predictionOf_41 : decode cX8_predictionOf 41 = .ok (.ireturn, 1) := by decide +kernel
theorem dX8_predictionOf_42 : decode cX8_predictionOf 42 = .ok (.aload_n 0, 1) := by decide +kernel
theorem dX8_predictionOf_43 : decode cX8_predictionOf 43 = .ok (.getfield 30, 3) := by decide +kernel
theorem dX8_predictionOf_46 : decode cX8_predictionOf 46 = .ok (.getfield 71, 3) := by decide +kernel
theorem dX8_predictionOf_49 : decode cX8_predictionOf 49 = .ok (.getfield 302, 3) := by decide +kernel
theorem dX8_predictionOf_52 : decode cX8_predictionOf 52 = .ok (.aload_n 0, 1) := by decide +kernel
theorem dX8_predictionOf_53 : decode cX8_predictionOf 53 = .ok (.getfield 26, 3) := by decide +kernel
theorem dX8_predictionOf_56 : decode cX8_predictionOf 56 = .ok (.getfield 71, 3) := by decide +kernel
theorem dX8_predictionOf_59 : decode cX8_predictionOf 59 = .ok (.getfield 302, 3) := by decide +kernel
theorem dX8_predictionOf_62 : decode cX8_predictionOf 62 = .ok (.isub, 1) := by decide +kernel
theorem dX8_predictionOf_63 : decode cX8_predictionOf 63 = .ok (.ireturn, 1) := by decide +kernel
theorem dX8_predictionOf_64 : decode cX8_predictionOf 64 = .ok (.aload_n 0, 1) := by decide +kernel
theorem dX8_predictionOf_65 : decode cX8_predictionOf 65 = .ok (.getfield 30, 3) := by decide +kernel
theorem dX8_predictionOf_68 : decode cX8_predictionOf 68 = .ok (.getfield 147, 3) := by decide +kernel
theorem dX8_predictionOf_71 : decode cX8_predictionOf 71 = .ok (.iload_n 1, 1) := by decide +kernel
theorem dX8_predictionOf_72 : decode cX8_predictionOf 72 = .ok (.invokevirtual 305, 3) := by decide +kernel
theorem dX8_predictionOf_75 : decode cX8_predictionOf 75 = .ok (.ireturn, 1) := by decide +kernel
theorem dX8_predictionOf_76 : decode cX8_predictionOf 76 = .ok (.aload_n 0, 1) := by decide +kernel
theorem dX8_predictionOf_77 : decode cX8_predictionOf 77 = .ok (.getfield 30, 3) := by decide +kernel
theorem dX8_predictionOf_80 : decode cX8_predictionOf 80 = .ok (.getfield 71, 3) := by decide +kernel
theorem dX8_predictionOf_83 : decode cX8_predictionOf 83 = .ok (.getfield 308, 3) := by decide +kernel
theorem dX8_predictionOf_86 : decode cX8_predictionOf 86 = .ok (.ireturn, 1) := by decide +kernel
theorem dX8_predictionOf_87 : decode cX8_predictionOf 87 = .ok (.aload_n 0, 1) := by decide +kernel
theorem dX8_predictionOf_88 : decode cX8_predictionOf 88 = .ok (.getfield 30, 3) := by decide +kernel
theorem dX8_predictionOf_91 : decode cX8_predictionOf 91 = .ok (.getfield 71, 3) := by decide +kernel
theorem dX8_predictionOf_94 : decode cX8_predictionOf 94 = .ok (.getfield 311, 3) := by decide +kernel
theorem dX8_predictionOf_97 : decode cX8_predictionOf 97 = .ok (.ireturn, 1) := by decide +kernel
theorem dX8_predictionOf_98 : decode cX8_predictionOf 98 = .ok (.aload_n 0, 1) := by decide +kernel
theorem dX8_predictionOf_99 : decode cX8_predictionOf 99 = .ok (.getfield 30, 3) := by decide +kernel
theorem dX8_predictionOf_102 : decode cX8_predictionOf 102 = .ok (.getfield 147, 3) := by decide +kernel
theorem dX8_predictionOf_105 : decode cX8_predictionOf 105 = .ok (.getfield 156, 3) := by decide +kernel
theorem dX8_predictionOf_108 : decode cX8_predictionOf 108 = .ok (.aload_n 0, 1) := by decide +kernel
theorem dX8_predictionOf_109 : decode cX8_predictionOf 109 = .ok (.getfield 26, 3) := by decide +kernel
theorem dX8_predictionOf_112 : decode cX8_predictionOf 112 = .ok (.getfield 147, 3) := by decide +kernel
theorem dX8_predictionOf_115 : decode cX8_predictionOf 115 = .ok (.getfield 156, 3) := by decide +kernel
theorem dX8_predictionOf_118 : decode cX8_predictionOf 118 = .ok (.isub, 1) := by decide +kernel
theorem dX8_predictionOf_119 : decode cX8_predictionOf 119 = .ok (.ireturn, 1) := by decide +kernel
theorem dX8_predictionOf_120 : decode cX8_predictionOf 120 = .ok (.aload_n 0, 1) := by decide +kernel
theorem dX8_predictionOf_121 : decode cX8_predictionOf 121 = .ok (.getfield 30, 3) := by decide +kernel
theorem dX8_predictionOf_124 : decode cX8_predictionOf 124 = .ok (.getfield 314, 3) := by decide +kernel
theorem dX8_predictionOf_127 : decode cX8_predictionOf 127 = .ok (.ireturn, 1) := by decide +kernel
theorem dX8_readAhead_0 : decode cX8_readAhead 0 = .ok (.aload_n 0, 1) := by decide +kernel
theorem dX8_readAhead_1 : decode cX8_readAhead 1 = .ok (.getfield 30, 3) := by decide +kernel
theorem dX8_readAhead_4 : decode cX8_readAhead 4 = .ok (.aload_n 0, 1) := by decide +kernel
theorem dX8_readAhead_5 : decode cX8_readAhead 5 = .ok (.getfield 26, 3) := by decide +kernel
theorem dX8_readAhead_8 : decode cX8_readAhead 8 = .ok (.invokevirtual 238, 3) := by decide +kernel
theorem dX8_readAhead_11 : decode cX8_readAhead 11 = .ok (.aload_n 0, 1) := by decide +kernel
theorem dX8_readAhead_12 : decode cX8_readAhead 12 = .ok (.getfield 30, 3) := by decide +kernel
theorem dX8_readAhead_15 : decode cX8_readAhead 15 = .ok (.iload 5, 2) := by decide +kernel
theorem dX8_readAhead_17 : decode cX8_readAhead 17 = .ok (.putfield 207, 3) := by decide +kernel
theorem dX8_readAhead_20 : decode cX8_readAhead 20 = .ok (.iconst 0, 1) := by decide +kernel
theorem dX8_readAhead_21 : decode cX8_readAhead 21 = .ok (.istore 6, 2) := by decide +kernel
theorem dX8_readAhead_23 : decode cX8_readAhead 23 = .ok (.iload 6, 2) := by decide +kernel
theorem dX8_readAhead_25 : decode cX8_readAhead 25 = .ok (.iload 4, 2) := by decide +kernel
theorem dX8_readAhead_27 : decode cX8_readAhead 27 = .ok (.if_icmp .ge 38, 3) := by decide +kernel
theorem dX8_readAhead_30 : decode cX8_readAhead 30 = .ok (.iconst 0, 1) := by decide +kernel
theorem dX8_readAhead_31 : decode cX8_readAhead 31 = .ok (.istore 7, 2) := by decide +kernel
theorem dX8_readAhead_33 : decode cX8_readAhead 33 = .ok (.iload 7, 2) := by decide +kernel
theorem dX8_readAhead_35 : decode cX8_readAhead 35 = .ok (.iload_n 3, 1) := by decide +kernel
theorem dX8_readAhead_36 : decode cX8_readAhead 36 = .ok (.if_icmp .ge 23, 3) := by decide +kernel
theorem dX8_readAhead_39 : decode cX8_readAhead 39 = .ok (.aload_n 0, 1) := by decide +kernel
theorem dX8_readAhead_40 : decode cX8_readAhead 40 = .ok (.getfield 30, 3) := by decide +kernel
theorem dX8_readAhead_43 : decode cX8_readAhead 43 = .ok (.iload_n 1, 1) := by decide +kernel
theorem dX8_readAhead_44 : decode cX8_readAhead 44 = .ok (.iload_n 2, 1) := by decide +kernel
theorem dX8_readAhead_45 : decode cX8_readAhead 45 = .ok (.iload 7, 2) := by decide +kernel
theorem dX8_readAhead_47 : decode cX8_readAhead 47 = .ok (.iadd, 1) := by decide +kernel
theorem dX8_readAhead_48 : decode cX8_readAhead 48 = .ok (.iconst 0, 1) := by decide +kernel
theorem dX8_readAhead_49 : decode cX8_readAhead 49 = .ok (.invokevirtual 143, 3) := by decide +kernel
theorem dX8_readAhead_52 : decode cX8_readAhead 52 = .ok (.pop, 1) := by decide +kernel
theorem dX8_readAhead_53 : decode cX8_readAhead 53 = .ok (.iinc 7 1, 3) := by decide +kernel
theorem dX8_readAhead_56 : decode cX8_readAhead 56 = .ok (.goto (-23), 3) := by decide +kernel
theorem dX8_readAhead_59 : decode cX8_readAhead 59 = .ok (.iinc 6 1, 3) := by decide +kernel
theorem dX8_readAhead_62 : decode cX8_readAhead 62 = .ok (.goto (-39), 3) := by decide +kernel
theorem dX8_readAhead_65 : decode cX8_readAhead 65 = .ok (.return_, 1) := by decide +kernel
theorem dX8_differenceAhead_0 : decode cX8_differenceAhead 0 = .ok (.aload_n 0, 1) := by decide +kernel
theorem dX8_differenceAhead_1 : decode cX8_differenceAhead 1 = .ok (.getfield 30, 3) := by decide +kernel
theorem dX8_differenceAhead_4 : decode cX8_differenceAhead 4 = .ok (.getfield 71, 3) := by decide +kernel
theorem dX8_differenceAhead_7 : decode cX8_differenceAhead 7 = .ok (.astore_n 2, 1) := by decide +kernel
theorem dX8_differenceAhead_8 : decode cX8_differenceAhead 8 = .ok (.aload_n 0, 1) := by decide +kernel
theorem dX8_differenceAhead_9 : decode cX8_differenceAhead 9 = .ok (.getfield 26, 3) := by decide +kernel
theorem dX8_differenceAhead_12 : decode cX8_differenceAhead 12 = .ok (.getfield 71, 3) := by decide +kernel
theorem dX8_differenceAhead_15 : decode cX8_differenceAhead 15 = .ok (.astore_n 3, 1) := by decide +kernel
theorem dX8_differenceAhead_16 : decode cX8_differenceAhead 16 = .ok (.iload_n 1, 1) := by decide +kernel
theorem dX8_differenceAhead_17 : decode cX8_differenceAhead 17 = .ok (.tableswitch 109 0 5 #[39, 49, 59, 69, 79, 101], 39) := by decide +kernel
theorem dX8_differenceAhead_56 : decode cX8_differenceAhead 56 = .ok (.aload_n 2, 1) := by decide +kernel
theorem dX8_differenceAhead_57 : decode cX8_differenceAhead 57 = .ok (.getfield 178, 3) := by decide +kernel
theorem dX8_differenceAhead_60 : decode cX8_differenceAhead 60 = .ok (.aload_n 3, 1) := by decide +kernel
theorem dX8_differenceAhead_61 : decode cX8_differenceAhead 61 = .ok (.getfield 178, 3) := by decide +kernel
theorem dX8_differenceAhead_64 : decode cX8_differenceAhead 64 = .ok (.isub, 1) := by decide +kernel
theorem dX8_differenceAhead_65 : decode cX8_differenceAhead 65 = .ok (.ireturn, 1) := by decide +kernel
theorem dX8_differenceAhead_66 : decode cX8_differenceAhead 66 = .ok (.aload_n 2, 1) := by decide +kernel
theorem dX8_differenceAhead_67 : decode cX8_differenceAhead 67 = .ok (.getfield 317, 3) := by decide +kernel
theorem dX8_differenceAhead_70 : decode cX8_differenceAhead 70 = .ok (.aload_n 3, 1) := by decide +kernel
theorem dX8_differenceAhead_71 : decode cX8_differenceAhead 71 = .ok (.getfield 317, 3) := by decide +kernel
theorem dX8_differenceAhead_74 : decode cX8_differenceAhead 74 = .ok (.isub, 1) := by decide +kernel
theorem dX8_differenceAhead_75 : decode cX8_differenceAhead 75 = .ok (.ireturn, 1) := by decide +kernel
theorem dX8_differenceAhead_76 : decode cX8_differenceAhead 76 = .ok (.aload_n 2, 1) := by decide +kernel
theorem dX8_differenceAhead_77 : decode cX8_differenceAhead 77 = .ok (.getfield 320, 3) := by decide +kernel
theorem dX8_differenceAhead_80 : decode cX8_differenceAhead 80 = .ok (.aload_n 3, 1) := by decide +kernel
theorem dX8_differenceAhead_81 : decode cX8_differenceAhead 81 = .ok (.getfield 320, 3) := by decide +kernel
theorem dX8_differenceAhead_84 : decode cX8_differenceAhead 84 = .ok (.isub, 1) := by decide +kernel
theorem dX8_differenceAhead_85 : decode cX8_differenceAhead 85 = .ok (.ireturn, 1) := by decide +kernel
theorem dX8_differenceAhead_86 : decode cX8_differenceAhead 86 = .ok (.aload_n 2, 1) := by decide +kernel
theorem dX8_differenceAhead_87 : decode cX8_differenceAhead 87 = .ok (.getfield 323, 3) := by decide +kernel
theorem dX8_differenceAhead_90 : decode cX8_differenceAhead 90 = .ok (.aload_n 3, 1) := by decide +kernel
theorem dX8_differenceAhead_91 : decode cX8_differenceAhead 91 = .ok (.getfield 323, 3) := by decide +kernel
theorem dX8_differenceAhead_94 : decode cX8_differenceAhead 94 = .ok (.isub, 1) := by decide +kernel
theorem dX8_differenceAhead_95 : decode cX8_differenceAhead 95 = .ok (.ireturn, 1) := by decide +kernel
theorem dX8_differenceAhead_96 : decode cX8_differenceAhead 96 = .ok (.aload_n 0, 1) := by decide +kernel
theorem dX8_differenceAhead_97 : decode cX8_differenceAhead 97 = .ok (.getfield 30, 3) := by decide +kernel
theorem dX8_differenceAhead_100 : decode cX8_differenceAhead 100 = .ok (.getfield 147, 3) := by decide +kernel
theorem dX8_differenceAhead_103 : decode cX8_differenceAhead 103 = .ok (.getfield 156, 3) := by decide +kernel
theorem dX8_differenceAhead_106 : decode cX8_differenceAhead 106 = .ok (.aload_n 0, 1) := by decide +kernel
theorem dX8_differenceAhead_107 : decode cX8_differenceAhead 107 = .ok (.getfield 26, 3) := by decide +kernel
theorem dX8_differenceAhead_110 : decode cX8_differenceAhead 110 = .ok (.getfield 147, 3) := by decide +kernel
theorem dX8_differenceAhead_113 : decode cX8_differenceAhead 113 = .ok (.getfield 156, 3) := by decide +kernel
theorem dX8_differenceAhead_116 : decode cX8_differenceAhead 116 = .ok (.isub, 1) := by decide +kernel
theorem dX8_differenceAhead_117 : decode cX8_differenceAhead 117 = .ok (.ireturn, 1) := by decide +kernel
theorem dX8_differenceAhead_118 : decode cX8_differenceAhead 118 = .ok (.aload_n 0, 1) := by decide +kernel
theorem dX8_differenceAhead_119 : decode cX8_differenceAhead 119 = .ok (.getfield 30, 3) := by decide +kernel
theorem dX8_differenceAhead_122 : decode cX8_differenceAhead 122 = .ok (.getfield 314, 3) := by decide +kernel
theorem dX8_differenceAhead_125 : decode cX8_differenceAhead 125 = .ok (.ireturn, 1) := by decide +kernel
theorem dX8_differenceAhead_126 : decode cX8_differenceAhead 126 = .ok (.aload_n 2, 1) := by decide +kernel
theorem dX8_differenceAhead_127 : decode cX8_differenceAhead 127 = .ok (.getfield 302, 3) := by decide +kernel
theorem dX8_differenceAhead_130 : decode cX8_differenceAhead 130 = .ok (.aload_n 3, 1) := by decide +kernel
theorem dX8_differenceAhead_131 : decode cX8_differenceAhead 131 = .ok (.getfield 302, 3) := by decide +kernel
theorem dX8_differenceAhead_134 : decode cX8_differenceAhead 134 = .ok (.isub, 1) := by decide +kernel
theorem dX8_differenceAhead_135 : decode cX8_differenceAhead 135 = .ok (.ireturn, 1) := by decide +kernel
theorem dX9_init_0 : decode cX9_init 0 = .ok (.aload_n 0, 1) := by decide +kernel
theorem dX9_init_1 : decode cX9_init 1 = .ok (.invokespecial 1, 3) := by decide +kernel
theorem dX9_init_4 : decode cX9_init 4 = .ok (.aload_n 0, 1) := by decide +kernel
theorem dX9_init_5 : decode cX9_init 5 = .ok (.sipush 1384, 3) := by decide +kernel
theorem dX9_init_8 : decode cX9_init 8 = .ok (.newarray .int, 2) := by decide +kernel
theorem dX9_init_10 : decode cX9_init 10 = .ok (.putfield 7, 3) := by decide +kernel
theorem dX9_init_13 : decode cX9_init 13 = .ok (.aload_n 0, 1) := by decide +kernel
theorem dX9_init_14 : decode cX9_init 14 = .ok (.sipush 1384, 3) := by decide +kernel
theorem dX9_init_17 : decode cX9_init 17 = .ok (.newarray .int, 2) := by decide +kernel
theorem dX9_init_19 : decode cX9_init 19 = .ok (.putfield 13, 3) := by decide +kernel
theorem dX9_init_22 : decode cX9_init 22 = .ok (.aload_n 0, 1) := by decide +kernel
theorem dX9_init_23 : decode cX9_init 23 = .ok (.sipush 11072, 3) := by decide +kernel
theorem dX9_init_26 : decode cX9_init 26 = .ok (.newarray .int, 2) := by decide +kernel
theorem dX9_init_28 : decode cX9_init 28 = .ok (.putfield 16, 3) := by decide +kernel
theorem dX9_init_31 : decode cX9_init 31 = .ok (.aload_n 0, 1) := by decide +kernel
theorem dX9_init_32 : decode cX9_init 32 = .ok (.sipush 2768, 3) := by decide +kernel
theorem dX9_init_35 : decode cX9_init 35 = .ok (.newarray .int, 2) := by decide +kernel
theorem dX9_init_37 : decode cX9_init 37 = .ok (.putfield 19, 3) := by decide +kernel
theorem dX9_init_40 : decode cX9_init 40 = .ok (.aload_n 0, 1) := by decide +kernel
theorem dX9_init_41 : decode cX9_init 41 = .ok (.iconst 2, 1) := by decide +kernel
theorem dX9_init_42 : decode cX9_init 42 = .ok (.newarray .boolean, 2) := by decide +kernel
theorem dX9_init_44 : decode cX9_init 44 = .ok (.putfield 22, 3) := by decide +kernel
theorem dX9_init_47 : decode cX9_init 47 = .ok (.aload_n 0, 1) := by decide +kernel
theorem dX9_init_48 : decode cX9_init 48 = .ok (.sipush 600, 3) := by decide +kernel
theorem dX9_init_51 : decode cX9_init 51 = .ok (.newarray .int, 2) := by decide +kernel
theorem dX9_init_53 : decode cX9_init 53 = .ok (.putfield 26, 3) := by decide +kernel
theorem dX9_init_56 : decode cX9_init 56 = .ok (.aload_n 0, 1) := by decide +kernel
theorem dX9_init_57 : decode cX9_init 57 = .ok (.sipush 160, 3) := by decide +kernel
theorem dX9_init_60 : decode cX9_init 60 = .ok (.newarray .int, 2) := by decide +kernel
theorem dX9_init_62 : decode cX9_init 62 = .ok (.putfield 29, 3) := by decide +kernel
theorem dX9_init_65 : decode cX9_init 65 = .ok (.aload_n 0, 1) := by decide +kernel
theorem dX9_init_66 : decode cX9_init 66 = .ok (.iconst (-1), 1) := by decide +kernel
theorem dX9_init_67 : decode cX9_init 67 = .ok (.putfield 32, 3) := by decide +kernel
theorem dX9_init_70 : decode cX9_init 70 = .ok (.aload_n 0, 1) := by decide +kernel
theorem dX9_init_71 : decode cX9_init 71 = .ok (.sipush 200, 3) := by decide +kernel
theorem dX9_init_74 : decode cX9_init 74 = .ok (.newarray .int, 2) := by decide +kernel
theorem dX9_init_76 : decode cX9_init 76 = .ok (.putfield 36, 3) := by decide +kernel
theorem dX9_init_79 : decode cX9_init 79 = .ok (.aload_n 0, 1) := by decide +kernel
theorem dX9_init_80 : decode cX9_init 80 = .ok (.getfield 7, 3) := by decide +kernel
theorem dX9_init_83 : decode cX9_init 83 = .ok (.iconst 0, 1) := by decide +kernel
theorem dX9_init_84 : decode cX9_init 84 = .ok (.iconst 4, 1) := by decide +kernel
theorem dX9_init_85 : decode cX9_init 85 = .ok (.iastore, 1) := by decide +kernel
theorem dX9_init_86 : decode cX9_init 86 = .ok (.aload_n 0, 1) := by decide +kernel
theorem dX9_init_87 : decode cX9_init 87 = .ok (.getfield 7, 3) := by decide +kernel
theorem dX9_init_90 : decode cX9_init 90 = .ok (.iconst 1, 1) := by decide +kernel
theorem dX9_init_91 : decode cX9_init 91 = .ok (.bipush 8, 2) := by decide +kernel
theorem dX9_init_93 : decode cX9_init 93 = .ok (.iastore, 1) := by decide +kernel
theorem dX9_init_94 : decode cX9_init 94 = .ok (.aload_n 0, 1) := by decide +kernel
theorem dX9_init_95 : decode cX9_init 95 = .ok (.getfield 7, 3) := by decide +kernel
theorem dX9_init_98 : decode cX9_init 98 = .ok (.iconst 2, 1) := by decide +kernel
theorem dX9_init_99 : decode cX9_init 99 = .ok (.bipush 6, 2) := by decide +kernel
theorem dX9_init_101 : decode cX9_init 101 = .ok (.iastore, 1) := by decide +kernel
theorem dX9_init_102 : decode cX9_init 102 = .ok (.aload_n 0, 1) := by decide +kernel
theorem dX9_init_103 : decode cX9_init 103 = .ok (.getfield 7, 3) := by decide +kernel
theorem dX9_init_106 : decode cX9_init 106 = .ok (.iconst 3, 1) := by decide +kernel
theorem dX9_init_107 : decode cX9_init 107 = .ok (.bipush 10, 2) := by decide +kernel
theorem dX9_init_109 : decode cX9_init 109 = .ok (.iastore, 1) := by decide +kernel
theorem dX9_init_110 : decode cX9_init 110 = .ok (.iconst 0, 1) := by decide +kernel
theorem dX9_init_111 : decode cX9_init 111 = .ok (.istore_n 1, 1) := by decide +kernel
theorem dX9_init_112 : decode cX9_init 112 = .ok (.iload_n 1, 1) := by decide +kernel
theorem dX9_init_113 : decode cX9_init 113 = .ok (.sipush 200, 3) := by decide +kernel
theorem dX9_init_116 : decode cX9_init 116 = .ok (.if_icmp .ge 47, 3) := by decide +kernel
theorem dX9_init_119 : decode cX9_init 119 = .ok (.aload_n 0, 1) := by decide +kernel
theorem dX9_init_120 : decode cX9_init 120 = .ok (.iload_n 1, 1) := by decide +kernel
theorem dX9_init_121 : decode cX9_init 121 = .ok (.iconst 0, 1) := by decide +kernel
theorem dX9_init_122 : decode cX9_init 122 = .ok (.iconst (-1), 1) := by decide +kernel
theorem dX9_init_123 : decode cX9_init 123 = .ok (.invokevirtual 39, 3) := by decide +kernel
theorem dX9_init_126 : decode cX9_init 126 = .ok (.aload_n 0, 1) := by decide +kernel
theorem dX9_init_127 : decode cX9_init 127 = .ok (.iload_n 1, 1) := by decide +kernel
theorem dX9_init_128 : decode cX9_init 128 = .ok (.iconst 4, 1) := by decide +kernel
theorem dX9_init_129 : decode cX9_init 129 = .ok (.iconst (-1), 1) := by decide +kernel
theorem dX9_init_130 : decode cX9_init 130 = .ok (.invokevirtual 39, 3) := by decide +kernel
theorem dX9_init_133 : decode cX9_init 133 = .ok (.aload_n 0, 1) := by decide +kernel
theorem dX9_init_134 : decode cX9_init 134 = .ok (.iload_n 1, 1) := by decide +kernel
theorem dX9_init_135 : decode cX9_init 135 = .ok (.iconst 3, 1) := by decide +kernel
theorem dX9_init_136 : decode cX9_init 136 = .ok (.iconst (-1), 1) := by decide +kernel
theorem dX9_init_137 : decode cX9_init 137 = .ok (.invokevirtual 39, 3) := by decide +kernel
theorem dX9_init_140 : decode cX9_init 140 = .ok (.aload_n 0, 1) := by decide +kernel
theorem dX9_init_141 : decode cX9_init 141 = .ok (.getfield 7, 3) := by decide +kernel
theorem dX9_init_144 : decode cX9_init 144 = .ok (.sipush 1184, 3) := by decide +kernel
theorem dX9_init_147 : decode cX9_init 147 = .ok (.iload_n 1, 1) := by decide +kernel
theorem dX9_init_148 : decode cX9_init 148 = .ok (.iadd, 1) := by decide +kernel
theorem dX9_init_149 : decode cX9_init 149 = .ok (.iconst 5, 1) := by decide +kernel
theorem dX9_init_150 : decode cX9_init 150 = .ok (.iload_n 1, 1) := by decide +kernel
theorem dX9_init_151 : decode cX9_init 151 = .ok (.imul, 1) := by decide +kernel
theorem dX9_init_152 : decode cX9_init 152 = .ok (.sipush 1000, 3) := by decide +kernel
theorem dX9_init_155 : decode cX9_init 155 = .ok (.irem, 1) := by decide +kernel
theorem dX9_init_156 : decode cX9_init 156 = .ok (.iastore, 1) := by decide +kernel
theorem dX9_init_157 : decode cX9_init 157 = .ok (.iinc 1 1, 3) := by decide +kernel
theorem dX9_init_160 : decode cX9_init 160 = .ok (.goto (-48), 3) := by decide +kernel
theorem dX9_init_163 : decode cX9_init 163 = .ok (.return_, 1) := by decide +kernel
theorem dX9_thrown_0 : decode cX9_thrown 0 = .ok (.aload_n 0, 1) := by decide +kernel
theorem dX9_thrown_1 : decode cX9_thrown 1 = .ok (.getfield 43, 3) := by decide +kernel
theorem dX9_thrown_4 : decode cX9_thrown 4 = .ok (.ireturn, 1) := by decide +kernel
theorem dX9_fail_0 : decode cX9_fail 0 = .ok (.aload_n 0, 1) := by decide +kernel
theorem dX9_fail_1 : decode cX9_fail 1 = .ok (.iload_n 1, 1) := by decide +kernel
theorem dX9_fail_2 : decode cX9_fail 2 = .ok (.putfield 43, 3) := by decide +kernel
theorem dX9_fail_5 : decode cX9_fail 5 = .ok (.iconst 0, 1) := by decide +kernel
theorem dX9_fail_6 : decode cX9_fail 6 = .ok (.ireturn, 1) := by decide +kernel
theorem dX9_isBetween_0 : decode cX9_isBetween 0 = .ok (.iload_n 0, 1) := by decide +kernel
theorem dX9_isBetween_1 : decode cX9_isBetween 1 = .ok (.iload_n 1, 1) := by decide +kernel
theorem dX9_isBetween_2 : decode cX9_isBetween 2 = .ok (.if_icmp .lt 12, 3) := by decide +kernel
theorem dX9_isBetween_5 : decode cX9_isBetween 5 = .ok (.iload_n 0, 1) := by decide +kernel
theorem dX9_isBetween_6 : decode cX9_isBetween 6 = .ok (.iload_n 2, 1) := by decide +kernel
theorem dX9_isBetween_7 : decode cX9_isBetween 7 = .ok (.if_icmp .gt 7, 3) := by decide +kernel
theorem dX9_isBetween_10 : decode cX9_isBetween 10 = .ok (.iconst 1, 1) := by decide +kernel
theorem dX9_isBetween_11 : decode cX9_isBetween 11 = .ok (.goto 4, 3) := by decide +kernel
theorem dX9_isBetween_14 : decode cX9_isBetween 14 = .ok (.iconst 0, 1) := by decide +kernel
theorem dX9_isBetween_15 : decode cX9_isBetween 15 = .ok (.ireturn, 1) := by decide +kernel
theorem dX9_copy_0 : decode cX9_copy 0 = .ok (.iconst 0, 1) := by decide +kernel
theorem dX9_copy_1 : decode cX9_copy 1 = .ok (.istore 4, 2) := by decide +kernel
theorem dX9_copy_3 : decode cX9_copy 3 = .ok (.iload 4, 2) := by decide +kernel
theorem dX9_copy_5 : decode cX9_copy 5 = .ok (.sipush 1384, 3) := by decide +kernel
theorem dX9_copy_8 : decode cX9_copy 8 = .ok (.if_icmp .ge 21, 3) := by decide +kernel
theorem dX9_copy_11 : decode cX9_copy 11 = .ok (.aload_n 2, 1) := by decide +kernel
theorem dX9_copy_12 : decode cX9_copy 12 = .ok (.iload_n 3, 1) := by decide +kernel
theorem dX9_copy_13 : decode cX9_copy 13 = .ok (.iload 4, 2) := by decide +kernel
theorem dX9_copy_15 : decode cX9_copy 15 = .ok (.iadd, 1) := by decide +kernel
theorem dX9_copy_16 : decode cX9_copy 16 = .ok (.aload_n 0, 1) := by decide +kernel
theorem dX9_copy_17 : decode cX9_copy 17 = .ok (.iload_n 1, 1) := by decide +kernel
theorem dX9_copy_18 : decode cX9_copy 18 = .ok (.iload 4, 2) := by decide +kernel
theorem dX9_copy_20 : decode cX9_copy 20 = .ok (.iadd, 1) := by decide +kernel
theorem dX9_copy_21 : decode cX9_copy 21 = .ok (.iaload, 1) := by decide +kernel
theorem dX9_copy_22 : decode cX9_copy 22 = .ok (.iastore, 1) := by decide +kernel
theorem dX9_copy_23 : decode cX9_copy 23 = .ok (.iinc 4 1, 3) := by decide +kernel
theorem dX9_copy_26 : decode cX9_copy 26 = .ok (.goto (-23), 3) := by decide +kernel
theorem dX9_copy_29 : decode cX9_copy 29 = .ok (.return_, 1) := by decide +kernel
theorem dX9_beginAct_0 : decode cX9_beginAct 0 = .ok (.aload_n 0, 1) := by decide +kernel
theorem dX9_beginAct_1 : decode cX9_beginAct 1 = .ok (.getfield 46, 3) := by decide +kernel
theorem dX9_beginAct_4 : decode cX9_beginAct 4 = .ok (.bipush 8, 2) := by decide +kernel
theorem dX9_beginAct_6 : decode cX9_beginAct 6 = .ok (.if_icmp .ne 44, 3) := by decide +kernel
theorem dX9_beginAct_9 : decode cX9_beginAct 9 = .ok (.iconst 0, 1) := by decide +kernel
theorem dX9_beginAct_10 : decode cX9_beginAct 10 = .ok (.istore_n 1, 1) := by decide +kernel
theorem dX9_beginAct_11 : decode cX9_beginAct 11 = .ok (.iload_n 1, 1) := by decide +kernel
theorem dX9_beginAct_12 : decode cX9_beginAct 12 = .ok (.sipush 9688, 3) := by decide +kernel
theorem dX9_beginAct_15 : decode cX9_beginAct 15 = .ok (.if_icmp .ge 25, 3) := by decide +kernel
theorem dX9_beginAct_18 : decode cX9_beginAct 18 = .ok (.aload_n 0, 1) := by decide +kernel
theorem dX9_beginAct_19 : decode cX9_beginAct 19 = .ok (.getfield 16, 3) := by decide +kernel
theorem dX9_beginAct_22 : decode cX9_beginAct 22 = .ok (.iload_n 1, 1) := by decide +kernel
theorem dX9_beginAct_23 : decode cX9_beginAct 23 = .ok (.aload_n 0, 1) := by decide +kernel
theorem dX9_beginAct_24 : decode cX9_beginAct 24 = .ok (.getfield 16, 3) := by decide +kernel
theorem dX9_beginAct_27 : decode cX9_beginAct 27 = .ok (.iload_n 1, 1) := by decide +kernel
theorem dX9_beginAct_28 : decode cX9_beginAct 28 = .ok (.sipush 1384, 3) := by decide +kernel
theorem dX9_beginAct_31 : decode cX9_beginAct 31 = .ok (.iadd, 1) := by decide +kernel
theorem dX9_beginAct_32 : decode cX9_beginAct 32 = .ok (.iaload, 1) := by decide +kernel
theorem dX9_beginAct_33 : decode cX9_beginAct 33 = .ok (.iastore, 1) := by decide +kernel
theorem dX9_beginAct_34 : decode cX9_beginAct 34 = .ok (.iinc 1 1, 3) := by decide +kernel
theorem dX9_beginAct_37 : decode cX9_beginAct 37 = .ok (.goto (-26), 3) := by decide +kernel
theorem dX9_beginAct_40 : decode cX9_beginAct 40 = .ok (.aload_n 0, 1) := by decide +kernel
theorem dX9_beginAct_41 : decode cX9_beginAct 41 = .ok (.dup, 1) := by decide +kernel
theorem dX9_beginAct_42 : decode cX9_beginAct 42 = .ok (.getfield 46, 3) := by decide +kernel
theorem dX9_beginAct_45 : decode cX9_beginAct 45 = .ok (.iconst 1, 1) := by decide +kernel
theorem dX9_beginAct_46 : decode cX9_beginAct 46 = .ok (.isub, 1) := by decide +kernel
theorem dX9_beginAct_47 : decode cX9_beginAct 47 = .ok (.putfield 46, 3) := by decide +kernel
theorem dX9_beginAct_50 : decode cX9_beginAct 50 = .ok (.aload_n 0, 1) := by decide +kernel
theorem dX9_beginAct_51 : decode cX9_beginAct 51 = .ok (.getfield 7, 3) := by decide +kernel
theorem dX9_beginAct_54 : decode cX9_beginAct 54 = .ok (.iconst 0, 1) := by decide +kernel
theorem dX9_beginAct_55 : decode cX9_beginAct 55 = .ok (.aload_n 0, 1) := by decide +kernel
theorem dX9_beginAct_56 : decode cX9_beginAct 56 = .ok (.getfield 16, 3) := by decide +kernel
theorem dX9_beginAct_59 : decode cX9_beginAct 59 = .ok (.sipush 1384, 3) := by decide +kernel
theorem dX9_beginAct_62 : decode cX9_beginAct 62 = .ok (.aload_n 0, 1) := by decide +kernel
theorem dX9_beginAct_63 : decode cX9_beginAct 63 = .ok (.getfield 46, 3) := by decide +kernel
theorem dX9_beginAct_66 : decode cX9_beginAct 66 = .ok (.imul, 1) := by decide +kernel
theorem dX9_beginAct_67 : decode cX9_beginAct 67 = .ok (.invokestatic 49, 3) := by decide +kernel
theorem dX9_beginAct_70 : decode cX9_beginAct 70 = .ok (.aload_n 0, 1) := by decide +kernel
theorem dX9_beginAct_71 : decode cX9_beginAct 71 = .ok (.dup, 1) := by decide +kernel
theorem dX9_beginAct_72 : decode cX9_beginAct 72 = .ok (.getfield 46, 3) := by decide +kernel
theorem dX9_beginAct_75 : decode cX9_beginAct 75 = .ok (.iconst 1, 1) := by decide +kernel
theorem dX9_beginAct_76 : decode cX9_beginAct 76 = .ok (.iadd, 1) := by decide +kernel
theorem dX9_beginAct_77 : decode cX9_beginAct 77 = .ok (.putfield 46, 3) := by decide +kernel
theorem dX9_beginAct_80 : decode cX9_beginAct 80 = .ok (.return_, 1) := by decide +kernel
theorem dX9_of_0 : decode cX9_of 0 = .ok (.aload_n 0, 1) := by decide +kernel
theorem dX9_of_1 : decode cX9_of 1 = .ok (.getfield 7, 3) := by decide +kernel
theorem dX9_of_4 : decode cX9_of 4 = .ok (.sipush 184, 3) := by decide +kernel
theorem dX9_of_7 : decode cX9_of 7 = .ok (.iconst 5, 1) := by decide +kernel
theorem dX9_of_8 : decode cX9_of 8 = .ok (.iload_n 1, 1) := by decide +kernel
theorem dX9_of_9 : decode cX9_of 9 = .ok (.imul, 1) := by decide +kernel
theorem dX9_of_10 : decode cX9_of 10 = .ok (.iadd, 1) := by decide +kernel
theorem dX9_of_11 : decode cX9_of 11 = .ok (.iload_n 2, 1) := by decide +kernel
theorem dX9_of_12 : decode cX9_of 12 = .ok (.iadd, 1) := by decide +kernel
theorem dX9_of_13 : decode cX9_of 13 = .ok (.iaload, 1) := by decide +kernel
theorem dX9_of_14 : decode cX9_of 14 = .ok (.ireturn, 1) := by decide +kernel
theorem dX9_put_0 : decode cX9_put 0 = .ok (.aload_n 0, 1) := by decide +kernel
theorem dX9_put_1 : decode cX9_put 1 = .ok (.getfield 7, 3) := by decide +kernel
theorem dX9_put_4 : decode cX9_put 4 = .ok (.sipush 184, 3) := by decide +kernel
theorem dX9_put_7 : decode cX9_put 7 = .ok (.iconst 5, 1) := by decide +kernel
theorem dX9_put_8 : decode cX9_put 8 = .ok (.iload_n 1, 1) := by decide +kernel
theorem dX9_put_9 : decode cX9_put 9 = .ok (.imul, 1) := by decide +kernel
theorem dX9_put_10 : decode cX9_put 10 = .ok (.iadd, 1) := by decide +kernel
theorem dX9_put_11 : decode cX9_put 11 = .ok (.iload_n 2, 1) := by decide +kernel
theorem dX9_put_12 : decode cX9_put 12 = .ok (.iadd, 1) := by decide +kernel
theorem dX9_put_13 : decode cX9_put 13 = .ok (.iload_n 3, 1) := by decide +kernel
theorem dX9_put_14 : decode cX9_put 14 = .ok (.iastore, 1) := by decide +kernel
theorem dX9_put_15 : decode cX9_put 15 = .ok (.return_, 1) := by decide +kernel
theorem dX9_ofClient_0 : decode cX9_ofClient 0 = .ok (.aload_n 0, 1) := by decide +kernel
theorem dX9_ofClient_1 : decode cX9_ofClient 1 = .ok (.getfield 7, 3) := by decide +kernel
theorem dX9_ofClient_4 : decode cX9_ofClient 4 = .ok (.sipush 144, 3) := by decide +kernel
theorem dX9_ofClient_7 : decode cX9_ofClient 7 = .ok (.bipush 10, 2) := by decide +kernel
theorem dX9_ofClient_9 : decode cX9_ofClient 9 = .ok (.iload_n 1, 1) := by decide +kernel
theorem dX9_ofClient_10 : decode cX9_ofClient 10 = .ok (.imul, 1) := by decide +kernel
theorem dX9_ofClient_11 : decode cX9_ofClient 11 = .ok (.iadd, 1) := by decide +kernel
theorem dX9_ofClient_12 : decode cX9_ofClient 12 = .ok (.iload_n 2, 1) := by decide +kernel
theorem dX9_ofClient_13 : decode cX9_ofClient 13 = .ok (.iadd, 1) := by decide +kernel
theorem dX9_ofClient_14 : decode cX9_ofClient 14 = .ok (.iaload, 1) := by decide +kernel
theorem dX9_ofClient_15 : decode cX9_ofClient 15 = .ok (.ireturn, 1) := by decide +kernel
theorem dX9_putClient_0 : decode cX9_putClient 0 = .ok (.aload_n 0, 1) := by decide +kernel
theorem dX9_putClient_1 : decode cX9_putClient 1 = .ok (.getfield 7, 3) := by decide +kernel
theorem dX9_putClient_4 : decode cX9_putClient 4 = .ok (.sipush 144, 3) := by decide +kernel
theorem dX9_putClient_7 : decode cX9_putClient 7 = .ok (.bipush 10, 2) := by decide +kernel
theorem dX9_putClient_9 : decode cX9_putClient 9 = .ok (.iload_n 1, 1) := by decide +kernel
theorem dX9_putClient_10 : decode cX9_putClient 10 = .ok (.imul, 1) := by decide +kernel
theorem dX9_putClient_11 : decode cX9_putClient 11 = .ok (.iadd, 1) := by decide +kernel
theorem dX9_putClient_12 : decode cX9_putClient 12 = .ok (.iload_n 2, 1) := by decide +kernel
theorem dX9_putClient_13 : decode cX9_putClient 13 = .ok (.iadd, 1) := by decide +kernel
theorem dX9_putClient_14 : decode cX9_putClient 14 = .ok (.iload_n 3, 1) := by decide +kernel
theorem dX9_putClient_15 : decode cX9_putClient 15 = .ok (.iastore, 1) := by decide +kernel
theorem dX9_putClient_16 : decode cX9_putClient 16 = .ok (.return_, 1) := by decide +kernel
theorem dX9_isClient_0 : decode cX9_isClient 0 = .ok (.iload_n 1, 1) := by decide +kernel
theorem dX9_isClient_1 : decode cX9_isClient 1 = .ok (.iconst 0, 1) := by decide +kernel
theorem dX9_isClient_2 : decode cX9_isClient 2 = .ok (.aload_n 0, 1) := by decide +kernel
theorem dX9_isClient_3 : decode cX9_isClient 3 = .ok (.getfield 7, 3) := by decide +kernel
theorem dX9_isClient_6 : decode cX9_isClient 6 = .ok (.bipush 6, 2) := by decide +kernel
theorem dX9_isClient_8 : decode cX9_isClient 8 = .ok (.iaload, 1) := by decide +kernel
theorem dX9_isClient_9 : decode cX9_isClient 9 = .ok (.iconst 1, 1) := by decide +kernel
theorem dX9_isClient_10 : decode cX9_isClient 10 = .ok (.isub, 1) := by decide +kernel
theorem dX9_isClient_11 : decode cX9_isClient 11 = .ok (.invokestatic 53, 3) := by decide +kernel
theorem dX9_isClient_14 : decode cX9_isClient 14 = .ok (.ireturn, 1) := by decide +kernel
theorem dX9_isBlock_0 : decode cX9_isBlock 0 = .ok (.iload_n 0, 1) := by decide +kernel
theorem dX9_isBlock_1 : decode cX9_isBlock 1 = .ok (.iconst 0, 1) := by decide +kernel
theorem dX9_isBlock_2 : decode cX9_isBlock 2 = .ok (.sipush 199, 3) := by decide +kernel
theorem dX9_isBlock_5 : decode cX9_isBlock 5 = .ok (.invokestatic 53, 3) := by decide +kernel
theorem dX9_isBlock_8 : decode cX9_isBlock 8 = .ok (.ireturn, 1) := by decide +kernel
theorem dX9_appendText_0 : decode cX9_appendText 0 = .ok (.aload_n 0, 1) := by decide +kernel
theorem dX9_appendText_1 : decode cX9_appendText 1 = .ok (.iconst 0, 1) := by decide +kernel
theorem dX9_appendText_2 : decode cX9_appendText 2 = .ok (.putfield 43, 3) := by decide +kernel
theorem dX9_appendText_5 : decode cX9_appendText 5 = .ok (.aload_n 0, 1) := by decide +kernel
theorem dX9_appendText_6 : decode cX9_appendText 6 = .ok (.getfield 57, 3) := by decide +kernel
theorem dX9_appendText_9 : decode cX9_appendText 9 = .ok (.iconst 4, 1) := by decide +kernel
theorem dX9_appendText_10 : decode cX9_appendText 10 = .ok (.iadd, 1) := by decide +kernel
theorem dX9_appendText_11 : decode cX9_appendText 11 = .ok (.sipush 600, 3) := by decide +kernel
theorem dX9_appendText_14 : decode cX9_appendText 14 = .ok (.if_icmp .le 9, 3) := by decide +kernel
theorem dX9_appendText_17 : decode cX9_appendText 17 = .ok (.aload_n 0, 1) := by decide +kernel
theorem dX9_appendText_18 : decode cX9_appendText 18 = .ok (.iconst 1, 1) := by decide +kernel
theorem dX9_appendText_19 : decode cX9_appendText 19 = .ok (.invokevirtual 60, 3) := by decide +kernel
theorem dX9_appendText_22 : decode cX9_appendText 22 = .ok (.ireturn, 1) := by decide +kernel
theorem dX9_appendText_23 : decode cX9_appendText 23 = .ok (.bipush 24, 2) := by decide +kernel
theorem dX9_appendText_25 : decode cX9_appendText 25 = .ok (.istore_n 2, 1) := by decide +kernel
theorem dX9_appendText_26 : decode cX9_appendText 26 = .ok (.iload_n 2, 1) := by decide +kernel
theorem dX9_appendText_27 : decode cX9_appendText 27 = .ok (.ifCond .lt 35, 3) := by decide +kernel
theorem dX9_appendText_30 : decode cX9_appendText 30 = .ok (.aload_n 0, 1) := by decide +kernel
theorem dX9_appendText_31 : decode cX9_appendText 31 = .ok (.getfield 26, 3) := by decide +kernel
theorem dX9_appendText_34 : decode cX9_appendText 34 = .ok (.aload_n 0, 1) := by decide +kernel
theorem dX9_appendText_35 : decode cX9_appendText 35 = .ok (.getfield 57, 3) := by decide +kernel
theorem dX9_appendText_38 : decode cX9_appendText 38 = .ok (.iload_n 1, 1) := by decide +kernel
theorem dX9_appendText_39 : decode cX9_appendText 39 = .ok (.iload_n 2, 1) := by decide +kernel
theorem dX9_appendText_40 : decode cX9_appendText 40 = .ok (.ishr, 1) := by decide +kernel
theorem dX9_appendText_41 : decode cX9_appendText 41 = .ok (.sipush 255, 3) := by decide +kernel
theorem dX9_appendText_44 : decode cX9_appendText 44 = .ok (.iand, 1) := by decide +kernel
theorem dX9_appendText_45 : decode cX9_appendText 45 = .ok (.iastore, 1) := by decide +kernel
theorem dX9_appendText_46 : decode cX9_appendText 46 = .ok (.aload_n 0, 1) := by decide +kernel
theorem dX9_appendText_47 : decode cX9_appendText 47 = .ok (.dup, 1) := by decide +kernel
theorem dX9_appendText_48 : decode cX9_appendText 48 = .ok (.getfield 57, 3) := by decide +kernel
theorem dX9_appendText_51 : decode cX9_appendText 51 = .ok (.iconst 1, 1) := by decide +kernel
theorem dX9_appendText_52 : decode cX9_appendText 52 = .ok (.iadd, 1) := by decide +kernel
theorem dX9_appendText_53 : decode cX9_appendText 53 = .ok (.putfield 57, 3) := by decide +kernel
theorem dX9_appendText_56 : decode cX9_appendText 56 = .ok (.iinc 2 (-8), 3) := by decide +kernel
theorem dX9_appendText_59 : decode cX9_appendText 59 = .ok (.goto (-33), 3) := by decide +kernel
theorem dX9_appendText_62 : decode cX9_appendText 62 = .ok (.aload_n 0, 1) := by decide +kernel
theorem dX9_appendText_63 : decode cX9_appendText 63 = .ok (.getfield 57, 3) := by decide +kernel
theorem dX9_appendText_66 : decode cX9_appendText 66 = .ok (.ireturn, 1) := by decide +kernel
theorem dX9_truncateText_0 : decode cX9_truncateText 0 = .ok (.aload_n 0, 1) := by decide +kernel
theorem dX9_truncateText_1 : decode cX9_truncateText 1 = .ok (.iconst 0, 1) := by decide +kernel
theorem dX9_truncateText_2 : decode cX9_truncateText 2 = .ok (.putfield 43, 3) := by decide +kernel
theorem dX9_truncateText_5 : decode cX9_truncateText 5 = .ok (.iload_n 1, 1) := by decide +kernel
theorem dX9_truncateText_6 : decode cX9_truncateText 6 = .ok (.iconst 0, 1) := by decide +kernel
theorem dX9_truncateText_7 : decode cX9_truncateText 7 = .ok (.aload_n 0, 1) := by decide +kernel
theorem dX9_truncateText_8 : decode cX9_truncateText 8 = .ok (.getfield 57, 3) := by decide +kernel
theorem dX9_truncateText_11 : decode cX9_truncateText 11 = .ok (.invokestatic 53, 3) := by decide +kernel
theorem dX9_truncateText_14 : decode cX9_truncateText 14 = .ok (.ifCond .ne 9, 3) := by decide +kernel
theorem dX9_truncateText_17 : decode cX9_truncateText 17 = .ok (.aload_n 0, 1) := by decide +kernel
theorem dX9_truncateText_18 : decode cX9_truncateText 18 = .ok (.iconst 1, 1) := by decide +kernel
theorem dX9_truncateText_19 : decode cX9_truncateText 19 = .ok (.invokevirtual 60, 3) := by decide +kernel
theorem dX9_truncateText_22 : decode cX9_truncateText 22 = .ok (.ireturn, 1) := by decide +kernel
theorem dX9_truncateText_23 : decode cX9_truncateText 23 = .ok (.aload_n 0, 1) := by decide +kernel
theorem dX9_truncateText_24 : decode cX9_truncateText 24 = .ok (.iload_n 1, 1) := by decide +kernel
theorem dX9_truncateText_25 : decode cX9_truncateText 25 = .ok (.putfield 57, 3) := by decide +kernel
theorem dX9_truncateText_28 : decode cX9_truncateText 28 = .ok (.aload_n 0, 1) := by decide +kernel
theorem dX9_truncateText_29 : decode cX9_truncateText 29 = .ok (.getfield 57, 3) := by decide +kernel
theorem dX9_truncateText_32 : decode cX9_truncateText 32 = .ok (.ireturn, 1) := by decide +kernel
theorem dX9_byteAt_0 : decode cX9_byteAt 0 = .ok (.iload_n 1, 1) := by decide +kernel
theorem dX9_byteAt_1 : decode cX9_byteAt 1 = .ok (.aload_n 0, 1) := by decide +kernel
theorem dX9_byteAt_2 : decode cX9_byteAt 2 = .ok (.getfield 57, 3) := by decide +kernel
theorem dX9_byteAt_5 : decode cX9_byteAt 5 = .ok (.if_icmp .ge 12, 3) := by decide +kernel
theorem dX9_byteAt_8 : decode cX9_byteAt 8 = .ok (.aload_n 0, 1) := by decide +kernel
theorem dX9_byteAt_9 : decode cX9_byteAt 9 = .ok (.getfield 26, 3) := by decide +kernel
theorem dX9_byteAt_12 : decode cX9_byteAt 12 = .ok (.iload_n 1, 1) := by decide +kernel
theorem dX9_byteAt_13 : decode cX9_byteAt 13 = .ok (.iaload, 1) := by decide +kernel
theorem dX9_byteAt_14 : decode cX9_byteAt 14 = .ok (.goto 4, 3) := by decide +kernel
theorem dX9_byteAt_17 : decode cX9_byteAt 17 = .ok (.iconst (-1), 1) := by decide +kernel
theorem dX9_byteAt_18 : decode cX9_byteAt 18 = .ok (.ireturn, 1) := by decide +kernel
theorem dX9_isLetter_0 : decode cX9_isLetter 0 = .ok (.iload_n 0, 1) := by decide +kernel
theorem dX9_isLetter_1 : decode cX9_isLetter 1 = .ok (.bipush 97, 2) := by decide +kernel
theorem dX9_isLetter_3 : decode cX9_isLetter 3 = .ok (.bipush 122, 2) := by decide +kernel
theorem dX9_isLetter_5 : decode cX9_isLetter 5 = .ok (.invokestatic 53, 3) := by decide +kernel
theorem dX9_isLetter_8 : decode cX9_isLetter 8 = .ok (.ireturn, 1) := by decide +kernel
theorem dX9_isDigit_0 : decode cX9_isDigit 0 = .ok (.iload_n 0, 1) := by decide +kernel
theorem dX9_isDigit_1 : decode cX9_isDigit 1 = .ok (.bipush 48, 2) := by decide +kernel
theorem dX9_isDigit_3 : decode cX9_isDigit 3 = .ok (.bipush 57, 2) := by decide +kernel
theorem dX9_isDigit_5 : decode cX9_isDigit 5 = .ok (.invokestatic 53, 3) := by decide +kernel
theorem dX9_isDigit_8 : decode cX9_isDigit 8 = .ok (.ireturn, 1) := by decide +kernel
theorem dX9_nextToken_0 : decode cX9_nextToken 0 = .ok (.aload_n 0, 1) := by decide +kernel
theorem dX9_nextToken_1 : decode cX9_nextToken 1 = .ok (.aload_n 0, 1) := by decide +kernel
theorem dX9_nextToken_2 : decode cX9_nextToken 2 = .ok (.getfield 64, 3) := by decide +kernel
theorem dX9_nextToken_5 : decode cX9_nextToken 5 = .ok (.invokevirtual 67, 3) := by decide +kernel
theorem dX9_nextToken_8 : decode cX9_nextToken 8 = .ok (.bipush 32, 2) := by decide +kernel
theorem dX9_nextToken_10 : decode cX9_nextToken 10 = .ok (.if_icmp .eq 16, 3) := by decide +kernel
theorem dX9_nextToken_13 : decode cX9_nextToken 13 = .ok (.aload_n 0, 1) := by decide +kernel
theorem dX9_nextToken_14 : decode cX9_nextToken 14 = .ok (.aload_n 0, 1) := by decide +kernel
theorem dX9_nextToken_15 : decode cX9_nextToken 15 = .ok (.getfield 64, 3) := by decide +kernel
theorem dX9_nextToken_18 : decode cX9_nextToken 18 = .ok (.invokevirtual 67, 3) := by decide +kernel
theorem dX9_nextToken_21 : decode cX9_nextToken 21 = .ok (.bipush 10, 2) := by decide +kernel
theorem dX9_nextToken_23 : decode cX9_nextToken 23 = .ok (.if_icmp .ne 16, 3) := by decide +kernel
theorem dX9_nextToken_26 : decode cX9_nextToken 26 = .ok (.aload_n 0, 1) := by decide +kernel
theorem dX9_nextToken_27 : decode cX9_nextToken 27 = .ok (.dup, 1) := by decide +kernel
theorem dX9_nextToken_28 : decode cX9_nextToken 28 = .ok (.getfield 64, 3) := by decide +kernel
theorem dX9_nextToken_31 : decode cX9_nextToken 31 = .ok (.iconst 1, 1) := by decide +kernel
theorem dX9_nextToken_32 : decode cX9_nextToken 32 = .ok (.iadd, 1) := by decide +kernel
theorem dX9_nextToken_33 : decode cX9_nextToken 33 = .ok (.putfield 64, 3) := by decide +kernel
theorem dX9_nextToken_36 : decode cX9_nextToken 36 = .ok (.goto (-36), 3) := by decide +kernel
theorem dX9_nextToken_39 : decode cX9_nextToken 39 = .ok (.aload_n 0, 1) := by decide +kernel
theorem dX9_nextToken_40 : decode cX9_nextToken 40 = .ok (.aload_n 0, 1) := by decide +kernel
theorem dX9_nextToken_41 : decode cX9_nextToken 41 = .ok (.getfield 64, 3) := by decide +kernel
theorem dX9_nextToken_44 : decode cX9_nextToken 44 = .ok (.putfield 70, 3) := by decide +kernel
theorem dX9_nextToken_47 : decode cX9_nextToken 47 = .ok (.aload_n 0, 1) := by decide +kernel
theorem dX9_nextToken_48 : decode cX9_nextToken 48 = .ok (.iconst 0, 1) := by decide +kernel
theorem dX9_nextToken_49 : decode cX9_nextToken 49 = .ok (.putfield 73, 3) := by decide +kernel
theorem dX9_nextToken_52 : decode cX9_nextToken 52 = .ok (.aload_n 0, 1) := by decide +kernel
theorem dX9_nextToken_53 : decode cX9_nextToken 53 = .ok (.lconst 0, 1) := by decide +kernel
theorem dX9_nextToken_54 : decode cX9_nextToken 54 = .ok (.putfield 76, 3) := by decide +kernel
theorem dX9_nextToken_57 : decode cX9_nextToken 57 = .ok (.aload_n 0, 1) := by decide +kernel
theorem dX9_nextToken_58 : decode cX9_nextToken 58 = .ok (.iconst 0, 1) := by decide +kernel
theorem dX9_nextToken_59 : decode cX9_nextToken 59 = .ok (.putfield 80, 3) := by decide +kernel
theorem dX9_nextToken_62 : decode cX9_nextToken 62 = .ok (.aload_n 0, 1) := by decide +kernel
theorem dX9_nextToken_63 : decode cX9_nextToken 63 = .ok (.aload_n 0, 1) := by decide +kernel
theorem dX9_nextToken_64 : decode cX9_nextToken 64 = .ok (.getfield 64, 3) := by decide +kernel
theorem dX9_nextToken_67 : decode cX9_nextToken 67 = .ok (.invokevirtual 67, 3) := by decide +kernel
theorem dX9_nextToken_70 : decode cX9_nextToken 70 = .ok (.istore_n 1, 1) := by decide +kernel
theorem dX9_nextToken_71 : decode cX9_nextToken 71 = .ok (.iload_n 1, 1) := by decide +kernel
theorem dX9_nextToken_72 : decode cX9_nextToken 72 = .ok (.iconst (-1), 1) := by decide +kernel
theorem dX9_nextToken_73 : decode cX9_nextToken 73 = .ok (.if_icmp .ne 11, 3) := by decide +kernel
theorem dX9_nextToken_76 : decode cX9_nextToken 76 = .ok (.aload_n 0, 1) := by decide +kernel
theorem dX9_nextToken_77 : decode cX9_nextToken 77 = .ok (.iconst 0, 1) := by decide +kernel
theorem dX9_nextToken_78 : decode cX9_nextToken 78 = .ok (.putfield 83, 3) := by decide +kernel
theorem dX9_nextToken_81 : decode cX9_nextToken 81 = .ok (.goto 197, 3) := by decide +kernel
theorem dX9_nextToken_84 : decode cX9_nextToken 84 = .ok (.iload_n 1, 1) := by decide +kernel
theorem dX9_nextToken_85 : decode cX9_nextToken 85 = .ok (.invokestatic 86, 3) := by decide +kernel
theorem dX9_nextToken_88 : decode cX9_nextToken 88 = .ok (.ifCond .eq 87, 3) := by decide +kernel
theorem dX9_nextToken_91 : decode cX9_nextToken 91 = .ok (.aload_n 0, 1) := by decide +kernel
theorem dX9_nextToken_92 : decode cX9_nextToken 92 = .ok (.iconst 2, 1) := by decide +kernel
theorem dX9_nextToken_93 : decode cX9_nextToken 93 = .ok (.putfield 83, 3) := by decide +kernel
theorem dX9_nextToken_96 : decode cX9_nextToken 96 = .ok (.aload_n 0, 1) := by decide +kernel
theorem dX9_nextToken_97 : decode cX9_nextToken 97 = .ok (.aload_n 0, 1) := by decide +kernel
theorem dX9_nextToken_98 : decode cX9_nextToken 98 = .ok (.getfield 64, 3) := by decide +kernel
theorem dX9_nextToken_101 : decode cX9_nextToken 101 = .ok (.invokevirtual 67, 3) := by decide +kernel
theorem dX9_nextToken_104 : decode cX9_nextToken 104 = .ok (.invokestatic 86, 3) := by decide +kernel
theorem dX9_nextToken_107 : decode cX9_nextToken 107 = .ok (.ifCond .eq 171, 3) := by decide +kernel
theorem dX9_nextToken_110 : decode cX9_nextToken 110 = .ok (.aload_n 0, 1) := by decide +kernel
theorem dX9_nextToken_111 : decode cX9_nextToken 111 = .ok (.aload_n 0, 1) := by decide +kernel
theorem dX9_nextToken_112 : decode cX9_nextToken 112 = .ok (.getfield 73, 3) := by decide +kernel
theorem dX9_nextToken_115 : decode cX9_nextToken 115 = .ok (.bipush 11, 2) := by decide +kernel
theorem dX9_nextToken_117 : decode cX9_nextToken 117 = .ok (.if_icmp .ge 28, 3) := by decide +kernel
theorem dX9_nextToken_120 : decode cX9_nextToken 120 = .ok (.ldc2_w 90, 3) := by decide +kernel
theorem dX9_nextToken_123 : decode cX9_nextToken 123 = .ok (.aload_n 0, 1) := by decide +kernel
theorem dX9_nextToken_124 : decode cX9_nextToken 124 = .ok (.getfield 76, 3) := by decide +kernel
theorem dX9_nextToken_127 : decode cX9_nextToken 127 = .ok (.lmul, 1) := by decide +kernel
theorem dX9_nextToken_128 : decode cX9_nextToken 128 = .ok (.aload_n 0, 1) := by decide +kernel
theorem dX9_nextToken_129 : decode cX9_nextToken 129 = .ok (.aload_n 0, 1) := by decide +kernel
theorem dX9_nextToken_130 : decode cX9_nextToken 130 = .ok (.getfield 64, 3) := by decide +kernel
theorem dX9_nextToken_133 : decode cX9_nextToken 133 = .ok (.invokevirtual 67, 3) := by decide +kernel
theorem dX9_nextToken_136 : decode cX9_nextToken 136 = .ok (.i2l, 1) := by decide +kernel
theorem dX9_nextToken_137 : decode cX9_nextToken 137 = .ok (.ladd, 1) := by decide +kernel
theorem dX9_nextToken_138 : decode cX9_nextToken 138 = .ok (.ldc2_w 92, 3) := by decide +kernel
theorem dX9_nextToken_141 : decode cX9_nextToken 141 = .ok (.lsub, 1) := by decide +kernel
theorem dX9_nextToken_142 : decode cX9_nextToken 142 = .ok (.goto 7, 3) := by decide +kernel
theorem dX9_nextToken_145 : decode cX9_nextToken 145 = .ok (.aload_n 0, 1) := by decide +kernel
theorem dX9_nextToken_146 : decode cX9_nextToken 146 = .ok (.getfield 76, 3) := by decide +kernel
theorem dX9_nextToken_149 : decode cX9_nextToken 149 = .ok (.putfield 76, 3) := by decide +kernel
theorem dX9_nextToken_152 : decode cX9_nextToken 152 = .ok (.aload_n 0, 1) := by decide +kernel
theorem dX9_nextToken_153 : decode cX9_nextToken 153 = .ok (.dup, 1) := by decide +kernel
theorem dX9_nextToken_154 : decode cX9_nextToken 154 = .ok (.getfield 73, 3) := by decide +kernel
theorem dX9_nextToken_157 : decode cX9_nextToken 157 = .ok (.iconst 1, 1) := by decide +kernel
theorem dX9_nextToken_158 : decode cX9_nextToken 158 = .ok (.iadd, 1) := by decide +kernel
theorem dX9_nextToken_159 : decode cX9_nextToken 159 = .ok (.putfield 73, 3) := by decide +kernel
theorem dX9_nextToken_162 : decode cX9_nextToken 162 = .ok (.aload_n 0, 1) := by decide +kernel
theorem dX9_nextToken_163 : decode cX9_nextToken 163 = .ok (.dup, 1) := by decide +kernel
theorem dX9_nextToken_164 : decode cX9_nextToken 164 = .ok (.getfield 64, 3) := by decide +kernel
theorem dX9_nextToken_167 : decode cX9_nextToken 167 = .ok (.iconst 1, 1) := by decide +kernel
theorem dX9_nextToken_168 : decode cX9_nextToken 168 = .ok (.iadd, 1) := by decide +kernel
theorem dX9_nextToken_169 : decode cX9_nextToken 169 = .ok (.putfield 64, 3) := by decide +kernel
theorem dX9_nextToken_172 : decode cX9_nextToken 172 = .ok (.goto (-76), 3) := by decide +kernel
theorem dX9_nextToken_175 : decode cX9_nextToken 175 = .ok (.iload_n 1, 1) := by decide +kernel
theorem dX9_nextToken_176 : decode cX9_nextToken 176 = .ok (.invokestatic 94, 3) := by decide +kernel
theorem dX9_nextToken_179 : decode cX9_nextToken 179 = .ok (.ifCond .eq 74, 3) := by decide +kernel
theorem dX9_nextToken_182 : decode cX9_nextToken 182 = .ok (.aload_n 0, 1) := by decide +kernel
theorem dX9_nextToken_183 : decode cX9_nextToken 183 = .ok (.iconst 3, 1) := by decide +kernel
theorem dX9_nextToken_184 : decode cX9_nextToken 184 = .ok (.putfield 83, 3) := by decide +kernel
theorem dX9_nextToken_187 : decode cX9_nextToken 187 = .ok (.aload_n 0, 1) := by decide +kernel
theorem dX9_nextToken_188 : decode cX9_nextToken 188 = .ok (.aload_n 0, 1) := by decide +kernel
theorem dX9_nextToken_189 : decode cX9_nextToken 189 = .ok (.getfield 64, 3) := by decide +kernel
theorem dX9_nextToken_192 : decode cX9_nextToken 192 = .ok (.invokevirtual 67, 3) := by decide +kernel
theorem dX9_nextToken_195 : decode cX9_nextToken 195 = .ok (.invokestatic 94, 3) := by decide +kernel
theorem dX9_nextToken_198 : decode cX9_nextToken 198 = .ok (.ifCond .eq 80, 3) := by decide +kernel
theorem dX9_nextToken_201 : decode cX9_nextToken 201 = .ok (.aload_n 0, 1) := by decide +kernel
theorem dX9_nextToken_202 : decode cX9_nextToken 202 = .ok (.aload_n 0, 1) := by decide +kernel
theorem dX9_nextToken_203 : decode cX9_nextToken 203 = .ok (.getfield 80, 3) := by decide +kernel
theorem dX9_nextToken_206 : decode cX9_nextToken 206 = .ok (.ldc 97, 2) := by decide +kernel
theorem dX9_nextToken_208 : decode cX9_nextToken 208 = .ok (.if_icmp .le 10, 3) := by decide +kernel
theorem dX9_nextToken_211 : decode cX9_nextToken 211 = .ok (.aload_n 0, 1) := by decide +kernel
theorem dX9_nextToken_212 : decode cX9_nextToken 212 = .ok (.getfield 80, 3) := by decide +kernel
theorem dX9_nextToken_215 : decode cX9_nextToken 215 = .ok (.goto 22, 3) := by decide +kernel
theorem dX9_nextToken_218 : decode cX9_nextToken 218 = .ok (.bipush 10, 2) := by decide +kernel
theorem dX9_nextToken_220 : decode cX9_nextToken 220 = .ok (.aload_n 0, 1) := by decide +kernel
theorem dX9_nextToken_221 : decode cX9_nextToken 221 = .ok (.getfield 80, 3) := by decide +kernel
theorem dX9_nextToken_224 : decode cX9_nextToken 224 = .ok (.imul, 1) := by decide +kernel
theorem dX9_nextToken_225 : decode cX9_nextToken 225 = .ok (.aload_n 0, 1) := by decide +kernel
theorem dX9_nextToken_226 : decode cX9_nextToken 226 = .ok (.aload_n 0, 1) := by decide +kernel
theorem dX9_nextToken_227 : decode cX9_nextToken 227 = .ok (.getfield 64, 3) := by decide +kernel
theorem dX9_nextToken_230 : decode cX9_nextToken 230 = .ok (.invokevirtual 67, 3) := by decide +kernel
theorem dX9_nextToken_233 : decode cX9_nextToken 233 = .ok (.iadd, 1) := by decide +kernel
theorem dX9_nextToken_234 : decode cX9_nextToken 234 = .ok (.bipush 48, 2) := by decide +kernel
theorem dX9_nextToken_236 : decode cX9_nextToken 236 = .ok (.isub, 1) := by decide +kernel
theorem dX9_nextToken_237 : decode cX9_nextToken 237 = .ok (.putfield 80, 3) := by decide +kernel
theorem dX9_nextToken_240 : decode cX9_nextToken 240 = .ok (.aload_n 0, 1) := by decide +kernel
theorem dX9_nextToken_241 : decode cX9_nextToken 241 = .ok (.dup, 1) := by decide +kernel
theorem dX9_nextToken_242 : decode cX9_nextToken 242 = .ok (.getfield 64, 3) := by decide +kernel
theorem dX9_nextToken_245 : decode cX9_nextToken 245 = .ok (.iconst 1, 1) := by decide +kernel
theorem dX9_nextToken_246 : decode cX9_nextToken 246 = .ok (.iadd, 1) := by decide +kernel
theorem dX9_nextToken_247 : decode cX9_nextToken 247 = .ok (.putfield 64, 3) := by decide +kernel
theorem dX9_nextToken_250 : decode cX9_nextToken 250 = .ok (.goto (-63), 3) := by decide +kernel
theorem dX9_nextToken_253 : decode cX9_nextToken 253 = .ok (.aload_n 0, 1) := by decide +kernel
theorem dX9_nextToken_254 : decode cX9_nextToken 254 = .ok (.iload_n 1, 1) := by decide +kernel
theorem dX9_nextToken_255 : decode cX9_nextToken 255 = .ok (.bipush 59, 2) := by decide +kernel
theorem dX9_nextToken_257 : decode cX9_nextToken 257 = .ok (.if_icmp .ne 7, 3) := by decide +kernel
theorem dX9_nextToken_260 : decode cX9_nextToken 260 = .ok (.iconst 4, 1) := by decide +kernel
theorem dX9_nextToken_261 : decode cX9_nextToken 261 = .ok (.goto 4, 3) := by decide +kernel
theorem dX9_nextToken_264 : decode cX9_nextToken 264 = .ok (.iconst 1, 1) := by decide +kernel
theorem dX9_nextToken_265 : decode cX9_nextToken 265 = .ok (.putfield 83, 3) := by decide +kernel
theorem dX9_nextToken_268 : decode cX9_nextToken 268 = .ok (.aload_n 0, 1) := by decide +kernel
theorem dX9_nextToken_269 : decode cX9_nextToken 269 = .ok (.dup, 1) := by decide +kernel
theorem dX9_nextToken_270 : decode cX9_nextToken 270 = .ok (.getfield 64, 3) := by decide +kernel
theorem dX9_nextToken_273 : decode cX9_nextToken 273 = .ok (.iconst 1, 1) := by decide +kernel
theorem dX9_nextToken_274 : decode cX9_nextToken 274 = .ok (.iadd, 1) := by decide +kernel
theorem dX9_nextToken_275 : decode cX9_nextToken 275 = .ok (.putfield 64, 3) := by decide +kernel
theorem dX9_nextToken_278 : decode cX9_nextToken 278 = .ok (.return_, 1) := by decide +kernel
theorem dX9_isWord_0 : decode cX9_isWord 0 = .ok (.aload_n 0, 1) := by decide +kernel
theorem dX9_isWord_1 : decode cX9_isWord 1 = .ok (.getfield 83, 3) := by decide +kernel
theorem dX9_isWord_4 : decode cX9_isWord 4 = .ok (.iconst 2, 1) := by decide +kernel
theorem dX9_isWord_5 : decode cX9_isWord 5 = .ok (.if_icmp .ne 14, 3) := by decide +kernel
theorem dX9_isWord_8 : decode cX9_isWord 8 = .ok (.aload_n 0, 1) := by decide +kernel
theorem dX9_isWord_9 : decode cX9_isWord 9 = .ok (.getfield 73, 3) := by decide +kernel
theorem dX9_isWord_12 : decode cX9_isWord 12 = .ok (.aload_n 1, 1) := by decide +kernel
theorem dX9_isWord_13 : decode cX9_isWord 13 = .ok (.invokevirtual 98, 3) := by decide +kernel
theorem dX9_isWord_16 : decode cX9_isWord 16 = .ok (.if_icmp .eq 5, 3) := by decide +kernel
theorem dX9_isWord_19 : decode cX9_isWord 19 = .ok (.iconst 0, 1) := by decide +kernel
theorem dX9_isWord_20 : decode cX9_isWord 20 = .ok (.ireturn, 1) := by decide +kernel
theorem dX9_isWord_21 : decode cX9_isWord 21 = .ok (.lconst 0, 1) := by decide +kernel
theorem dX9_isWord_22 : decode cX9_isWord 22 = .ok (.lstore_n 2, 1) := by decide +kernel
theorem dX9_isWord_23 : decode cX9_isWord 23 = .ok (.iconst 0, 1) := by decide +kernel
theorem dX9_isWord_24 : decode cX9_isWord 24 = .ok (.istore 4, 2) := by decide +kernel
theorem dX9_isWord_26 : decode cX9_isWord 26 = .ok (.iload 4, 2) := by decide +kernel
theorem dX9_isWord_28 : decode cX9_isWord 28 = .ok (.aload_n 1, 1) := by decide +kernel
theorem dX9_isWord_29 : decode cX9_isWord 29 = .ok (.invokevirtual 98, 3) := by decide +kernel
theorem dX9_isWord_32 : decode cX9_isWord 32 = .ok (.if_icmp .ge 27, 3) := by decide +kernel
theorem dX9_isWord_35 : decode cX9_isWord 35 = .ok (.ldc2_w 90, 3) := by decide +kernel
theorem dX9_isWord_38 : decode cX9_isWord 38 = .ok (.lload_n 2, 1) := by decide +kernel
theorem dX9_isWord_39 : decode cX9_isWord 39 = .ok (.lmul, 1) := by decide +kernel
theorem dX9_isWord_40 : decode cX9_isWord 40 = .ok (.aload_n 1, 1) := by decide +kernel
theorem dX9_isWord_41 : decode cX9_isWord 41 = .ok (.iload 4, 2) := by decide +kernel
theorem dX9_isWord_43 : decode cX9_isWord 43 = .ok (.invokevirtual 104, 3) := by decide +kernel
theorem dX9_isWord_46 : decode cX9_isWord 46 = .ok (.i2l, 1) := by decide +kernel
theorem dX9_isWord_47 : decode cX9_isWord 47 = .ok (.ladd, 1) := by decide +kernel
theorem dX9_isWord_48 : decode cX9_isWord 48 = .ok (.ldc2_w 92, 3) := by decide +kernel
theorem dX9_isWord_51 : decode cX9_isWord 51 = .ok (.lsub, 1) := by decide +kernel
theorem dX9_isWord_52 : decode cX9_isWord 52 = .ok (.lstore_n 2, 1) := by decide +kernel
theorem dX9_isWord_53 : decode cX9_isWord 53 = .ok (.iinc 4 1, 3) := by decide +kernel
theorem dX9_isWord_56 : decode cX9_isWord 56 = .ok (.goto (-30), 3) := by decide +kernel
theorem dX9_isWord_59 : decode cX9_isWord 59 = .ok (.aload_n 0, 1) := by decide +kernel
theorem dX9_isWord_60 : decode cX9_isWord 60 = .ok (.getfield 76, 3) := by decide +kernel
theorem dX9_isWord_63 : decode cX9_isWord 63 = .ok (.lload_n 2, 1) := by decide +kernel
theorem dX9_isWord_64 : decode cX9_isWord 64 = .ok (.lcmp, 1) := by decide +kernel
theorem dX9_isWord_65 : decode cX9_isWord 65 = .ok (.ifCond .ne 7, 3) := by decide +kernel
theorem dX9_isWord_68 : decode cX9_isWord 68 = .ok (.iconst 1, 1) := by decide +kernel
theorem dX9_isWord_69 : decode cX9_isWord 69 = .ok (.goto 4, 3) := by decide +kernel
theorem dX9_isWord_72 : decode cX9_isWord 72 = .ok (.iconst 0, 1) := by decide +kernel
theorem dX9_isWord_73 : decode cX9_isWord 73 = .ok (.ireturn, 1) := by decide +kernel
theorem dX9_require_0 : decode cX9_require 0 = .ok (.iload_n 1, 1) := by decide +kernel
theorem dX9_require_1 : decode cX9_require 1 = .ok (.ifCond .ne 23, 3) := by decide +kernel
theorem dX9_require_4 : decode cX9_require 4 = .ok (.aload_n 0, 1) := by decide +kernel
theorem dX9_require_5 : decode cX9_require 5 = .ok (.getfield 108, 3) := by decide +kernel
theorem dX9_require_8 : decode cX9_require 8 = .ok (.ifCond .ne 16, 3) := by decide +kernel
theorem dX9_require_11 : decode cX9_require 11 = .ok (.aload_n 0, 1) := by decide +kernel
theorem dX9_require_12 : decode cX9_require 12 = .ok (.iload_n 2, 1) := by decide +kernel
theorem dX9_require_13 : decode cX9_require 13 = .ok (.putfield 108, 3) := by decide +kernel
theorem dX9_require_16 : decode cX9_require 16 = .ok (.aload_n 0, 1) := by decide +kernel
theorem dX9_require_17 : decode cX9_require 17 = .ok (.aload_n 0, 1) := by decide +kernel
theorem dX9_require_18 : decode cX9_require 18 = .ok (.getfield 70, 3) := by decide +kernel
theorem dX9_require_21 : decode cX9_require 21 = .ok (.putfield 32, 3) := by decide +kernel
theorem dX9_require_24 : decode cX9_require 24 = .ok (.return_, 1) := by decide +kernel
theorem dX9_isFine_0 : decode cX9_isFine 0 = .ok (.aload_n 0, 1) := by decide +kernel
theorem dX9_isFine_1 : decode cX9_isFine 1 = .ok (.getfield 108, 3) := by decide +kernel
theorem dX9_isFine_4 : decode cX9_isFine 4 = .ok (.ifCond .ne 7, 3) := by decide +kernel
theorem dX9_isFine_7 : decode cX9_isFine 7 = .ok (.iconst 1, 1) := by decide +kernel
theorem dX9_isFine_8 : decode cX9_isFine 8 = .ok (.goto 4, 3) := by decide +kernel
theorem dX9_isFine_11 : decode cX9_isFine 11 = .ok (.iconst 0, 1) := by decide +kernel
theorem dX9_isFine_12 : decode cX9_isFine 12 = .ok (.ireturn, 1) := by decide +kernel
theorem dX9_advance_0 : decode cX9_advance 0 = .ok (.aload_n 0, 1) := by decide +kernel
theorem dX9_advance_1 : decode cX9_advance 1 = .ok (.invokevirtual 111, 3) := by decide +kernel
theorem dX9_advance_4 : decode cX9_advance 4 = .ok (.ifCond .eq 7, 3) := by decide +kernel
theorem dX9_advance_7 : decode cX9_advance 7 = .ok (.aload_n 0, 1) := by decide +kernel
theorem dX9_advance_8 : decode cX9_advance 8 = .ok (.invokevirtual 115, 3) := by decide +kernel
theorem dX9_advance_11 : decode cX9_advance 11 = .ok (.return_, 1) := by decide +kernel
theorem dX9_parseNumber_0 : decode cX9_parseNumber 0 = .ok (.aload_n 0, 1) := by decide +kernel
theorem dX9_parseNumber_1 : decode cX9_parseNumber 1 = .ok (.aload_n 0, 1) := by decide +kernel
theorem dX9_parseNumber_2 : decode cX9_parseNumber 2 = .ok (.getfield 83, 3) := by decide +kernel
theorem dX9_parseNumber_5 : decode cX9_parseNumber 5 = .ok (.iconst 3, 1) := by decide +kernel
theorem dX9_parseNumber_6 : decode cX9_parseNumber 6 = .ok (.if_icmp .ne 7, 3) := by decide +kernel
theorem dX9_parseNumber_9 : decode cX9_parseNumber 9 = .ok (.iconst 1, 1) := by decide +kernel
theorem dX9_parseNumber_10 : decode cX9_parseNumber 10 = .ok (.goto 4, 3) := by decide +kernel
theorem dX9_parseNumber_13 : decode cX9_parseNumber 13 = .ok (.iconst 0, 1) := by decide +kernel
theorem dX9_parseNumber_14 : decode cX9_parseNumber 14 = .ok (.iconst 1, 1) := by decide +kernel
theorem dX9_parseNumber_15 : decode cX9_parseNumber 15 = .ok (.invokevirtual 118, 3) := by decide +kernel
theorem dX9_parseNumber_18 : decode cX9_parseNumber 18 = .ok (.aload_n 0, 1) := by decide +kernel
theorem dX9_parseNumber_19 : decode cX9_parseNumber 19 = .ok (.aload_n 0, 1) := by decide +kernel
theorem dX9_parseNumber_20 : decode cX9_parseNumber 20 = .ok (.getfield 80, 3) := by decide +kernel
theorem dX9_parseNumber_23 : decode cX9_parseNumber 23 = .ok (.iload_n 1, 1) := by decide +kernel
theorem dX9_parseNumber_24 : decode cX9_parseNumber 24 = .ok (.iload_n 2, 1) := by decide +kernel
theorem dX9_parseNumber_25 : decode cX9_parseNumber 25 = .ok (.invokestatic 53, 3) := by decide +kernel
theorem dX9_parseNumber_28 : decode cX9_parseNumber 28 = .ok (.iconst 2, 1) := by decide +kernel
theorem dX9_parseNumber_29 : decode cX9_parseNumber 29 = .ok (.invokevirtual 118, 3) := by decide +kernel
theorem dX9_parseNumber_32 : decode cX9_parseNumber 32 = .ok (.aload_n 0, 1) := by decide +kernel
theorem dX9_parseNumber_33 : decode cX9_parseNumber 33 = .ok (.getfield 80, 3) := by decide +kernel
theorem dX9_parseNumber_36 : decode cX9_parseNumber 36 = .ok (.istore_n 3, 1) := by decide +kernel
theorem dX9_parseNumber_37 : decode cX9_parseNumber 37 = .ok (.aload_n 0, 1) := by decide +kernel
theorem dX9_parseNumber_38 : decode cX9_parseNumber 38 = .ok (.invokevirtual 122, 3) := by decide +kernel
theorem dX9_parseNumber_41 : decode cX9_parseNumber 41 = .ok (.iload_n 3, 1) := by decide +kernel
theorem dX9_parseNumber_42 : decode cX9_parseNumber 42 = .ok (.ireturn, 1) := by decide +kernel
theorem dX9_parseCommand_0 : decode cX9_parseCommand 0 = .ok (.aload_n 0, 1) := by decide +kernel
theorem dX9_parseCommand_1 : decode cX9_parseCommand 1 = .ok (.ldc 125, 2) := by decide +kernel
theorem dX9_parseCommand_3 : decode cX9_parseCommand 3 = .ok (.invokevirtual 127, 3) := by decide +kernel
theorem dX9_parseCommand_6 : decode cX9_parseCommand 6 = .ok (.ifCond .eq 7, 3) := by decide +kernel
theorem dX9_parseCommand_9 : decode cX9_parseCommand 9 = .ok (.iconst 0, 1) := by decide +kernel
theorem dX9_parseCommand_10 : decode cX9_parseCommand 10 = .ok (.goto 30, 3) := by decide +kernel
theorem dX9_parseCommand_13 : decode cX9_parseCommand 13 = .ok (.aload_n 0, 1) := by decide +kernel
theorem dX9_parseCommand_14 : decode cX9_parseCommand 14 = .ok (.ldc 131, 2) := by decide +kernel
theorem dX9_parseCommand_16 : decode cX9_parseCommand 16 = .ok (.invokevirtual 127, 3) := by decide +kernel
theorem dX9_parseCommand_19 : decode cX9_parseCommand 19 = .ok (.ifCond .eq 7, 3) := by decide +kernel
theorem dX9_parseCommand_22 : decode cX9_parseCommand 22 = .ok (.iconst 1, 1) := by decide +kernel
theorem dX9_parseCommand_23 : decode cX9_parseCommand 23 = .ok (.goto 17, 3) := by decide +kernel
theorem dX9_parseCommand_26 : decode cX9_parseCommand 26 = .ok (.aload_n 0, 1) := by decide +kernel
theorem dX9_parseCommand_27 : decode cX9_parseCommand 27 = .ok (.ldc 133, 2) := by decide +kernel
theorem dX9_parseCommand_29 : decode cX9_parseCommand 29 = .ok (.invokevirtual 127, 3) := by decide +kernel
theorem dX9_parseCommand_32 : decode cX9_parseCommand 32 = .ok (.ifCond .eq 7, 3) := by decide +kernel
theorem dX9_parseCommand_35 : decode cX9_parseCommand 35 = .ok (.iconst 2, 1) := by decide +kernel
theorem dX9_parseCommand_36 : decode cX9_parseCommand 36 = .ok (.goto 4, 3) := by decide +kernel
theorem dX9_parseCommand_39 : decode cX9_parseCommand 39 = .ok (.iconst (-1), 1) := by decide +kernel
theorem dX9_parseCommand_40 : decode cX9_parseCommand 40 = .ok (.istore_n 1, 1) := by decide +kernel
theorem dX9_parseCommand_41 : decode cX9_parseCommand 41 = .ok (.aload_n 0, 1) := by decide +kernel
theorem dX9_parseCommand_42 : decode cX9_parseCommand 42 = .ok (.iload_n 1, 1) := by decide +kernel
theorem dX9_parseCommand_43 : decode cX9_parseCommand 43 = .ok (.iconst (-1), 1) := by decide +kernel
theorem dX9_parseCommand_44 : decode cX9_parseCommand 44 = .ok (.if_icmp .eq 7, 3) := by decide +kernel
theorem dX9_parseCommand_47 : decode cX9_parseCommand 47 = .ok (.iconst 1, 1) := by decide +kernel
theorem dX9_parseCommand_48 : decode cX9_parseCommand 48 = .ok (.goto 4, 3) := by decide +kernel
theorem dX9_parseCommand_51 : decode cX9_parseCommand 51 = .ok (.iconst 0, 1) := by decide +kernel
theorem dX9_parseCommand_52 : decode cX9_parseCommand 52 = .ok (.iconst 1, 1) := by decide +kernel
theorem dX9_parseCommand_53 : decode cX9_parseCommand 53 = .ok (.invokevirtual 118, 3) := by decide +kernel
theorem dX9_parseCommand_56 : decode cX9_parseCommand 56 = .ok (.aload_n 0, 1) := by decide +kernel
theorem dX9_parseCommand_57 : decode cX9_parseCommand 57 = .ok (.aload_n 0, 1) := by decide +kernel
theorem dX9_parseCommand_58 : decode cX9_parseCommand 58 = .ok (.getfield 135, 3) := by decide +kernel
theorem dX9_parseCommand_61 : decode cX9_parseCommand 61 = .ok (.bipush 40, 2) := by decide +kernel
theorem dX9_parseCommand_63 : decode cX9_parseCommand 63 = .ok (.if_icmp .ge 7, 3) := by decide +kernel
theorem dX9_parseCommand_66 : decode cX9_parseCommand 66 = .ok (.iconst 1, 1) := by decide +kernel
theorem dX9_parseCommand_67 : decode cX9_parseCommand 67 = .ok (.goto 4, 3) := by decide +kernel
theorem dX9_parseCommand_70 : decode cX9_parseCommand 70 = .ok (.iconst 0, 1) := by decide +kernel
theorem dX9_parseCommand_71 : decode cX9_parseCommand 71 = .ok (.iconst 3, 1) := by decide +kernel
theorem dX9_parseCommand_72 : decode cX9_parseCommand 72 = .ok (.invokevirtual 118, 3) := by decide +kernel
theorem dX9_parseCommand_75 : decode cX9_parseCommand 75 = .ok (.aload_n 0, 1) := by decide +kernel
theorem dX9_parseCommand_76 : decode cX9_parseCommand 76 = .ok (.invokevirtual 122, 3) := by decide +kernel
theorem dX9_parseCommand_79 : decode cX9_parseCommand 79 = .ok (.iload_n 1, 1) := by decide +kernel
theorem dX9_parseCommand_80 : decode cX9_parseCommand 80 = .ok (.iconst 2, 1) := by decide +kernel
theorem dX9_parseCommand_81 : decode cX9_parseCommand 81 = .ok (.if_icmp .ne 13, 3) := by decide +kernel
theorem dX9_parseCommand_84 : decode cX9_parseCommand 84 = .ok (.aload_n 0, 1) := by decide +kernel
theorem dX9_parseCommand_85 : decode cX9_parseCommand 85 = .ok (.iconst 1, 1) := by decide +kernel
theorem dX9_parseCommand_86 : decode cX9_parseCommand 86 = .ok (.bipush 40, 2) := by decide +kernel
theorem dX9_parseCommand_88 : decode cX9_parseCommand 88 = .ok (.invokevirtual 138, 3) := by decide +kernel
theorem dX9_parseCommand_91 : decode cX9_parseCommand 91 = .ok (.goto 9, 3) := by decide +kernel
theorem dX9_parseCommand_94 : decode cX9_parseCommand 94 = .ok (.aload_n 0, 1) := by decide +kernel
theorem dX9_parseCommand_95 : decode cX9_parseCommand 95 = .ok (.iconst 0, 1) := by decide +kernel
theorem dX9_parseCommand_96 : decode cX9_parseCommand 96 = .ok (.iconst 3, 1) := by decide +kernel
theorem dX9_parseCommand_97 : decode cX9_parseCommand 97 = .ok (.invokevirtual 138, 3) := by decide +kernel
theorem dX9_parseCommand_100 : decode cX9_parseCommand 100 = .ok (.istore_n 2, 1) := by decide +kernel
theorem dX9_parseCommand_101 : decode cX9_parseCommand 101 = .ok (.iconst 0, 1) := by decide +kernel
theorem dX9_parseCommand_102 : decode cX9_parseCommand 102 = .ok (.istore_n 3, 1) := by decide +kernel
theorem dX9_parseCommand_103 : decode cX9_parseCommand 103 = .ok (.iconst 0, 1) := by decide +kernel
theorem dX9_parseCommand_104 : decode cX9_parseCommand 104 = .ok (.istore 4, 2) := by decide +kernel
theorem dX9_parseCommand_106 : decode cX9_parseCommand 106 = .ok (.aload_n 0, 1) := by decide +kernel
theorem dX9_parseCommand_107 : decode cX9_parseCommand 107 = .ok (.invokevirtual 111, 3) := by decide +kernel
theorem dX9_parseCommand_110 : decode cX9_parseCommand 110 = .ok (.ifCond .eq 40, 3) := by decide +kernel
theorem dX9_parseCommand_113 : decode cX9_parseCommand 113 = .ok (.iload_n 1, 1) := by decide +kernel
theorem dX9_parseCommand_114 : decode cX9_parseCommand 114 = .ok (.iconst 2, 1) := by decide +kernel
theorem dX9_parseCommand_115 : decode cX9_parseCommand 115 = .ok (.if_icmp .eq 35, 3) := by decide +kernel
theorem dX9_parseCommand_118 : decode cX9_parseCommand 118 = .ok (.aload_n 0, 1) := by decide +kernel
theorem dX9_parseCommand_119 : decode cX9_parseCommand 119 = .ok (.iconst 0, 1) := by decide +kernel
theorem dX9_parseCommand_120 : decode cX9_parseCommand 120 = .ok (.sipush 199, 3) := by decide +kernel
theorem dX9_parseCommand_123 : decode cX9_parseCommand 123 = .ok (.invokevirtual 138, 3) := by decide +kernel
theorem dX9_parseCommand_126 : decode cX9_parseCommand 126 = .ok (.istore_n 3, 1) := by decide +kernel
theorem dX9_parseCommand_127 : decode cX9_parseCommand 127 = .ok (.iload_n 1, 1) := by decide +kernel
theorem dX9_parseCommand_128 : decode cX9_parseCommand 128 = .ok (.iconst 1, 1) := by decide +kernel
theorem dX9_parseCommand_129 : decode cX9_parseCommand 129 = .ok (.if_icmp .ne 14, 3) := by decide +kernel
theorem dX9_parseCommand_132 : decode cX9_parseCommand 132 = .ok (.aload_n 0, 1) := by decide +kernel
theorem dX9_parseCommand_133 : decode cX9_parseCommand 133 = .ok (.iconst 0, 1) := by decide +kernel
theorem dX9_parseCommand_134 : decode cX9_parseCommand 134 = .ok (.sipush 999, 3) := by decide +kernel
theorem dX9_parseCommand_137 : decode cX9_parseCommand 137 = .ok (.invokevirtual 138, 3) := by decide +kernel
theorem dX9_parseCommand_140 : decode cX9_parseCommand 140 = .ok (.goto 8, 3) := by decide +kernel
theorem dX9_parseCommand_143 : decode cX9_parseCommand 143 = .ok (.aload_n 0, 1) := by decide +kernel
theorem dX9_parseCommand_144 : decode cX9_parseCommand 144 = .ok (.iload_n 3, 1) := by decide +kernel
theorem dX9_parseCommand_145 : decode cX9_parseCommand 145 = .ok (.invokevirtual 142, 3) := by decide +kernel
theorem dX9_parseCommand_148 : decode cX9_parseCommand 148 = .ok (.istore 4, 2) := by decide +kernel
theorem dX9_parseCommand_150 : decode cX9_parseCommand 150 = .ok (.aload_n 0, 1) := by decide +kernel
theorem dX9_parseCommand_151 : decode cX9_parseCommand 151 = .ok (.aload_n 0, 1) := by decide +kernel
theorem dX9_parseCommand_152 : decode cX9_parseCommand 152 = .ok (.getfield 83, 3) := by decide +kernel
theorem dX9_parseCommand_155 : decode cX9_parseCommand 155 = .ok (.iconst 4, 1) := by decide +kernel
theorem dX9_parseCommand_156 : decode cX9_parseCommand 156 = .ok (.if_icmp .ne 7, 3) := by decide +kernel
theorem dX9_parseCommand_159 : decode cX9_parseCommand 159 = .ok (.iconst 1, 1) := by decide +kernel
theorem dX9_parseCommand_160 : decode cX9_parseCommand 160 = .ok (.goto 4, 3) := by decide +kernel
theorem dX9_parseCommand_163 : decode cX9_parseCommand 163 = .ok (.iconst 0, 1) := by decide +kernel
theorem dX9_parseCommand_164 : decode cX9_parseCommand 164 = .ok (.iconst 1, 1) := by decide +kernel
theorem dX9_parseCommand_165 : decode cX9_parseCommand 165 = .ok (.invokevirtual 118, 3) := by decide +kernel
theorem dX9_parseCommand_168 : decode cX9_parseCommand 168 = .ok (.aload_n 0, 1) := by decide +kernel
theorem dX9_parseCommand_169 : decode cX9_parseCommand 169 = .ok (.invokevirtual 122, 3) := by decide +kernel
theorem dX9_parseCommand_172 : decode cX9_parseCommand 172 = .ok (.aload_n 0, 1) := by decide +kernel
theorem dX9_parseCommand_173 : decode cX9_parseCommand 173 = .ok (.invokevirtual 111, 3) := by decide +kernel
theorem dX9_parseCommand_176 : decode cX9_parseCommand 176 = .ok (.ifCond .eq 60, 3) := by decide +kernel
theorem dX9_parseCommand_179 : decode cX9_parseCommand 179 = .ok (.iconst 4, 1) := by decide +kernel
theorem dX9_parseCommand_180 : decode cX9_parseCommand 180 = .ok (.aload_n 0, 1) := by decide +kernel
theorem dX9_parseCommand_181 : decode cX9_parseCommand 181 = .ok (.getfield 135, 3) := by decide +kernel
theorem dX9_parseCommand_184 : decode cX9_parseCommand 184 = .ok (.imul, 1) := by decide +kernel
theorem dX9_parseCommand_185 : decode cX9_parseCommand 185 = .ok (.istore 5, 2) := by decide +kernel
theorem dX9_parseCommand_187 : decode cX9_parseCommand 187 = .ok (.aload_n 0, 1) := by decide +kernel
theorem dX9_parseCommand_188 : decode cX9_parseCommand 188 = .ok (.getfield 29, 3) := by decide +kernel
theorem dX9_parseCommand_191 : decode cX9_parseCommand 191 = .ok (.iload 5, 2) := by decide +kernel
theorem dX9_parseCommand_193 : decode cX9_parseCommand 193 = .ok (.iload_n 1, 1) := by decide +kernel
theorem dX9_parseCommand_194 : decode cX9_parseCommand 194 = .ok (.iastore, 1) := by decide +kernel
theorem dX9_parseCommand_195 : decode cX9_parseCommand 195 = .ok (.aload_n 0, 1) := by decide +kernel
theorem dX9_parseCommand_196 : decode cX9_parseCommand 196 = .ok (.getfield 29, 3) := by decide +kernel
theorem dX9_parseCommand_199 : decode cX9_parseCommand 199 = .ok (.iload 5, 2) := by decide +kernel
theorem dX9_parseCommand_201 : decode cX9_parseCommand 201 = .ok (.iconst 1, 1) := by decide +kernel
theorem dX9_parseCommand_202 : decode cX9_parseCommand 202 = .ok (.iadd, 1) := by decide +kernel
theorem dX9_parseCommand_203 : decode cX9_parseCommand 203 = .ok (.iload_n 2, 1) := by decide +kernel
theorem dX9_parseCommand_204 : decode cX9_parseCommand 204 = .ok (.iastore, 1) := by decide +kernel
theorem dX9_parseCommand_205 : decode cX9_parseCommand 205 = .ok (.aload_n 0, 1) := by decide +kernel
theorem dX9_parseCommand_206 : decode cX9_parseCommand 206 = .ok (.getfield 29, 3) := by decide +kernel
theorem dX9_parseCommand_209 : decode cX9_parseCommand 209 = .ok (.iload 5, 2) := by decide +kernel
theorem dX9_parseCommand_211 : decode cX9_parseCommand 211 = .ok (.iconst 2, 1) := by decide +kernel
theorem dX9_parseCommand_212 : decode cX9_parseCommand 212 = .ok (.iadd, 1) := by decide +kernel
theorem dX9_parseCommand_213 : decode cX9_parseCommand 213 = .ok (.iload_n 3, 1) := by decide +kernel
theorem dX9_parseCommand_214 : decode cX9_parseCommand 214 = .ok (.iastore, 1) := by decide +kernel
theorem dX9_parseCommand_215 : decode cX9_parseCommand 215 = .ok (.aload_n 0, 1) := by decide +kernel
theorem dX9_parseCommand_216 : decode cX9_parseCommand 216 = .ok (.getfield 29, 3) := by decide +kernel
theorem dX9_parseCommand_219 : decode cX9_parseCommand 219 = .ok (.iload 5, 2) := by decide +kernel
theorem dX9_parseCommand_221 : decode cX9_parseCommand 221 = .ok (.iconst 3, 1) := by decide +kernel
theorem dX9_parseCommand_222 : decode cX9_parseCommand 222 = .ok (.iadd, 1) := by decide +kernel
theorem dX9_parseCommand_223 : decode cX9_parseCommand 223 = .ok (.iload 4, 2) := by decide +kernel
theorem dX9_parseCommand_225 : decode cX9_parseCommand 225 = .ok (.iastore, 1) := by decide +kernel
theorem dX9_parseCommand_226 : decode cX9_parseCommand 226 = .ok (.aload_n 0, 1) := by decide +kernel
theorem dX9_parseCommand_227 : decode cX9_parseCommand 227 = .ok (.dup, 1) := by decide +kernel
theorem dX9_parseCommand_228 : decode cX9_parseCommand 228 = .ok (.getfield 135, 3) := by decide +kernel
theorem dX9_parseCommand_231 : decode cX9_parseCommand 231 = .ok (.iconst 1, 1) := by decide +kernel
theorem dX9_parseCommand_232 : decode cX9_parseCommand 232 = .ok (.iadd, 1) := by decide +kernel
theorem dX9_parseCommand_233 : decode cX9_parseCommand 233 = .ok (.putfield 135, 3) := by decide +kernel
theorem dX9_parseCommand_236 : decode cX9_parseCommand 236 = .ok (.return_, 1) := by decide +kernel
theorem dX9_parseEnd_0 : decode cX9_parseEnd 0 = .ok (.aload_n 0, 1) := by decide +kernel
theorem dX9_parseEnd_1 : decode cX9_parseEnd 1 = .ok (.invokevirtual 111, 3) := by decide +kernel
theorem dX9_parseEnd_4 : decode cX9_parseEnd 4 = .ok (.ifCond .eq 12, 3) := by decide +kernel
theorem dX9_parseEnd_7 : decode cX9_parseEnd 7 = .ok (.aload_n 0, 1) := by decide +kernel
theorem dX9_parseEnd_8 : decode cX9_parseEnd 8 = .ok (.ldc 145, 2) := by decide +kernel
theorem dX9_parseEnd_10 : decode cX9_parseEnd 10 = .ok (.invokevirtual 127, 3) := by decide +kernel
theorem dX9_parseEnd_13 : decode cX9_parseEnd 13 = .ok (.ifCond .ne 5, 3) := by decide +kernel
theorem dX9_parseEnd_16 : decode cX9_parseEnd 16 = .ok (.iload_n 1, 1) := by decide +kernel
theorem dX9_parseEnd_17 : decode cX9_parseEnd 17 = .ok (.ireturn, 1) := by decide +kernel
theorem dX9_parseEnd_18 : decode cX9_parseEnd 18 = .ok (.aload_n 0, 1) := by decide +kernel
theorem dX9_parseEnd_19 : decode cX9_parseEnd 19 = .ok (.invokevirtual 122, 3) := by decide +kernel
theorem dX9_parseEnd_22 : decode cX9_parseEnd 22 = .ok (.aload_n 0, 1) := by decide +kernel
theorem dX9_parseEnd_23 : decode cX9_parseEnd 23 = .ok (.iload_n 1, 1) := by decide +kernel
theorem dX9_parseEnd_24 : decode cX9_parseEnd 24 = .ok (.sipush 199, 3) := by decide +kernel
theorem dX9_parseEnd_27 : decode cX9_parseEnd 27 = .ok (.invokevirtual 138, 3) := by decide +kernel
theorem dX9_parseEnd_30 : decode cX9_parseEnd 30 = .ok (.ireturn, 1) := by decide +kernel
theorem dX9_runTrace_0 : decode cX9_runTrace 0 = .ok (.aload_n 0, 1) := by decide +kernel
theorem dX9_runTrace_1 : decode cX9_runTrace 1 = .ok (.iconst 0, 1) := by decide +kernel
theorem dX9_runTrace_2 : decode cX9_runTrace 2 = .ok (.putfield 43, 3) := by decide +kernel
theorem dX9_runTrace_5 : decode cX9_runTrace 5 = .ok (.aload_n 0, 1) := by decide +kernel
theorem dX9_runTrace_6 : decode cX9_runTrace 6 = .ok (.iconst 0, 1) := by decide +kernel
theorem dX9_runTrace_7 : decode cX9_runTrace 7 = .ok (.putfield 108, 3) := by decide +kernel
theorem dX9_runTrace_10 : decode cX9_runTrace 10 = .ok (.aload_n 0, 1) := by decide +kernel
theorem dX9_runTrace_11 : decode cX9_runTrace 11 = .ok (.iconst (-1), 1) := by decide +kernel
theorem dX9_runTrace_12 : decode cX9_runTrace 12 = .ok (.putfield 32, 3) := by decide +kernel
theorem dX9_runTrace_15 : decode cX9_runTrace 15 = .ok (.aload_n 0, 1) := by decide +kernel
theorem dX9_runTrace_16 : decode cX9_runTrace 16 = .ok (.iconst 0, 1) := by decide +kernel
theorem dX9_runTrace_17 : decode cX9_runTrace 17 = .ok (.putfield 64, 3) := by decide +kernel
theorem dX9_runTrace_20 : decode cX9_runTrace 20 = .ok (.aload_n 0, 1) := by decide +kernel
theorem dX9_runTrace_21 : decode cX9_runTrace 21 = .ok (.iconst 0, 1) := by decide +kernel
theorem dX9_runTrace_22 : decode cX9_runTrace 22 = .ok (.putfield 135, 3) := by decide +kernel
theorem dX9_runTrace_25 : decode cX9_runTrace 25 = .ok (.aload_n 0, 1) := by decide +kernel
theorem dX9_runTrace_26 : decode cX9_runTrace 26 = .ok (.invokevirtual 115, 3) := by decide +kernel
theorem dX9_runTrace_29 : decode cX9_runTrace 29 = .ok (.aload_n 0, 1) := by decide +kernel
theorem dX9_runTrace_30 : decode cX9_runTrace 30 = .ok (.invokevirtual 111, 3) := by decide +kernel
theorem dX9_runTrace_33 : decode cX9_runTrace 33 = .ok (.ifCond .eq 17, 3) := by decide +kernel
theorem dX9_runTrace_36 : decode cX9_runTrace 36 = .ok (.aload_n 0, 1) := by decide +kernel
theorem dX9_runTrace_37 : decode cX9_runTrace 37 = .ok (.getfield 83, 3) := by decide +kernel
theorem dX9_runTrace_40 : decode cX9_runTrace 40 = .ok (.ifCond .eq 10, 3) := by decide +kernel
theorem dX9_runTrace_43 : decode cX9_runTrace 43 = .ok (.aload_n 0, 1) := by decide +kernel
theorem dX9_runTrace_44 : decode cX9_runTrace 44 = .ok (.invokevirtual 147, 3) := by decide +kernel
theorem dX9_runTrace_47 : decode cX9_runTrace 47 = .ok (.goto (-18), 3) := by decide +kernel
theorem dX9_runTrace_50 : decode cX9_runTrace 50 = .ok (.aload_n 0, 1) := by decide +kernel
theorem dX9_runTrace_51 : decode cX9_runTrace 51 = .ok (.iconst 0, 1) := by decide +kernel
theorem dX9_runTrace_52 : decode cX9_runTrace 52 = .ok (.putfield 57, 3) := by decide +kernel
theorem dX9_runTrace_55 : decode cX9_runTrace 55 = .ok (.aload_n 0, 1) := by decide +kernel
theorem dX9_runTrace_56 : decode cX9_runTrace 56 = .ok (.invokevirtual 111, 3) := by decide +kernel
theorem dX9_runTrace_59 : decode cX9_runTrace 59 = .ok (.ifCond .ne 5, 3) := by decide +kernel
theorem dX9_runTrace_62 : decode cX9_runTrace 62 = .ok (.iconst (-1), 1) := by decide +kernel
theorem dX9_runTrace_63 : decode cX9_runTrace 63 = .ok (.ireturn, 1) := by decide +kernel
theorem dX9_runTrace_64 : decode cX9_runTrace 64 = .ok (.aload_n 0, 1) := by decide +kernel
theorem dX9_runTrace_65 : decode cX9_runTrace 65 = .ok (.invokevirtual 150, 3) := by decide +kernel
theorem dX9_runTrace_68 : decode cX9_runTrace 68 = .ok (.iconst 0, 1) := by decide +kernel
theorem dX9_runTrace_69 : decode cX9_runTrace 69 = .ok (.istore_n 1, 1) := by decide +kernel
theorem dX9_runTrace_70 : decode cX9_runTrace 70 = .ok (.iconst 0, 1) := by decide +kernel
theorem dX9_runTrace_71 : decode cX9_runTrace 71 = .ok (.istore_n 2, 1) := by decide +kernel
theorem dX9_runTrace_72 : decode cX9_runTrace 72 = .ok (.iload_n 2, 1) := by decide +kernel
theorem dX9_runTrace_73 : decode cX9_runTrace 73 = .ok (.aload_n 0, 1) := by decide +kernel
theorem dX9_runTrace_74 : decode cX9_runTrace 74 = .ok (.getfield 135, 3) := by decide +kernel
theorem dX9_runTrace_77 : decode cX9_runTrace 77 = .ok (.if_icmp .ge 48, 3) := by decide +kernel
theorem dX9_runTrace_80 : decode cX9_runTrace 80 = .ok (.iconst 4, 1) := by decide +kernel
theorem dX9_runTrace_81 : decode cX9_runTrace 81 = .ok (.iload_n 2, 1) := by decide +kernel
theorem dX9_runTrace_82 : decode cX9_runTrace 82 = .ok (.imul, 1) := by decide +kernel
theorem dX9_runTrace_83 : decode cX9_runTrace 83 = .ok (.istore_n 3, 1) := by decide +kernel
theorem dX9_runTrace_84 : decode cX9_runTrace 84 = .ok (.aload_n 0, 1) := by decide +kernel
theorem dX9_runTrace_85 : decode cX9_runTrace 85 = .ok (.getfield 29, 3) := by decide +kernel
theorem dX9_runTrace_88 : decode cX9_runTrace 88 = .ok (.iload_n 3, 1) := by decide +kernel
theorem dX9_runTrace_89 : decode cX9_runTrace 89 = .ok (.iaload, 1) := by decide +kernel
theorem dX9_runTrace_90 : decode cX9_runTrace 90 = .ok (.iconst 2, 1) := by decide +kernel
theorem dX9_runTrace_91 : decode cX9_runTrace 91 = .ok (.if_icmp .eq 20, 3) := by decide +kernel
theorem dX9_runTrace_94 : decode cX9_runTrace 94 = .ok (.aload_n 0, 1) := by decide +kernel
theorem dX9_runTrace_95 : decode cX9_runTrace 95 = .ok (.aload_n 0, 1) := by decide +kernel
theorem dX9_runTrace_96 : decode cX9_runTrace 96 = .ok (.getfield 29, 3) := by decide +kernel
theorem dX9_runTrace_99 : decode cX9_runTrace 99 = .ok (.iload_n 3, 1) := by decide +kernel
theorem dX9_runTrace_100 : decode cX9_runTrace 100 = .ok (.iconst 1, 1) := by decide +kernel
theorem dX9_runTrace_101 : decode cX9_runTrace 101 = .ok (.iadd, 1) := by decide +kernel
theorem dX9_runTrace_102 : decode cX9_runTrace 102 = .ok (.iaload, 1) := by decide +kernel
theorem dX9_runTrace_103 : decode cX9_runTrace 103 = .ok (.invokevirtual 153, 3) := by decide +kernel
theorem dX9_runTrace_106 : decode cX9_runTrace 106 = .ok (.ifCond .ne 5, 3) := by decide +kernel
theorem dX9_runTrace_109 : decode cX9_runTrace 109 = .ok (.iload_n 1, 1) := by decide +kernel
theorem dX9_runTrace_110 : decode cX9_runTrace 110 = .ok (.ireturn, 1) := by decide +kernel
theorem dX9_runTrace_111 : decode cX9_runTrace 111 = .ok (.iload_n 1, 1) := by decide +kernel
theorem dX9_runTrace_112 : decode cX9_runTrace 112 = .ok (.aload_n 0, 1) := by decide +kernel
theorem dX9_runTrace_113 : decode cX9_runTrace 113 = .ok (.iload_n 3, 1) := by decide +kernel
theorem dX9_runTrace_114 : decode cX9_runTrace 114 = .ok (.invokevirtual 156, 3) := by decide +kernel
theorem dX9_runTrace_117 : decode cX9_runTrace 117 = .ok (.iadd, 1) := by decide +kernel
theorem dX9_runTrace_118 : decode cX9_runTrace 118 = .ok (.istore_n 1, 1) := by decide +kernel
theorem dX9_runTrace_119 : decode cX9_runTrace 119 = .ok (.iinc 2 1, 3) := by decide +kernel
theorem dX9_runTrace_122 : decode cX9_runTrace 122 = .ok (.goto (-50), 3) := by decide +kernel
theorem dX9_runTrace_125 : decode cX9_runTrace 125 = .ok (.iload_n 1, 1) := by decide +kernel
theorem dX9_runTrace_126 : decode cX9_runTrace 126 = .ok (.ireturn, 1) := by decide +kernel
theorem dX9_runCommand_0 : decode cX9_runCommand 0 = .ok (.aload_n 0, 1) := by decide +kernel
theorem dX9_runCommand_1 : decode cX9_runCommand 1 = .ok (.getfield 29, 3) := by decide +kernel
theorem dX9_runCommand_4 : decode cX9_runCommand 4 = .ok (.iload_n 1, 1) := by decide +kernel
theorem dX9_runCommand_5 : decode cX9_runCommand 5 = .ok (.iaload, 1) := by decide +kernel
theorem dX9_runCommand_6 : decode cX9_runCommand 6 = .ok (.iconst 2, 1) := by decide +kernel
theorem dX9_runCommand_7 : decode cX9_runCommand 7 = .ok (.if_icmp .ne 18, 3) := by decide +kernel
theorem dX9_runCommand_10 : decode cX9_runCommand 10 = .ok (.aload_n 0, 1) := by decide +kernel
theorem dX9_runCommand_11 : decode cX9_runCommand 11 = .ok (.aload_n 0, 1) := by decide +kernel
theorem dX9_runCommand_12 : decode cX9_runCommand 12 = .ok (.getfield 29, 3) := by decide +kernel
theorem dX9_runCommand_15 : decode cX9_runCommand 15 = .ok (.iload_n 1, 1) := by decide +kernel
theorem dX9_runCommand_16 : decode cX9_runCommand 16 = .ok (.iconst 1, 1) := by decide +kernel
theorem dX9_runCommand_17 : decode cX9_runCommand 17 = .ok (.iadd, 1) := by decide +kernel
theorem dX9_runCommand_18 : decode cX9_runCommand 18 = .ok (.iaload, 1) := by decide +kernel
theorem dX9_runCommand_19 : decode cX9_runCommand 19 = .ok (.invokevirtual 159, 3) := by decide +kernel
theorem dX9_runCommand_22 : decode cX9_runCommand 22 = .ok (.istore_n 2, 1) := by decide +kernel
theorem dX9_runCommand_23 : decode cX9_runCommand 23 = .ok (.iconst 0, 1) := by decide +kernel
theorem dX9_runCommand_24 : decode cX9_runCommand 24 = .ok (.ireturn, 1) := by decide +kernel
theorem dX9_runCommand_25 : decode cX9_runCommand 25 = .ok (.aload_n 0, 1) := by decide +kernel
theorem dX9_runCommand_26 : decode cX9_runCommand 26 = .ok (.getfield 29, 3) := by decide +kernel
theorem dX9_runCommand_29 : decode cX9_runCommand 29 = .ok (.iload_n 1, 1) := by decide +kernel
theorem dX9_runCommand_30 : decode cX9_runCommand 30 = .ok (.iaload, 1) := by decide +kernel
theorem dX9_runCommand_31 : decode cX9_runCommand 31 = .ok (.iconst 1, 1) := by decide +kernel
theorem dX9_runCommand_32 : decode cX9_runCommand 32 = .ok (.if_icmp .ne 33, 3) := by decide +kernel
theorem dX9_runCommand_35 : decode cX9_runCommand 35 = .ok (.aload_n 0, 1) := by decide +kernel
theorem dX9_runCommand_36 : decode cX9_runCommand 36 = .ok (.aload_n 0, 1) := by decide +kernel
theorem dX9_runCommand_37 : decode cX9_runCommand 37 = .ok (.getfield 29, 3) := by decide +kernel
theorem dX9_runCommand_40 : decode cX9_runCommand 40 = .ok (.iload_n 1, 1) := by decide +kernel
theorem dX9_runCommand_41 : decode cX9_runCommand 41 = .ok (.iconst 1, 1) := by decide +kernel
theorem dX9_runCommand_42 : decode cX9_runCommand 42 = .ok (.iadd, 1) := by decide +kernel
theorem dX9_runCommand_43 : decode cX9_runCommand 43 = .ok (.iaload, 1) := by decide +kernel
theorem dX9_runCommand_44 : decode cX9_runCommand 44 = .ok (.aload_n 0, 1) := by decide +kernel
theorem dX9_runCommand_45 : decode cX9_runCommand 45 = .ok (.getfield 29, 3) := by decide +kernel
theorem dX9_runCommand_48 : decode cX9_runCommand 48 = .ok (.iload_n 1, 1) := by decide +kernel
theorem dX9_runCommand_49 : decode cX9_runCommand 49 = .ok (.iconst 2, 1) := by decide +kernel
theorem dX9_runCommand_50 : decode cX9_runCommand 50 = .ok (.iadd, 1) := by decide +kernel
theorem dX9_runCommand_51 : decode cX9_runCommand 51 = .ok (.iaload, 1) := by decide +kernel
theorem dX9_runCommand_52 : decode cX9_runCommand 52 = .ok (.aload_n 0, 1) := by decide +kernel
theorem dX9_runCommand_53 : decode cX9_runCommand 53 = .ok (.getfield 29, 3) := by decide +kernel
theorem dX9_runCommand_56 : decode cX9_runCommand 56 = .ok (.iload_n 1, 1) := by decide +kernel
theorem dX9_runCommand_57 : decode cX9_runCommand 57 = .ok (.iconst 3, 1) := by decide +kernel
theorem dX9_runCommand_58 : decode cX9_runCommand 58 = .ok (.iadd, 1) := by decide +kernel
theorem dX9_runCommand_59 : decode cX9_runCommand 59 = .ok (.iaload, 1) := by decide +kernel
theorem dX9_runCommand_60 : decode cX9_runCommand 60 = .ok (.invokevirtual 162, 3) := by decide +kernel
theorem dX9_runCommand_63 : decode cX9_runCommand 63 = .ok (.iconst 1, 1) := by decide +kernel
theorem dX9_runCommand_64 : decode cX9_runCommand 64 = .ok (.ireturn, 1) := by decide +kernel
theorem dX9_runCommand_65 : decode cX9_runCommand 65 = .ok (.aload_n 0, 1) := by decide +kernel
theorem dX9_runCommand_66 : decode cX9_runCommand 66 = .ok (.getfield 29, 3) := by decide +kernel
theorem dX9_runCommand_69 : decode cX9_runCommand 69 = .ok (.iload_n 1, 1) := by decide +kernel
theorem dX9_runCommand_70 : decode cX9_runCommand 70 = .ok (.iconst 2, 1) := by decide +kernel
theorem dX9_runCommand_71 : decode cX9_runCommand 71 = .ok (.iadd, 1) := by decide +kernel
theorem dX9_runCommand_72 : decode cX9_runCommand 72 = .ok (.iaload, 1) := by decide +kernel
theorem dX9_runCommand_73 : decode cX9_runCommand 73 = .ok (.istore_n 2, 1) := by decide +kernel
theorem dX9_runCommand_74 : decode cX9_runCommand 74 = .ok (.iload_n 2, 1) := by decide +kernel
theorem dX9_runCommand_75 : decode cX9_runCommand 75 = .ok (.aload_n 0, 1) := by decide +kernel
theorem dX9_runCommand_76 : decode cX9_runCommand 76 = .ok (.getfield 29, 3) := by decide +kernel
theorem dX9_runCommand_79 : decode cX9_runCommand 79 = .ok (.iload_n 1, 1) := by decide +kernel
theorem dX9_runCommand_80 : decode cX9_runCommand 80 = .ok (.iconst 3, 1) := by decide +kernel
theorem dX9_runCommand_81 : decode cX9_runCommand 81 = .ok (.iadd, 1) := by decide +kernel
theorem dX9_runCommand_82 : decode cX9_runCommand 82 = .ok (.iaload, 1) := by decide +kernel
theorem dX9_runCommand_83 : decode cX9_runCommand 83 = .ok (.if_icmp .gt 23, 3) := by decide +kernel
theorem dX9_runCommand_86 : decode cX9_runCommand 86 = .ok (.aload_n 0, 1) := by decide +kernel
theorem dX9_runCommand_87 : decode cX9_runCommand 87 = .ok (.aload_n 0, 1) := by decide +kernel
theorem dX9_runCommand_88 : decode cX9_runCommand 88 = .ok (.getfield 29, 3) := by decide +kernel
theorem dX9_runCommand_91 : decode cX9_runCommand 91 = .ok (.iload_n 1, 1) := by decide +kernel
theorem dX9_runCommand_92 : decode cX9_runCommand 92 = .ok (.iconst 1, 1) := by decide +kernel
theorem dX9_runCommand_93 : decode cX9_runCommand 93 = .ok (.iadd, 1) := by decide +kernel
theorem dX9_runCommand_94 : decode cX9_runCommand 94 = .ok (.iaload, 1) := by decide +kernel
theorem dX9_runCommand_95 : decode cX9_runCommand 95 = .ok (.iload_n 2, 1) := by decide +kernel
theorem dX9_runCommand_96 : decode cX9_runCommand 96 = .ok (.iconst (-1), 1) := by decide +kernel
theorem dX9_runCommand_97 : decode cX9_runCommand 97 = .ok (.invokevirtual 162, 3) := by decide +kernel
theorem dX9_runCommand_100 : decode cX9_runCommand 100 = .ok (.iinc 2 1, 3) := by decide +kernel
theorem dX9_runCommand_103 : decode cX9_runCommand 103 = .ok (.goto (-29), 3) := by decide +kernel
theorem dX9_runCommand_106 : decode cX9_runCommand 106 = .ok (.aload_n 0, 1) := by decide +kernel
theorem dX9_runCommand_107 : decode cX9_runCommand 107 = .ok (.getfield 29, 3) := by decide +kernel
theorem dX9_runCommand_110 : decode cX9_runCommand 110 = .ok (.iload_n 1, 1) := by decide +kernel
theorem dX9_runCommand_111 : decode cX9_runCommand 111 = .ok (.iconst 3, 1) := by decide +kernel
theorem dX9_runCommand_112 : decode cX9_runCommand 112 = .ok (.iadd, 1) := by decide +kernel
theorem dX9_runCommand_113 : decode cX9_runCommand 113 = .ok (.iaload, 1) := by decide +kernel
theorem dX9_runCommand_114 : decode cX9_runCommand 114 = .ok (.aload_n 0, 1) := by decide +kernel
theorem dX9_runCommand_115 : decode cX9_runCommand 115 = .ok (.getfield 29, 3) := by decide +kernel
theorem dX9_runCommand_118 : decode cX9_runCommand 118 = .ok (.iload_n 1, 1) := by decide +kernel
theorem dX9_runCommand_119 : decode cX9_runCommand 119 = .ok (.iconst 2, 1) := by decide +kernel
theorem dX9_runCommand_120 : decode cX9_runCommand 120 = .ok (.iadd, 1) := by decide +kernel
theorem dX9_runCommand_121 : decode cX9_runCommand 121 = .ok (.iaload, 1) := by decide +kernel
theorem dX9_runCommand_122 : decode cX9_runCommand 122 = .ok (.isub, 1) := by decide +kernel
theorem dX9_runCommand_123 : decode cX9_runCommand 123 = .ok (.iconst 1, 1) := by decide +kernel
theorem dX9_runCommand_124 : decode cX9_runCommand 124 = .ok (.iadd, 1) := by decide +kernel
theorem dX9_runCommand_125 : decode cX9_runCommand 125 = .ok (.ireturn, 1) := by decide +kernel
theorem dX9_errorCode_0 : decode cX9_errorCode 0 = .ok (.aload_n 0, 1) := by decide +kernel
theorem dX9_errorCode_1 : decode cX9_errorCode 1 = .ok (.iconst 0, 1) := by decide +kernel
theorem dX9_errorCode_2 : decode cX9_errorCode 2 = .ok (.putfield 43, 3) := by decide +kernel
theorem dX9_errorCode_5 : decode cX9_errorCode 5 = .ok (.aload_n 0, 1) := by decide +kernel
theorem dX9_errorCode_6 : decode cX9_errorCode 6 = .ok (.getfield 108, 3) := by decide +kernel
theorem dX9_errorCode_9 : decode cX9_errorCode 9 = .ok (.ireturn, 1) := by decide +kernel
theorem dX9_errorPosition_0 : decode cX9_errorPosition 0 = .ok (.aload_n 0, 1) := by decide +kernel
theorem dX9_errorPosition_1 : decode cX9_errorPosition 1 = .ok (.iconst 0, 1) := by decide +kernel
theorem dX9_errorPosition_2 : decode cX9_errorPosition 2 = .ok (.putfield 43, 3) := by decide +kernel
theorem dX9_errorPosition_5 : decode cX9_errorPosition 5 = .ok (.aload_n 0, 1) := by decide +kernel
theorem dX9_errorPosition_6 : decode cX9_errorPosition 6 = .ok (.getfield 32, 3) := by decide +kernel
theorem dX9_errorPosition_9 : decode cX9_errorPosition 9 = .ok (.ireturn, 1) := by decide +kernel
theorem dX9_addClient_0 : decode cX9_addClient 0 = .ok (.aload_n 0, 1) := by decide +kernel
theorem dX9_addClient_1 : decode cX9_addClient 1 = .ok (.iconst 0, 1) := by decide +kernel
theorem dX9_addClient_2 : decode cX9_addClient 2 = .ok (.putfield 43, 3) := by decide +kernel
theorem dX9_addClient_5 : decode cX9_addClient 5 = .ok (.iload_n 1, 1) := by decide +kernel
theorem dX9_addClient_6 : decode cX9_addClient 6 = .ok (.iconst 1, 1) := by decide +kernel
theorem dX9_addClient_7 : decode cX9_addClient 7 = .ok (.bipush 9, 2) := by decide +kernel
theorem dX9_addClient_9 : decode cX9_addClient 9 = .ok (.invokestatic 53, 3) := by decide +kernel
theorem dX9_addClient_12 : decode cX9_addClient 12 = .ok (.ifCond .ne 9, 3) := by decide +kernel
theorem dX9_addClient_15 : decode cX9_addClient 15 = .ok (.aload_n 0, 1) := by decide +kernel
theorem dX9_addClient_16 : decode cX9_addClient 16 = .ok (.iconst 1, 1) := by decide +kernel
theorem dX9_addClient_17 : decode cX9_addClient 17 = .ok (.invokevirtual 60, 3) := by decide +kernel
theorem dX9_addClient_20 : decode cX9_addClient 20 = .ok (.ireturn, 1) := by decide +kernel
theorem dX9_addClient_21 : decode cX9_addClient 21 = .ok (.aload_n 0, 1) := by decide +kernel
theorem dX9_addClient_22 : decode cX9_addClient 22 = .ok (.getfield 7, 3) := by decide +kernel
theorem dX9_addClient_25 : decode cX9_addClient 25 = .ok (.bipush 6, 2) := by decide +kernel
theorem dX9_addClient_27 : decode cX9_addClient 27 = .ok (.iaload, 1) := by decide +kernel
theorem dX9_addClient_28 : decode cX9_addClient 28 = .ok (.iconst 4, 1) := by decide +kernel
theorem dX9_addClient_29 : decode cX9_addClient 29 = .ok (.if_icmp .ne 9, 3) := by decide +kernel
theorem dX9_addClient_32 : decode cX9_addClient 32 = .ok (.aload_n 0, 1) := by decide +kernel
theorem dX9_addClient_33 : decode cX9_addClient 33 = .ok (.iconst 2, 1) := by decide +kernel
theorem dX9_addClient_34 : decode cX9_addClient 34 = .ok (.invokevirtual 60, 3) := by decide +kernel
theorem dX9_addClient_37 : decode cX9_addClient 37 = .ok (.ireturn, 1) := by decide +kernel
theorem dX9_addClient_38 : decode cX9_addClient 38 = .ok (.aload_n 0, 1) := by decide +kernel
theorem dX9_addClient_39 : decode cX9_addClient 39 = .ok (.invokevirtual 150, 3) := by decide +kernel
theorem dX9_addClient_42 : decode cX9_addClient 42 = .ok (.aload_n 0, 1) := by decide +kernel
theorem dX9_addClient_43 : decode cX9_addClient 43 = .ok (.getfield 7, 3) := by decide +kernel
theorem dX9_addClient_46 : decode cX9_addClient 46 = .ok (.bipush 6, 2) := by decide +kernel
theorem dX9_addClient_48 : decode cX9_addClient 48 = .ok (.iaload, 1) := by decide +kernel
theorem dX9_addClient_49 : decode cX9_addClient 49 = .ok (.istore_n 2, 1) := by decide +kernel
theorem dX9_addClient_50 : decode cX9_addClient 50 = .ok (.iconst 0, 1) := by decide +kernel
theorem dX9_addClient_51 : decode cX9_addClient 51 = .ok (.istore_n 3, 1) := by decide +kernel
theorem dX9_addClient_52 : decode cX9_addClient 52 = .ok (.iload_n 3, 1) := by decide +kernel
theorem dX9_addClient_53 : decode cX9_addClient 53 = .ok (.bipush 10, 2) := by decide +kernel
theorem dX9_addClient_55 : decode cX9_addClient 55 = .ok (.if_icmp .ge 16, 3) := by decide +kernel
theorem dX9_addClient_58 : decode cX9_addClient 58 = .ok (.aload_n 0, 1) := by decide +kernel
theorem dX9_addClient_59 : decode cX9_addClient 59 = .ok (.iload_n 2, 1) := by decide +kernel
theorem dX9_addClient_60 : decode cX9_addClient 60 = .ok (.iload_n 3, 1) := by decide +kernel
theorem dX9_addClient_61 : decode cX9_addClient 61 = .ok (.iconst 0, 1) := by decide +kernel
theorem dX9_addClient_62 : decode cX9_addClient 62 = .ok (.invokevirtual 165, 3) := by decide +kernel
theorem dX9_addClient_65 : decode cX9_addClient 65 = .ok (.iinc 3 1, 3) := by decide +kernel
theorem dX9_addClient_68 : decode cX9_addClient 68 = .ok (.goto (-16), 3) := by decide +kernel
theorem dX9_addClient_71 : decode cX9_addClient 71 = .ok (.aload_n 0, 1) := by decide +kernel
theorem dX9_addClient_72 : decode cX9_addClient 72 = .ok (.iload_n 2, 1) := by decide +kernel
theorem dX9_addClient_73 : decode cX9_addClient 73 = .ok (.iconst 0, 1) := by decide +kernel
theorem dX9_addClient_74 : decode cX9_addClient 74 = .ok (.iload_n 1, 1) := by decide +kernel
theorem dX9_addClient_75 : decode cX9_addClient 75 = .ok (.invokevirtual 165, 3) := by decide +kernel
theorem dX9_addClient_78 : decode cX9_addClient 78 = .ok (.aload_n 0, 1) := by decide +kernel
theorem dX9_addClient_79 : decode cX9_addClient 79 = .ok (.iload_n 2, 1) := by decide +kernel
theorem dX9_addClient_80 : decode cX9_addClient 80 = .ok (.iconst 2, 1) := by decide +kernel
theorem dX9_addClient_81 : decode cX9_addClient 81 = .ok (.iconst (-1), 1) := by decide +kernel
theorem dX9_addClient_82 : decode cX9_addClient 82 = .ok (.invokevirtual 165, 3) := by decide +kernel
theorem dX9_addClient_85 : decode cX9_addClient 85 = .ok (.aload_n 0, 1) := by decide +kernel
theorem dX9_addClient_86 : decode cX9_addClient 86 = .ok (.getfield 7, 3) := by decide +kernel
theorem dX9_addClient_89 : decode cX9_addClient 89 = .ok (.bipush 6, 2) := by decide +kernel
theorem dX9_addClient_91 : decode cX9_addClient 91 = .ok (.dup2, 1) := by decide +kernel
theorem dX9_addClient_92 : decode cX9_addClient 92 = .ok (.iaload, 1) := by decide +kernel
theorem dX9_addClient_93 : decode cX9_addClient 93 = .ok (.iconst 1, 1) := by decide +kernel
theorem dX9_addClient_94 : decode cX9_addClient 94 = .ok (.iadd, 1) := by decide +kernel
theorem dX9_addClient_95 : decode cX9_addClient 95 = .ok (.iastore, 1) := by decide +kernel
theorem dX9_addClient_96 : decode cX9_addClient 96 = .ok (.iload_n 2, 1) := by decide +kernel
theorem dX9_addClient_97 : decode cX9_addClient 97 = .ok (.ireturn, 1) := by decide +kernel
theorem dX9_setWeight_0 : decode cX9_setWeight 0 = .ok (.aload_n 0, 1) := by decide +kernel
theorem dX9_setWeight_1 : decode cX9_setWeight 1 = .ok (.iconst 0, 1) := by decide +kernel
theorem dX9_setWeight_2 : decode cX9_setWeight 2 = .ok (.putfield 43, 3) := by decide +kernel
theorem dX9_setWeight_5 : decode cX9_setWeight 5 = .ok (.aload_n 0, 1) := by decide +kernel
theorem dX9_setWeight_6 : decode cX9_setWeight 6 = .ok (.iload_n 1, 1) := by decide +kernel
theorem dX9_setWeight_7 : decode cX9_setWeight 7 = .ok (.invokevirtual 153, 3) := by decide +kernel
theorem dX9_setWeight_10 : decode cX9_setWeight 10 = .ok (.ifCond .ne 9, 3) := by decide +kernel
theorem dX9_setWeight_13 : decode cX9_setWeight 13 = .ok (.aload_n 0, 1) := by decide +kernel
theorem dX9_setWeight_14 : decode cX9_setWeight 14 = .ok (.iconst 1, 1) := by decide +kernel
theorem dX9_setWeight_15 : decode cX9_setWeight 15 = .ok (.invokevirtual 60, 3) := by decide +kernel
theorem dX9_setWeight_18 : decode cX9_setWeight 18 = .ok (.ireturn, 1) := by decide +kernel
theorem dX9_setWeight_19 : decode cX9_setWeight 19 = .ok (.iload_n 2, 1) := by decide +kernel
theorem dX9_setWeight_20 : decode cX9_setWeight 20 = .ok (.iconst 1, 1) := by decide +kernel
theorem dX9_setWeight_21 : decode cX9_setWeight 21 = .ok (.bipush 9, 2) := by decide +kernel
theorem dX9_setWeight_23 : decode cX9_setWeight 23 = .ok (.invokestatic 53, 3) := by decide +kernel
theorem dX9_setWeight_26 : decode cX9_setWeight 26 = .ok (.ifCond .ne 9, 3) := by decide +kernel
theorem dX9_setWeight_29 : decode cX9_setWeight 29 = .ok (.aload_n 0, 1) := by decide +kernel
theorem dX9_setWeight_30 : decode cX9_setWeight 30 = .ok (.iconst 2, 1) := by decide +kernel
theorem dX9_setWeight_31 : decode cX9_setWeight 31 = .ok (.invokevirtual 60, 3) := by decide +kernel
theorem dX9_setWeight_34 : decode cX9_setWeight 34 = .ok (.ireturn, 1) := by decide +kernel
theorem dX9_setWeight_35 : decode cX9_setWeight 35 = .ok (.aload_n 0, 1) := by decide +kernel
theorem dX9_setWeight_36 : decode cX9_setWeight 36 = .ok (.invokevirtual 150, 3) := by decide +kernel
theorem dX9_setWeight_39 : decode cX9_setWeight 39 = .ok (.aload_n 0, 1) := by decide +kernel
theorem dX9_setWeight_40 : decode cX9_setWeight 40 = .ok (.iload_n 1, 1) := by decide +kernel
theorem dX9_setWeight_41 : decode cX9_setWeight 41 = .ok (.iconst 0, 1) := by decide +kernel
theorem dX9_setWeight_42 : decode cX9_setWeight 42 = .ok (.invokevirtual 168, 3) := by decide +kernel
theorem dX9_setWeight_45 : decode cX9_setWeight 45 = .ok (.istore_n 3, 1) := by decide +kernel
theorem dX9_setWeight_46 : decode cX9_setWeight 46 = .ok (.aload_n 0, 1) := by decide +kernel
theorem dX9_setWeight_47 : decode cX9_setWeight 47 = .ok (.iload_n 1, 1) := by decide +kernel
theorem dX9_setWeight_48 : decode cX9_setWeight 48 = .ok (.iconst 0, 1) := by decide +kernel
theorem dX9_setWeight_49 : decode cX9_setWeight 49 = .ok (.iload_n 2, 1) := by decide +kernel
theorem dX9_setWeight_50 : decode cX9_setWeight 50 = .ok (.invokevirtual 165, 3) := by decide +kernel
theorem dX9_setWeight_53 : decode cX9_setWeight 53 = .ok (.iload_n 3, 1) := by decide +kernel
theorem dX9_setWeight_54 : decode cX9_setWeight 54 = .ok (.ireturn, 1) := by decide +kernel
theorem dX9_set_0 : decode cX9_set 0 = .ok (.aload_n 0, 1) := by decide +kernel
theorem dX9_set_1 : decode cX9_set 1 = .ok (.iconst 0, 1) := by decide +kernel
theorem dX9_set_2 : decode cX9_set 2 = .ok (.putfield 43, 3) := by decide +kernel
theorem dX9_set_5 : decode cX9_set 5 = .ok (.iload_n 1, 1) := by decide +kernel
theorem dX9_set_6 : decode cX9_set 6 = .ok (.ifCond .ne 13, 3) := by decide +kernel
theorem dX9_set_9 : decode cX9_set 9 = .ok (.iload_n 2, 1) := by decide +kernel
theorem dX9_set_10 : decode cX9_set 10 = .ok (.iconst 2, 1) := by decide +kernel
theorem dX9_set_11 : decode cX9_set 11 = .ok (.bipush 20, 2) := by decide +kernel
theorem dX9_set_13 : decode cX9_set 13 = .ok (.invokestatic 53, 3) := by decide +kernel
theorem dX9_set_16 : decode cX9_set 16 = .ok (.ifCond .ne 18, 3) := by decide +kernel
theorem dX9_set_19 : decode cX9_set 19 = .ok (.iload_n 1, 1) := by decide +kernel
theorem dX9_set_20 : decode cX9_set 20 = .ok (.iconst 1, 1) := by decide +kernel
theorem dX9_set_21 : decode cX9_set 21 = .ok (.if_icmp .ne 17, 3) := by decide +kernel
theorem dX9_set_24 : decode cX9_set 24 = .ok (.iload_n 2, 1) := by decide +kernel
theorem dX9_set_25 : decode cX9_set 25 = .ok (.iconst 0, 1) := by decide +kernel
theorem dX9_set_26 : decode cX9_set 26 = .ok (.bipush 40, 2) := by decide +kernel
theorem dX9_set_28 : decode cX9_set 28 = .ok (.invokestatic 53, 3) := by decide +kernel
theorem dX9_set_31 : decode cX9_set 31 = .ok (.ifCond .eq 7, 3) := by decide +kernel
theorem dX9_set_34 : decode cX9_set 34 = .ok (.iconst 1, 1) := by decide +kernel
theorem dX9_set_35 : decode cX9_set 35 = .ok (.goto 4, 3) := by decide +kernel
theorem dX9_set_38 : decode cX9_set 38 = .ok (.iconst 0, 1) := by decide +kernel
theorem dX9_set_39 : decode cX9_set 39 = .ok (.istore_n 3, 1) := by decide +kernel
theorem dX9_set_40 : decode cX9_set 40 = .ok (.iload_n 3, 1) := by decide +kernel
theorem dX9_set_41 : decode cX9_set 41 = .ok (.ifCond .ne 9, 3) := by decide +kernel
theorem dX9_set_44 : decode cX9_set 44 = .ok (.aload_n 0, 1) := by decide +kernel
theorem dX9_set_45 : decode cX9_set 45 = .ok (.iconst 1, 1) := by decide +kernel
theorem dX9_set_46 : decode cX9_set 46 = .ok (.invokevirtual 60, 3) := by decide +kernel
theorem dX9_set_49 : decode cX9_set 49 = .ok (.ireturn, 1) := by decide +kernel
theorem dX9_set_50 : decode cX9_set 50 = .ok (.aload_n 0, 1) := by decide +kernel
theorem dX9_set_51 : decode cX9_set 51 = .ok (.invokevirtual 150, 3) := by decide +kernel
theorem dX9_set_54 : decode cX9_set 54 = .ok (.aload_n 0, 1) := by decide +kernel
theorem dX9_set_55 : decode cX9_set 55 = .ok (.getfield 7, 3) := by decide +kernel
theorem dX9_set_58 : decode cX9_set 58 = .ok (.iload_n 1, 1) := by decide +kernel
theorem dX9_set_59 : decode cX9_set 59 = .ok (.iaload, 1) := by decide +kernel
theorem dX9_set_60 : decode cX9_set 60 = .ok (.istore 4, 2) := by decide +kernel
theorem dX9_set_62 : decode cX9_set 62 = .ok (.aload_n 0, 1) := by decide +kernel
theorem dX9_set_63 : decode cX9_set 63 = .ok (.getfield 7, 3) := by decide +kernel
theorem dX9_set_66 : decode cX9_set 66 = .ok (.iload_n 1, 1) := by decide +kernel
theorem dX9_set_67 : decode cX9_set 67 = .ok (.iload_n 2, 1) := by decide +kernel
theorem dX9_set_68 : decode cX9_set 68 = .ok (.iastore, 1) := by decide +kernel
theorem dX9_set_69 : decode cX9_set 69 = .ok (.iload 4, 2) := by decide +kernel
theorem dX9_set_71 : decode cX9_set 71 = .ok (.ireturn, 1) := by decide +kernel
theorem dX9_shape_0 : decode cX9_shape 0 = .ok (.aload_n 0, 1) := by decide +kernel
theorem dX9_shape_1 : decode cX9_shape 1 = .ok (.iconst 0, 1) := by decide +kernel
theorem dX9_shape_2 : decode cX9_shape 2 = .ok (.putfield 43, 3) := by decide +kernel
theorem dX9_shape_5 : decode cX9_shape 5 = .ok (.iload_n 1, 1) := by decide +kernel
theorem dX9_shape_6 : decode cX9_shape 6 = .ok (.iconst 2, 1) := by decide +kernel
theorem dX9_shape_7 : decode cX9_shape 7 = .ok (.bipush 16, 2) := by decide +kernel
theorem dX9_shape_9 : decode cX9_shape 9 = .ok (.invokestatic 53, 3) := by decide +kernel
theorem dX9_shape_12 : decode cX9_shape 12 = .ok (.ifCond .eq 13, 3) := by decide +kernel
theorem dX9_shape_15 : decode cX9_shape 15 = .ok (.iload_n 2, 1) := by decide +kernel
theorem dX9_shape_16 : decode cX9_shape 16 = .ok (.iconst 2, 1) := by decide +kernel
theorem dX9_shape_17 : decode cX9_shape 17 = .ok (.bipush 24, 2) := by decide +kernel
theorem dX9_shape_19 : decode cX9_shape 19 = .ok (.invokestatic 53, 3) := by decide +kernel
theorem dX9_shape_22 : decode cX9_shape 22 = .ok (.ifCond .ne 9, 3) := by decide +kernel
theorem dX9_shape_25 : decode cX9_shape 25 = .ok (.aload_n 0, 1) := by decide +kernel
theorem dX9_shape_26 : decode cX9_shape 26 = .ok (.iconst 1, 1) := by decide +kernel
theorem dX9_shape_27 : decode cX9_shape 27 = .ok (.invokevirtual 60, 3) := by decide +kernel
theorem dX9_shape_30 : decode cX9_shape 30 = .ok (.ireturn, 1) := by decide +kernel
theorem dX9_shape_31 : decode cX9_shape 31 = .ok (.aload_n 0, 1) := by decide +kernel
theorem dX9_shape_32 : decode cX9_shape 32 = .ok (.invokevirtual 150, 3) := by decide +kernel
theorem dX9_shape_35 : decode cX9_shape 35 = .ok (.aload_n 0, 1) := by decide +kernel
theorem dX9_shape_36 : decode cX9_shape 36 = .ok (.sipush 200, 3) := by decide +kernel
theorem dX9_shape_39 : decode cX9_shape 39 = .ok (.invokevirtual 159, 3) := by decide +kernel
theorem dX9_shape_42 : decode cX9_shape 42 = .ok (.istore_n 3, 1) := by decide +kernel
theorem dX9_shape_43 : decode cX9_shape 43 = .ok (.iconst 0, 1) := by decide +kernel
theorem dX9_shape_44 : decode cX9_shape 44 = .ok (.istore 4, 2) := by decide +kernel
theorem dX9_shape_46 : decode cX9_shape 46 = .ok (.iconst 0, 1) := by decide +kernel
theorem dX9_shape_47 : decode cX9_shape 47 = .ok (.istore 5, 2) := by decide +kernel
theorem dX9_shape_49 : decode cX9_shape 49 = .ok (.iload 5, 2) := by decide +kernel
theorem dX9_shape_51 : decode cX9_shape 51 = .ok (.sipush 200, 3) := by decide +kernel
theorem dX9_shape_54 : decode cX9_shape 54 = .ok (.if_icmp .ge 46, 3) := by decide +kernel
theorem dX9_shape_57 : decode cX9_shape 57 = .ok (.iload 4, 2) := by decide +kernel
theorem dX9_shape_59 : decode cX9_shape 59 = .ok (.aload_n 0, 1) := by decide +kernel
theorem dX9_shape_60 : decode cX9_shape 60 = .ok (.iload 5, 2) := by decide +kernel
theorem dX9_shape_62 : decode cX9_shape 62 = .ok (.iconst 0, 1) := by decide +kernel
theorem dX9_shape_63 : decode cX9_shape 63 = .ok (.invokevirtual 171, 3) := by decide +kernel
theorem dX9_shape_66 : decode cX9_shape 66 = .ok (.iconst (-1), 1) := by decide +kernel
theorem dX9_shape_67 : decode cX9_shape 67 = .ok (.if_icmp .ne 7, 3) := by decide +kernel
theorem dX9_shape_70 : decode cX9_shape 70 = .ok (.iconst 0, 1) := by decide +kernel
theorem dX9_shape_71 : decode cX9_shape 71 = .ok (.goto 4, 3) := by decide +kernel
theorem dX9_shape_74 : decode cX9_shape 74 = .ok (.iconst 1, 1) := by decide +kernel
theorem dX9_shape_75 : decode cX9_shape 75 = .ok (.iadd, 1) := by decide +kernel
theorem dX9_shape_76 : decode cX9_shape 76 = .ok (.istore 4, 2) := by decide +kernel
theorem dX9_shape_78 : decode cX9_shape 78 = .ok (.aload_n 0, 1) := by decide +kernel
theorem dX9_shape_79 : decode cX9_shape 79 = .ok (.iload 5, 2) := by decide +kernel
theorem dX9_shape_81 : decode cX9_shape 81 = .ok (.iconst 0, 1) := by decide +kernel
theorem dX9_shape_82 : decode cX9_shape 82 = .ok (.iconst (-1), 1) := by decide +kernel
theorem dX9_shape_83 : decode cX9_shape 83 = .ok (.invokevirtual 39, 3) := by decide +kernel
theorem dX9_shape_86 : decode cX9_shape 86 = .ok (.aload_n 0, 1) := by decide +kernel
theorem dX9_shape_87 : decode cX9_shape 87 = .ok (.iload 5, 2) := by decide +kernel
theorem dX9_shape_89 : decode cX9_shape 89 = .ok (.iconst 4, 1) := by decide +kernel
theorem dX9_shape_90 : decode cX9_shape 90 = .ok (.iconst (-1), 1) := by decide +kernel
theorem dX9_shape_91 : decode cX9_shape 91 = .ok (.invokevirtual 39, 3) := by decide +kernel
theorem dX9_shape_94 : decode cX9_shape 94 = .ok (.iinc 5 1, 3) := by decide +kernel
theorem dX9_shape_97 : decode cX9_shape 97 = .ok (.goto (-48), 3) := by decide +kernel
theorem dX9_shape_100 : decode cX9_shape 100 = .ok (.iconst 0, 1) := by decide +kernel
theorem dX9_shape_101 : decode cX9_shape 101 = .ok (.istore 5, 2) := by decide +kernel
theorem dX9_shape_103 : decode cX9_shape 103 = .ok (.iload 5, 2) := by decide +kernel
theorem dX9_shape_105 : decode cX9_shape 105 = .ok (.iconst 5, 1) := by decide +kernel
theorem dX9_shape_106 : decode cX9_shape 106 = .ok (.if_icmp .ge 20, 3) := by decide +kernel
theorem dX9_shape_109 : decode cX9_shape 109 = .ok (.aload_n 0, 1) := by decide +kernel
theorem dX9_shape_110 : decode cX9_shape 110 = .ok (.getfield 7, 3) := by decide +kernel
theorem dX9_shape_113 : decode cX9_shape 113 = .ok (.bipush 7, 2) := by decide +kernel
theorem dX9_shape_115 : decode cX9_shape 115 = .ok (.iload 5, 2) := by decide +kernel
theorem dX9_shape_117 : decode cX9_shape 117 = .ok (.iadd, 1) := by decide +kernel
theorem dX9_shape_118 : decode cX9_shape 118 = .ok (.iconst 0, 1) := by decide +kernel
theorem dX9_shape_119 : decode cX9_shape 119 = .ok (.iastore, 1) := by decide +kernel
theorem dX9_shape_120 : decode cX9_shape 120 = .ok (.iinc 5 1, 3) := by decide +kernel
theorem dX9_shape_123 : decode cX9_shape 123 = .ok (.goto (-20), 3) := by decide +kernel
theorem dX9_shape_126 : decode cX9_shape 126 = .ok (.aload_n 0, 1) := by decide +kernel
theorem dX9_shape_127 : decode cX9_shape 127 = .ok (.getfield 7, 3) := by decide +kernel
theorem dX9_shape_130 : decode cX9_shape 130 = .ok (.iconst 2, 1) := by decide +kernel
theorem dX9_shape_131 : decode cX9_shape 131 = .ok (.iload_n 1, 1) := by decide +kernel
theorem dX9_shape_132 : decode cX9_shape 132 = .ok (.iastore, 1) := by decide +kernel
theorem dX9_shape_133 : decode cX9_shape 133 = .ok (.aload_n 0, 1) := by decide +kernel
theorem dX9_shape_134 : decode cX9_shape 134 = .ok (.getfield 7, 3) := by decide +kernel
theorem dX9_shape_137 : decode cX9_shape 137 = .ok (.iconst 3, 1) := by decide +kernel
theorem dX9_shape_138 : decode cX9_shape 138 = .ok (.iload_n 2, 1) := by decide +kernel
theorem dX9_shape_139 : decode cX9_shape 139 = .ok (.iastore, 1) := by decide +kernel
theorem dX9_shape_140 : decode cX9_shape 140 = .ok (.aload_n 0, 1) := by decide +kernel
theorem dX9_shape_141 : decode cX9_shape 141 = .ok (.getfield 7, 3) := by decide +kernel
theorem dX9_shape_144 : decode cX9_shape 144 = .ok (.iconst 4, 1) := by decide +kernel
theorem dX9_shape_145 : decode cX9_shape 145 = .ok (.iconst 0, 1) := by decide +kernel
theorem dX9_shape_146 : decode cX9_shape 146 = .ok (.iastore, 1) := by decide +kernel
theorem dX9_shape_147 : decode cX9_shape 147 = .ok (.iload 4, 2) := by decide +kernel
theorem dX9_shape_149 : decode cX9_shape 149 = .ok (.ireturn, 1) := by decide +kernel
theorem dX9_blockAt_0 : decode cX9_blockAt 0 = .ok (.aload_n 0, 1) := by decide +kernel
theorem dX9_blockAt_1 : decode cX9_blockAt 1 = .ok (.getfield 7, 3) := by decide +kernel
theorem dX9_blockAt_4 : decode cX9_blockAt 4 = .ok (.bipush 24, 2) := by decide +kernel
theorem dX9_blockAt_6 : decode cX9_blockAt 6 = .ok (.bipush 24, 2) := by decide +kernel
theorem dX9_blockAt_8 : decode cX9_blockAt 8 = .ok (.iload_n 1, 1) := by decide +kernel
theorem dX9_blockAt_9 : decode cX9_blockAt 9 = .ok (.imul, 1) := by decide +kernel
theorem dX9_blockAt_10 : decode cX9_blockAt 10 = .ok (.iadd, 1) := by decide +kernel
theorem dX9_blockAt_11 : decode cX9_blockAt 11 = .ok (.iload_n 2, 1) := by decide +kernel
theorem dX9_blockAt_12 : decode cX9_blockAt 12 = .ok (.iadd, 1) := by decide +kernel
theorem dX9_blockAt_13 : decode cX9_blockAt 13 = .ok (.iaload, 1) := by decide +kernel
theorem dX9_blockAt_14 : decode cX9_blockAt 14 = .ok (.ireturn, 1) := by decide +kernel
theorem dX9_length_0 : decode cX9_length 0 = .ok (.aload_n 0, 1) := by decide +kernel
theorem dX9_length_1 : decode cX9_length 1 = .ok (.getfield 7, 3) := by decide +kernel
theorem dX9_length_4 : decode cX9_length 4 = .ok (.bipush 7, 2) := by decide +kernel
theorem dX9_length_6 : decode cX9_length 6 = .ok (.iload_n 1, 1) := by decide +kernel
theorem dX9_length_7 : decode cX9_length 7 = .ok (.iadd, 1) := by decide +kernel
theorem dX9_length_8 : decode cX9_length 8 = .ok (.iaload, 1) := by decide +kernel
theorem dX9_length_9 : decode cX9_length 9 = .ok (.ireturn, 1) := by decide +kernel
theorem dX9_placeOf_0 : decode cX9_placeOf 0 = .ok (.iconst 0, 1) := by decide +kernel
theorem dX9_placeOf_1 : decode cX9_placeOf 1 = .ok (.istore_n 3, 1) := by decide +kernel
theorem dX9_placeOf_2 : decode cX9_placeOf 2 = .ok (.aload_n 0, 1) := by decide +kernel
theorem dX9_placeOf_3 : decode cX9_placeOf 3 = .ok (.iload_n 1, 1) := by decide +kernel
theorem dX9_placeOf_4 : decode cX9_placeOf 4 = .ok (.iload_n 3, 1) := by decide +kernel
theorem dX9_placeOf_5 : decode cX9_placeOf 5 = .ok (.invokevirtual 174, 3) := by decide +kernel
theorem dX9_placeOf_8 : decode cX9_placeOf 8 = .ok (.iload_n 2, 1) := by decide +kernel
theorem dX9_placeOf_9 : decode cX9_placeOf 9 = .ok (.if_icmp .eq 9, 3) := by decide +kernel
theorem dX9_placeOf_12 : decode cX9_placeOf 12 = .ok (.iinc 3 1, 3) := by decide +kernel
theorem dX9_placeOf_15 : decode cX9_placeOf 15 = .ok (.goto (-13), 3) := by decide +kernel
theorem dX9_placeOf_18 : decode cX9_placeOf 18 = .ok (.iload_n 3, 1) := by decide +kernel
theorem dX9_placeOf_19 : decode cX9_placeOf 19 = .ok (.ireturn, 1) := by decide +kernel
theorem dX9_take_0 : decode cX9_take 0 = .ok (.bipush 24, 2) := by decide +kernel
theorem dX9_take_2 : decode cX9_take 2 = .ok (.bipush 24, 2) := by decide +kernel
theorem dX9_take_4 : decode cX9_take 4 = .ok (.iload_n 1, 1) := by decide +kernel
theorem dX9_take_5 : decode cX9_take 5 = .ok (.imul, 1) := by decide +kernel
theorem dX9_take_6 : decode cX9_take 6 = .ok (.iadd, 1) := by decide +kernel
theorem dX9_take_7 : decode cX9_take 7 = .ok (.istore_n 3, 1) := by decide +kernel
theorem dX9_take_8 : decode cX9_take 8 = .ok (.aload_n 0, 1) := by decide +kernel
theorem dX9_take_9 : decode cX9_take 9 = .ok (.getfield 7, 3) := by decide +kernel
theorem dX9_take_12 : decode cX9_take 12 = .ok (.bipush 7, 2) := by decide +kernel
theorem dX9_take_14 : decode cX9_take 14 = .ok (.iload_n 1, 1) := by decide +kernel
theorem dX9_take_15 : decode cX9_take 15 = .ok (.iadd, 1) := by decide +kernel
theorem dX9_take_16 : decode cX9_take 16 = .ok (.dup2, 1) := by decide +kernel
theorem dX9_take_17 : decode cX9_take 17 = .ok (.iaload, 1) := by decide +kernel
theorem dX9_take_18 : decode cX9_take 18 = .ok (.iconst 1, 1) := by decide +kernel
theorem dX9_take_19 : decode cX9_take 19 = .ok (.isub, 1) := by decide +kernel
theorem dX9_take_20 : decode cX9_take 20 = .ok (.iastore, 1) := by decide +kernel
theorem dX9_take_21 : decode cX9_take 21 = .ok (.aload_n 0, 1) := by decide +kernel
theorem dX9_take_22 : decode cX9_take 22 = .ok (.iload_n 1, 1) := by decide +kernel
theorem dX9_take_23 : decode cX9_take 23 = .ok (.iload_n 2, 1) := by decide +kernel
theorem dX9_take_24 : decode cX9_take 24 = .ok (.invokevirtual 177, 3) := by decide +kernel
theorem dX9_take_27 : decode cX9_take 27 = .ok (.istore 4, 2) := by decide +kernel
theorem dX9_take_29 : decode cX9_take 29 = .ok (.iload 4, 2) := by decide +kernel
theorem dX9_take_31 : decode cX9_take 31 = .ok (.aload_n 0, 1) := by decide +kernel
theorem dX9_take_32 : decode cX9_take 32 = .ok (.iload_n 1, 1) := by decide +kernel
theorem dX9_take_33 : decode cX9_take 33 = .ok (.invokevirtual 180, 3) := by decide +kernel
theorem dX9_take_36 : decode cX9_take 36 = .ok (.if_icmp .ge 29, 3) := by decide +kernel
theorem dX9_take_39 : decode cX9_take 39 = .ok (.aload_n 0, 1) := by decide +kernel
theorem dX9_take_40 : decode cX9_take 40 = .ok (.getfield 7, 3) := by decide +kernel
theorem dX9_take_43 : decode cX9_take 43 = .ok (.iload_n 3, 1) := by decide +kernel
theorem dX9_take_44 : decode cX9_take 44 = .ok (.iload 4, 2) := by decide +kernel
theorem dX9_take_46 : decode cX9_take 46 = .ok (.iadd, 1) := by decide +kernel
theorem dX9_take_47 : decode cX9_take 47 = .ok (.aload_n 0, 1) := by decide +kernel
theorem dX9_take_48 : decode cX9_take 48 = .ok (.getfield 7, 3) := by decide +kernel
theorem dX9_take_51 : decode cX9_take 51 = .ok (.iload_n 3, 1) := by decide +kernel
theorem dX9_take_52 : decode cX9_take 52 = .ok (.iload 4, 2) := by decide +kernel
theorem dX9_take_54 : decode cX9_take 54 = .ok (.iadd, 1) := by decide +kernel
theorem dX9_take_55 : decode cX9_take 55 = .ok (.iconst 1, 1) := by decide +kernel
theorem dX9_take_56 : decode cX9_take 56 = .ok (.iadd, 1) := by decide +kernel
theorem dX9_take_57 : decode cX9_take 57 = .ok (.iaload, 1) := by decide +kernel
theorem dX9_take_58 : decode cX9_take 58 = .ok (.iastore, 1) := by decide +kernel
theorem dX9_take_59 : decode cX9_take 59 = .ok (.iinc 4 1, 3) := by decide +kernel
theorem dX9_take_62 : decode cX9_take 62 = .ok (.goto (-33), 3) := by decide +kernel
theorem dX9_take_65 : decode cX9_take 65 = .ok (.return_, 1) := by decide +kernel
theorem dX9_bring_0 : decode cX9_bring 0 = .ok (.bipush 24, 2) := by decide +kernel
theorem dX9_bring_2 : decode cX9_bring 2 = .ok (.bipush 24, 2) := by decide +kernel
theorem dX9_bring_4 : decode cX9_bring 4 = .ok (.iload_n 1, 1) := by decide +kernel
theorem dX9_bring_5 : decode cX9_bring 5 = .ok (.imul, 1) := by decide +kernel
theorem dX9_bring_6 : decode cX9_bring 6 = .ok (.iadd, 1) := by decide +kernel
theorem dX9_bring_7 : decode cX9_bring 7 = .ok (.istore_n 3, 1) := by decide +kernel
theorem dX9_bring_8 : decode cX9_bring 8 = .ok (.aload_n 0, 1) := by decide +kernel
theorem dX9_bring_9 : decode cX9_bring 9 = .ok (.iload_n 1, 1) := by decide +kernel
theorem dX9_bring_10 : decode cX9_bring 10 = .ok (.invokevirtual 180, 3) := by decide +kernel
theorem dX9_bring_13 : decode cX9_bring 13 = .ok (.istore 4, 2) := by decide +kernel
theorem dX9_bring_15 : decode cX9_bring 15 = .ok (.iload 4, 2) := by decide +kernel
theorem dX9_bring_17 : decode cX9_bring 17 = .ok (.ifCond .le 29, 3) := by decide +kernel
theorem dX9_bring_20 : decode cX9_bring 20 = .ok (.aload_n 0, 1) := by decide +kernel
theorem dX9_bring_21 : decode cX9_bring 21 = .ok (.getfield 7, 3) := by decide +kernel
theorem dX9_bring_24 : decode cX9_bring 24 = .ok (.iload_n 3, 1) := by decide +kernel
theorem dX9_bring_25 : decode cX9_bring 25 = .ok (.iload 4, 2) := by decide +kernel
theorem dX9_bring_27 : decode cX9_bring 27 = .ok (.iadd, 1) := by decide +kernel
theorem dX9_bring_28 : decode cX9_bring 28 = .ok (.aload_n 0, 1) := by decide +kernel
theorem dX9_bring_29 : decode cX9_bring 29 = .ok (.getfield 7, 3) := by decide +kernel
theorem dX9_bring_32 : decode cX9_bring 32 = .ok (.iload_n 3, 1) := by decide +kernel
theorem dX9_bring_33 : decode cX9_bring 33 = .ok (.iload 4, 2) := by decide +kernel
theorem dX9_bring_35 : decode cX9_bring 35 = .ok (.iadd, 1) := by decide +kernel
theorem dX9_bring_36 : decode cX9_bring 36 = .ok (.iconst 1, 1) := by decide +kernel
theorem dX9_bring_37 : decode cX9_bring 37 = .ok (.isub, 1) := by decide +kernel
theorem dX9_bring_38 : decode cX9_bring 38 = .ok (.iaload, 1) := by decide +kernel
theorem dX9_bring_39 : decode cX9_bring 39 = .ok (.iastore, 1) := by decide +kernel
theorem dX9_bring_40 : decode cX9_bring 40 = .ok (.iinc 4 (-1), 3) := by decide +kernel
theorem dX9_bring_43 : decode cX9_bring 43 = .ok (.goto (-28), 3) := by decide +kernel
theorem dX9_bring_46 : decode cX9_bring 46 = .ok (.aload_n 0, 1) := by decide +kernel
theorem dX9_bring_47 : decode cX9_bring 47 = .ok (.getfield 7, 3) := by decide +kernel
theorem dX9_bring_50 : decode cX9_bring 50 = .ok (.iload_n 3, 1) := by decide +kernel
theorem dX9_bring_51 : decode cX9_bring 51 = .ok (.iload_n 2, 1) := by decide +kernel
theorem dX9_bring_52 : decode cX9_bring 52 = .ok (.iastore, 1) := by decide +kernel
theorem dX9_bring_53 : decode cX9_bring 53 = .ok (.aload_n 0, 1) := by decide +kernel
theorem dX9_bring_54 : decode cX9_bring 54 = .ok (.getfield 7, 3) := by decide +kernel
theorem dX9_bring_57 : decode cX9_bring 57 = .ok (.bipush 7, 2) := by decide +kernel
theorem dX9_bring_59 : decode cX9_bring 59 = .ok (.iload_n 1, 1) := by decide +kernel
theorem dX9_bring_60 : decode cX9_bring 60 = .ok (.iadd, 1) := by decide +kernel
theorem dX9_bring_61 : decode cX9_bring 61 = .ok (.dup2, 1) := by decide +kernel
theorem dX9_bring_62 : decode cX9_bring 62 = .ok (.iaload, 1) := by decide +kernel
theorem dX9_bring_63 : decode cX9_bring 63 = .ok (.iconst 1, 1) := by decide +kernel
theorem dX9_bring_64 : decode cX9_bring 64 = .ok (.iadd, 1) := by decide +kernel
theorem dX9_bring_65 : decode cX9_bring 65 = .ok (.iastore, 1) := by decide +kernel
theorem dX9_bring_66 : decode cX9_bring 66 = .ok (.return_, 1) := by decide +kernel
theorem dX9_move_0 : decode cX9_move 0 = .ok (.aload_n 0, 1) := by decide +kernel
theorem dX9_move_1 : decode cX9_move 1 = .ok (.iload_n 1, 1) := by decide +kernel
theorem dX9_move_2 : decode cX9_move 2 = .ok (.iconst 0, 1) := by decide +kernel
theorem dX9_move_3 : decode cX9_move 3 = .ok (.invokevirtual 171, 3) := by decide +kernel
theorem dX9_move_6 : decode cX9_move 6 = .ok (.iconst (-1), 1) := by decide +kernel
theorem dX9_move_7 : decode cX9_move 7 = .ok (.if_icmp .eq 14, 3) := by decide +kernel
theorem dX9_move_10 : decode cX9_move 10 = .ok (.aload_n 0, 1) := by decide +kernel
theorem dX9_move_11 : decode cX9_move 11 = .ok (.aload_n 0, 1) := by decide +kernel
theorem dX9_move_12 : decode cX9_move 12 = .ok (.iload_n 1, 1) := by decide +kernel
theorem dX9_move_13 : decode cX9_move 13 = .ok (.iconst 0, 1) := by decide +kernel
theorem dX9_move_14 : decode cX9_move 14 = .ok (.invokevirtual 171, 3) := by decide +kernel
theorem dX9_move_17 : decode cX9_move 17 = .ok (.iload_n 1, 1) := by decide +kernel
theorem dX9_move_18 : decode cX9_move 18 = .ok (.invokevirtual 182, 3) := by decide +kernel
theorem dX9_move_21 : decode cX9_move 21 = .ok (.aload_n 0, 1) := by decide +kernel
theorem dX9_move_22 : decode cX9_move 22 = .ok (.iload_n 1, 1) := by decide +kernel
theorem dX9_move_23 : decode cX9_move 23 = .ok (.iconst 0, 1) := by decide +kernel
theorem dX9_move_24 : decode cX9_move 24 = .ok (.iload_n 2, 1) := by decide +kernel
theorem dX9_move_25 : decode cX9_move 25 = .ok (.invokevirtual 39, 3) := by decide +kernel
theorem dX9_move_28 : decode cX9_move 28 = .ok (.iload_n 2, 1) := by decide +kernel
theorem dX9_move_29 : decode cX9_move 29 = .ok (.iconst (-1), 1) := by decide +kernel
theorem dX9_move_30 : decode cX9_move 30 = .ok (.if_icmp .eq 9, 3) := by decide +kernel
theorem dX9_move_33 : decode cX9_move 33 = .ok (.aload_n 0, 1) := by decide +kernel
theorem dX9_move_34 : decode cX9_move 34 = .ok (.iload_n 2, 1) := by decide +kernel
theorem dX9_move_35 : decode cX9_move 35 = .ok (.iload_n 1, 1) := by decide +kernel
theorem dX9_move_36 : decode cX9_move 36 = .ok (.invokevirtual 186, 3) := by decide +kernel
theorem dX9_move_39 : decode cX9_move 39 = .ok (.return_, 1) := by decide +kernel
theorem dX9_dropGhost_0 : decode cX9_dropGhost 0 = .ok (.aload_n 0, 1) := by decide +kernel
theorem dX9_dropGhost_1 : decode cX9_dropGhost 1 = .ok (.iload_n 1, 1) := by decide +kernel
theorem dX9_dropGhost_2 : decode cX9_dropGhost 2 = .ok (.iconst 4, 1) := by decide +kernel
theorem dX9_dropGhost_3 : decode cX9_dropGhost 3 = .ok (.invokevirtual 171, 3) := by decide +kernel
theorem dX9_dropGhost_6 : decode cX9_dropGhost 6 = .ok (.iconst (-1), 1) := by decide +kernel
theorem dX9_dropGhost_7 : decode cX9_dropGhost 7 = .ok (.if_icmp .eq 21, 3) := by decide +kernel
theorem dX9_dropGhost_10 : decode cX9_dropGhost 10 = .ok (.aload_n 0, 1) := by decide +kernel
theorem dX9_dropGhost_11 : decode cX9_dropGhost 11 = .ok (.aload_n 0, 1) := by decide +kernel
theorem dX9_dropGhost_12 : decode cX9_dropGhost 12 = .ok (.iload_n 1, 1) := by decide +kernel
theorem dX9_dropGhost_13 : decode cX9_dropGhost 13 = .ok (.iconst 4, 1) := by decide +kernel
theorem dX9_dropGhost_14 : decode cX9_dropGhost 14 = .ok (.invokevirtual 171, 3) := by decide +kernel
theorem dX9_dropGhost_17 : decode cX9_dropGhost 17 = .ok (.iload_n 1, 1) := by decide +kernel
theorem dX9_dropGhost_18 : decode cX9_dropGhost 18 = .ok (.invokevirtual 182, 3) := by decide +kernel
theorem dX9_dropGhost_21 : decode cX9_dropGhost 21 = .ok (.aload_n 0, 1) := by decide +kernel
theorem dX9_dropGhost_22 : decode cX9_dropGhost 22 = .ok (.iload_n 1, 1) := by decide +kernel
theorem dX9_dropGhost_23 : decode cX9_dropGhost 23 = .ok (.iconst 4, 1) := by decide +kernel
theorem dX9_dropGhost_24 : decode cX9_dropGhost 24 = .ok (.iconst (-1), 1) := by decide +kernel
theorem dX9_dropGhost_25 : decode cX9_dropGhost 25 = .ok (.invokevirtual 39, 3) := by decide +kernel
theorem dX9_dropGhost_28 : decode cX9_dropGhost 28 = .ok (.return_, 1) := by decide +kernel
theorem dX9_becomeGhost_0 : decode cX9_becomeGhost 0 = .ok (.aload_n 0, 1) := by decide +kernel
theorem dX9_becomeGhost_1 : decode cX9_becomeGhost 1 = .ok (.iload_n 2, 1) := by decide +kernel
theorem dX9_becomeGhost_2 : decode cX9_becomeGhost 2 = .ok (.invokevirtual 180, 3) := by decide +kernel
theorem dX9_becomeGhost_5 : decode cX9_becomeGhost 5 = .ok (.aload_n 0, 1) := by decide +kernel
theorem dX9_becomeGhost_6 : decode cX9_becomeGhost 6 = .ok (.getfield 7, 3) := by decide +kernel
theorem dX9_becomeGhost_9 : decode cX9_becomeGhost 9 = .ok (.iconst 2, 1) := by decide +kernel
theorem dX9_becomeGhost_10 : decode cX9_becomeGhost 10 = .ok (.iaload, 1) := by decide +kernel
theorem dX9_becomeGhost_11 : decode cX9_becomeGhost 11 = .ok (.if_icmp .ne 19, 3) := by decide +kernel
theorem dX9_becomeGhost_14 : decode cX9_becomeGhost 14 = .ok (.aload_n 0, 1) := by decide +kernel
theorem dX9_becomeGhost_15 : decode cX9_becomeGhost 15 = .ok (.aload_n 0, 1) := by decide +kernel
theorem dX9_becomeGhost_16 : decode cX9_becomeGhost 16 = .ok (.iload_n 2, 1) := by decide +kernel
theorem dX9_becomeGhost_17 : decode cX9_becomeGhost 17 = .ok (.aload_n 0, 1) := by decide +kernel
theorem dX9_becomeGhost_18 : decode cX9_becomeGhost 18 = .ok (.iload_n 2, 1) := by decide +kernel
theorem dX9_becomeGhost_19 : decode cX9_becomeGhost 19 = .ok (.invokevirtual 180, 3) := by decide +kernel
theorem dX9_becomeGhost_22 : decode cX9_becomeGhost 22 = .ok (.iconst 1, 1) := by decide +kernel
theorem dX9_becomeGhost_23 : decode cX9_becomeGhost 23 = .ok (.isub, 1) := by decide +kernel
theorem dX9_becomeGhost_24 : decode cX9_becomeGhost 24 = .ok (.invokevirtual 174, 3) := by decide +kernel
theorem dX9_becomeGhost_27 : decode cX9_becomeGhost 27 = .ok (.invokevirtual 189, 3) := by decide +kernel
theorem dX9_becomeGhost_30 : decode cX9_becomeGhost 30 = .ok (.aload_n 0, 1) := by decide +kernel
theorem dX9_becomeGhost_31 : decode cX9_becomeGhost 31 = .ok (.iload_n 1, 1) := by decide +kernel
theorem dX9_becomeGhost_32 : decode cX9_becomeGhost 32 = .ok (.iconst 4, 1) := by decide +kernel
theorem dX9_becomeGhost_33 : decode cX9_becomeGhost 33 = .ok (.iload_n 2, 1) := by decide +kernel
theorem dX9_becomeGhost_34 : decode cX9_becomeGhost 34 = .ok (.invokevirtual 39, 3) := by decide +kernel
theorem dX9_becomeGhost_37 : decode cX9_becomeGhost 37 = .ok (.aload_n 0, 1) := by decide +kernel
theorem dX9_becomeGhost_38 : decode cX9_becomeGhost 38 = .ok (.iload_n 2, 1) := by decide +kernel
theorem dX9_becomeGhost_39 : decode cX9_becomeGhost 39 = .ok (.iload_n 1, 1) := by decide +kernel
theorem dX9_becomeGhost_40 : decode cX9_becomeGhost 40 = .ok (.invokevirtual 186, 3) := by decide +kernel
theorem dX9_becomeGhost_43 : decode cX9_becomeGhost 43 = .ok (.return_, 1) := by decide +kernel
theorem dX9_isDirty_0 : decode cX9_isDirty 0 = .ok (.aload_n 0, 1) := by decide +kernel
theorem dX9_isDirty_1 : decode cX9_isDirty 1 = .ok (.iload_n 1, 1) := by decide +kernel
theorem dX9_isDirty_2 : decode cX9_isDirty 2 = .ok (.iconst 0, 1) := by decide +kernel
theorem dX9_isDirty_3 : decode cX9_isDirty 3 = .ok (.invokevirtual 171, 3) := by decide +kernel
theorem dX9_isDirty_6 : decode cX9_isDirty 6 = .ok (.iconst (-1), 1) := by decide +kernel
theorem dX9_isDirty_7 : decode cX9_isDirty 7 = .ok (.if_icmp .eq 17, 3) := by decide +kernel
theorem dX9_isDirty_10 : decode cX9_isDirty 10 = .ok (.aload_n 0, 1) := by decide +kernel
theorem dX9_isDirty_11 : decode cX9_isDirty 11 = .ok (.iload_n 1, 1) := by decide +kernel
theorem dX9_isDirty_12 : decode cX9_isDirty 12 = .ok (.iconst 3, 1) := by decide +kernel
theorem dX9_isDirty_13 : decode cX9_isDirty 13 = .ok (.invokevirtual 171, 3) := by decide +kernel
theorem dX9_isDirty_16 : decode cX9_isDirty 16 = .ok (.iconst (-1), 1) := by decide +kernel
theorem dX9_isDirty_17 : decode cX9_isDirty 17 = .ok (.if_icmp .eq 7, 3) := by decide +kernel
theorem dX9_isDirty_20 : decode cX9_isDirty 20 = .ok (.iconst 1, 1) := by decide +kernel
theorem dX9_isDirty_21 : decode cX9_isDirty 21 = .ok (.goto 4, 3) := by decide +kernel
theorem dX9_isDirty_24 : decode cX9_isDirty 24 = .ok (.iconst 0, 1) := by decide +kernel
theorem dX9_isDirty_25 : decode cX9_isDirty 25 = .ok (.ireturn, 1) := by decide +kernel
theorem dX9_dirtyUnits_0 : decode cX9_dirtyUnits 0 = .ok (.iconst 0, 1) := by decide +kernel
theorem dX9_dirtyUnits_1 : decode cX9_dirtyUnits 1 = .ok (.istore_n 1, 1) := by decide +kernel
theorem dX9_dirtyUnits_2 : decode cX9_dirtyUnits 2 = .ok (.iconst 0, 1) := by decide +kernel
theorem dX9_dirtyUnits_3 : decode cX9_dirtyUnits 3 = .ok (.istore_n 2, 1) := by decide +kernel
theorem dX9_dirtyUnits_4 : decode cX9_dirtyUnits 4 = .ok (.iload_n 2, 1) := by decide +kernel
theorem dX9_dirtyUnits_5 : decode cX9_dirtyUnits 5 = .ok (.sipush 200, 3) := by decide +kernel
theorem dX9_dirtyUnits_8 : decode cX9_dirtyUnits 8 = .ok (.if_icmp .ge 25, 3) := by decide +kernel
theorem dX9_dirtyUnits_11 : decode cX9_dirtyUnits 11 = .ok (.iload_n 1, 1) := by decide +kernel
theorem dX9_dirtyUnits_12 : decode cX9_dirtyUnits 12 = .ok (.aload_n 0, 1) := by decide +kernel
theorem dX9_dirtyUnits_13 : decode cX9_dirtyUnits 13 = .ok (.iload_n 2, 1) := by decide +kernel
theorem dX9_dirtyUnits_14 : decode cX9_dirtyUnits 14 = .ok (.invokevirtual 193, 3) := by decide +kernel
theorem dX9_dirtyUnits_17 : decode cX9_dirtyUnits 17 = .ok (.ifCond .eq 7, 3) := by decide +kernel
theorem dX9_dirtyUnits_20 : decode cX9_dirtyUnits 20 = .ok (.iconst 1, 1) := by decide +kernel
theorem dX9_dirtyUnits_21 : decode cX9_dirtyUnits 21 = .ok (.goto 4, 3) := by decide +kernel
theorem dX9_dirtyUnits_24 : decode cX9_dirtyUnits 24 = .ok (.iconst 0, 1) := by decide +kernel
theorem dX9_dirtyUnits_25 : decode cX9_dirtyUnits 25 = .ok (.iadd, 1) := by decide +kernel
theorem dX9_dirtyUnits_26 : decode cX9_dirtyUnits 26 = .ok (.istore_n 1, 1) := by decide +kernel
theorem dX9_dirtyUnits_27 : decode cX9_dirtyUnits 27 = .ok (.iinc 2 1, 3) := by decide +kernel
theorem dX9_dirtyUnits_30 : decode cX9_dirtyUnits 30 = .ok (.goto (-26), 3) := by decide +kernel
theorem dX9_dirtyUnits_33 : decode cX9_dirtyUnits 33 = .ok (.iload_n 1, 1) := by decide +kernel
theorem dX9_dirtyUnits_34 : decode cX9_dirtyUnits 34 = .ok (.ireturn, 1) := by decide +kernel
theorem dX9_inOrder_0 : decode cX9_inOrder 0 = .ok (.iload_n 1, 1) := by decide +kernel
theorem dX9_inOrder_1 : decode cX9_inOrder 1 = .ok (.istore_n 2, 1) := by decide +kernel
theorem dX9_inOrder_2 : decode cX9_inOrder 2 = .ok (.iconst 0, 1) := by decide +kernel
theorem dX9_inOrder_3 : decode cX9_inOrder 3 = .ok (.istore_n 3, 1) := by decide +kernel
theorem dX9_inOrder_4 : decode cX9_inOrder 4 = .ok (.iload_n 3, 1) := by decide +kernel
theorem dX9_inOrder_5 : decode cX9_inOrder 5 = .ok (.sipush 200, 3) := by decide +kernel
theorem dX9_inOrder_8 : decode cX9_inOrder 8 = .ok (.if_icmp .ge 43, 3) := by decide +kernel
theorem dX9_inOrder_11 : decode cX9_inOrder 11 = .ok (.aload_n 0, 1) := by decide +kernel
theorem dX9_inOrder_12 : decode cX9_inOrder 12 = .ok (.getfield 7, 3) := by decide +kernel
theorem dX9_inOrder_15 : decode cX9_inOrder 15 = .ok (.bipush 13, 2) := by decide +kernel
theorem dX9_inOrder_17 : decode cX9_inOrder 17 = .ok (.iaload, 1) := by decide +kernel
theorem dX9_inOrder_18 : decode cX9_inOrder 18 = .ok (.iload_n 3, 1) := by decide +kernel
theorem dX9_inOrder_19 : decode cX9_inOrder 19 = .ok (.iadd, 1) := by decide +kernel
theorem dX9_inOrder_20 : decode cX9_inOrder 20 = .ok (.sipush 200, 3) := by decide +kernel
theorem dX9_inOrder_23 : decode cX9_inOrder 23 = .ok (.irem, 1) := by decide +kernel
theorem dX9_inOrder_24 : decode cX9_inOrder 24 = .ok (.istore 4, 2) := by decide +kernel
theorem dX9_inOrder_26 : decode cX9_inOrder 26 = .ok (.aload_n 0, 1) := by decide +kernel
theorem dX9_inOrder_27 : decode cX9_inOrder 27 = .ok (.iload 4, 2) := by decide +kernel
theorem dX9_inOrder_29 : decode cX9_inOrder 29 = .ok (.invokevirtual 193, 3) := by decide +kernel
theorem dX9_inOrder_32 : decode cX9_inOrder 32 = .ok (.ifCond .eq 13, 3) := by decide +kernel
theorem dX9_inOrder_35 : decode cX9_inOrder 35 = .ok (.iload_n 2, 1) := by decide +kernel
theorem dX9_inOrder_36 : decode cX9_inOrder 36 = .ok (.ifCond .ne 6, 3) := by decide +kernel
theorem dX9_inOrder_39 : decode cX9_inOrder 39 = .ok (.iload 4, 2) := by decide +kernel
theorem dX9_inOrder_41 : decode cX9_inOrder 41 = .ok (.ireturn, 1) := by decide +kernel
theorem dX9_inOrder_42 : decode cX9_inOrder 42 = .ok (.iinc 2 (-1), 3) := by decide +kernel
theorem dX9_inOrder_45 : decode cX9_inOrder 45 = .ok (.iinc 3 1, 3) := by decide +kernel
theorem dX9_inOrder_48 : decode cX9_inOrder 48 = .ok (.goto (-44), 3) := by decide +kernel
theorem dX9_inOrder_51 : decode cX9_inOrder 51 = .ok (.iconst (-1), 1) := by decide +kernel
theorem dX9_inOrder_52 : decode cX9_inOrder 52 = .ok (.ireturn, 1) := by decide +kernel
theorem dX9_writeUnit_0 : decode cX9_writeUnit 0 = .ok (.aload_n 0, 1) := by decide +kernel
theorem dX9_writeUnit_1 : decode cX9_writeUnit 1 = .ok (.getfield 7, 3) := by decide +kernel
theorem dX9_writeUnit_4 : decode cX9_writeUnit 4 = .ok (.sipush 1184, 3) := by decide +kernel
theorem dX9_writeUnit_7 : decode cX9_writeUnit 7 = .ok (.iload_n 1, 1) := by decide +kernel
theorem dX9_writeUnit_8 : decode cX9_writeUnit 8 = .ok (.iadd, 1) := by decide +kernel
theorem dX9_writeUnit_9 : decode cX9_writeUnit 9 = .ok (.aload_n 0, 1) := by decide +kernel
theorem dX9_writeUnit_10 : decode cX9_writeUnit 10 = .ok (.iload_n 1, 1) := by decide +kernel
theorem dX9_writeUnit_11 : decode cX9_writeUnit 11 = .ok (.iconst 1, 1) := by decide +kernel
theorem dX9_writeUnit_12 : decode cX9_writeUnit 12 = .ok (.invokevirtual 171, 3) := by decide +kernel
theorem dX9_writeUnit_15 : decode cX9_writeUnit 15 = .ok (.iastore, 1) := by decide +kernel
theorem dX9_writeUnit_16 : decode cX9_writeUnit 16 = .ok (.aload_n 0, 1) := by decide +kernel
theorem dX9_writeUnit_17 : decode cX9_writeUnit 17 = .ok (.iload_n 1, 1) := by decide +kernel
theorem dX9_writeUnit_18 : decode cX9_writeUnit 18 = .ok (.iconst 3, 1) := by decide +kernel
theorem dX9_writeUnit_19 : decode cX9_writeUnit 19 = .ok (.iconst (-1), 1) := by decide +kernel
theorem dX9_writeUnit_20 : decode cX9_writeUnit 20 = .ok (.invokevirtual 39, 3) := by decide +kernel
theorem dX9_writeUnit_23 : decode cX9_writeUnit 23 = .ok (.aload_n 0, 1) := by decide +kernel
theorem dX9_writeUnit_24 : decode cX9_writeUnit 24 = .ok (.getfield 7, 3) := by decide +kernel
theorem dX9_writeUnit_27 : decode cX9_writeUnit 27 = .ok (.bipush 13, 2) := by decide +kernel
theorem dX9_writeUnit_29 : decode cX9_writeUnit 29 = .ok (.iload_n 1, 1) := by decide +kernel
theorem dX9_writeUnit_30 : decode cX9_writeUnit 30 = .ok (.iconst 1, 1) := by decide +kernel
theorem dX9_writeUnit_31 : decode cX9_writeUnit 31 = .ok (.iadd, 1) := by decide +kernel
theorem dX9_writeUnit_32 : decode cX9_writeUnit 32 = .ok (.sipush 200, 3) := by decide +kernel
theorem dX9_writeUnit_35 : decode cX9_writeUnit 35 = .ok (.irem, 1) := by decide +kernel
theorem dX9_writeUnit_36 : decode cX9_writeUnit 36 = .ok (.iastore, 1) := by decide +kernel
theorem dX9_writeUnit_37 : decode cX9_writeUnit 37 = .ok (.aload_n 0, 1) := by decide +kernel
theorem dX9_writeUnit_38 : decode cX9_writeUnit 38 = .ok (.getfield 7, 3) := by decide +kernel
theorem dX9_writeUnit_41 : decode cX9_writeUnit 41 = .ok (.bipush 21, 2) := by decide +kernel
theorem dX9_writeUnit_43 : decode cX9_writeUnit 43 = .ok (.dup2, 1) := by decide +kernel
theorem dX9_writeUnit_44 : decode cX9_writeUnit 44 = .ok (.iaload, 1) := by decide +kernel
theorem dX9_writeUnit_45 : decode cX9_writeUnit 45 = .ok (.iconst 1, 1) := by decide +kernel
theorem dX9_writeUnit_46 : decode cX9_writeUnit 46 = .ok (.iadd, 1) := by decide +kernel
theorem dX9_writeUnit_47 : decode cX9_writeUnit 47 = .ok (.iastore, 1) := by decide +kernel
theorem dX9_writeUnit_48 : decode cX9_writeUnit 48 = .ok (.return_, 1) := by decide +kernel
theorem dX9_writeBack_0 : decode cX9_writeBack 0 = .ok (.iconst 0, 1) := by decide +kernel
theorem dX9_writeBack_1 : decode cX9_writeBack 1 = .ok (.istore_n 2, 1) := by decide +kernel
theorem dX9_writeBack_2 : decode cX9_writeBack 2 = .ok (.aload_n 0, 1) := by decide +kernel
theorem dX9_writeBack_3 : decode cX9_writeBack 3 = .ok (.iconst 0, 1) := by decide +kernel
theorem dX9_writeBack_4 : decode cX9_writeBack 4 = .ok (.invokevirtual 196, 3) := by decide +kernel
theorem dX9_writeBack_7 : decode cX9_writeBack 7 = .ok (.istore_n 3, 1) := by decide +kernel
theorem dX9_writeBack_8 : decode cX9_writeBack 8 = .ok (.iload_n 2, 1) := by decide +kernel
theorem dX9_writeBack_9 : decode cX9_writeBack 9 = .ok (.iload_n 1, 1) := by decide +kernel
theorem dX9_writeBack_10 : decode cX9_writeBack 10 = .ok (.if_icmp .ge 25, 3) := by decide +kernel
theorem dX9_writeBack_13 : decode cX9_writeBack 13 = .ok (.iload_n 3, 1) := by decide +kernel
theorem dX9_writeBack_14 : decode cX9_writeBack 14 = .ok (.iconst (-1), 1) := by decide +kernel
theorem dX9_writeBack_15 : decode cX9_writeBack 15 = .ok (.if_icmp .eq 20, 3) := by decide +kernel
theorem dX9_writeBack_18 : decode cX9_writeBack 18 = .ok (.aload_n 0, 1) := by decide +kernel
theorem dX9_writeBack_19 : decode cX9_writeBack 19 = .ok (.iload_n 3, 1) := by decide +kernel
theorem dX9_writeBack_20 : decode cX9_writeBack 20 = .ok (.invokevirtual 199, 3) := by decide +kernel
theorem dX9_writeBack_23 : decode cX9_writeBack 23 = .ok (.iinc 2 1, 3) := by decide +kernel
theorem dX9_writeBack_26 : decode cX9_writeBack 26 = .ok (.aload_n 0, 1) := by decide +kernel
theorem dX9_writeBack_27 : decode cX9_writeBack 27 = .ok (.iconst 0, 1) := by decide +kernel
theorem dX9_writeBack_28 : decode cX9_writeBack 28 = .ok (.invokevirtual 196, 3) := by decide +kernel
theorem dX9_writeBack_31 : decode cX9_writeBack 31 = .ok (.istore_n 3, 1) := by decide +kernel
theorem dX9_writeBack_32 : decode cX9_writeBack 32 = .ok (.goto (-24), 3) := by decide +kernel
theorem dX9_writeBack_35 : decode cX9_writeBack 35 = .ok (.iload_n 2, 1) := by decide +kernel
theorem dX9_writeBack_36 : decode cX9_writeBack 36 = .ok (.ireturn, 1) := by decide +kernel
theorem dX9_unitsOf_0 : decode cX9_unitsOf 0 = .ok (.iconst 0, 1) := by decide +kernel
theorem dX9_unitsOf_1 : decode cX9_unitsOf 1 = .ok (.istore_n 3, 1) := by decide +kernel
theorem dX9_unitsOf_2 : decode cX9_unitsOf 2 = .ok (.iload_n 2, 1) := by decide +kernel
theorem dX9_unitsOf_3 : decode cX9_unitsOf 3 = .ok (.ifCond .eq 7, 3) := by decide +kernel
theorem dX9_unitsOf_6 : decode cX9_unitsOf 6 = .ok (.iconst 0, 1) := by decide +kernel
theorem dX9_unitsOf_7 : decode cX9_unitsOf 7 = .ok (.goto 4, 3) := by decide +kernel
theorem dX9_unitsOf_10 : decode cX9_unitsOf 10 = .ok (.iconst 2, 1) := by decide +kernel
theorem dX9_unitsOf_11 : decode cX9_unitsOf 11 = .ok (.istore 4, 2) := by decide +kernel
theorem dX9_unitsOf_13 : decode cX9_unitsOf 13 = .ok (.iload 4, 2) := by decide +kernel
theorem dX9_unitsOf_15 : decode cX9_unitsOf 15 = .ok (.iload_n 2, 1) := by decide +kernel
theorem dX9_unitsOf_16 : decode cX9_unitsOf 16 = .ok (.ifCond .eq 7, 3) := by decide +kernel
theorem dX9_unitsOf_19 : decode cX9_unitsOf 19 = .ok (.iconst 1, 1) := by decide +kernel
theorem dX9_unitsOf_20 : decode cX9_unitsOf 20 = .ok (.goto 4, 3) := by decide +kernel
theorem dX9_unitsOf_23 : decode cX9_unitsOf 23 = .ok (.iconst 2, 1) := by decide +kernel
theorem dX9_unitsOf_24 : decode cX9_unitsOf 24 = .ok (.if_icmp .gt 54, 3) := by decide +kernel
theorem dX9_unitsOf_27 : decode cX9_unitsOf 27 = .ok (.iconst 0, 1) := by decide +kernel
theorem dX9_unitsOf_28 : decode cX9_unitsOf 28 = .ok (.istore 5, 2) := by decide +kernel
theorem dX9_unitsOf_30 : decode cX9_unitsOf 30 = .ok (.iload 5, 2) := by decide +kernel
theorem dX9_unitsOf_32 : decode cX9_unitsOf 32 = .ok (.aload_n 0, 1) := by decide +kernel
theorem dX9_unitsOf_33 : decode cX9_unitsOf 33 = .ok (.iload 4, 2) := by decide +kernel
theorem dX9_unitsOf_35 : decode cX9_unitsOf 35 = .ok (.invokevirtual 180, 3) := by decide +kernel
theorem dX9_unitsOf_38 : decode cX9_unitsOf 38 = .ok (.if_icmp .ge 34, 3) := by decide +kernel
theorem dX9_unitsOf_41 : decode cX9_unitsOf 41 = .ok (.iload_n 3, 1) := by decide +kernel
theorem dX9_unitsOf_42 : decode cX9_unitsOf 42 = .ok (.aload_n 0, 1) := by decide +kernel
theorem dX9_unitsOf_43 : decode cX9_unitsOf 43 = .ok (.aload_n 0, 1) := by decide +kernel
theorem dX9_unitsOf_44 : decode cX9_unitsOf 44 = .ok (.iload 4, 2) := by decide +kernel
theorem dX9_unitsOf_46 : decode cX9_unitsOf 46 = .ok (.iload 5, 2) := by decide +kernel
theorem dX9_unitsOf_48 : decode cX9_unitsOf 48 = .ok (.invokevirtual 174, 3) := by decide +kernel
theorem dX9_unitsOf_51 : decode cX9_unitsOf 51 = .ok (.iconst 2, 1) := by decide +kernel
theorem dX9_unitsOf_52 : decode cX9_unitsOf 52 = .ok (.invokevirtual 171, 3) := by decide +kernel
theorem dX9_unitsOf_55 : decode cX9_unitsOf 55 = .ok (.iload_n 1, 1) := by decide +kernel
theorem dX9_unitsOf_56 : decode cX9_unitsOf 56 = .ok (.if_icmp .ne 7, 3) := by decide +kernel
theorem dX9_unitsOf_59 : decode cX9_unitsOf 59 = .ok (.iconst 1, 1) := by decide +kernel
theorem dX9_unitsOf_60 : decode cX9_unitsOf 60 = .ok (.goto 4, 3) := by decide +kernel
theorem dX9_unitsOf_63 : decode cX9_unitsOf 63 = .ok (.iconst 0, 1) := by decide +kernel
theorem dX9_unitsOf_64 : decode cX9_unitsOf 64 = .ok (.iadd, 1) := by decide +kernel
theorem dX9_unitsOf_65 : decode cX9_unitsOf 65 = .ok (.istore_n 3, 1) := by decide +kernel
theorem dX9_unitsOf_66 : decode cX9_unitsOf 66 = .ok (.iinc 5 1, 3) := by decide +kernel
theorem dX9_unitsOf_69 : decode cX9_unitsOf 69 = .ok (.goto (-39), 3) := by decide +kernel
theorem dX9_unitsOf_72 : decode cX9_unitsOf 72 = .ok (.iinc 4 1, 3) := by decide +kernel
theorem dX9_unitsOf_75 : decode cX9_unitsOf 75 = .ok (.goto (-62), 3) := by decide +kernel
theorem dX9_unitsOf_78 : decode cX9_unitsOf 78 = .ok (.iload_n 3, 1) := by decide +kernel
theorem dX9_unitsOf_79 : decode cX9_unitsOf 79 = .ok (.ireturn, 1) := by decide +kernel
theorem dX9_allWeights_0 : decode cX9_allWeights 0 = .ok (.iconst 0, 1) := by decide +kernel
theorem dX9_allWeights_1 : decode cX9_allWeights 1 = .ok (.istore_n 1, 1) := by decide +kernel
theorem dX9_allWeights_2 : decode cX9_allWeights 2 = .ok (.iconst 0, 1) := by decide +kernel
theorem dX9_allWeights_3 : decode cX9_allWeights 3 = .ok (.istore_n 2, 1) := by decide +kernel
theorem dX9_allWeights_4 : decode cX9_allWeights 4 = .ok (.iload_n 2, 1) := by decide +kernel
theorem dX9_allWeights_5 : decode cX9_allWeights 5 = .ok (.aload_n 0, 1) := by decide +kernel
theorem dX9_allWeights_6 : decode cX9_allWeights 6 = .ok (.getfield 7, 3) := by decide +kernel
theorem dX9_allWeights_9 : decode cX9_allWeights 9 = .ok (.bipush 6, 2) := by decide +kernel
theorem dX9_allWeights_11 : decode cX9_allWeights 11 = .ok (.iaload, 1) := by decide +kernel
theorem dX9_allWeights_12 : decode cX9_allWeights 12 = .ok (.if_icmp .ge 18, 3) := by decide +kernel
theorem dX9_allWeights_15 : decode cX9_allWeights 15 = .ok (.iload_n 1, 1) := by decide +kernel
theorem dX9_allWeights_16 : decode cX9_allWeights 16 = .ok (.aload_n 0, 1) := by decide +kernel
theorem dX9_allWeights_17 : decode cX9_allWeights 17 = .ok (.iload_n 2, 1) := by decide +kernel
theorem dX9_allWeights_18 : decode cX9_allWeights 18 = .ok (.iconst 0, 1) := by decide +kernel
theorem dX9_allWeights_19 : decode cX9_allWeights 19 = .ok (.invokevirtual 168, 3) := by decide +kernel
theorem dX9_allWeights_22 : decode cX9_allWeights 22 = .ok (.iadd, 1) := by decide +kernel
theorem dX9_allWeights_23 : decode cX9_allWeights 23 = .ok (.istore_n 1, 1) := by decide +kernel
theorem dX9_allWeights_24 : decode cX9_allWeights 24 = .ok (.iinc 2 1, 3) := by decide +kernel
theorem dX9_allWeights_27 : decode cX9_allWeights 27 = .ok (.goto (-23), 3) := by decide +kernel
theorem dX9_allWeights_30 : decode cX9_allWeights 30 = .ok (.iload_n 1, 1) := by decide +kernel
theorem dX9_allWeights_31 : decode cX9_allWeights 31 = .ok (.ireturn, 1) := by decide +kernel
theorem dX9_hasTooMuch_0 : decode cX9_hasTooMuch 0 = .ok (.aload_n 0, 1) := by decide +kernel
theorem dX9_hasTooMuch_1 : decode cX9_hasTooMuch 1 = .ok (.iload_n 1, 1) := by decide +kernel
theorem dX9_hasTooMuch_2 : decode cX9_hasTooMuch 2 = .ok (.iconst 1, 1) := by decide +kernel
theorem dX9_hasTooMuch_3 : decode cX9_hasTooMuch 3 = .ok (.invokevirtual 202, 3) := by decide +kernel
theorem dX9_hasTooMuch_6 : decode cX9_hasTooMuch 6 = .ok (.aload_n 0, 1) := by decide +kernel
theorem dX9_hasTooMuch_7 : decode cX9_hasTooMuch 7 = .ok (.invokevirtual 206, 3) := by decide +kernel
theorem dX9_hasTooMuch_10 : decode cX9_hasTooMuch 10 = .ok (.imul, 1) := by decide +kernel
theorem dX9_hasTooMuch_11 : decode cX9_hasTooMuch 11 = .ok (.aload_n 0, 1) := by decide +kernel
theorem dX9_hasTooMuch_12 : decode cX9_hasTooMuch 12 = .ok (.getfield 7, 3) := by decide +kernel
theorem dX9_hasTooMuch_15 : decode cX9_hasTooMuch 15 = .ok (.iconst 2, 1) := by decide +kernel
theorem dX9_hasTooMuch_16 : decode cX9_hasTooMuch 16 = .ok (.iaload, 1) := by decide +kernel
theorem dX9_hasTooMuch_17 : decode cX9_hasTooMuch 17 = .ok (.aload_n 0, 1) := by decide +kernel
theorem dX9_hasTooMuch_18 : decode cX9_hasTooMuch 18 = .ok (.iload_n 1, 1) := by decide +kernel
theorem dX9_hasTooMuch_19 : decode cX9_hasTooMuch 19 = .ok (.iconst 0, 1) := by decide +kernel
theorem dX9_hasTooMuch_20 : decode cX9_hasTooMuch 20 = .ok (.invokevirtual 168, 3) := by decide +kernel
theorem dX9_hasTooMuch_23 : decode cX9_hasTooMuch 23 = .ok (.imul, 1) := by decide +kernel
theorem dX9_hasTooMuch_24 : decode cX9_hasTooMuch 24 = .ok (.if_icmp .le 7, 3) := by decide +kernel
theorem dX9_hasTooMuch_27 : decode cX9_hasTooMuch 27 = .ok (.iconst 1, 1) := by decide +kernel
theorem dX9_hasTooMuch_28 : decode cX9_hasTooMuch 28 = .ok (.goto 4, 3) := by decide +kernel
theorem dX9_hasTooMuch_31 : decode cX9_hasTooMuch 31 = .ok (.iconst 0, 1) := by decide +kernel
theorem dX9_hasTooMuch_32 : decode cX9_hasTooMuch 32 = .ok (.ireturn, 1) := by decide +kernel
theorem dX9_victimList_0 : decode cX9_victimList 0 = .ok (.aload_n 0, 1) := by decide +kernel
theorem dX9_victimList_1 : decode cX9_victimList 1 = .ok (.iconst 0, 1) := by decide +kernel
theorem dX9_victimList_2 : decode cX9_victimList 2 = .ok (.invokevirtual 180, 3) := by decide +kernel
theorem dX9_victimList_5 : decode cX9_victimList 5 = .ok (.istore_n 2, 1) := by decide +kernel
theorem dX9_victimList_6 : decode cX9_victimList 6 = .ok (.iload_n 2, 1) := by decide +kernel
theorem dX9_victimList_7 : decode cX9_victimList 7 = .ok (.aload_n 0, 1) := by decide +kernel
theorem dX9_victimList_8 : decode cX9_victimList 8 = .ok (.getfield 7, 3) := by decide +kernel
theorem dX9_victimList_11 : decode cX9_victimList 11 = .ok (.iconst 4, 1) := by decide +kernel
theorem dX9_victimList_12 : decode cX9_victimList 12 = .ok (.iaload, 1) := by decide +kernel
theorem dX9_victimList_13 : decode cX9_victimList 13 = .ok (.if_icmp .gt 25, 3) := by decide +kernel
theorem dX9_victimList_16 : decode cX9_victimList 16 = .ok (.iload_n 2, 1) := by decide +kernel
theorem dX9_victimList_17 : decode cX9_victimList 17 = .ok (.aload_n 0, 1) := by decide +kernel
theorem dX9_victimList_18 : decode cX9_victimList 18 = .ok (.getfield 7, 3) := by decide +kernel
theorem dX9_victimList_21 : decode cX9_victimList 21 = .ok (.iconst 4, 1) := by decide +kernel
theorem dX9_victimList_22 : decode cX9_victimList 22 = .ok (.iaload, 1) := by decide +kernel
theorem dX9_victimList_23 : decode cX9_victimList 23 = .ok (.if_icmp .ne 7, 3) := by decide +kernel
theorem dX9_victimList_26 : decode cX9_victimList 26 = .ok (.iload_n 1, 1) := by decide +kernel
theorem dX9_victimList_27 : decode cX9_victimList 27 = .ok (.ifCond .ne 11, 3) := by decide +kernel
theorem dX9_victimList_30 : decode cX9_victimList 30 = .ok (.aload_n 0, 1) := by decide +kernel
theorem dX9_victimList_31 : decode cX9_victimList 31 = .ok (.iconst 1, 1) := by decide +kernel
theorem dX9_victimList_32 : decode cX9_victimList 32 = .ok (.invokevirtual 180, 3) := by decide +kernel
theorem dX9_victimList_35 : decode cX9_victimList 35 = .ok (.ifCond .ne 7, 3) := by decide +kernel
theorem dX9_victimList_38 : decode cX9_victimList 38 = .ok (.iconst 1, 1) := by decide +kernel
theorem dX9_victimList_39 : decode cX9_victimList 39 = .ok (.goto 4, 3) := by decide +kernel
theorem dX9_victimList_42 : decode cX9_victimList 42 = .ok (.iconst 0, 1) := by decide +kernel
theorem dX9_victimList_43 : decode cX9_victimList 43 = .ok (.istore_n 3, 1) := by decide +kernel
theorem dX9_victimList_44 : decode cX9_victimList 44 = .ok (.iload_n 2, 1) := by decide +kernel
theorem dX9_victimList_45 : decode cX9_victimList 45 = .ok (.ifCond .le 11, 3) := by decide +kernel
theorem dX9_victimList_48 : decode cX9_victimList 48 = .ok (.iload_n 3, 1) := by decide +kernel
theorem dX9_victimList_49 : decode cX9_victimList 49 = .ok (.ifCond .eq 7, 3) := by decide +kernel
theorem dX9_victimList_52 : decode cX9_victimList 52 = .ok (.iconst 0, 1) := by decide +kernel
theorem dX9_victimList_53 : decode cX9_victimList 53 = .ok (.goto 4, 3) := by decide +kernel
theorem dX9_victimList_56 : decode cX9_victimList 56 = .ok (.iconst 1, 1) := by decide +kernel
theorem dX9_victimList_57 : decode cX9_victimList 57 = .ok (.ireturn, 1) := by decide +kernel
theorem dX9_victimOf_0 : decode cX9_victimOf 0 = .ok (.aload_n 0, 1) := by decide +kernel
theorem dX9_victimOf_1 : decode cX9_victimOf 1 = .ok (.iload_n 1, 1) := by decide +kernel
theorem dX9_victimOf_2 : decode cX9_victimOf 2 = .ok (.invokevirtual 180, 3) := by decide +kernel
theorem dX9_victimOf_5 : decode cX9_victimOf 5 = .ok (.iconst 1, 1) := by decide +kernel
theorem dX9_victimOf_6 : decode cX9_victimOf 6 = .ok (.isub, 1) := by decide +kernel
theorem dX9_victimOf_7 : decode cX9_victimOf 7 = .ok (.istore_n 2, 1) := by decide +kernel
theorem dX9_victimOf_8 : decode cX9_victimOf 8 = .ok (.iload_n 2, 1) := by decide +kernel
theorem dX9_victimOf_9 : decode cX9_victimOf 9 = .ok (.ifCond .lt 34, 3) := by decide +kernel
theorem dX9_victimOf_12 : decode cX9_victimOf 12 = .ok (.aload_n 0, 1) := by decide +kernel
theorem dX9_victimOf_13 : decode cX9_victimOf 13 = .ok (.aload_n 0, 1) := by decide +kernel
theorem dX9_victimOf_14 : decode cX9_victimOf 14 = .ok (.aload_n 0, 1) := by decide +kernel
theorem dX9_victimOf_15 : decode cX9_victimOf 15 = .ok (.iload_n 1, 1) := by decide +kernel
theorem dX9_victimOf_16 : decode cX9_victimOf 16 = .ok (.iload_n 2, 1) := by decide +kernel
theorem dX9_victimOf_17 : decode cX9_victimOf 17 = .ok (.invokevirtual 174, 3) := by decide +kernel
theorem dX9_victimOf_20 : decode cX9_victimOf 20 = .ok (.iconst 2, 1) := by decide +kernel
theorem dX9_victimOf_21 : decode cX9_victimOf 21 = .ok (.invokevirtual 171, 3) := by decide +kernel
theorem dX9_victimOf_24 : decode cX9_victimOf 24 = .ok (.invokevirtual 209, 3) := by decide +kernel
theorem dX9_victimOf_27 : decode cX9_victimOf 27 = .ok (.ifCond .eq 10, 3) := by decide +kernel
theorem dX9_victimOf_30 : decode cX9_victimOf 30 = .ok (.aload_n 0, 1) := by decide +kernel
theorem dX9_victimOf_31 : decode cX9_victimOf 31 = .ok (.iload_n 1, 1) := by decide +kernel
theorem dX9_victimOf_32 : decode cX9_victimOf 32 = .ok (.iload_n 2, 1) := by decide +kernel
theorem dX9_victimOf_33 : decode cX9_victimOf 33 = .ok (.invokevirtual 174, 3) := by decide +kernel
theorem dX9_victimOf_36 : decode cX9_victimOf 36 = .ok (.ireturn, 1) := by decide +kernel
theorem dX9_victimOf_37 : decode cX9_victimOf 37 = .ok (.iinc 2 (-1), 3) := by decide +kernel
theorem dX9_victimOf_40 : decode cX9_victimOf 40 = .ok (.goto (-32), 3) := by decide +kernel
theorem dX9_victimOf_43 : decode cX9_victimOf 43 = .ok (.aload_n 0, 1) := by decide +kernel
theorem dX9_victimOf_44 : decode cX9_victimOf 44 = .ok (.iload_n 1, 1) := by decide +kernel
theorem dX9_victimOf_45 : decode cX9_victimOf 45 = .ok (.aload_n 0, 1) := by decide +kernel
theorem dX9_victimOf_46 : decode cX9_victimOf 46 = .ok (.iload_n 1, 1) := by decide +kernel
theorem dX9_victimOf_47 : decode cX9_victimOf 47 = .ok (.invokevirtual 180, 3) := by decide +kernel
theorem dX9_victimOf_50 : decode cX9_victimOf 50 = .ok (.iconst 1, 1) := by decide +kernel
theorem dX9_victimOf_51 : decode cX9_victimOf 51 = .ok (.isub, 1) := by decide +kernel
theorem dX9_victimOf_52 : decode cX9_victimOf 52 = .ok (.invokevirtual 174, 3) := by decide +kernel
theorem dX9_victimOf_55 : decode cX9_victimOf 55 = .ok (.ireturn, 1) := by decide +kernel
theorem dX9_leavingUnit_0 : decode cX9_leavingUnit 0 = .ok (.aload_n 0, 1) := by decide +kernel
theorem dX9_leavingUnit_1 : decode cX9_leavingUnit 1 = .ok (.iconst 2, 1) := by decide +kernel
theorem dX9_leavingUnit_2 : decode cX9_leavingUnit 2 = .ok (.invokevirtual 180, 3) := by decide +kernel
theorem dX9_leavingUnit_5 : decode cX9_leavingUnit 5 = .ok (.iconst 1, 1) := by decide +kernel
theorem dX9_leavingUnit_6 : decode cX9_leavingUnit 6 = .ok (.isub, 1) := by decide +kernel
theorem dX9_leavingUnit_7 : decode cX9_leavingUnit 7 = .ok (.istore_n 1, 1) := by decide +kernel
theorem dX9_leavingUnit_8 : decode cX9_leavingUnit 8 = .ok (.iload_n 1, 1) := by decide +kernel
theorem dX9_leavingUnit_9 : decode cX9_leavingUnit 9 = .ok (.ifCond .lt 31, 3) := by decide +kernel
theorem dX9_leavingUnit_12 : decode cX9_leavingUnit 12 = .ok (.aload_n 0, 1) := by decide +kernel
theorem dX9_leavingUnit_13 : decode cX9_leavingUnit 13 = .ok (.aload_n 0, 1) := by decide +kernel
theorem dX9_leavingUnit_14 : decode cX9_leavingUnit 14 = .ok (.iconst 2, 1) := by decide +kernel
theorem dX9_leavingUnit_15 : decode cX9_leavingUnit 15 = .ok (.iload_n 1, 1) := by decide +kernel
theorem dX9_leavingUnit_16 : decode cX9_leavingUnit 16 = .ok (.invokevirtual 174, 3) := by decide +kernel
theorem dX9_leavingUnit_19 : decode cX9_leavingUnit 19 = .ok (.iconst 3, 1) := by decide +kernel
theorem dX9_leavingUnit_20 : decode cX9_leavingUnit 20 = .ok (.invokevirtual 171, 3) := by decide +kernel
theorem dX9_leavingUnit_23 : decode cX9_leavingUnit 23 = .ok (.iconst (-1), 1) := by decide +kernel
theorem dX9_leavingUnit_24 : decode cX9_leavingUnit 24 = .ok (.if_icmp .ne 10, 3) := by decide +kernel
theorem dX9_leavingUnit_27 : decode cX9_leavingUnit 27 = .ok (.aload_n 0, 1) := by decide +kernel
theorem dX9_leavingUnit_28 : decode cX9_leavingUnit 28 = .ok (.iconst 2, 1) := by decide +kernel
theorem dX9_leavingUnit_29 : decode cX9_leavingUnit 29 = .ok (.iload_n 1, 1) := by decide +kernel
theorem dX9_leavingUnit_30 : decode cX9_leavingUnit 30 = .ok (.invokevirtual 174, 3) := by decide +kernel
theorem dX9_leavingUnit_33 : decode cX9_leavingUnit 33 = .ok (.ireturn, 1) := by decide +kernel
theorem dX9_leavingUnit_34 : decode cX9_leavingUnit 34 = .ok (.iinc 1 (-1), 3) := by decide +kernel
theorem dX9_leavingUnit_37 : decode cX9_leavingUnit 37 = .ok (.goto (-29), 3) := by decide +kernel
theorem dX9_leavingUnit_40 : decode cX9_leavingUnit 40 = .ok (.aload_n 0, 1) := by decide +kernel
theorem dX9_leavingUnit_41 : decode cX9_leavingUnit 41 = .ok (.iconst 2, 1) := by decide +kernel
theorem dX9_leavingUnit_42 : decode cX9_leavingUnit 42 = .ok (.aload_n 0, 1) := by decide +kernel
theorem dX9_leavingUnit_43 : decode cX9_leavingUnit 43 = .ok (.iconst 2, 1) := by decide +kernel
theorem dX9_leavingUnit_44 : decode cX9_leavingUnit 44 = .ok (.invokevirtual 180, 3) := by decide +kernel
theorem dX9_leavingUnit_47 : decode cX9_leavingUnit 47 = .ok (.iconst 1, 1) := by decide +kernel
theorem dX9_leavingUnit_48 : decode cX9_leavingUnit 48 = .ok (.isub, 1) := by decide +kernel
theorem dX9_leavingUnit_49 : decode cX9_leavingUnit 49 = .ok (.invokevirtual 174, 3) := by decide +kernel
theorem dX9_leavingUnit_52 : decode cX9_leavingUnit 52 = .ok (.ireturn, 1) := by decide +kernel
theorem dX9_makeRoomBelow_0 : decode cX9_makeRoomBelow 0 = .ok (.aload_n 0, 1) := by decide +kernel
theorem dX9_makeRoomBelow_1 : decode cX9_makeRoomBelow 1 = .ok (.iconst 2, 1) := by decide +kernel
theorem dX9_makeRoomBelow_2 : decode cX9_makeRoomBelow 2 = .ok (.invokevirtual 180, 3) := by decide +kernel
theorem dX9_makeRoomBelow_5 : decode cX9_makeRoomBelow 5 = .ok (.aload_n 0, 1) := by decide +kernel
theorem dX9_makeRoomBelow_6 : decode cX9_makeRoomBelow 6 = .ok (.getfield 7, 3) := by decide +kernel
theorem dX9_makeRoomBelow_9 : decode cX9_makeRoomBelow 9 = .ok (.iconst 3, 1) := by decide +kernel
theorem dX9_makeRoomBelow_10 : decode cX9_makeRoomBelow 10 = .ok (.iaload, 1) := by decide +kernel
theorem dX9_makeRoomBelow_11 : decode cX9_makeRoomBelow 11 = .ok (.if_icmp .ne 43, 3) := by decide +kernel
theorem dX9_makeRoomBelow_14 : decode cX9_makeRoomBelow 14 = .ok (.aload_n 0, 1) := by decide +kernel
theorem dX9_makeRoomBelow_15 : decode cX9_makeRoomBelow 15 = .ok (.invokevirtual 212, 3) := by decide +kernel
theorem dX9_makeRoomBelow_18 : decode cX9_makeRoomBelow 18 = .ok (.istore_n 1, 1) := by decide +kernel
theorem dX9_makeRoomBelow_19 : decode cX9_makeRoomBelow 19 = .ok (.aload_n 0, 1) := by decide +kernel
theorem dX9_makeRoomBelow_20 : decode cX9_makeRoomBelow 20 = .ok (.iload_n 1, 1) := by decide +kernel
theorem dX9_makeRoomBelow_21 : decode cX9_makeRoomBelow 21 = .ok (.putfield 215, 3) := by decide +kernel
theorem dX9_makeRoomBelow_24 : decode cX9_makeRoomBelow 24 = .ok (.aload_n 0, 1) := by decide +kernel
theorem dX9_makeRoomBelow_25 : decode cX9_makeRoomBelow 25 = .ok (.iload_n 1, 1) := by decide +kernel
theorem dX9_makeRoomBelow_26 : decode cX9_makeRoomBelow 26 = .ok (.invokevirtual 193, 3) := by decide +kernel
theorem dX9_makeRoomBelow_29 : decode cX9_makeRoomBelow 29 = .ok (.ifCond .eq 8, 3) := by decide +kernel
theorem dX9_makeRoomBelow_32 : decode cX9_makeRoomBelow 32 = .ok (.aload_n 0, 1) := by decide +kernel
theorem dX9_makeRoomBelow_33 : decode cX9_makeRoomBelow 33 = .ok (.iload_n 1, 1) := by decide +kernel
theorem dX9_makeRoomBelow_34 : decode cX9_makeRoomBelow 34 = .ok (.invokevirtual 199, 3) := by decide +kernel
theorem dX9_makeRoomBelow_37 : decode cX9_makeRoomBelow 37 = .ok (.aload_n 0, 1) := by decide +kernel
theorem dX9_makeRoomBelow_38 : decode cX9_makeRoomBelow 38 = .ok (.iload_n 1, 1) := by decide +kernel
theorem dX9_makeRoomBelow_39 : decode cX9_makeRoomBelow 39 = .ok (.iconst (-1), 1) := by decide +kernel
theorem dX9_makeRoomBelow_40 : decode cX9_makeRoomBelow 40 = .ok (.invokevirtual 218, 3) := by decide +kernel
theorem dX9_makeRoomBelow_43 : decode cX9_makeRoomBelow 43 = .ok (.aload_n 0, 1) := by decide +kernel
theorem dX9_makeRoomBelow_44 : decode cX9_makeRoomBelow 44 = .ok (.getfield 7, 3) := by decide +kernel
theorem dX9_makeRoomBelow_47 : decode cX9_makeRoomBelow 47 = .ok (.bipush 20, 2) := by decide +kernel
theorem dX9_makeRoomBelow_49 : decode cX9_makeRoomBelow 49 = .ok (.dup2, 1) := by decide +kernel
theorem dX9_makeRoomBelow_50 : decode cX9_makeRoomBelow 50 = .ok (.iaload, 1) := by decide +kernel
theorem dX9_makeRoomBelow_51 : decode cX9_makeRoomBelow 51 = .ok (.iconst 1, 1) := by decide +kernel
theorem dX9_makeRoomBelow_52 : decode cX9_makeRoomBelow 52 = .ok (.iadd, 1) := by decide +kernel
theorem dX9_makeRoomBelow_53 : decode cX9_makeRoomBelow 53 = .ok (.iastore, 1) := by decide +kernel
theorem dX9_makeRoomBelow_54 : decode cX9_makeRoomBelow 54 = .ok (.return_, 1) := by decide +kernel
theorem dX9_isFull_0 : decode cX9_isFull 0 = .ok (.aload_n 0, 1) := by decide +kernel
theorem dX9_isFull_1 : decode cX9_isFull 1 = .ok (.iconst 0, 1) := by decide +kernel
theorem dX9_isFull_2 : decode cX9_isFull 2 = .ok (.invokevirtual 180, 3) := by decide +kernel
theorem dX9_isFull_5 : decode cX9_isFull 5 = .ok (.aload_n 0, 1) := by decide +kernel
theorem dX9_isFull_6 : decode cX9_isFull 6 = .ok (.iconst 1, 1) := by decide +kernel
theorem dX9_isFull_7 : decode cX9_isFull 7 = .ok (.invokevirtual 180, 3) := by decide +kernel
theorem dX9_isFull_10 : decode cX9_isFull 10 = .ok (.iadd, 1) := by decide +kernel
theorem dX9_isFull_11 : decode cX9_isFull 11 = .ok (.aload_n 0, 1) := by decide +kernel
theorem dX9_isFull_12 : decode cX9_isFull 12 = .ok (.getfield 7, 3) := by decide +kernel
theorem dX9_isFull_15 : decode cX9_isFull 15 = .ok (.iconst 2, 1) := by decide +kernel
theorem dX9_isFull_16 : decode cX9_isFull 16 = .ok (.iaload, 1) := by decide +kernel
theorem dX9_isFull_17 : decode cX9_isFull 17 = .ok (.if_icmp .ne 7, 3) := by decide +kernel
theorem dX9_isFull_20 : decode cX9_isFull 20 = .ok (.iconst 1, 1) := by decide +kernel
theorem dX9_isFull_21 : decode cX9_isFull 21 = .ok (.goto 4, 3) := by decide +kernel
theorem dX9_isFull_24 : decode cX9_isFull 24 = .ok (.iconst 0, 1) := by decide +kernel
theorem dX9_isFull_25 : decode cX9_isFull 25 = .ok (.ireturn, 1) := by decide +kernel
theorem dX9_makeRoom_0 : decode cX9_makeRoom 0 = .ok (.aload_n 0, 1) := by decide +kernel
theorem dX9_makeRoom_1 : decode cX9_makeRoom 1 = .ok (.invokevirtual 221, 3) := by decide +kernel
theorem dX9_makeRoom_4 : decode cX9_makeRoom 4 = .ok (.ifCond .eq 49, 3) := by decide +kernel
theorem dX9_makeRoom_7 : decode cX9_makeRoom 7 = .ok (.aload_n 0, 1) := by decide +kernel
theorem dX9_makeRoom_8 : decode cX9_makeRoom 8 = .ok (.iload_n 1, 1) := by decide +kernel
theorem dX9_makeRoom_9 : decode cX9_makeRoom 9 = .ok (.invokevirtual 224, 3) := by decide +kernel
theorem dX9_makeRoom_12 : decode cX9_makeRoom 12 = .ok (.istore_n 2, 1) := by decide +kernel
theorem dX9_makeRoom_13 : decode cX9_makeRoom 13 = .ok (.aload_n 0, 1) := by decide +kernel
theorem dX9_makeRoom_14 : decode cX9_makeRoom 14 = .ok (.iload_n 2, 1) := by decide +kernel
theorem dX9_makeRoom_15 : decode cX9_makeRoom 15 = .ok (.invokevirtual 228, 3) := by decide +kernel
theorem dX9_makeRoom_18 : decode cX9_makeRoom 18 = .ok (.istore_n 3, 1) := by decide +kernel
theorem dX9_makeRoom_19 : decode cX9_makeRoom 19 = .ok (.aload_n 0, 1) := by decide +kernel
theorem dX9_makeRoom_20 : decode cX9_makeRoom 20 = .ok (.iload_n 3, 1) := by decide +kernel
theorem dX9_makeRoom_21 : decode cX9_makeRoom 21 = .ok (.putfield 231, 3) := by decide +kernel
theorem dX9_makeRoom_24 : decode cX9_makeRoom 24 = .ok (.aload_n 0, 1) := by decide +kernel
theorem dX9_makeRoom_25 : decode cX9_makeRoom 25 = .ok (.iload_n 3, 1) := by decide +kernel
theorem dX9_makeRoom_26 : decode cX9_makeRoom 26 = .ok (.iconst 3, 1) := by decide +kernel
theorem dX9_makeRoom_27 : decode cX9_makeRoom 27 = .ok (.iload_n 2, 1) := by decide +kernel
theorem dX9_makeRoom_28 : decode cX9_makeRoom 28 = .ok (.iadd, 1) := by decide +kernel
theorem dX9_makeRoom_29 : decode cX9_makeRoom 29 = .ok (.invokevirtual 234, 3) := by decide +kernel
theorem dX9_makeRoom_32 : decode cX9_makeRoom 32 = .ok (.aload_n 0, 1) := by decide +kernel
theorem dX9_makeRoom_33 : decode cX9_makeRoom 33 = .ok (.invokevirtual 237, 3) := by decide +kernel
theorem dX9_makeRoom_36 : decode cX9_makeRoom 36 = .ok (.aload_n 0, 1) := by decide +kernel
theorem dX9_makeRoom_37 : decode cX9_makeRoom 37 = .ok (.iload_n 3, 1) := by decide +kernel
theorem dX9_makeRoom_38 : decode cX9_makeRoom 38 = .ok (.iconst 2, 1) := by decide +kernel
theorem dX9_makeRoom_39 : decode cX9_makeRoom 39 = .ok (.invokevirtual 218, 3) := by decide +kernel
theorem dX9_makeRoom_42 : decode cX9_makeRoom 42 = .ok (.aload_n 0, 1) := by decide +kernel
theorem dX9_makeRoom_43 : decode cX9_makeRoom 43 = .ok (.getfield 7, 3) := by decide +kernel
theorem dX9_makeRoom_46 : decode cX9_makeRoom 46 = .ok (.bipush 19, 2) := by decide +kernel
theorem dX9_makeRoom_48 : decode cX9_makeRoom 48 = .ok (.dup2, 1) := by decide +kernel
theorem dX9_makeRoom_49 : decode cX9_makeRoom 49 = .ok (.iaload, 1) := by decide +kernel
theorem dX9_makeRoom_50 : decode cX9_makeRoom 50 = .ok (.iconst 1, 1) := by decide +kernel
theorem dX9_makeRoom_51 : decode cX9_makeRoom 51 = .ok (.iadd, 1) := by decide +kernel
theorem dX9_makeRoom_52 : decode cX9_makeRoom 52 = .ok (.iastore, 1) := by decide +kernel
theorem dX9_makeRoom_53 : decode cX9_makeRoom 53 = .ok (.return_, 1) := by decide +kernel
theorem dX9_isScan_0 : decode cX9_isScan 0 = .ok (.aload_n 0, 1) := by decide +kernel
theorem dX9_isScan_1 : decode cX9_isScan 1 = .ok (.iload_n 1, 1) := by decide +kernel
theorem dX9_isScan_2 : decode cX9_isScan 2 = .ok (.iconst 2, 1) := by decide +kernel
theorem dX9_isScan_3 : decode cX9_isScan 3 = .ok (.invokevirtual 168, 3) := by decide +kernel
theorem dX9_isScan_6 : decode cX9_isScan 6 = .ok (.iconst (-1), 1) := by decide +kernel
theorem dX9_isScan_7 : decode cX9_isScan 7 = .ok (.if_icmp .eq 19, 3) := by decide +kernel
theorem dX9_isScan_10 : decode cX9_isScan 10 = .ok (.aload_n 0, 1) := by decide +kernel
theorem dX9_isScan_11 : decode cX9_isScan 11 = .ok (.iload_n 1, 1) := by decide +kernel
theorem dX9_isScan_12 : decode cX9_isScan 12 = .ok (.iconst 2, 1) := by decide +kernel
theorem dX9_isScan_13 : decode cX9_isScan 13 = .ok (.invokevirtual 168, 3) := by decide +kernel
theorem dX9_isScan_16 : decode cX9_isScan 16 = .ok (.iconst 1, 1) := by decide +kernel
theorem dX9_isScan_17 : decode cX9_isScan 17 = .ok (.iadd, 1) := by decide +kernel
theorem dX9_isScan_18 : decode cX9_isScan 18 = .ok (.iload_n 2, 1) := by decide +kernel
theorem dX9_isScan_19 : decode cX9_isScan 19 = .ok (.if_icmp .ne 7, 3) := by decide +kernel
theorem dX9_isScan_22 : decode cX9_isScan 22 = .ok (.iconst 1, 1) := by decide +kernel
theorem dX9_isScan_23 : decode cX9_isScan 23 = .ok (.goto 4, 3) := by decide +kernel
theorem dX9_isScan_26 : decode cX9_isScan 26 = .ok (.iconst 0, 1) := by decide +kernel
theorem dX9_isScan_27 : decode cX9_isScan 27 = .ok (.istore_n 3, 1) := by decide +kernel
theorem dX9_isScan_28 : decode cX9_isScan 28 = .ok (.aload_n 0, 1) := by decide +kernel
theorem dX9_isScan_29 : decode cX9_isScan 29 = .ok (.iload_n 1, 1) := by decide +kernel
theorem dX9_isScan_30 : decode cX9_isScan 30 = .ok (.iconst 1, 1) := by decide +kernel
theorem dX9_isScan_31 : decode cX9_isScan 31 = .ok (.iload_n 3, 1) := by decide +kernel
theorem dX9_isScan_32 : decode cX9_isScan 32 = .ok (.ifCond .eq 14, 3) := by decide +kernel
theorem dX9_isScan_35 : decode cX9_isScan 35 = .ok (.aload_n 0, 1) := by decide +kernel
theorem dX9_isScan_36 : decode cX9_isScan 36 = .ok (.iload_n 1, 1) := by decide +kernel
theorem dX9_isScan_37 : decode cX9_isScan 37 = .ok (.iconst 1, 1) := by decide +kernel
theorem dX9_isScan_38 : decode cX9_isScan 38 = .ok (.invokevirtual 168, 3) := by decide +kernel
theorem dX9_isScan_41 : decode cX9_isScan 41 = .ok (.iconst 1, 1) := by decide +kernel
theorem dX9_isScan_42 : decode cX9_isScan 42 = .ok (.iadd, 1) := by decide +kernel
theorem dX9_isScan_43 : decode cX9_isScan 43 = .ok (.goto 4, 3) := by decide +kernel
theorem dX9_isScan_46 : decode cX9_isScan 46 = .ok (.iconst 1, 1) := by decide +kernel
theorem dX9_isScan_47 : decode cX9_isScan 47 = .ok (.invokevirtual 165, 3) := by decide +kernel
theorem dX9_isScan_50 : decode cX9_isScan 50 = .ok (.aload_n 0, 1) := by decide +kernel
theorem dX9_isScan_51 : decode cX9_isScan 51 = .ok (.iload_n 1, 1) := by decide +kernel
theorem dX9_isScan_52 : decode cX9_isScan 52 = .ok (.iconst 2, 1) := by decide +kernel
theorem dX9_isScan_53 : decode cX9_isScan 53 = .ok (.iload_n 2, 1) := by decide +kernel
theorem dX9_isScan_54 : decode cX9_isScan 54 = .ok (.invokevirtual 165, 3) := by decide +kernel
theorem dX9_isScan_57 : decode cX9_isScan 57 = .ok (.aload_n 0, 1) := by decide +kernel
theorem dX9_isScan_58 : decode cX9_isScan 58 = .ok (.iload_n 1, 1) := by decide +kernel
theorem dX9_isScan_59 : decode cX9_isScan 59 = .ok (.iconst 1, 1) := by decide +kernel
theorem dX9_isScan_60 : decode cX9_isScan 60 = .ok (.invokevirtual 168, 3) := by decide +kernel
theorem dX9_isScan_63 : decode cX9_isScan 63 = .ok (.aload_n 0, 1) := by decide +kernel
theorem dX9_isScan_64 : decode cX9_isScan 64 = .ok (.getfield 7, 3) := by decide +kernel
theorem dX9_isScan_67 : decode cX9_isScan 67 = .ok (.iconst 0, 1) := by decide +kernel
theorem dX9_isScan_68 : decode cX9_isScan 68 = .ok (.iaload, 1) := by decide +kernel
theorem dX9_isScan_69 : decode cX9_isScan 69 = .ok (.if_icmp .lt 7, 3) := by decide +kernel
theorem dX9_isScan_72 : decode cX9_isScan 72 = .ok (.iconst 1, 1) := by decide +kernel
theorem dX9_isScan_73 : decode cX9_isScan 73 = .ok (.goto 4, 3) := by decide +kernel
theorem dX9_isScan_76 : decode cX9_isScan 76 = .ok (.iconst 0, 1) := by decide +kernel
theorem dX9_isScan_77 : decode cX9_isScan 77 = .ok (.istore 4, 2) := by decide +kernel
theorem dX9_isScan_79 : decode cX9_isScan 79 = .ok (.aload_n 0, 1) := by decide +kernel
theorem dX9_isScan_80 : decode cX9_isScan 80 = .ok (.getfield 7, 3) := by decide +kernel
theorem dX9_isScan_83 : decode cX9_isScan 83 = .ok (.bipush 22, 2) := by decide +kernel
theorem dX9_isScan_85 : decode cX9_isScan 85 = .ok (.dup2, 1) := by decide +kernel
theorem dX9_isScan_86 : decode cX9_isScan 86 = .ok (.iaload, 1) := by decide +kernel
theorem dX9_isScan_87 : decode cX9_isScan 87 = .ok (.iload 4, 2) := by decide +kernel
theorem dX9_isScan_89 : decode cX9_isScan 89 = .ok (.ifCond .eq 7, 3) := by decide +kernel
theorem dX9_isScan_92 : decode cX9_isScan 92 = .ok (.iconst 1, 1) := by decide +kernel
theorem dX9_isScan_93 : decode cX9_isScan 93 = .ok (.goto 4, 3) := by decide +kernel
theorem dX9_isScan_96 : decode cX9_isScan 96 = .ok (.iconst 0, 1) := by decide +kernel
theorem dX9_isScan_97 : decode cX9_isScan 97 = .ok (.iadd, 1) := by decide +kernel
theorem dX9_isScan_98 : decode cX9_isScan 98 = .ok (.iastore, 1) := by decide +kernel
theorem dX9_isScan_99 : decode cX9_isScan 99 = .ok (.iload 4, 2) := by decide +kernel
theorem dX9_isScan_101 : decode cX9_isScan 101 = .ok (.ireturn, 1) := by decide +kernel
theorem dX9_countHit_0 : decode cX9_countHit 0 = .ok (.aload_n 0, 1) := by decide +kernel
theorem dX9_countHit_1 : decode cX9_countHit 1 = .ok (.getfield 7, 3) := by decide +kernel
theorem dX9_countHit_4 : decode cX9_countHit 4 = .ok (.bipush 14, 2) := by decide +kernel
theorem dX9_countHit_6 : decode cX9_countHit 6 = .ok (.iload_n 2, 1) := by decide +kernel
theorem dX9_countHit_7 : decode cX9_countHit 7 = .ok (.iadd, 1) := by decide +kernel
theorem dX9_countHit_8 : decode cX9_countHit 8 = .ok (.dup2, 1) := by decide +kernel
theorem dX9_countHit_9 : decode cX9_countHit 9 = .ok (.iaload, 1) := by decide +kernel
theorem dX9_countHit_10 : decode cX9_countHit 10 = .ok (.iconst 1, 1) := by decide +kernel
theorem dX9_countHit_11 : decode cX9_countHit 11 = .ok (.iadd, 1) := by decide +kernel
theorem dX9_countHit_12 : decode cX9_countHit 12 = .ok (.iastore, 1) := by decide +kernel
theorem dX9_countHit_13 : decode cX9_countHit 13 = .ok (.aload_n 0, 1) := by decide +kernel
theorem dX9_countHit_14 : decode cX9_countHit 14 = .ok (.iload_n 1, 1) := by decide +kernel
theorem dX9_countHit_15 : decode cX9_countHit 15 = .ok (.iconst 5, 1) := by decide +kernel
theorem dX9_countHit_16 : decode cX9_countHit 16 = .ok (.iload_n 2, 1) := by decide +kernel
theorem dX9_countHit_17 : decode cX9_countHit 17 = .ok (.iadd, 1) := by decide +kernel
theorem dX9_countHit_18 : decode cX9_countHit 18 = .ok (.aload_n 0, 1) := by decide +kernel
theorem dX9_countHit_19 : decode cX9_countHit 19 = .ok (.iload_n 1, 1) := by decide +kernel
theorem dX9_countHit_20 : decode cX9_countHit 20 = .ok (.iconst 5, 1) := by decide +kernel
theorem dX9_countHit_21 : decode cX9_countHit 21 = .ok (.iload_n 2, 1) := by decide +kernel
theorem dX9_countHit_22 : decode cX9_countHit 22 = .ok (.iadd, 1) := by decide +kernel
theorem dX9_countHit_23 : decode cX9_countHit 23 = .ok (.invokevirtual 168, 3) := by decide +kernel
theorem dX9_countHit_26 : decode cX9_countHit 26 = .ok (.iconst 1, 1) := by decide +kernel
theorem dX9_countHit_27 : decode cX9_countHit 27 = .ok (.iadd, 1) := by decide +kernel
theorem dX9_countHit_28 : decode cX9_countHit 28 = .ok (.invokevirtual 165, 3) := by decide +kernel
theorem dX9_countHit_31 : decode cX9_countHit 31 = .ok (.return_, 1) := by decide +kernel
theorem dX9_clean_0 : decode cX9_clean 0 = .ok (.aload_n 0, 1) := by decide +kernel
theorem dX9_clean_1 : decode cX9_clean 1 = .ok (.iload_n 1, 1) := by decide +kernel
theorem dX9_clean_2 : decode cX9_clean 2 = .ok (.iconst 1, 1) := by decide +kernel
theorem dX9_clean_3 : decode cX9_clean 3 = .ok (.aload_n 0, 1) := by decide +kernel
theorem dX9_clean_4 : decode cX9_clean 4 = .ok (.getfield 7, 3) := by decide +kernel
theorem dX9_clean_7 : decode cX9_clean 7 = .ok (.sipush 1184, 3) := by decide +kernel
theorem dX9_clean_10 : decode cX9_clean 10 = .ok (.iload_n 1, 1) := by decide +kernel
theorem dX9_clean_11 : decode cX9_clean 11 = .ok (.iadd, 1) := by decide +kernel
theorem dX9_clean_12 : decode cX9_clean 12 = .ok (.iaload, 1) := by decide +kernel
theorem dX9_clean_13 : decode cX9_clean 13 = .ok (.invokevirtual 39, 3) := by decide +kernel
theorem dX9_clean_16 : decode cX9_clean 16 = .ok (.aload_n 0, 1) := by decide +kernel
theorem dX9_clean_17 : decode cX9_clean 17 = .ok (.iload_n 1, 1) := by decide +kernel
theorem dX9_clean_18 : decode cX9_clean 18 = .ok (.iconst 3, 1) := by decide +kernel
theorem dX9_clean_19 : decode cX9_clean 19 = .ok (.iconst (-1), 1) := by decide +kernel
theorem dX9_clean_20 : decode cX9_clean 20 = .ok (.invokevirtual 39, 3) := by decide +kernel
theorem dX9_clean_23 : decode cX9_clean 23 = .ok (.return_, 1) := by decide +kernel
theorem dX9_scan_0 : decode cX9_scan 0 = .ok (.aload_n 0, 1) := by decide +kernel
theorem dX9_scan_1 : decode cX9_scan 1 = .ok (.iload_n 2, 1) := by decide +kernel
theorem dX9_scan_2 : decode cX9_scan 2 = .ok (.iconst 0, 1) := by decide +kernel
theorem dX9_scan_3 : decode cX9_scan 3 = .ok (.invokevirtual 171, 3) := by decide +kernel
theorem dX9_scan_6 : decode cX9_scan 6 = .ok (.iconst 2, 1) := by decide +kernel
theorem dX9_scan_7 : decode cX9_scan 7 = .ok (.if_icmp .ne 12, 3) := by decide +kernel
theorem dX9_scan_10 : decode cX9_scan 10 = .ok (.aload_n 0, 1) := by decide +kernel
theorem dX9_scan_11 : decode cX9_scan 11 = .ok (.iload_n 1, 1) := by decide +kernel
theorem dX9_scan_12 : decode cX9_scan 12 = .ok (.iconst 1, 1) := by decide +kernel
theorem dX9_scan_13 : decode cX9_scan 13 = .ok (.invokevirtual 240, 3) := by decide +kernel
theorem dX9_scan_16 : decode cX9_scan 16 = .ok (.goto 18, 3) := by decide +kernel
theorem dX9_scan_19 : decode cX9_scan 19 = .ok (.aload_n 0, 1) := by decide +kernel
theorem dX9_scan_20 : decode cX9_scan 20 = .ok (.iload_n 1, 1) := by decide +kernel
theorem dX9_scan_21 : decode cX9_scan 21 = .ok (.iconst 2, 1) := by decide +kernel
theorem dX9_scan_22 : decode cX9_scan 22 = .ok (.invokevirtual 240, 3) := by decide +kernel
theorem dX9_scan_25 : decode cX9_scan 25 = .ok (.aload_n 0, 1) := by decide +kernel
theorem dX9_scan_26 : decode cX9_scan 26 = .ok (.invokevirtual 237, 3) := by decide +kernel
theorem dX9_scan_29 : decode cX9_scan 29 = .ok (.aload_n 0, 1) := by decide +kernel
theorem dX9_scan_30 : decode cX9_scan 30 = .ok (.iload_n 2, 1) := by decide +kernel
theorem dX9_scan_31 : decode cX9_scan 31 = .ok (.invokevirtual 243, 3) := by decide +kernel
theorem dX9_scan_34 : decode cX9_scan 34 = .ok (.aload_n 0, 1) := by decide +kernel
theorem dX9_scan_35 : decode cX9_scan 35 = .ok (.iload_n 2, 1) := by decide +kernel
theorem dX9_scan_36 : decode cX9_scan 36 = .ok (.iconst 2, 1) := by decide +kernel
theorem dX9_scan_37 : decode cX9_scan 37 = .ok (.invokevirtual 218, 3) := by decide +kernel
theorem dX9_scan_40 : decode cX9_scan 40 = .ok (.return_, 1) := by decide +kernel
theorem dX9_learn_0 : decode cX9_learn 0 = .ok (.aload_n 0, 1) := by decide +kernel
theorem dX9_learn_1 : decode cX9_learn 1 = .ok (.iconst 3, 1) := by decide +kernel
theorem dX9_learn_2 : decode cX9_learn 2 = .ok (.invokevirtual 180, 3) := by decide +kernel
theorem dX9_learn_5 : decode cX9_learn 5 = .ok (.istore_n 2, 1) := by decide +kernel
theorem dX9_learn_6 : decode cX9_learn 6 = .ok (.aload_n 0, 1) := by decide +kernel
theorem dX9_learn_7 : decode cX9_learn 7 = .ok (.iconst 4, 1) := by decide +kernel
theorem dX9_learn_8 : decode cX9_learn 8 = .ok (.invokevirtual 180, 3) := by decide +kernel
theorem dX9_learn_11 : decode cX9_learn 11 = .ok (.istore_n 3, 1) := by decide +kernel
theorem dX9_learn_12 : decode cX9_learn 12 = .ok (.iload_n 1, 1) := by decide +kernel
theorem dX9_learn_13 : decode cX9_learn 13 = .ok (.iconst 3, 1) := by decide +kernel
theorem dX9_learn_14 : decode cX9_learn 14 = .ok (.if_icmp .ne 35, 3) := by decide +kernel
theorem dX9_learn_17 : decode cX9_learn 17 = .ok (.aload_n 0, 1) := by decide +kernel
theorem dX9_learn_18 : decode cX9_learn 18 = .ok (.getfield 7, 3) := by decide +kernel
theorem dX9_learn_21 : decode cX9_learn 21 = .ok (.iconst 4, 1) := by decide +kernel
theorem dX9_learn_22 : decode cX9_learn 22 = .ok (.aload_n 0, 1) := by decide +kernel
theorem dX9_learn_23 : decode cX9_learn 23 = .ok (.getfield 7, 3) := by decide +kernel
theorem dX9_learn_26 : decode cX9_learn 26 = .ok (.iconst 2, 1) := by decide +kernel
theorem dX9_learn_27 : decode cX9_learn 27 = .ok (.iaload, 1) := by decide +kernel
theorem dX9_learn_28 : decode cX9_learn 28 = .ok (.aload_n 0, 1) := by decide +kernel
theorem dX9_learn_29 : decode cX9_learn 29 = .ok (.getfield 7, 3) := by decide +kernel
theorem dX9_learn_32 : decode cX9_learn 32 = .ok (.iconst 4, 1) := by decide +kernel
theorem dX9_learn_33 : decode cX9_learn 33 = .ok (.iaload, 1) := by decide +kernel
theorem dX9_learn_34 : decode cX9_learn 34 = .ok (.iconst 1, 1) := by decide +kernel
theorem dX9_learn_35 : decode cX9_learn 35 = .ok (.iload_n 3, 1) := by decide +kernel
theorem dX9_learn_36 : decode cX9_learn 36 = .ok (.iload_n 2, 1) := by decide +kernel
theorem dX9_learn_37 : decode cX9_learn 37 = .ok (.idiv, 1) := by decide +kernel
theorem dX9_learn_38 : decode cX9_learn 38 = .ok (.invokestatic 246, 3) := by decide +kernel
theorem dX9_learn_41 : decode cX9_learn 41 = .ok (.iadd, 1) := by decide +kernel
theorem dX9_learn_42 : decode cX9_learn 42 = .ok (.invokestatic 251, 3) := by decide +kernel
theorem dX9_learn_45 : decode cX9_learn 45 = .ok (.iastore, 1) := by decide +kernel
theorem dX9_learn_46 : decode cX9_learn 46 = .ok (.goto 27, 3) := by decide +kernel
theorem dX9_learn_49 : decode cX9_learn 49 = .ok (.aload_n 0, 1) := by decide +kernel
theorem dX9_learn_50 : decode cX9_learn 50 = .ok (.getfield 7, 3) := by decide +kernel
theorem dX9_learn_53 : decode cX9_learn 53 = .ok (.iconst 4, 1) := by decide +kernel
theorem dX9_learn_54 : decode cX9_learn 54 = .ok (.iconst 0, 1) := by decide +kernel
theorem dX9_learn_55 : decode cX9_learn 55 = .ok (.aload_n 0, 1) := by decide +kernel
theorem dX9_learn_56 : decode cX9_learn 56 = .ok (.getfield 7, 3) := by decide +kernel
theorem dX9_learn_59 : decode cX9_learn 59 = .ok (.iconst 4, 1) := by decide +kernel
theorem dX9_learn_60 : decode cX9_learn 60 = .ok (.iaload, 1) := by decide +kernel
theorem dX9_learn_61 : decode cX9_learn 61 = .ok (.iconst 1, 1) := by decide +kernel
theorem dX9_learn_62 : decode cX9_learn 62 = .ok (.iload_n 2, 1) := by decide +kernel
theorem dX9_learn_63 : decode cX9_learn 63 = .ok (.iload_n 3, 1) := by decide +kernel
theorem dX9_learn_64 : decode cX9_learn 64 = .ok (.idiv, 1) := by decide +kernel
theorem dX9_learn_65 : decode cX9_learn 65 = .ok (.invokestatic 246, 3) := by decide +kernel
theorem dX9_learn_68 : decode cX9_learn 68 = .ok (.isub, 1) := by decide +kernel
theorem dX9_learn_69 : decode cX9_learn 69 = .ok (.invokestatic 246, 3) := by decide +kernel
theorem dX9_learn_72 : decode cX9_learn 72 = .ok (.iastore, 1) := by decide +kernel
theorem dX9_learn_73 : decode cX9_learn 73 = .ok (.aload_n 0, 1) := by decide +kernel
theorem dX9_learn_74 : decode cX9_learn 74 = .ok (.getfield 7, 3) := by decide +kernel
theorem dX9_learn_77 : decode cX9_learn 77 = .ok (.bipush 17, 2) := by decide +kernel
theorem dX9_learn_79 : decode cX9_learn 79 = .ok (.iload_n 1, 1) := by decide +kernel
theorem dX9_learn_80 : decode cX9_learn 80 = .ok (.iadd, 1) := by decide +kernel
theorem dX9_learn_81 : decode cX9_learn 81 = .ok (.iconst 3, 1) := by decide +kernel
theorem dX9_learn_82 : decode cX9_learn 82 = .ok (.isub, 1) := by decide +kernel
theorem dX9_learn_83 : decode cX9_learn 83 = .ok (.dup2, 1) := by decide +kernel
theorem dX9_learn_84 : decode cX9_learn 84 = .ok (.iaload, 1) := by decide +kernel
theorem dX9_learn_85 : decode cX9_learn 85 = .ok (.iconst 1, 1) := by decide +kernel
theorem dX9_learn_86 : decode cX9_learn 86 = .ok (.iadd, 1) := by decide +kernel
theorem dX9_learn_87 : decode cX9_learn 87 = .ok (.iastore, 1) := by decide +kernel
theorem dX9_learn_88 : decode cX9_learn 88 = .ok (.return_, 1) := by decide +kernel
theorem dX9_come_0 : decode cX9_come 0 = .ok (.aload_n 0, 1) := by decide +kernel
theorem dX9_come_1 : decode cX9_come 1 = .ok (.iload_n 2, 1) := by decide +kernel
theorem dX9_come_2 : decode cX9_come 2 = .ok (.iconst 0, 1) := by decide +kernel
theorem dX9_come_3 : decode cX9_come 3 = .ok (.invokevirtual 171, 3) := by decide +kernel
theorem dX9_come_6 : decode cX9_come 6 = .ok (.iconst 2, 1) := by decide +kernel
theorem dX9_come_7 : decode cX9_come 7 = .ok (.if_icmp .ne 18, 3) := by decide +kernel
theorem dX9_come_10 : decode cX9_come 10 = .ok (.aload_n 0, 1) := by decide +kernel
theorem dX9_come_11 : decode cX9_come 11 = .ok (.iload_n 1, 1) := by decide +kernel
theorem dX9_come_12 : decode cX9_come 12 = .ok (.iconst 1, 1) := by decide +kernel
theorem dX9_come_13 : decode cX9_come 13 = .ok (.invokevirtual 240, 3) := by decide +kernel
theorem dX9_come_16 : decode cX9_come 16 = .ok (.aload_n 0, 1) := by decide +kernel
theorem dX9_come_17 : decode cX9_come 17 = .ok (.iload_n 2, 1) := by decide +kernel
theorem dX9_come_18 : decode cX9_come 18 = .ok (.iconst (-1), 1) := by decide +kernel
theorem dX9_come_19 : decode cX9_come 19 = .ok (.invokevirtual 218, 3) := by decide +kernel
theorem dX9_come_22 : decode cX9_come 22 = .ok (.goto 14, 3) := by decide +kernel
theorem dX9_come_25 : decode cX9_come 25 = .ok (.aload_n 0, 1) := by decide +kernel
theorem dX9_come_26 : decode cX9_come 26 = .ok (.iload_n 1, 1) := by decide +kernel
theorem dX9_come_27 : decode cX9_come 27 = .ok (.iconst 2, 1) := by decide +kernel
theorem dX9_come_28 : decode cX9_come 28 = .ok (.invokevirtual 240, 3) := by decide +kernel
theorem dX9_come_31 : decode cX9_come 31 = .ok (.aload_n 0, 1) := by decide +kernel
theorem dX9_come_32 : decode cX9_come 32 = .ok (.iload_n 2, 1) := by decide +kernel
theorem dX9_come_33 : decode cX9_come 33 = .ok (.invokevirtual 243, 3) := by decide +kernel
theorem dX9_come_36 : decode cX9_come 36 = .ok (.aload_n 0, 1) := by decide +kernel
theorem dX9_come_37 : decode cX9_come 37 = .ok (.iload_n 2, 1) := by decide +kernel
theorem dX9_come_38 : decode cX9_come 38 = .ok (.iconst 4, 1) := by decide +kernel
theorem dX9_come_39 : decode cX9_come 39 = .ok (.invokevirtual 171, 3) := by decide +kernel
theorem dX9_come_42 : decode cX9_come 42 = .ok (.istore_n 3, 1) := by decide +kernel
theorem dX9_come_43 : decode cX9_come 43 = .ok (.iload_n 3, 1) := by decide +kernel
theorem dX9_come_44 : decode cX9_come 44 = .ok (.iconst (-1), 1) := by decide +kernel
theorem dX9_come_45 : decode cX9_come 45 = .ok (.if_icmp .eq 13, 3) := by decide +kernel
theorem dX9_come_48 : decode cX9_come 48 = .ok (.aload_n 0, 1) := by decide +kernel
theorem dX9_come_49 : decode cX9_come 49 = .ok (.iload_n 3, 1) := by decide +kernel
theorem dX9_come_50 : decode cX9_come 50 = .ok (.invokevirtual 254, 3) := by decide +kernel
theorem dX9_come_53 : decode cX9_come 53 = .ok (.aload_n 0, 1) := by decide +kernel
theorem dX9_come_54 : decode cX9_come 54 = .ok (.iload_n 2, 1) := by decide +kernel
theorem dX9_come_55 : decode cX9_come 55 = .ok (.invokevirtual 189, 3) := by decide +kernel
theorem dX9_come_58 : decode cX9_come 58 = .ok (.aload_n 0, 1) := by decide +kernel
theorem dX9_come_59 : decode cX9_come 59 = .ok (.iload_n 3, 1) := by decide +kernel
theorem dX9_come_60 : decode cX9_come 60 = .ok (.iconst 4, 1) := by decide +kernel
theorem dX9_come_61 : decode cX9_come 61 = .ok (.if_icmp .ne 7, 3) := by decide +kernel
theorem dX9_come_64 : decode cX9_come 64 = .ok (.iconst 1, 1) := by decide +kernel
theorem dX9_come_65 : decode cX9_come 65 = .ok (.goto 4, 3) := by decide +kernel
theorem dX9_come_68 : decode cX9_come 68 = .ok (.iconst 0, 1) := by decide +kernel
theorem dX9_come_69 : decode cX9_come 69 = .ok (.invokevirtual 257, 3) := by decide +kernel
theorem dX9_come_72 : decode cX9_come 72 = .ok (.aload_n 0, 1) := by decide +kernel
theorem dX9_come_73 : decode cX9_come 73 = .ok (.iload_n 2, 1) := by decide +kernel
theorem dX9_come_74 : decode cX9_come 74 = .ok (.iload_n 3, 1) := by decide +kernel
theorem dX9_come_75 : decode cX9_come 75 = .ok (.iconst (-1), 1) := by decide +kernel
theorem dX9_come_76 : decode cX9_come 76 = .ok (.if_icmp .ne 7, 3) := by decide +kernel
theorem dX9_come_79 : decode cX9_come 79 = .ok (.iconst 0, 1) := by decide +kernel
theorem dX9_come_80 : decode cX9_come 80 = .ok (.goto 4, 3) := by decide +kernel
theorem dX9_come_83 : decode cX9_come 83 = .ok (.iconst 1, 1) := by decide +kernel
theorem dX9_come_84 : decode cX9_come 84 = .ok (.invokevirtual 218, 3) := by decide +kernel
theorem dX9_come_87 : decode cX9_come 87 = .ok (.return_, 1) := by decide +kernel
theorem dX9_access_0 : decode cX9_access 0 = .ok (.aload_n 0, 1) := by decide +kernel
theorem dX9_access_1 : decode cX9_access 1 = .ok (.getfield 7, 3) := by decide +kernel
theorem dX9_access_4 : decode cX9_access 4 = .ok (.iconst 5, 1) := by decide +kernel
theorem dX9_access_5 : decode cX9_access 5 = .ok (.dup2, 1) := by decide +kernel
theorem dX9_access_6 : decode cX9_access 6 = .ok (.iaload, 1) := by decide +kernel
theorem dX9_access_7 : decode cX9_access 7 = .ok (.iconst 1, 1) := by decide +kernel
theorem dX9_access_8 : decode cX9_access 8 = .ok (.iadd, 1) := by decide +kernel
theorem dX9_access_9 : decode cX9_access 9 = .ok (.iastore, 1) := by decide +kernel
theorem dX9_access_10 : decode cX9_access 10 = .ok (.aload_n 0, 1) := by decide +kernel
theorem dX9_access_11 : decode cX9_access 11 = .ok (.iload_n 1, 1) := by decide +kernel
theorem dX9_access_12 : decode cX9_access 12 = .ok (.iload_n 2, 1) := by decide +kernel
theorem dX9_access_13 : decode cX9_access 13 = .ok (.invokevirtual 261, 3) := by decide +kernel
theorem dX9_access_16 : decode cX9_access 16 = .ok (.istore 4, 2) := by decide +kernel
theorem dX9_access_18 : decode cX9_access 18 = .ok (.aload_n 0, 1) := by decide +kernel
theorem dX9_access_19 : decode cX9_access 19 = .ok (.iload_n 2, 1) := by decide +kernel
theorem dX9_access_20 : decode cX9_access 20 = .ok (.iconst 0, 1) := by decide +kernel
theorem dX9_access_21 : decode cX9_access 21 = .ok (.invokevirtual 171, 3) := by decide +kernel
theorem dX9_access_24 : decode cX9_access 24 = .ok (.istore 5, 2) := by decide +kernel
theorem dX9_access_26 : decode cX9_access 26 = .ok (.iload 5, 2) := by decide +kernel
theorem dX9_access_28 : decode cX9_access 28 = .ok (.ifCond .eq 9, 3) := by decide +kernel
theorem dX9_access_31 : decode cX9_access 31 = .ok (.iload 5, 2) := by decide +kernel
theorem dX9_access_33 : decode cX9_access 33 = .ok (.iconst 1, 1) := by decide +kernel
theorem dX9_access_34 : decode cX9_access 34 = .ok (.if_icmp .ne 23, 3) := by decide +kernel
theorem dX9_access_37 : decode cX9_access 37 = .ok (.aload_n 0, 1) := by decide +kernel
theorem dX9_access_38 : decode cX9_access 38 = .ok (.iload_n 1, 1) := by decide +kernel
theorem dX9_access_39 : decode cX9_access 39 = .ok (.iconst 0, 1) := by decide +kernel
theorem dX9_access_40 : decode cX9_access 40 = .ok (.invokevirtual 240, 3) := by decide +kernel
theorem dX9_access_43 : decode cX9_access 43 = .ok (.iload 4, 2) := by decide +kernel
theorem dX9_access_45 : decode cX9_access 45 = .ok (.ifCond .ne 32, 3) := by decide +kernel
theorem dX9_access_48 : decode cX9_access 48 = .ok (.aload_n 0, 1) := by decide +kernel
theorem dX9_access_49 : decode cX9_access 49 = .ok (.iload_n 2, 1) := by decide +kernel
theorem dX9_access_50 : decode cX9_access 50 = .ok (.iconst 1, 1) := by decide +kernel
theorem dX9_access_51 : decode cX9_access 51 = .ok (.invokevirtual 218, 3) := by decide +kernel
theorem dX9_access_54 : decode cX9_access 54 = .ok (.goto 23, 3) := by decide +kernel
theorem dX9_access_57 : decode cX9_access 57 = .ok (.iload 4, 2) := by decide +kernel
theorem dX9_access_59 : decode cX9_access 59 = .ok (.ifCond .eq 12, 3) := by decide +kernel
theorem dX9_access_62 : decode cX9_access 62 = .ok (.aload_n 0, 1) := by decide +kernel
theorem dX9_access_63 : decode cX9_access 63 = .ok (.iload_n 1, 1) := by decide +kernel
theorem dX9_access_64 : decode cX9_access 64 = .ok (.iload_n 2, 1) := by decide +kernel
theorem dX9_access_65 : decode cX9_access 65 = .ok (.invokevirtual 265, 3) := by decide +kernel
theorem dX9_access_68 : decode cX9_access 68 = .ok (.goto 9, 3) := by decide +kernel
theorem dX9_access_71 : decode cX9_access 71 = .ok (.aload_n 0, 1) := by decide +kernel
theorem dX9_access_72 : decode cX9_access 72 = .ok (.iload_n 1, 1) := by decide +kernel
theorem dX9_access_73 : decode cX9_access 73 = .ok (.iload_n 2, 1) := by decide +kernel
theorem dX9_access_74 : decode cX9_access 74 = .ok (.invokevirtual 268, 3) := by decide +kernel
theorem dX9_access_77 : decode cX9_access 77 = .ok (.aload_n 0, 1) := by decide +kernel
theorem dX9_access_78 : decode cX9_access 78 = .ok (.iload_n 2, 1) := by decide +kernel
theorem dX9_access_79 : decode cX9_access 79 = .ok (.iconst 2, 1) := by decide +kernel
theorem dX9_access_80 : decode cX9_access 80 = .ok (.iload_n 1, 1) := by decide +kernel
theorem dX9_access_81 : decode cX9_access 81 = .ok (.invokevirtual 39, 3) := by decide +kernel
theorem dX9_access_84 : decode cX9_access 84 = .ok (.iload_n 3, 1) := by decide +kernel
theorem dX9_access_85 : decode cX9_access 85 = .ok (.iconst (-1), 1) := by decide +kernel
theorem dX9_access_86 : decode cX9_access 86 = .ok (.if_icmp .ne 7, 3) := by decide +kernel
theorem dX9_access_89 : decode cX9_access 89 = .ok (.iconst 3, 1) := by decide +kernel
theorem dX9_access_90 : decode cX9_access 90 = .ok (.goto 4, 3) := by decide +kernel
theorem dX9_access_93 : decode cX9_access 93 = .ok (.iconst 4, 1) := by decide +kernel
theorem dX9_access_94 : decode cX9_access 94 = .ok (.istore 6, 2) := by decide +kernel
theorem dX9_access_96 : decode cX9_access 96 = .ok (.aload_n 0, 1) := by decide +kernel
theorem dX9_access_97 : decode cX9_access 97 = .ok (.iload_n 1, 1) := by decide +kernel
theorem dX9_access_98 : decode cX9_access 98 = .ok (.iload 6, 2) := by decide +kernel
theorem dX9_access_100 : decode cX9_access 100 = .ok (.aload_n 0, 1) := by decide +kernel
theorem dX9_access_101 : decode cX9_access 101 = .ok (.iload_n 1, 1) := by decide +kernel
theorem dX9_access_102 : decode cX9_access 102 = .ok (.iload 6, 2) := by decide +kernel
theorem dX9_access_104 : decode cX9_access 104 = .ok (.invokevirtual 168, 3) := by decide +kernel
theorem dX9_access_107 : decode cX9_access 107 = .ok (.iconst 1, 1) := by decide +kernel
theorem dX9_access_108 : decode cX9_access 108 = .ok (.iadd, 1) := by decide +kernel
theorem dX9_access_109 : decode cX9_access 109 = .ok (.invokevirtual 165, 3) := by decide +kernel
theorem dX9_access_112 : decode cX9_access 112 = .ok (.iload_n 3, 1) := by decide +kernel
theorem dX9_access_113 : decode cX9_access 113 = .ok (.iconst (-1), 1) := by decide +kernel
theorem dX9_access_114 : decode cX9_access 114 = .ok (.if_icmp .eq 62, 3) := by decide +kernel
theorem dX9_access_117 : decode cX9_access 117 = .ok (.aload_n 0, 1) := by decide +kernel
theorem dX9_access_118 : decode cX9_access 118 = .ok (.iload_n 2, 1) := by decide +kernel
theorem dX9_access_119 : decode cX9_access 119 = .ok (.iconst 1, 1) := by decide +kernel
theorem dX9_access_120 : decode cX9_access 120 = .ok (.iload_n 3, 1) := by decide +kernel
theorem dX9_access_121 : decode cX9_access 121 = .ok (.invokevirtual 39, 3) := by decide +kernel
theorem dX9_access_124 : decode cX9_access 124 = .ok (.aload_n 0, 1) := by decide +kernel
theorem dX9_access_125 : decode cX9_access 125 = .ok (.iload_n 2, 1) := by decide +kernel
theorem dX9_access_126 : decode cX9_access 126 = .ok (.iconst 3, 1) := by decide +kernel
theorem dX9_access_127 : decode cX9_access 127 = .ok (.aload_n 0, 1) := by decide +kernel
theorem dX9_access_128 : decode cX9_access 128 = .ok (.iload_n 2, 1) := by decide +kernel
theorem dX9_access_129 : decode cX9_access 129 = .ok (.iconst 3, 1) := by decide +kernel
theorem dX9_access_130 : decode cX9_access 130 = .ok (.invokevirtual 171, 3) := by decide +kernel
theorem dX9_access_133 : decode cX9_access 133 = .ok (.iconst (-1), 1) := by decide +kernel
theorem dX9_access_134 : decode cX9_access 134 = .ok (.if_icmp .ne 12, 3) := by decide +kernel
theorem dX9_access_137 : decode cX9_access 137 = .ok (.aload_n 0, 1) := by decide +kernel
theorem dX9_access_138 : decode cX9_access 138 = .ok (.getfield 7, 3) := by decide +kernel
theorem dX9_access_141 : decode cX9_access 141 = .ok (.iconst 5, 1) := by decide +kernel
theorem dX9_access_142 : decode cX9_access 142 = .ok (.iaload, 1) := by decide +kernel
theorem dX9_access_143 : decode cX9_access 143 = .ok (.goto 9, 3) := by decide +kernel
theorem dX9_access_146 : decode cX9_access 146 = .ok (.aload_n 0, 1) := by decide +kernel
theorem dX9_access_147 : decode cX9_access 147 = .ok (.iload_n 2, 1) := by decide +kernel
theorem dX9_access_148 : decode cX9_access 148 = .ok (.iconst 3, 1) := by decide +kernel
theorem dX9_access_149 : decode cX9_access 149 = .ok (.invokevirtual 171, 3) := by decide +kernel
theorem dX9_access_152 : decode cX9_access 152 = .ok (.invokevirtual 39, 3) := by decide +kernel
theorem dX9_access_155 : decode cX9_access 155 = .ok (.aload_n 0, 1) := by decide +kernel
theorem dX9_access_156 : decode cX9_access 156 = .ok (.iconst 0, 1) := by decide +kernel
theorem dX9_access_157 : decode cX9_access 157 = .ok (.aload_n 0, 1) := by decide +kernel
theorem dX9_access_158 : decode cX9_access 158 = .ok (.invokevirtual 271, 3) := by decide +kernel
theorem dX9_access_161 : decode cX9_access 161 = .ok (.aload_n 0, 1) := by decide +kernel
theorem dX9_access_162 : decode cX9_access 162 = .ok (.getfield 7, 3) := by decide +kernel
theorem dX9_access_165 : decode cX9_access 165 = .ok (.iconst 1, 1) := by decide +kernel
theorem dX9_access_166 : decode cX9_access 166 = .ok (.iaload, 1) := by decide +kernel
theorem dX9_access_167 : decode cX9_access 167 = .ok (.isub, 1) := by decide +kernel
theorem dX9_access_168 : decode cX9_access 168 = .ok (.invokestatic 246, 3) := by decide +kernel
theorem dX9_access_171 : decode cX9_access 171 = .ok (.invokevirtual 159, 3) := by decide +kernel
theorem dX9_access_174 : decode cX9_access 174 = .ok (.istore 7, 2) := by decide +kernel
theorem dX9_access_176 : decode cX9_access 176 = .ok (.return_, 1) := by decide +kernel
theorem dX9_read_0 : decode cX9_read 0 = .ok (.aload_n 0, 1) := by decide +kernel
theorem dX9_read_1 : decode cX9_read 1 = .ok (.iconst 0, 1) := by decide +kernel
theorem dX9_read_2 : decode cX9_read 2 = .ok (.putfield 43, 3) := by decide +kernel
theorem dX9_read_5 : decode cX9_read 5 = .ok (.aload_n 0, 1) := by decide +kernel
theorem dX9_read_6 : decode cX9_read 6 = .ok (.iload_n 1, 1) := by decide +kernel
theorem dX9_read_7 : decode cX9_read 7 = .ok (.invokevirtual 153, 3) := by decide +kernel
theorem dX9_read_10 : decode cX9_read 10 = .ok (.ifCond .ne 9, 3) := by decide +kernel
theorem dX9_read_13 : decode cX9_read 13 = .ok (.aload_n 0, 1) := by decide +kernel
theorem dX9_read_14 : decode cX9_read 14 = .ok (.iconst 1, 1) := by decide +kernel
theorem dX9_read_15 : decode cX9_read 15 = .ok (.invokevirtual 60, 3) := by decide +kernel
theorem dX9_read_18 : decode cX9_read 18 = .ok (.ireturn, 1) := by decide +kernel
theorem dX9_read_19 : decode cX9_read 19 = .ok (.iload_n 2, 1) := by decide +kernel
theorem dX9_read_20 : decode cX9_read 20 = .ok (.invokestatic 274, 3) := by decide +kernel
theorem dX9_read_23 : decode cX9_read 23 = .ok (.ifCond .ne 9, 3) := by decide +kernel
theorem dX9_read_26 : decode cX9_read 26 = .ok (.aload_n 0, 1) := by decide +kernel
theorem dX9_read_27 : decode cX9_read 27 = .ok (.iconst 2, 1) := by decide +kernel
theorem dX9_read_28 : decode cX9_read 28 = .ok (.invokevirtual 60, 3) := by decide +kernel
theorem dX9_read_31 : decode cX9_read 31 = .ok (.ireturn, 1) := by decide +kernel
theorem dX9_read_32 : decode cX9_read 32 = .ok (.aload_n 0, 1) := by decide +kernel
theorem dX9_read_33 : decode cX9_read 33 = .ok (.invokevirtual 150, 3) := by decide +kernel
theorem dX9_read_36 : decode cX9_read 36 = .ok (.aload_n 0, 1) := by decide +kernel
theorem dX9_read_37 : decode cX9_read 37 = .ok (.iload_n 1, 1) := by decide +kernel
theorem dX9_read_38 : decode cX9_read 38 = .ok (.iload_n 2, 1) := by decide +kernel
theorem dX9_read_39 : decode cX9_read 39 = .ok (.iconst (-1), 1) := by decide +kernel
theorem dX9_read_40 : decode cX9_read 40 = .ok (.invokevirtual 162, 3) := by decide +kernel
theorem dX9_read_43 : decode cX9_read 43 = .ok (.aload_n 0, 1) := by decide +kernel
theorem dX9_read_44 : decode cX9_read 44 = .ok (.iload_n 2, 1) := by decide +kernel
theorem dX9_read_45 : decode cX9_read 45 = .ok (.iconst 1, 1) := by decide +kernel
theorem dX9_read_46 : decode cX9_read 46 = .ok (.invokevirtual 171, 3) := by decide +kernel
theorem dX9_read_49 : decode cX9_read 49 = .ok (.ireturn, 1) := by decide +kernel
theorem dX9_write_0 : decode cX9_write 0 = .ok (.aload_n 0, 1) := by decide +kernel
theorem dX9_write_1 : decode cX9_write 1 = .ok (.iconst 0, 1) := by decide +kernel
theorem dX9_write_2 : decode cX9_write 2 = .ok (.putfield 43, 3) := by decide +kernel
theorem dX9_write_5 : decode cX9_write 5 = .ok (.aload_n 0, 1) := by decide +kernel
theorem dX9_write_6 : decode cX9_write 6 = .ok (.iload_n 1, 1) := by decide +kernel
theorem dX9_write_7 : decode cX9_write 7 = .ok (.invokevirtual 153, 3) := by decide +kernel
theorem dX9_write_10 : decode cX9_write 10 = .ok (.ifCond .ne 9, 3) := by decide +kernel
theorem dX9_write_13 : decode cX9_write 13 = .ok (.aload_n 0, 1) := by decide +kernel
theorem dX9_write_14 : decode cX9_write 14 = .ok (.iconst 1, 1) := by decide +kernel
theorem dX9_write_15 : decode cX9_write 15 = .ok (.invokevirtual 60, 3) := by decide +kernel
theorem dX9_write_18 : decode cX9_write 18 = .ok (.ireturn, 1) := by decide +kernel
theorem dX9_write_19 : decode cX9_write 19 = .ok (.iload_n 2, 1) := by decide +kernel
theorem dX9_write_20 : decode cX9_write 20 = .ok (.invokestatic 274, 3) := by decide +kernel
theorem dX9_write_23 : decode cX9_write 23 = .ok (.ifCond .eq 14, 3) := by decide +kernel
theorem dX9_write_26 : decode cX9_write 26 = .ok (.iload_n 3, 1) := by decide +kernel
theorem dX9_write_27 : decode cX9_write 27 = .ok (.iconst 0, 1) := by decide +kernel
theorem dX9_write_28 : decode cX9_write 28 = .ok (.sipush 999, 3) := by decide +kernel
theorem dX9_write_31 : decode cX9_write 31 = .ok (.invokestatic 53, 3) := by decide +kernel
theorem dX9_write_34 : decode cX9_write 34 = .ok (.ifCond .ne 9, 3) := by decide +kernel
theorem dX9_write_37 : decode cX9_write 37 = .ok (.aload_n 0, 1) := by decide +kernel
theorem dX9_write_38 : decode cX9_write 38 = .ok (.iconst 2, 1) := by decide +kernel
theorem dX9_write_39 : decode cX9_write 39 = .ok (.invokevirtual 60, 3) := by decide +kernel
theorem dX9_write_42 : decode cX9_write 42 = .ok (.ireturn, 1) := by decide +kernel
theorem dX9_write_43 : decode cX9_write 43 = .ok (.aload_n 0, 1) := by decide +kernel
theorem dX9_write_44 : decode cX9_write 44 = .ok (.invokevirtual 150, 3) := by decide +kernel
theorem dX9_write_47 : decode cX9_write 47 = .ok (.aload_n 0, 1) := by decide +kernel
theorem dX9_write_48 : decode cX9_write 48 = .ok (.getfield 7, 3) := by decide +kernel
theorem dX9_write_51 : decode cX9_write 51 = .ok (.bipush 21, 2) := by decide +kernel
theorem dX9_write_53 : decode cX9_write 53 = .ok (.iaload, 1) := by decide +kernel
theorem dX9_write_54 : decode cX9_write 54 = .ok (.istore 4, 2) := by decide +kernel
theorem dX9_write_56 : decode cX9_write 56 = .ok (.aload_n 0, 1) := by decide +kernel
theorem dX9_write_57 : decode cX9_write 57 = .ok (.iload_n 1, 1) := by decide +kernel
theorem dX9_write_58 : decode cX9_write 58 = .ok (.iload_n 2, 1) := by decide +kernel
theorem dX9_write_59 : decode cX9_write 59 = .ok (.iload_n 3, 1) := by decide +kernel
theorem dX9_write_60 : decode cX9_write 60 = .ok (.invokevirtual 162, 3) := by decide +kernel
theorem dX9_write_63 : decode cX9_write 63 = .ok (.aload_n 0, 1) := by decide +kernel
theorem dX9_write_64 : decode cX9_write 64 = .ok (.getfield 7, 3) := by decide +kernel
theorem dX9_write_67 : decode cX9_write 67 = .ok (.bipush 21, 2) := by decide +kernel
theorem dX9_write_69 : decode cX9_write 69 = .ok (.iaload, 1) := by decide +kernel
theorem dX9_write_70 : decode cX9_write 70 = .ok (.iload 4, 2) := by decide +kernel
theorem dX9_write_72 : decode cX9_write 72 = .ok (.isub, 1) := by decide +kernel
theorem dX9_write_73 : decode cX9_write 73 = .ok (.ireturn, 1) := by decide +kernel
theorem dX9_flush_0 : decode cX9_flush 0 = .ok (.aload_n 0, 1) := by decide +kernel
theorem dX9_flush_1 : decode cX9_flush 1 = .ok (.iconst 0, 1) := by decide +kernel
theorem dX9_flush_2 : decode cX9_flush 2 = .ok (.putfield 43, 3) := by decide +kernel
theorem dX9_flush_5 : decode cX9_flush 5 = .ok (.iload_n 1, 1) := by decide +kernel
theorem dX9_flush_6 : decode cX9_flush 6 = .ok (.iconst 1, 1) := by decide +kernel
theorem dX9_flush_7 : decode cX9_flush 7 = .ok (.bipush 40, 2) := by decide +kernel
theorem dX9_flush_9 : decode cX9_flush 9 = .ok (.invokestatic 53, 3) := by decide +kernel
theorem dX9_flush_12 : decode cX9_flush 12 = .ok (.ifCond .ne 9, 3) := by decide +kernel
theorem dX9_flush_15 : decode cX9_flush 15 = .ok (.aload_n 0, 1) := by decide +kernel
theorem dX9_flush_16 : decode cX9_flush 16 = .ok (.iconst 1, 1) := by decide +kernel
theorem dX9_flush_17 : decode cX9_flush 17 = .ok (.invokevirtual 60, 3) := by decide +kernel
theorem dX9_flush_20 : decode cX9_flush 20 = .ok (.ireturn, 1) := by decide +kernel
theorem dX9_flush_21 : decode cX9_flush 21 = .ok (.aload_n 0, 1) := by decide +kernel
theorem dX9_flush_22 : decode cX9_flush 22 = .ok (.invokevirtual 150, 3) := by decide +kernel
theorem dX9_flush_25 : decode cX9_flush 25 = .ok (.aload_n 0, 1) := by decide +kernel
theorem dX9_flush_26 : decode cX9_flush 26 = .ok (.iload_n 1, 1) := by decide +kernel
theorem dX9_flush_27 : decode cX9_flush 27 = .ok (.invokevirtual 159, 3) := by decide +kernel
theorem dX9_flush_30 : decode cX9_flush 30 = .ok (.ireturn, 1) := by decide +kernel
theorem dX9_forget_0 : decode cX9_forget 0 = .ok (.aload_n 0, 1) := by decide +kernel
theorem dX9_forget_1 : decode cX9_forget 1 = .ok (.iload_n 1, 1) := by decide +kernel
theorem dX9_forget_2 : decode cX9_forget 2 = .ok (.invokestatic 274, 3) := by decide +kernel
theorem dX9_forget_5 : decode cX9_forget 5 = .ok (.ifCond .eq 7, 3) := by decide +kernel
theorem dX9_forget_8 : decode cX9_forget 8 = .ok (.iconst 0, 1) := by decide +kernel
theorem dX9_forget_9 : decode cX9_forget 9 = .ok (.goto 4, 3) := by decide +kernel
theorem dX9_forget_12 : decode cX9_forget 12 = .ok (.iconst 1, 1) := by decide +kernel
theorem dX9_forget_13 : decode cX9_forget 13 = .ok (.putfield 43, 3) := by decide +kernel
theorem dX9_forget_16 : decode cX9_forget 16 = .ok (.aload_n 0, 1) := by decide +kernel
theorem dX9_forget_17 : decode cX9_forget 17 = .ok (.getfield 43, 3) := by decide +kernel
theorem dX9_forget_20 : decode cX9_forget 20 = .ok (.ifCond .eq 5, 3) := by decide +kernel
theorem dX9_forget_23 : decode cX9_forget 23 = .ok (.iconst 0, 1) := by decide +kernel
theorem dX9_forget_24 : decode cX9_forget 24 = .ok (.ireturn, 1) := by decide +kernel
theorem dX9_forget_25 : decode cX9_forget 25 = .ok (.aload_n 0, 1) := by decide +kernel
theorem dX9_forget_26 : decode cX9_forget 26 = .ok (.invokevirtual 150, 3) := by decide +kernel
theorem dX9_forget_29 : decode cX9_forget 29 = .ok (.aload_n 0, 1) := by decide +kernel
theorem dX9_forget_30 : decode cX9_forget 30 = .ok (.iload_n 1, 1) := by decide +kernel
theorem dX9_forget_31 : decode cX9_forget 31 = .ok (.iconst 0, 1) := by decide +kernel
theorem dX9_forget_32 : decode cX9_forget 32 = .ok (.invokevirtual 171, 3) := by decide +kernel
theorem dX9_forget_35 : decode cX9_forget 35 = .ok (.iconst (-1), 1) := by decide +kernel
theorem dX9_forget_36 : decode cX9_forget 36 = .ok (.if_icmp .eq 7, 3) := by decide +kernel
theorem dX9_forget_39 : decode cX9_forget 39 = .ok (.iconst 1, 1) := by decide +kernel
theorem dX9_forget_40 : decode cX9_forget 40 = .ok (.goto 4, 3) := by decide +kernel
theorem dX9_forget_43 : decode cX9_forget 43 = .ok (.iconst 0, 1) := by decide +kernel
theorem dX9_forget_44 : decode cX9_forget 44 = .ok (.istore_n 2, 1) := by decide +kernel
theorem dX9_forget_45 : decode cX9_forget 45 = .ok (.iload_n 2, 1) := by decide +kernel
theorem dX9_forget_46 : decode cX9_forget 46 = .ok (.ifCond .eq 9, 3) := by decide +kernel
theorem dX9_forget_49 : decode cX9_forget 49 = .ok (.aload_n 0, 1) := by decide +kernel
theorem dX9_forget_50 : decode cX9_forget 50 = .ok (.iload_n 1, 1) := by decide +kernel
theorem dX9_forget_51 : decode cX9_forget 51 = .ok (.iconst (-1), 1) := by decide +kernel
theorem dX9_forget_52 : decode cX9_forget 52 = .ok (.invokevirtual 218, 3) := by decide +kernel
theorem dX9_forget_55 : decode cX9_forget 55 = .ok (.aload_n 0, 1) := by decide +kernel
theorem dX9_forget_56 : decode cX9_forget 56 = .ok (.iload_n 1, 1) := by decide +kernel
theorem dX9_forget_57 : decode cX9_forget 57 = .ok (.invokevirtual 189, 3) := by decide +kernel
theorem dX9_forget_60 : decode cX9_forget 60 = .ok (.iload_n 2, 1) := by decide +kernel
theorem dX9_forget_61 : decode cX9_forget 61 = .ok (.ireturn, 1) := by decide +kernel
theorem dX9_count_0 : decode cX9_count 0 = .ok (.aload_n 0, 1) := by decide +kernel
theorem dX9_count_1 : decode cX9_count 1 = .ok (.iconst 0, 1) := by decide +kernel
theorem dX9_count_2 : decode cX9_count 2 = .ok (.putfield 43, 3) := by decide +kernel
theorem dX9_count_5 : decode cX9_count 5 = .ok (.iload_n 1, 1) := by decide +kernel
theorem dX9_count_6 : decode cX9_count 6 = .ok (.lookupswitch 36 #[(12, 26), (23, 31)], 26) := by decide +kernel
theorem dX9_count_32 : decode cX9_count 32 = .ok (.aload_n 0, 1) := by decide +kernel
theorem dX9_count_33 : decode cX9_count 33 = .ok (.invokevirtual 271, 3) := by decide +kernel
theorem dX9_count_36 : decode cX9_count 36 = .ok (.ireturn, 1) := by decide +kernel
theorem dX9_count_37 : decode cX9_count 37 = .ok (.aload_n 0, 1) := by decide +kernel
theorem dX9_count_38 : decode cX9_count 38 = .ok (.getfield 46, 3) := by decide +kernel
theorem dX9_count_41 : decode cX9_count 41 = .ok (.ireturn, 1) := by decide +kernel
theorem dX9_count_42 : decode cX9_count 42 = .ok (.iload_n 1, 1) := by decide +kernel
theorem dX9_count_43 : decode cX9_count 43 = .ok (.iconst 0, 1) := by decide +kernel
theorem dX9_count_44 : decode cX9_count 44 = .ok (.bipush 22, 2) := by decide +kernel
theorem dX9_count_46 : decode cX9_count 46 = .ok (.invokestatic 53, 3) := by decide +kernel
theorem dX9_count_49 : decode cX9_count 49 = .ok (.ifCond .eq 12, 3) := by decide +kernel
theorem dX9_count_52 : decode cX9_count 52 = .ok (.aload_n 0, 1) := by decide +kernel
theorem dX9_count_53 : decode cX9_count 53 = .ok (.getfield 7, 3) := by decide +kernel
theorem dX9_count_56 : decode cX9_count 56 = .ok (.iload_n 1, 1) := by decide +kernel
theorem dX9_count_57 : decode cX9_count 57 = .ok (.iaload, 1) := by decide +kernel
theorem dX9_count_58 : decode cX9_count 58 = .ok (.goto 8, 3) := by decide +kernel
theorem dX9_count_61 : decode cX9_count 61 = .ok (.aload_n 0, 1) := by decide +kernel
theorem dX9_count_62 : decode cX9_count 62 = .ok (.iconst 1, 1) := by decide +kernel
theorem dX9_count_63 : decode cX9_count 63 = .ok (.invokevirtual 60, 3) := by decide +kernel
theorem dX9_count_66 : decode cX9_count 66 = .ok (.ireturn, 1) := by decide +kernel
theorem dX9_client_0 : decode cX9_client 0 = .ok (.aload_n 0, 1) := by decide +kernel
theorem dX9_client_1 : decode cX9_client 1 = .ok (.iconst 0, 1) := by decide +kernel
theorem dX9_client_2 : decode cX9_client 2 = .ok (.putfield 43, 3) := by decide +kernel
theorem dX9_client_5 : decode cX9_client 5 = .ok (.aload_n 0, 1) := by decide +kernel
theorem dX9_client_6 : decode cX9_client 6 = .ok (.iload_n 1, 1) := by decide +kernel
theorem dX9_client_7 : decode cX9_client 7 = .ok (.invokevirtual 153, 3) := by decide +kernel
theorem dX9_client_10 : decode cX9_client 10 = .ok (.ifCond .ne 9, 3) := by decide +kernel
theorem dX9_client_13 : decode cX9_client 13 = .ok (.aload_n 0, 1) := by decide +kernel
theorem dX9_client_14 : decode cX9_client 14 = .ok (.iconst 1, 1) := by decide +kernel
theorem dX9_client_15 : decode cX9_client 15 = .ok (.invokevirtual 60, 3) := by decide +kernel
theorem dX9_client_18 : decode cX9_client 18 = .ok (.ireturn, 1) := by decide +kernel
theorem dX9_client_19 : decode cX9_client 19 = .ok (.iload_n 2, 1) := by decide +kernel
theorem dX9_client_20 : decode cX9_client 20 = .ok (.tableswitch 106 0 10 #[60, 67, 67, 83, 83, 83, 83, 83, 83, 83, 92], 60) := by decide +kernel
theorem dX9_client_80 : decode cX9_client 80 = .ok (.aload_n 0, 1) := by decide +kernel
theorem dX9_client_81 : decode cX9_client 81 = .ok (.iload_n 1, 1) := by decide +kernel
theorem dX9_client_82 : decode cX9_client 82 = .ok (.iconst 0, 1) := by decide +kernel
theorem dX9_client_83 : decode cX9_client 83 = .ok (.invokevirtual 168, 3) := by decide +kernel
theorem dX9_client_86 : decode cX9_client 86 = .ok (.ireturn, 1) := by decide +kernel
theorem dX9_client_87 : decode cX9_client 87 = .ok (.aload_n 0, 1) := by decide +kernel
theorem dX9_client_88 : decode cX9_client 88 = .ok (.iload_n 1, 1) := by decide +kernel
theorem dX9_client_89 : decode cX9_client 89 = .ok (.iload_n 2, 1) := by decide +kernel
theorem dX9_client_90 : decode cX9_client 90 = .ok (.iconst 1, 1) := by decide +kernel
theorem dX9_client_91 : decode cX9_client 91 = .ok (.if_icmp .ne 7, 3) := by decide +kernel
theorem dX9_client_94 : decode cX9_client 94 = .ok (.iconst 1, 1) := by decide +kernel
theorem dX9_client_95 : decode cX9_client 95 = .ok (.goto 4, 3) := by decide +kernel
theorem dX9_client_98 : decode cX9_client 98 = .ok (.iconst 0, 1) := by decide +kernel
theorem dX9_client_99 : decode cX9_client 99 = .ok (.invokevirtual 202, 3) := by decide +kernel
theorem dX9_client_102 : decode cX9_client 102 = .ok (.ireturn, 1) := by decide +kernel
theorem dX9_client_103 : decode cX9_client 103 = .ok (.aload_n 0, 1) := by decide +kernel
theorem dX9_client_104 : decode cX9_client 104 = .ok (.iload_n 1, 1) := by decide +kernel
theorem dX9_client_105 : decode cX9_client 105 = .ok (.iload_n 2, 1) := by decide +kernel
theorem dX9_client_106 : decode cX9_client 106 = .ok (.iconst 2, 1) := by decide +kernel
theorem dX9_client_107 : decode cX9_client 107 = .ok (.isub, 1) := by decide +kernel
theorem dX9_client_108 : decode cX9_client 108 = .ok (.invokevirtual 168, 3) := by decide +kernel
theorem dX9_client_111 : decode cX9_client 111 = .ok (.ireturn, 1) := by decide +kernel
theorem dX9_client_112 : decode cX9_client 112 = .ok (.aload_n 0, 1) := by decide +kernel
theorem dX9_client_113 : decode cX9_client 113 = .ok (.iload_n 1, 1) := by decide +kernel
theorem dX9_client_114 : decode cX9_client 114 = .ok (.invokevirtual 209, 3) := by decide +kernel
theorem dX9_client_117 : decode cX9_client 117 = .ok (.ifCond .eq 7, 3) := by decide +kernel
theorem dX9_client_120 : decode cX9_client 120 = .ok (.iconst 1, 1) := by decide +kernel
theorem dX9_client_121 : decode cX9_client 121 = .ok (.goto 4, 3) := by decide +kernel
theorem dX9_client_124 : decode cX9_client 124 = .ok (.iconst 0, 1) := by decide +kernel
theorem dX9_client_125 : decode cX9_client 125 = .ok (.ireturn, 1) := by decide +kernel
theorem dX9_client_126 : decode cX9_client 126 = .ok (.aload_n 0, 1) := by decide +kernel
theorem dX9_client_127 : decode cX9_client 127 = .ok (.iconst 2, 1) := by decide +kernel
theorem dX9_client_128 : decode cX9_client 128 = .ok (.invokevirtual 60, 3) := by decide +kernel
theorem dX9_client_131 : decode cX9_client 131 = .ok (.ireturn, 1) := by decide +kernel
theorem dX9_block_0 : decode cX9_block 0 = .ok (.aload_n 0, 1) := by decide +kernel
theorem dX9_block_1 : decode cX9_block 1 = .ok (.iconst 0, 1) := by decide +kernel
theorem dX9_block_2 : decode cX9_block 2 = .ok (.putfield 43, 3) := by decide +kernel
theorem dX9_block_5 : decode cX9_block 5 = .ok (.iload_n 1, 1) := by decide +kernel
theorem dX9_block_6 : decode cX9_block 6 = .ok (.invokestatic 274, 3) := by decide +kernel
theorem dX9_block_9 : decode cX9_block 9 = .ok (.ifCond .eq 13, 3) := by decide +kernel
theorem dX9_block_12 : decode cX9_block 12 = .ok (.iload_n 2, 1) := by decide +kernel
theorem dX9_block_13 : decode cX9_block 13 = .ok (.iconst 0, 1) := by decide +kernel
theorem dX9_block_14 : decode cX9_block 14 = .ok (.bipush 6, 2) := by decide +kernel
theorem dX9_block_16 : decode cX9_block 16 = .ok (.invokestatic 53, 3) := by decide +kernel
theorem dX9_block_19 : decode cX9_block 19 = .ok (.ifCond .ne 9, 3) := by decide +kernel
theorem dX9_block_22 : decode cX9_block 22 = .ok (.aload_n 0, 1) := by decide +kernel
theorem dX9_block_23 : decode cX9_block 23 = .ok (.iconst 1, 1) := by decide +kernel
theorem dX9_block_24 : decode cX9_block 24 = .ok (.invokevirtual 60, 3) := by decide +kernel
theorem dX9_block_27 : decode cX9_block 27 = .ok (.ireturn, 1) := by decide +kernel
theorem dX9_block_28 : decode cX9_block 28 = .ok (.iload_n 2, 1) := by decide +kernel
theorem dX9_block_29 : decode cX9_block 29 = .ok (.iconst 5, 1) := by decide +kernel
theorem dX9_block_30 : decode cX9_block 30 = .ok (.if_icmp .ne 10, 3) := by decide +kernel
theorem dX9_block_33 : decode cX9_block 33 = .ok (.aload_n 0, 1) := by decide +kernel
theorem dX9_block_34 : decode cX9_block 34 = .ok (.iload_n 1, 1) := by decide +kernel
theorem dX9_block_35 : decode cX9_block 35 = .ok (.iconst 4, 1) := by decide +kernel
theorem dX9_block_36 : decode cX9_block 36 = .ok (.invokevirtual 171, 3) := by decide +kernel
theorem dX9_block_39 : decode cX9_block 39 = .ok (.ireturn, 1) := by decide +kernel
theorem dX9_block_40 : decode cX9_block 40 = .ok (.iload_n 2, 1) := by decide +kernel
theorem dX9_block_41 : decode cX9_block 41 = .ok (.bipush 6, 2) := by decide +kernel
theorem dX9_block_43 : decode cX9_block 43 = .ok (.if_icmp .ne 14, 3) := by decide +kernel
theorem dX9_block_46 : decode cX9_block 46 = .ok (.aload_n 0, 1) := by decide +kernel
theorem dX9_block_47 : decode cX9_block 47 = .ok (.getfield 7, 3) := by decide +kernel
theorem dX9_block_50 : decode cX9_block 50 = .ok (.sipush 1184, 3) := by decide +kernel
theorem dX9_block_53 : decode cX9_block 53 = .ok (.iload_n 1, 1) := by decide +kernel
theorem dX9_block_54 : decode cX9_block 54 = .ok (.iadd, 1) := by decide +kernel
theorem dX9_block_55 : decode cX9_block 55 = .ok (.iaload, 1) := by decide +kernel
theorem dX9_block_56 : decode cX9_block 56 = .ok (.ireturn, 1) := by decide +kernel
theorem dX9_block_57 : decode cX9_block 57 = .ok (.aload_n 0, 1) := by decide +kernel
theorem dX9_block_58 : decode cX9_block 58 = .ok (.iload_n 1, 1) := by decide +kernel
theorem dX9_block_59 : decode cX9_block 59 = .ok (.iconst 0, 1) := by decide +kernel
theorem dX9_block_60 : decode cX9_block 60 = .ok (.invokevirtual 171, 3) := by decide +kernel
theorem dX9_block_63 : decode cX9_block 63 = .ok (.istore_n 3, 1) := by decide +kernel
theorem dX9_block_64 : decode cX9_block 64 = .ok (.iload_n 3, 1) := by decide +kernel
theorem dX9_block_65 : decode cX9_block 65 = .ok (.iconst (-1), 1) := by decide +kernel
theorem dX9_block_66 : decode cX9_block 66 = .ok (.if_icmp .ne 5, 3) := by decide +kernel
theorem dX9_block_69 : decode cX9_block 69 = .ok (.iconst (-1), 1) := by decide +kernel
theorem dX9_block_70 : decode cX9_block 70 = .ok (.ireturn, 1) := by decide +kernel
theorem dX9_block_71 : decode cX9_block 71 = .ok (.iload_n 2, 1) := by decide +kernel
theorem dX9_block_72 : decode cX9_block 72 = .ok (.ifCond .ne 7, 3) := by decide +kernel
theorem dX9_block_75 : decode cX9_block 75 = .ok (.iload_n 3, 1) := by decide +kernel
theorem dX9_block_76 : decode cX9_block 76 = .ok (.goto 25, 3) := by decide +kernel
theorem dX9_block_79 : decode cX9_block 79 = .ok (.iload_n 2, 1) := by decide +kernel
theorem dX9_block_80 : decode cX9_block 80 = .ok (.iconst 1, 1) := by decide +kernel
theorem dX9_block_81 : decode cX9_block 81 = .ok (.if_icmp .ne 12, 3) := by decide +kernel
theorem dX9_block_84 : decode cX9_block 84 = .ok (.aload_n 0, 1) := by decide +kernel
theorem dX9_block_85 : decode cX9_block 85 = .ok (.iload_n 3, 1) := by decide +kernel
theorem dX9_block_86 : decode cX9_block 86 = .ok (.iload_n 1, 1) := by decide +kernel
theorem dX9_block_87 : decode cX9_block 87 = .ok (.invokevirtual 177, 3) := by decide +kernel
theorem dX9_block_90 : decode cX9_block 90 = .ok (.goto 11, 3) := by decide +kernel
theorem dX9_block_93 : decode cX9_block 93 = .ok (.aload_n 0, 1) := by decide +kernel
theorem dX9_block_94 : decode cX9_block 94 = .ok (.iload_n 1, 1) := by decide +kernel
theorem dX9_block_95 : decode cX9_block 95 = .ok (.iload_n 2, 1) := by decide +kernel
theorem dX9_block_96 : decode cX9_block 96 = .ok (.iconst 1, 1) := by decide +kernel
theorem dX9_block_97 : decode cX9_block 97 = .ok (.isub, 1) := by decide +kernel
theorem dX9_block_98 : decode cX9_block 98 = .ok (.invokevirtual 171, 3) := by decide +kernel
theorem dX9_block_101 : decode cX9_block 101 = .ok (.ireturn, 1) := by decide +kernel
theorem dX9_isList_0 : decode cX9_isList 0 = .ok (.iload_n 1, 1) := by decide +kernel
theorem dX9_isList_1 : decode cX9_isList 1 = .ok (.iconst 0, 1) := by decide +kernel
theorem dX9_isList_2 : decode cX9_isList 2 = .ok (.iconst 4, 1) := by decide +kernel
theorem dX9_isList_3 : decode cX9_isList 3 = .ok (.invokestatic 53, 3) := by decide +kernel
theorem dX9_isList_6 : decode cX9_isList 6 = .ok (.ireturn, 1) := by decide +kernel
theorem dX9_at_0 : decode cX9_at 0 = .ok (.aload_n 0, 1) := by decide +kernel
theorem dX9_at_1 : decode cX9_at 1 = .ok (.iconst 0, 1) := by decide +kernel
theorem dX9_at_2 : decode cX9_at 2 = .ok (.putfield 43, 3) := by decide +kernel
theorem dX9_at_5 : decode cX9_at 5 = .ok (.aload_n 0, 1) := by decide +kernel
theorem dX9_at_6 : decode cX9_at 6 = .ok (.iload_n 1, 1) := by decide +kernel
theorem dX9_at_7 : decode cX9_at 7 = .ok (.invokevirtual 277, 3) := by decide +kernel
theorem dX9_at_10 : decode cX9_at 10 = .ok (.ifCond .eq 7, 3) := by decide +kernel
theorem dX9_at_13 : decode cX9_at 13 = .ok (.iload_n 2, 1) := by decide +kernel
theorem dX9_at_14 : decode cX9_at 14 = .ok (.ifCond .ge 9, 3) := by decide +kernel
theorem dX9_at_17 : decode cX9_at 17 = .ok (.aload_n 0, 1) := by decide +kernel
theorem dX9_at_18 : decode cX9_at 18 = .ok (.iconst 1, 1) := by decide +kernel
theorem dX9_at_19 : decode cX9_at 19 = .ok (.invokevirtual 60, 3) := by decide +kernel
theorem dX9_at_22 : decode cX9_at 22 = .ok (.ireturn, 1) := by decide +kernel
theorem dX9_at_23 : decode cX9_at 23 = .ok (.iload_n 2, 1) := by decide +kernel
theorem dX9_at_24 : decode cX9_at 24 = .ok (.aload_n 0, 1) := by decide +kernel
theorem dX9_at_25 : decode cX9_at 25 = .ok (.iload_n 1, 1) := by decide +kernel
theorem dX9_at_26 : decode cX9_at 26 = .ok (.invokevirtual 180, 3) := by decide +kernel
theorem dX9_at_29 : decode cX9_at 29 = .ok (.if_icmp .ge 12, 3) := by decide +kernel
theorem dX9_at_32 : decode cX9_at 32 = .ok (.aload_n 0, 1) := by decide +kernel
theorem dX9_at_33 : decode cX9_at 33 = .ok (.iload_n 1, 1) := by decide +kernel
theorem dX9_at_34 : decode cX9_at 34 = .ok (.iload_n 2, 1) := by decide +kernel
theorem dX9_at_35 : decode cX9_at 35 = .ok (.invokevirtual 174, 3) := by decide +kernel
theorem dX9_at_38 : decode cX9_at 38 = .ok (.goto 4, 3) := by decide +kernel
theorem dX9_at_41 : decode cX9_at 41 = .ok (.iconst (-1), 1) := by decide +kernel
theorem dX9_at_42 : decode cX9_at 42 = .ok (.ireturn, 1) := by decide +kernel
theorem dX9_share_0 : decode cX9_share 0 = .ok (.aload_n 0, 1) := by decide +kernel
theorem dX9_share_1 : decode cX9_share 1 = .ok (.aload_n 0, 1) := by decide +kernel
theorem dX9_share_2 : decode cX9_share 2 = .ok (.iload_n 1, 1) := by decide +kernel
theorem dX9_share_3 : decode cX9_share 3 = .ok (.invokevirtual 153, 3) := by decide +kernel
theorem dX9_share_6 : decode cX9_share 6 = .ok (.ifCond .eq 7, 3) := by decide +kernel
theorem dX9_share_9 : decode cX9_share 9 = .ok (.iconst 0, 1) := by decide +kernel
theorem dX9_share_10 : decode cX9_share 10 = .ok (.goto 4, 3) := by decide +kernel
theorem dX9_share_13 : decode cX9_share 13 = .ok (.iconst 1, 1) := by decide +kernel
theorem dX9_share_14 : decode cX9_share 14 = .ok (.putfield 43, 3) := by decide +kernel
theorem dX9_share_17 : decode cX9_share 17 = .ok (.aload_n 0, 1) := by decide +kernel
theorem dX9_share_18 : decode cX9_share 18 = .ok (.getfield 43, 3) := by decide +kernel
theorem dX9_share_21 : decode cX9_share 21 = .ok (.ifCond .ne 26, 3) := by decide +kernel
theorem dX9_share_24 : decode cX9_share 24 = .ok (.aload_n 0, 1) := by decide +kernel
theorem dX9_share_25 : decode cX9_share 25 = .ok (.getfield 7, 3) := by decide +kernel
theorem dX9_share_28 : decode cX9_share 28 = .ok (.iconst 2, 1) := by decide +kernel
theorem dX9_share_29 : decode cX9_share 29 = .ok (.iaload, 1) := by decide +kernel
theorem dX9_share_30 : decode cX9_share 30 = .ok (.aload_n 0, 1) := by decide +kernel
theorem dX9_share_31 : decode cX9_share 31 = .ok (.iload_n 1, 1) := by decide +kernel
theorem dX9_share_32 : decode cX9_share 32 = .ok (.iconst 0, 1) := by decide +kernel
theorem dX9_share_33 : decode cX9_share 33 = .ok (.invokevirtual 168, 3) := by decide +kernel
theorem dX9_share_36 : decode cX9_share 36 = .ok (.imul, 1) := by decide +kernel
theorem dX9_share_37 : decode cX9_share 37 = .ok (.i2d, 1) := by decide +kernel
theorem dX9_share_38 : decode cX9_share 38 = .ok (.aload_n 0, 1) := by decide +kernel
theorem dX9_share_39 : decode cX9_share 39 = .ok (.invokevirtual 206, 3) := by decide +kernel
theorem dX9_share_42 : decode cX9_share 42 = .ok (.i2d, 1) := by decide +kernel
theorem dX9_share_43 : decode cX9_share 43 = .ok (.ddiv, 1) := by decide +kernel
theorem dX9_share_44 : decode cX9_share 44 = .ok (.goto 4, 3) := by decide +kernel
theorem dX9_share_47 : decode cX9_share 47 = .ok (.dconst 0, 1) := by decide +kernel
theorem dX9_share_48 : decode cX9_share 48 = .ok (.dreturn, 1) := by decide +kernel
theorem dX9_hitShare_0 : decode cX9_hitShare 0 = .ok (.aload_n 0, 1) := by decide +kernel
theorem dX9_hitShare_1 : decode cX9_hitShare 1 = .ok (.iconst 0, 1) := by decide +kernel
theorem dX9_hitShare_2 : decode cX9_hitShare 2 = .ok (.putfield 43, 3) := by decide +kernel
theorem dX9_hitShare_5 : decode cX9_hitShare 5 = .ok (.aload_n 0, 1) := by decide +kernel
theorem dX9_hitShare_6 : decode cX9_hitShare 6 = .ok (.getfield 7, 3) := by decide +kernel
theorem dX9_hitShare_9 : decode cX9_hitShare 9 = .ok (.iconst 5, 1) := by decide +kernel
theorem dX9_hitShare_10 : decode cX9_hitShare 10 = .ok (.iaload, 1) := by decide +kernel
theorem dX9_hitShare_11 : decode cX9_hitShare 11 = .ok (.ifCond .ne 7, 3) := by decide +kernel
theorem dX9_hitShare_14 : decode cX9_hitShare 14 = .ok (.fconst 0, 1) := by decide +kernel
theorem dX9_hitShare_15 : decode cX9_hitShare 15 = .ok (.goto 19, 3) := by decide +kernel
theorem dX9_hitShare_18 : decode cX9_hitShare 18 = .ok (.aload_n 0, 1) := by decide +kernel
theorem dX9_hitShare_19 : decode cX9_hitShare 19 = .ok (.getfield 7, 3) := by decide +kernel
theorem dX9_hitShare_22 : decode cX9_hitShare 22 = .ok (.bipush 14, 2) := by decide +kernel
theorem dX9_hitShare_24 : decode cX9_hitShare 24 = .ok (.iaload, 1) := by decide +kernel
theorem dX9_hitShare_25 : decode cX9_hitShare 25 = .ok (.i2f, 1) := by decide +kernel
theorem dX9_hitShare_26 : decode cX9_hitShare 26 = .ok (.aload_n 0, 1) := by decide +kernel
theorem dX9_hitShare_27 : decode cX9_hitShare 27 = .ok (.getfield 7, 3) := by decide +kernel
theorem dX9_hitShare_30 : decode cX9_hitShare 30 = .ok (.iconst 5, 1) := by decide +kernel
theorem dX9_hitShare_31 : decode cX9_hitShare 31 = .ok (.iaload, 1) := by decide +kernel
theorem dX9_hitShare_32 : decode cX9_hitShare 32 = .ok (.i2f, 1) := by decide +kernel
theorem dX9_hitShare_33 : decode cX9_hitShare 33 = .ok (.fdiv, 1) := by decide +kernel
theorem dX9_hitShare_34 : decode cX9_hitShare 34 = .ok (.freturn, 1) := by decide +kernel
theorem dX9_order_0 : decode cX9_order 0 = .ok (.aload_n 0, 1) := by decide +kernel
theorem dX9_order_1 : decode cX9_order 1 = .ok (.iconst 0, 1) := by decide +kernel
theorem dX9_order_2 : decode cX9_order 2 = .ok (.putfield 43, 3) := by decide +kernel
theorem dX9_order_5 : decode cX9_order 5 = .ok (.iload_n 1, 1) := by decide +kernel
theorem dX9_order_6 : decode cX9_order 6 = .ok (.ifCond .ge 11, 3) := by decide +kernel
theorem dX9_order_9 : decode cX9_order 9 = .ok (.aload_n 0, 1) := by decide +kernel
theorem dX9_order_10 : decode cX9_order 10 = .ok (.iconst 1, 1) := by decide +kernel
theorem dX9_order_11 : decode cX9_order 11 = .ok (.invokevirtual 60, 3) := by decide +kernel
theorem dX9_order_14 : decode cX9_order 14 = .ok (.goto 8, 3) := by decide +kernel
theorem dX9_order_17 : decode cX9_order 17 = .ok (.aload_n 0, 1) := by decide +kernel
theorem dX9_order_18 : decode cX9_order 18 = .ok (.iload_n 1, 1) := by decide +kernel
theorem dX9_order_19 : decode cX9_order 19 = .ok (.invokevirtual 196, 3) := by decide +kernel
theorem dX9_order_22 : decode cX9_order 22 = .ok (.ireturn, 1) := by decide +kernel
theorem dX9_victim_0 : decode cX9_victim 0 = .ok (.aload_n 0, 1) := by decide +kernel
theorem dX9_victim_1 : decode cX9_victim 1 = .ok (.iconst 0, 1) := by decide +kernel
theorem dX9_victim_2 : decode cX9_victim 2 = .ok (.putfield 43, 3) := by decide +kernel
theorem dX9_victim_5 : decode cX9_victim 5 = .ok (.aload_n 0, 1) := by decide +kernel
theorem dX9_victim_6 : decode cX9_victim 6 = .ok (.invokevirtual 221, 3) := by decide +kernel
theorem dX9_victim_9 : decode cX9_victim 9 = .ok (.ifCond .eq 15, 3) := by decide +kernel
theorem dX9_victim_12 : decode cX9_victim 12 = .ok (.aload_n 0, 1) := by decide +kernel
theorem dX9_victim_13 : decode cX9_victim 13 = .ok (.aload_n 0, 1) := by decide +kernel
theorem dX9_victim_14 : decode cX9_victim 14 = .ok (.iload_n 1, 1) := by decide +kernel
theorem dX9_victim_15 : decode cX9_victim 15 = .ok (.invokevirtual 224, 3) := by decide +kernel
theorem dX9_victim_18 : decode cX9_victim 18 = .ok (.invokevirtual 228, 3) := by decide +kernel
theorem dX9_victim_21 : decode cX9_victim 21 = .ok (.goto 4, 3) := by decide +kernel
theorem dX9_victim_24 : decode cX9_victim 24 = .ok (.iconst (-1), 1) := by decide +kernel
theorem dX9_victim_25 : decode cX9_victim 25 = .ok (.ireturn, 1) := by decide +kernel
theorem dX9_leaving_0 : decode cX9_leaving 0 = .ok (.aload_n 0, 1) := by decide +kernel
theorem dX9_leaving_1 : decode cX9_leaving 1 = .ok (.iconst 0, 1) := by decide +kernel
theorem dX9_leaving_2 : decode cX9_leaving 2 = .ok (.putfield 43, 3) := by decide +kernel
theorem dX9_leaving_5 : decode cX9_leaving 5 = .ok (.aload_n 0, 1) := by decide +kernel
theorem dX9_leaving_6 : decode cX9_leaving 6 = .ok (.iconst 2, 1) := by decide +kernel
theorem dX9_leaving_7 : decode cX9_leaving 7 = .ok (.invokevirtual 180, 3) := by decide +kernel
theorem dX9_leaving_10 : decode cX9_leaving 10 = .ok (.aload_n 0, 1) := by decide +kernel
theorem dX9_leaving_11 : decode cX9_leaving 11 = .ok (.getfield 7, 3) := by decide +kernel
theorem dX9_leaving_14 : decode cX9_leaving 14 = .ok (.iconst 3, 1) := by decide +kernel
theorem dX9_leaving_15 : decode cX9_leaving 15 = .ok (.iaload, 1) := by decide +kernel
theorem dX9_leaving_16 : decode cX9_leaving 16 = .ok (.if_icmp .ne 10, 3) := by decide +kernel
theorem dX9_leaving_19 : decode cX9_leaving 19 = .ok (.aload_n 0, 1) := by decide +kernel
theorem dX9_leaving_20 : decode cX9_leaving 20 = .ok (.invokevirtual 212, 3) := by decide +kernel
theorem dX9_leaving_23 : decode cX9_leaving 23 = .ok (.goto 4, 3) := by decide +kernel
theorem dX9_leaving_26 : decode cX9_leaving 26 = .ok (.iconst (-1), 1) := by decide +kernel
theorem dX9_leaving_27 : decode cX9_leaving 27 = .ok (.ireturn, 1) := by decide +kernel
theorem dX9_oldest_0 : decode cX9_oldest 0 = .ok (.aload_n 0, 1) := by decide +kernel
theorem dX9_oldest_1 : decode cX9_oldest 1 = .ok (.iconst 0, 1) := by decide +kernel
theorem dX9_oldest_2 : decode cX9_oldest 2 = .ok (.putfield 43, 3) := by decide +kernel
theorem dX9_oldest_5 : decode cX9_oldest 5 = .ok (.iconst (-1), 1) := by decide +kernel
theorem dX9_oldest_6 : decode cX9_oldest 6 = .ok (.istore_n 1, 1) := by decide +kernel
theorem dX9_oldest_7 : decode cX9_oldest 7 = .ok (.iconst 0, 1) := by decide +kernel
theorem dX9_oldest_8 : decode cX9_oldest 8 = .ok (.istore_n 2, 1) := by decide +kernel
theorem dX9_oldest_9 : decode cX9_oldest 9 = .ok (.iload_n 2, 1) := by decide +kernel
theorem dX9_oldest_10 : decode cX9_oldest 10 = .ok (.sipush 200, 3) := by decide +kernel
theorem dX9_oldest_13 : decode cX9_oldest 13 = .ok (.if_icmp .ge 53, 3) := by decide +kernel
theorem dX9_oldest_16 : decode cX9_oldest 16 = .ok (.aload_n 0, 1) := by decide +kernel
theorem dX9_oldest_17 : decode cX9_oldest 17 = .ok (.iload_n 2, 1) := by decide +kernel
theorem dX9_oldest_18 : decode cX9_oldest 18 = .ok (.invokevirtual 193, 3) := by decide +kernel
theorem dX9_oldest_21 : decode cX9_oldest 21 = .ok (.ifCond .eq 27, 3) := by decide +kernel
theorem dX9_oldest_24 : decode cX9_oldest 24 = .ok (.iload_n 1, 1) := by decide +kernel
theorem dX9_oldest_25 : decode cX9_oldest 25 = .ok (.iconst (-1), 1) := by decide +kernel
theorem dX9_oldest_26 : decode cX9_oldest 26 = .ok (.if_icmp .eq 18, 3) := by decide +kernel
theorem dX9_oldest_29 : decode cX9_oldest 29 = .ok (.aload_n 0, 1) := by decide +kernel
theorem dX9_oldest_30 : decode cX9_oldest 30 = .ok (.iload_n 2, 1) := by decide +kernel
theorem dX9_oldest_31 : decode cX9_oldest 31 = .ok (.iconst 3, 1) := by decide +kernel
theorem dX9_oldest_32 : decode cX9_oldest 32 = .ok (.invokevirtual 171, 3) := by decide +kernel
theorem dX9_oldest_35 : decode cX9_oldest 35 = .ok (.aload_n 0, 1) := by decide +kernel
theorem dX9_oldest_36 : decode cX9_oldest 36 = .ok (.iload_n 1, 1) := by decide +kernel
theorem dX9_oldest_37 : decode cX9_oldest 37 = .ok (.iconst 3, 1) := by decide +kernel
theorem dX9_oldest_38 : decode cX9_oldest 38 = .ok (.invokevirtual 171, 3) := by decide +kernel
theorem dX9_oldest_41 : decode cX9_oldest 41 = .ok (.if_icmp .ge 7, 3) := by decide +kernel
theorem dX9_oldest_44 : decode cX9_oldest 44 = .ok (.iconst 1, 1) := by decide +kernel
theorem dX9_oldest_45 : decode cX9_oldest 45 = .ok (.goto 4, 3) := by decide +kernel
theorem dX9_oldest_48 : decode cX9_oldest 48 = .ok (.iconst 0, 1) := by decide +kernel
theorem dX9_oldest_49 : decode cX9_oldest 49 = .ok (.istore_n 3, 1) := by decide +kernel
theorem dX9_oldest_50 : decode cX9_oldest 50 = .ok (.iload_n 3, 1) := by decide +kernel
theorem dX9_oldest_51 : decode cX9_oldest 51 = .ok (.ifCond .eq 7, 3) := by decide +kernel
theorem dX9_oldest_54 : decode cX9_oldest 54 = .ok (.iload_n 2, 1) := by decide +kernel
theorem dX9_oldest_55 : decode cX9_oldest 55 = .ok (.goto 4, 3) := by decide +kernel
theorem dX9_oldest_58 : decode cX9_oldest 58 = .ok (.iload_n 1, 1) := by decide +kernel
theorem dX9_oldest_59 : decode cX9_oldest 59 = .ok (.istore_n 1, 1) := by decide +kernel
theorem dX9_oldest_60 : decode cX9_oldest 60 = .ok (.iinc 2 1, 3) := by decide +kernel
theorem dX9_oldest_63 : decode cX9_oldest 63 = .ok (.goto (-54), 3) := by decide +kernel
theorem dX9_oldest_66 : decode cX9_oldest 66 = .ok (.iload_n 1, 1) := by decide +kernel
theorem dX9_oldest_67 : decode cX9_oldest 67 = .ok (.ireturn, 1) := by decide +kernel
theorem dX9_ages_0 : decode cX9_ages 0 = .ok (.aload_n 0, 1) := by decide +kernel
theorem dX9_ages_1 : decode cX9_ages 1 = .ok (.iconst 0, 1) := by decide +kernel
theorem dX9_ages_2 : decode cX9_ages 2 = .ok (.putfield 43, 3) := by decide +kernel
theorem dX9_ages_5 : decode cX9_ages 5 = .ok (.iload_n 1, 1) := by decide +kernel
theorem dX9_ages_6 : decode cX9_ages 6 = .ok (.iconst 0, 1) := by decide +kernel
theorem dX9_ages_7 : decode cX9_ages 7 = .ok (.iconst 2, 1) := by decide +kernel
theorem dX9_ages_8 : decode cX9_ages 8 = .ok (.invokestatic 53, 3) := by decide +kernel
theorem dX9_ages_11 : decode cX9_ages 11 = .ok (.ifCond .ne 9, 3) := by decide +kernel
theorem dX9_ages_14 : decode cX9_ages 14 = .ok (.aload_n 0, 1) := by decide +kernel
theorem dX9_ages_15 : decode cX9_ages 15 = .ok (.iconst 1, 1) := by decide +kernel
theorem dX9_ages_16 : decode cX9_ages 16 = .ok (.invokevirtual 60, 3) := by decide +kernel
theorem dX9_ages_19 : decode cX9_ages 19 = .ok (.ireturn, 1) := by decide +kernel
theorem dX9_ages_20 : decode cX9_ages 20 = .ok (.iconst 0, 1) := by decide +kernel
theorem dX9_ages_21 : decode cX9_ages 21 = .ok (.istore_n 2, 1) := by decide +kernel
theorem dX9_ages_22 : decode cX9_ages 22 = .ok (.iconst 0, 1) := by decide +kernel
theorem dX9_ages_23 : decode cX9_ages 23 = .ok (.istore_n 3, 1) := by decide +kernel
theorem dX9_ages_24 : decode cX9_ages 24 = .ok (.iload_n 3, 1) := by decide +kernel
theorem dX9_ages_25 : decode cX9_ages 25 = .ok (.aload_n 0, 1) := by decide +kernel
theorem dX9_ages_26 : decode cX9_ages 26 = .ok (.iload_n 1, 1) := by decide +kernel
theorem dX9_ages_27 : decode cX9_ages 27 = .ok (.invokevirtual 180, 3) := by decide +kernel
theorem dX9_ages_30 : decode cX9_ages 30 = .ok (.if_icmp .ge 47, 3) := by decide +kernel
theorem dX9_ages_33 : decode cX9_ages 33 = .ok (.aload_n 0, 1) := by decide +kernel
theorem dX9_ages_34 : decode cX9_ages 34 = .ok (.iload_n 1, 1) := by decide +kernel
theorem dX9_ages_35 : decode cX9_ages 35 = .ok (.iload_n 3, 1) := by decide +kernel
theorem dX9_ages_36 : decode cX9_ages 36 = .ok (.invokevirtual 174, 3) := by decide +kernel
theorem dX9_ages_39 : decode cX9_ages 39 = .ok (.istore 4, 2) := by decide +kernel
theorem dX9_ages_41 : decode cX9_ages 41 = .ok (.iload_n 2, 1) := by decide +kernel
theorem dX9_ages_42 : decode cX9_ages 42 = .ok (.aload_n 0, 1) := by decide +kernel
theorem dX9_ages_43 : decode cX9_ages 43 = .ok (.iload 4, 2) := by decide +kernel
theorem dX9_ages_45 : decode cX9_ages 45 = .ok (.invokevirtual 193, 3) := by decide +kernel
theorem dX9_ages_48 : decode cX9_ages 48 = .ok (.ifCond .eq 20, 3) := by decide +kernel
theorem dX9_ages_51 : decode cX9_ages 51 = .ok (.aload_n 0, 1) := by decide +kernel
theorem dX9_ages_52 : decode cX9_ages 52 = .ok (.getfield 7, 3) := by decide +kernel
theorem dX9_ages_55 : decode cX9_ages 55 = .ok (.iconst 5, 1) := by decide +kernel
theorem dX9_ages_56 : decode cX9_ages 56 = .ok (.iaload, 1) := by decide +kernel
theorem dX9_ages_57 : decode cX9_ages 57 = .ok (.aload_n 0, 1) := by decide +kernel
theorem dX9_ages_58 : decode cX9_ages 58 = .ok (.iload 4, 2) := by decide +kernel
theorem dX9_ages_60 : decode cX9_ages 60 = .ok (.iconst 3, 1) := by decide +kernel
theorem dX9_ages_61 : decode cX9_ages 61 = .ok (.invokevirtual 171, 3) := by decide +kernel
theorem dX9_ages_64 : decode cX9_ages 64 = .ok (.isub, 1) := by decide +kernel
theorem dX9_ages_65 : decode cX9_ages 65 = .ok (.goto 4, 3) := by decide +kernel
theorem dX9_ages_68 : decode cX9_ages 68 = .ok (.iconst 0, 1) := by decide +kernel
theorem dX9_ages_69 : decode cX9_ages 69 = .ok (.iadd, 1) := by decide +kernel
theorem dX9_ages_70 : decode cX9_ages 70 = .ok (.istore_n 2, 1) := by decide +kernel
theorem dX9_ages_71 : decode cX9_ages 71 = .ok (.iinc 3 1, 3) := by decide +kernel
theorem dX9_ages_74 : decode cX9_ages 74 = .ok (.goto (-50), 3) := by decide +kernel
theorem dX9_ages_77 : decode cX9_ages 77 = .ok (.iload_n 2, 1) := by decide +kernel
theorem dX9_ages_78 : decode cX9_ages 78 = .ok (.ireturn, 1) := by decide +kernel
theorem dX9_ownedAt_0 : decode cX9_ownedAt 0 = .ok (.aload_n 0, 1) := by decide +kernel
theorem dX9_ownedAt_1 : decode cX9_ownedAt 1 = .ok (.iconst 0, 1) := by decide +kernel
theorem dX9_ownedAt_2 : decode cX9_ownedAt 2 = .ok (.putfield 43, 3) := by decide +kernel
theorem dX9_ownedAt_5 : decode cX9_ownedAt 5 = .ok (.aload_n 0, 1) := by decide +kernel
theorem dX9_ownedAt_6 : decode cX9_ownedAt 6 = .ok (.iload_n 1, 1) := by decide +kernel
theorem dX9_ownedAt_7 : decode cX9_ownedAt 7 = .ok (.invokevirtual 153, 3) := by decide +kernel
theorem dX9_ownedAt_10 : decode cX9_ownedAt 10 = .ok (.ifCond .eq 16, 3) := by decide +kernel
theorem dX9_ownedAt_13 : decode cX9_ownedAt 13 = .ok (.iload_n 2, 1) := by decide +kernel
theorem dX9_ownedAt_14 : decode cX9_ownedAt 14 = .ok (.iconst 0, 1) := by decide +kernel
theorem dX9_ownedAt_15 : decode cX9_ownedAt 15 = .ok (.iconst 2, 1) := by decide +kernel
theorem dX9_ownedAt_16 : decode cX9_ownedAt 16 = .ok (.invokestatic 53, 3) := by decide +kernel
theorem dX9_ownedAt_19 : decode cX9_ownedAt 19 = .ok (.ifCond .eq 7, 3) := by decide +kernel
theorem dX9_ownedAt_22 : decode cX9_ownedAt 22 = .ok (.iload_n 3, 1) := by decide +kernel
theorem dX9_ownedAt_23 : decode cX9_ownedAt 23 = .ok (.ifCond .ge 9, 3) := by decide +kernel
theorem dX9_ownedAt_26 : decode cX9_ownedAt 26 = .ok (.aload_n 0, 1) := by decide +kernel
theorem dX9_ownedAt_27 : decode cX9_ownedAt 27 = .ok (.iconst 1, 1) := by decide +kernel
theorem dX9_ownedAt_28 : decode cX9_ownedAt 28 = .ok (.invokevirtual 60, 3) := by decide +kernel
theorem dX9_ownedAt_31 : decode cX9_ownedAt 31 = .ok (.ireturn, 1) := by decide +kernel
theorem dX9_ownedAt_32 : decode cX9_ownedAt 32 = .ok (.iload_n 3, 1) := by decide +kernel
theorem dX9_ownedAt_33 : decode cX9_ownedAt 33 = .ok (.istore 4, 2) := by decide +kernel
theorem dX9_ownedAt_35 : decode cX9_ownedAt 35 = .ok (.iconst 0, 1) := by decide +kernel
theorem dX9_ownedAt_36 : decode cX9_ownedAt 36 = .ok (.istore 5, 2) := by decide +kernel
theorem dX9_ownedAt_38 : decode cX9_ownedAt 38 = .ok (.iload 5, 2) := by decide +kernel
theorem dX9_ownedAt_40 : decode cX9_ownedAt 40 = .ok (.aload_n 0, 1) := by decide +kernel
theorem dX9_ownedAt_41 : decode cX9_ownedAt 41 = .ok (.iload_n 2, 1) := by decide +kernel
theorem dX9_ownedAt_42 : decode cX9_ownedAt 42 = .ok (.invokevirtual 180, 3) := by decide +kernel
theorem dX9_ownedAt_45 : decode cX9_ownedAt 45 = .ok (.if_icmp .ge 41, 3) := by decide +kernel
theorem dX9_ownedAt_48 : decode cX9_ownedAt 48 = .ok (.aload_n 0, 1) := by decide +kernel
theorem dX9_ownedAt_49 : decode cX9_ownedAt 49 = .ok (.aload_n 0, 1) := by decide +kernel
theorem dX9_ownedAt_50 : decode cX9_ownedAt 50 = .ok (.iload_n 2, 1) := by decide +kernel
theorem dX9_ownedAt_51 : decode cX9_ownedAt 51 = .ok (.iload 5, 2) := by decide +kernel
theorem dX9_ownedAt_53 : decode cX9_ownedAt 53 = .ok (.invokevirtual 174, 3) := by decide +kernel
theorem dX9_ownedAt_56 : decode cX9_ownedAt 56 = .ok (.iconst 2, 1) := by decide +kernel
theorem dX9_ownedAt_57 : decode cX9_ownedAt 57 = .ok (.invokevirtual 171, 3) := by decide +kernel
theorem dX9_ownedAt_60 : decode cX9_ownedAt 60 = .ok (.iload_n 1, 1) := by decide +kernel
theorem dX9_ownedAt_61 : decode cX9_ownedAt 61 = .ok (.if_icmp .ne 19, 3) := by decide +kernel
theorem dX9_ownedAt_64 : decode cX9_ownedAt 64 = .ok (.iload 4, 2) := by decide +kernel
theorem dX9_ownedAt_66 : decode cX9_ownedAt 66 = .ok (.ifCond .ne 11, 3) := by decide +kernel
theorem dX9_ownedAt_69 : decode cX9_ownedAt 69 = .ok (.aload_n 0, 1) := by decide +kernel
theorem dX9_ownedAt_70 : decode cX9_ownedAt 70 = .ok (.iload_n 2, 1) := by decide +kernel
theorem dX9_ownedAt_71 : decode cX9_ownedAt 71 = .ok (.iload 5, 2) := by decide +kernel
theorem dX9_ownedAt_73 : decode cX9_ownedAt 73 = .ok (.invokevirtual 174, 3) := by decide +kernel
theorem dX9_ownedAt_76 : decode cX9_ownedAt 76 = .ok (.ireturn, 1) := by decide +kernel
theorem dX9_ownedAt_77 : decode cX9_ownedAt 77 = .ok (.iinc 4 (-1), 3) := by decide +kernel
theorem dX9_ownedAt_80 : decode cX9_ownedAt 80 = .ok (.iinc 5 1, 3) := by decide +kernel
theorem dX9_ownedAt_83 : decode cX9_ownedAt 83 = .ok (.goto (-45), 3) := by decide +kernel
theorem dX9_ownedAt_86 : decode cX9_ownedAt 86 = .ok (.iconst (-1), 1) := by decide +kernel
theorem dX9_ownedAt_87 : decode cX9_ownedAt 87 = .ok (.ireturn, 1) := by decide +kernel
theorem dX9_excess_0 : decode cX9_excess 0 = .ok (.aload_n 0, 1) := by decide +kernel
theorem dX9_excess_1 : decode cX9_excess 1 = .ok (.aload_n 0, 1) := by decide +kernel
theorem dX9_excess_2 : decode cX9_excess 2 = .ok (.iload_n 1, 1) := by decide +kernel
theorem dX9_excess_3 : decode cX9_excess 3 = .ok (.invokevirtual 153, 3) := by decide +kernel
theorem dX9_excess_6 : decode cX9_excess 6 = .ok (.ifCond .eq 7, 3) := by decide +kernel
theorem dX9_excess_9 : decode cX9_excess 9 = .ok (.iconst 0, 1) := by decide +kernel
theorem dX9_excess_10 : decode cX9_excess 10 = .ok (.goto 4, 3) := by decide +kernel
theorem dX9_excess_13 : decode cX9_excess 13 = .ok (.iconst 1, 1) := by decide +kernel
theorem dX9_excess_14 : decode cX9_excess 14 = .ok (.putfield 43, 3) := by decide +kernel
theorem dX9_excess_17 : decode cX9_excess 17 = .ok (.aload_n 0, 1) := by decide +kernel
theorem dX9_excess_18 : decode cX9_excess 18 = .ok (.getfield 43, 3) := by decide +kernel
theorem dX9_excess_21 : decode cX9_excess 21 = .ok (.ifCond .eq 5, 3) := by decide +kernel
theorem dX9_excess_24 : decode cX9_excess 24 = .ok (.fconst 0, 1) := by decide +kernel
theorem dX9_excess_25 : decode cX9_excess 25 = .ok (.freturn, 1) := by decide +kernel
theorem dX9_excess_26 : decode cX9_excess 26 = .ok (.aload_n 0, 1) := by decide +kernel
theorem dX9_excess_27 : decode cX9_excess 27 = .ok (.iload_n 1, 1) := by decide +kernel
theorem dX9_excess_28 : decode cX9_excess 28 = .ok (.iconst 1, 1) := by decide +kernel
theorem dX9_excess_29 : decode cX9_excess 29 = .ok (.invokevirtual 202, 3) := by decide +kernel
theorem dX9_excess_32 : decode cX9_excess 32 = .ok (.aload_n 0, 1) := by decide +kernel
theorem dX9_excess_33 : decode cX9_excess 33 = .ok (.invokevirtual 206, 3) := by decide +kernel
theorem dX9_excess_36 : decode cX9_excess 36 = .ok (.imul, 1) := by decide +kernel
theorem dX9_excess_37 : decode cX9_excess 37 = .ok (.aload_n 0, 1) := by decide +kernel
theorem dX9_excess_38 : decode cX9_excess 38 = .ok (.getfield 7, 3) := by decide +kernel
theorem dX9_excess_41 : decode cX9_excess 41 = .ok (.iconst 2, 1) := by decide +kernel
theorem dX9_excess_42 : decode cX9_excess 42 = .ok (.iaload, 1) := by decide +kernel
theorem dX9_excess_43 : decode cX9_excess 43 = .ok (.aload_n 0, 1) := by decide +kernel
theorem dX9_excess_44 : decode cX9_excess 44 = .ok (.iload_n 1, 1) := by decide +kernel
theorem dX9_excess_45 : decode cX9_excess 45 = .ok (.iconst 0, 1) := by decide +kernel
theorem dX9_excess_46 : decode cX9_excess 46 = .ok (.invokevirtual 168, 3) := by decide +kernel
theorem dX9_excess_49 : decode cX9_excess 49 = .ok (.imul, 1) := by decide +kernel
theorem dX9_excess_50 : decode cX9_excess 50 = .ok (.isub, 1) := by decide +kernel
theorem dX9_excess_51 : decode cX9_excess 51 = .ok (.istore_n 2, 1) := by decide +kernel
theorem dX9_excess_52 : decode cX9_excess 52 = .ok (.iload_n 2, 1) := by decide +kernel
theorem dX9_excess_53 : decode cX9_excess 53 = .ok (.i2f, 1) := by decide +kernel
theorem dX9_excess_54 : decode cX9_excess 54 = .ok (.aload_n 0, 1) := by decide +kernel
theorem dX9_excess_55 : decode cX9_excess 55 = .ok (.invokevirtual 206, 3) := by decide +kernel
theorem dX9_excess_58 : decode cX9_excess 58 = .ok (.i2f, 1) := by decide +kernel
theorem dX9_excess_59 : decode cX9_excess 59 = .ok (.fdiv, 1) := by decide +kernel
theorem dX9_excess_60 : decode cX9_excess 60 = .ok (.freturn, 1) := by decide +kernel
theorem dX9_runWith_0 : decode cX9_runWith 0 = .ok (.aload_n 0, 1) := by decide +kernel
theorem dX9_runWith_1 : decode cX9_runWith 1 = .ok (.iload_n 1, 1) := by decide +kernel
theorem dX9_runWith_2 : decode cX9_runWith 2 = .ok (.iconst 2, 1) := by decide +kernel
theorem dX9_runWith_3 : decode cX9_runWith 3 = .ok (.invokevirtual 168, 3) := by decide +kernel
theorem dX9_runWith_6 : decode cX9_runWith 6 = .ok (.istore_n 3, 1) := by decide +kernel
theorem dX9_runWith_7 : decode cX9_runWith 7 = .ok (.iload_n 3, 1) := by decide +kernel
theorem dX9_runWith_8 : decode cX9_runWith 8 = .ok (.iconst (-1), 1) := by decide +kernel
theorem dX9_runWith_9 : decode cX9_runWith 9 = .ok (.if_icmp .eq 21, 3) := by decide +kernel
theorem dX9_runWith_12 : decode cX9_runWith 12 = .ok (.iload_n 3, 1) := by decide +kernel
theorem dX9_runWith_13 : decode cX9_runWith 13 = .ok (.iconst 1, 1) := by decide +kernel
theorem dX9_runWith_14 : decode cX9_runWith 14 = .ok (.iadd, 1) := by decide +kernel
theorem dX9_runWith_15 : decode cX9_runWith 15 = .ok (.iload_n 2, 1) := by decide +kernel
theorem dX9_runWith_16 : decode cX9_runWith 16 = .ok (.if_icmp .ne 14, 3) := by decide +kernel
theorem dX9_runWith_19 : decode cX9_runWith 19 = .ok (.aload_n 0, 1) := by decide +kernel
theorem dX9_runWith_20 : decode cX9_runWith 20 = .ok (.iload_n 1, 1) := by decide +kernel
theorem dX9_runWith_21 : decode cX9_runWith 21 = .ok (.iconst 1, 1) := by decide +kernel
theorem dX9_runWith_22 : decode cX9_runWith 22 = .ok (.invokevirtual 168, 3) := by decide +kernel
theorem dX9_runWith_25 : decode cX9_runWith 25 = .ok (.iconst 1, 1) := by decide +kernel
theorem dX9_runWith_26 : decode cX9_runWith 26 = .ok (.iadd, 1) := by decide +kernel
theorem dX9_runWith_27 : decode cX9_runWith 27 = .ok (.goto 4, 3) := by decide +kernel
theorem dX9_runWith_30 : decode cX9_runWith 30 = .ok (.iconst 1, 1) := by decide +kernel
theorem dX9_runWith_31 : decode cX9_runWith 31 = .ok (.ireturn, 1) := by decide +kernel
theorem dX9_toScan_0 : decode cX9_toScan 0 = .ok (.aload_n 0, 1) := by decide +kernel
theorem dX9_toScan_1 : decode cX9_toScan 1 = .ok (.iconst 0, 1) := by decide +kernel
theorem dX9_toScan_2 : decode cX9_toScan 2 = .ok (.putfield 43, 3) := by decide +kernel
theorem dX9_toScan_5 : decode cX9_toScan 5 = .ok (.aload_n 0, 1) := by decide +kernel
theorem dX9_toScan_6 : decode cX9_toScan 6 = .ok (.iload_n 1, 1) := by decide +kernel
theorem dX9_toScan_7 : decode cX9_toScan 7 = .ok (.invokevirtual 153, 3) := by decide +kernel
theorem dX9_toScan_10 : decode cX9_toScan 10 = .ok (.ifCond .ne 9, 3) := by decide +kernel
theorem dX9_toScan_13 : decode cX9_toScan 13 = .ok (.aload_n 0, 1) := by decide +kernel
theorem dX9_toScan_14 : decode cX9_toScan 14 = .ok (.iconst 1, 1) := by decide +kernel
theorem dX9_toScan_15 : decode cX9_toScan 15 = .ok (.invokevirtual 60, 3) := by decide +kernel
theorem dX9_toScan_18 : decode cX9_toScan 18 = .ok (.ireturn, 1) := by decide +kernel
theorem dX9_toScan_19 : decode cX9_toScan 19 = .ok (.iload_n 2, 1) := by decide +kernel
theorem dX9_toScan_20 : decode cX9_toScan 20 = .ok (.invokestatic 274, 3) := by decide +kernel
theorem dX9_toScan_23 : decode cX9_toScan 23 = .ok (.ifCond .ne 9, 3) := by decide +kernel
theorem dX9_toScan_26 : decode cX9_toScan 26 = .ok (.aload_n 0, 1) := by decide +kernel
theorem dX9_toScan_27 : decode cX9_toScan 27 = .ok (.iconst 2, 1) := by decide +kernel
theorem dX9_toScan_28 : decode cX9_toScan 28 = .ok (.invokevirtual 60, 3) := by decide +kernel
theorem dX9_toScan_31 : decode cX9_toScan 31 = .ok (.ireturn, 1) := by decide +kernel
theorem dX9_toScan_32 : decode cX9_toScan 32 = .ok (.iconst 1, 1) := by decide +kernel
theorem dX9_toScan_33 : decode cX9_toScan 33 = .ok (.aload_n 0, 1) := by decide +kernel
theorem dX9_toScan_34 : decode cX9_toScan 34 = .ok (.getfield 7, 3) := by decide +kernel
theorem dX9_toScan_37 : decode cX9_toScan 37 = .ok (.iconst 0, 1) := by decide +kernel
theorem dX9_toScan_38 : decode cX9_toScan 38 = .ok (.iaload, 1) := by decide +kernel
theorem dX9_toScan_39 : decode cX9_toScan 39 = .ok (.aload_n 0, 1) := by decide +kernel
theorem dX9_toScan_40 : decode cX9_toScan 40 = .ok (.iload_n 1, 1) := by decide +kernel
theorem dX9_toScan_41 : decode cX9_toScan 41 = .ok (.iload_n 2, 1) := by decide +kernel
theorem dX9_toScan_42 : decode cX9_toScan 42 = .ok (.invokevirtual 280, 3) := by decide +kernel
theorem dX9_toScan_45 : decode cX9_toScan 45 = .ok (.isub, 1) := by decide +kernel
theorem dX9_toScan_46 : decode cX9_toScan 46 = .ok (.iconst 1, 1) := by decide +kernel
theorem dX9_toScan_47 : decode cX9_toScan 47 = .ok (.iadd, 1) := by decide +kernel
theorem dX9_toScan_48 : decode cX9_toScan 48 = .ok (.invokestatic 246, 3) := by decide +kernel
theorem dX9_toScan_51 : decode cX9_toScan 51 = .ok (.istore_n 3, 1) := by decide +kernel
theorem dX9_toScan_52 : decode cX9_toScan 52 = .ok (.iload_n 2, 1) := by decide +kernel
theorem dX9_toScan_53 : decode cX9_toScan 53 = .ok (.iload_n 3, 1) := by decide +kernel
theorem dX9_toScan_54 : decode cX9_toScan 54 = .ok (.iadd, 1) := by decide +kernel
theorem dX9_toScan_55 : decode cX9_toScan 55 = .ok (.iconst 1, 1) := by decide +kernel
theorem dX9_toScan_56 : decode cX9_toScan 56 = .ok (.isub, 1) := by decide +kernel
theorem dX9_toScan_57 : decode cX9_toScan 57 = .ok (.sipush 200, 3) := by decide +kernel
theorem dX9_toScan_60 : decode cX9_toScan 60 = .ok (.if_icmp .ge 7, 3) := by decide +kernel
theorem dX9_toScan_63 : decode cX9_toScan 63 = .ok (.iload_n 3, 1) := by decide +kernel
theorem dX9_toScan_64 : decode cX9_toScan 64 = .ok (.goto 4, 3) := by decide +kernel
theorem dX9_toScan_67 : decode cX9_toScan 67 = .ok (.iconst (-1), 1) := by decide +kernel
theorem dX9_toScan_68 : decode cX9_toScan 68 = .ok (.ireturn, 1) := by decide +kernel
theorem dX9_rank_0 : decode cX9_rank 0 = .ok (.aload_n 0, 1) := by decide +kernel
theorem dX9_rank_1 : decode cX9_rank 1 = .ok (.iconst 0, 1) := by decide +kernel
theorem dX9_rank_2 : decode cX9_rank 2 = .ok (.putfield 43, 3) := by decide +kernel
theorem dX9_rank_5 : decode cX9_rank 5 = .ok (.iload_n 1, 1) := by decide +kernel
theorem dX9_rank_6 : decode cX9_rank 6 = .ok (.invokestatic 274, 3) := by decide +kernel
theorem dX9_rank_9 : decode cX9_rank 9 = .ok (.ifCond .ne 9, 3) := by decide +kernel
theorem dX9_rank_12 : decode cX9_rank 12 = .ok (.aload_n 0, 1) := by decide +kernel
theorem dX9_rank_13 : decode cX9_rank 13 = .ok (.iconst 1, 1) := by decide +kernel
theorem dX9_rank_14 : decode cX9_rank 14 = .ok (.invokevirtual 60, 3) := by decide +kernel
theorem dX9_rank_17 : decode cX9_rank 17 = .ok (.ireturn, 1) := by decide +kernel
theorem dX9_rank_18 : decode cX9_rank 18 = .ok (.aload_n 0, 1) := by decide +kernel
theorem dX9_rank_19 : decode cX9_rank 19 = .ok (.iload_n 1, 1) := by decide +kernel
theorem dX9_rank_20 : decode cX9_rank 20 = .ok (.invokevirtual 193, 3) := by decide +kernel
theorem dX9_rank_23 : decode cX9_rank 23 = .ok (.ifCond .ne 5, 3) := by decide +kernel
theorem dX9_rank_26 : decode cX9_rank 26 = .ok (.iconst (-1), 1) := by decide +kernel
theorem dX9_rank_27 : decode cX9_rank 27 = .ok (.ireturn, 1) := by decide +kernel
theorem dX9_rank_28 : decode cX9_rank 28 = .ok (.iconst 0, 1) := by decide +kernel
theorem dX9_rank_29 : decode cX9_rank 29 = .ok (.istore_n 2, 1) := by decide +kernel
theorem dX9_rank_30 : decode cX9_rank 30 = .ok (.aload_n 0, 1) := by decide +kernel
theorem dX9_rank_31 : decode cX9_rank 31 = .ok (.iload_n 2, 1) := by decide +kernel
theorem dX9_rank_32 : decode cX9_rank 32 = .ok (.invokevirtual 196, 3) := by decide +kernel
theorem dX9_rank_35 : decode cX9_rank 35 = .ok (.iload_n 1, 1) := by decide +kernel
theorem dX9_rank_36 : decode cX9_rank 36 = .ok (.if_icmp .eq 9, 3) := by decide +kernel
theorem dX9_rank_39 : decode cX9_rank 39 = .ok (.iinc 2 1, 3) := by decide +kernel
theorem dX9_rank_42 : decode cX9_rank 42 = .ok (.goto (-12), 3) := by decide +kernel
theorem dX9_rank_45 : decode cX9_rank 45 = .ok (.iload_n 2, 1) := by decide +kernel
theorem dX9_rank_46 : decode cX9_rank 46 = .ok (.ireturn, 1) := by decide +kernel
theorem dX9_between_0 : decode cX9_between 0 = .ok (.aload_n 0, 1) := by decide +kernel
theorem dX9_between_1 : decode cX9_between 1 = .ok (.iconst 0, 1) := by decide +kernel
theorem dX9_between_2 : decode cX9_between 2 = .ok (.putfield 43, 3) := by decide +kernel
theorem dX9_between_5 : decode cX9_between 5 = .ok (.aload_n 0, 1) := by decide +kernel
theorem dX9_between_6 : decode cX9_between 6 = .ok (.iload_n 1, 1) := by decide +kernel
theorem dX9_between_7 : decode cX9_between 7 = .ok (.invokevirtual 277, 3) := by decide +kernel
theorem dX9_between_10 : decode cX9_between 10 = .ok (.ifCond .ne 9, 3) := by decide +kernel
theorem dX9_between_13 : decode cX9_between 13 = .ok (.aload_n 0, 1) := by decide +kernel
theorem dX9_between_14 : decode cX9_between 14 = .ok (.iconst 1, 1) := by decide +kernel
theorem dX9_between_15 : decode cX9_between 15 = .ok (.invokevirtual 60, 3) := by decide +kernel
theorem dX9_between_18 : decode cX9_between 18 = .ok (.ireturn, 1) := by decide +kernel
theorem dX9_between_19 : decode cX9_between 19 = .ok (.iload_n 2, 1) := by decide +kernel
theorem dX9_between_20 : decode cX9_between 20 = .ok (.invokestatic 274, 3) := by decide +kernel
theorem dX9_between_23 : decode cX9_between 23 = .ok (.ifCond .eq 14, 3) := by decide +kernel
theorem dX9_between_26 : decode cX9_between 26 = .ok (.iload_n 3, 1) := by decide +kernel
theorem dX9_between_27 : decode cX9_between 27 = .ok (.iload_n 2, 1) := by decide +kernel
theorem dX9_between_28 : decode cX9_between 28 = .ok (.sipush 199, 3) := by decide +kernel
theorem dX9_between_31 : decode cX9_between 31 = .ok (.invokestatic 53, 3) := by decide +kernel
theorem dX9_between_34 : decode cX9_between 34 = .ok (.ifCond .ne 9, 3) := by decide +kernel
theorem dX9_between_37 : decode cX9_between 37 = .ok (.aload_n 0, 1) := by decide +kernel
theorem dX9_between_38 : decode cX9_between 38 = .ok (.iconst 2, 1) := by decide +kernel
theorem dX9_between_39 : decode cX9_between 39 = .ok (.invokevirtual 60, 3) := by decide +kernel
theorem dX9_between_42 : decode cX9_between 42 = .ok (.ireturn, 1) := by decide +kernel
theorem dX9_between_43 : decode cX9_between 43 = .ok (.iconst 0, 1) := by decide +kernel
theorem dX9_between_44 : decode cX9_between 44 = .ok (.istore 4, 2) := by decide +kernel
theorem dX9_between_46 : decode cX9_between 46 = .ok (.iconst 0, 1) := by decide +kernel
theorem dX9_between_47 : decode cX9_between 47 = .ok (.istore 5, 2) := by decide +kernel
theorem dX9_between_49 : decode cX9_between 49 = .ok (.iload 5, 2) := by decide +kernel
theorem dX9_between_51 : decode cX9_between 51 = .ok (.aload_n 0, 1) := by decide +kernel
theorem dX9_between_52 : decode cX9_between 52 = .ok (.iload_n 1, 1) := by decide +kernel
theorem dX9_between_53 : decode cX9_between 53 = .ok (.invokevirtual 180, 3) := by decide +kernel
theorem dX9_between_56 : decode cX9_between 56 = .ok (.if_icmp .ge 34, 3) := by decide +kernel
theorem dX9_between_59 : decode cX9_between 59 = .ok (.iload 4, 2) := by decide +kernel
theorem dX9_between_61 : decode cX9_between 61 = .ok (.aload_n 0, 1) := by decide +kernel
theorem dX9_between_62 : decode cX9_between 62 = .ok (.iload_n 1, 1) := by decide +kernel
theorem dX9_between_63 : decode cX9_between 63 = .ok (.iload 5, 2) := by decide +kernel
theorem dX9_between_65 : decode cX9_between 65 = .ok (.invokevirtual 174, 3) := by decide +kernel
theorem dX9_between_68 : decode cX9_between 68 = .ok (.iload_n 2, 1) := by decide +kernel
theorem dX9_between_69 : decode cX9_between 69 = .ok (.iload_n 3, 1) := by decide +kernel
theorem dX9_between_70 : decode cX9_between 70 = .ok (.invokestatic 53, 3) := by decide +kernel
theorem dX9_between_73 : decode cX9_between 73 = .ok (.ifCond .eq 7, 3) := by decide +kernel
theorem dX9_between_76 : decode cX9_between 76 = .ok (.iconst 1, 1) := by decide +kernel
theorem dX9_between_77 : decode cX9_between 77 = .ok (.goto 4, 3) := by decide +kernel
theorem dX9_between_80 : decode cX9_between 80 = .ok (.iconst 0, 1) := by decide +kernel
theorem dX9_between_81 : decode cX9_between 81 = .ok (.iadd, 1) := by decide +kernel
theorem dX9_between_82 : decode cX9_between 82 = .ok (.istore 4, 2) := by decide +kernel
theorem dX9_between_84 : decode cX9_between 84 = .ok (.iinc 5 1, 3) := by decide +kernel
theorem dX9_between_87 : decode cX9_between 87 = .ok (.goto (-38), 3) := by decide +kernel
theorem dX9_between_90 : decode cX9_between 90 = .ok (.iload 4, 2) := by decide +kernel
theorem dX9_between_92 : decode cX9_between 92 = .ok (.ireturn, 1) := by decide +kernel
theorem dX9_isIn_0 : decode cX9_isIn 0 = .ok (.aload_n 0, 1) := by decide +kernel
theorem dX9_isIn_1 : decode cX9_isIn 1 = .ok (.iload_n 2, 1) := by decide +kernel
theorem dX9_isIn_2 : decode cX9_isIn 2 = .ok (.iload_n 1, 1) := by decide +kernel
theorem dX9_isIn_3 : decode cX9_isIn 3 = .ok (.iconst 2, 1) := by decide +kernel
theorem dX9_isIn_4 : decode cX9_isIn 4 = .ok (.if_icmp .gt 7, 3) := by decide +kernel
theorem dX9_isIn_7 : decode cX9_isIn 7 = .ok (.iconst 0, 1) := by decide +kernel
theorem dX9_isIn_8 : decode cX9_isIn 8 = .ok (.goto 4, 3) := by decide +kernel
theorem dX9_isIn_11 : decode cX9_isIn 11 = .ok (.iconst 4, 1) := by decide +kernel
theorem dX9_isIn_12 : decode cX9_isIn 12 = .ok (.invokevirtual 171, 3) := by decide +kernel
theorem dX9_isIn_15 : decode cX9_isIn 15 = .ok (.iload_n 1, 1) := by decide +kernel
theorem dX9_isIn_16 : decode cX9_isIn 16 = .ok (.if_icmp .ne 7, 3) := by decide +kernel
theorem dX9_isIn_19 : decode cX9_isIn 19 = .ok (.iconst 1, 1) := by decide +kernel
theorem dX9_isIn_20 : decode cX9_isIn 20 = .ok (.goto 4, 3) := by decide +kernel
theorem dX9_isIn_23 : decode cX9_isIn 23 = .ok (.iconst 0, 1) := by decide +kernel
theorem dX9_isIn_24 : decode cX9_isIn 24 = .ok (.ireturn, 1) := by decide +kernel
theorem dX9_longest_0 : decode cX9_longest 0 = .ok (.aload_n 0, 1) := by decide +kernel
theorem dX9_longest_1 : decode cX9_longest 1 = .ok (.iconst 0, 1) := by decide +kernel
theorem dX9_longest_2 : decode cX9_longest 2 = .ok (.putfield 43, 3) := by decide +kernel
theorem dX9_longest_5 : decode cX9_longest 5 = .ok (.aload_n 0, 1) := by decide +kernel
theorem dX9_longest_6 : decode cX9_longest 6 = .ok (.iload_n 1, 1) := by decide +kernel
theorem dX9_longest_7 : decode cX9_longest 7 = .ok (.invokevirtual 277, 3) := by decide +kernel
theorem dX9_longest_10 : decode cX9_longest 10 = .ok (.ifCond .ne 9, 3) := by decide +kernel
theorem dX9_longest_13 : decode cX9_longest 13 = .ok (.aload_n 0, 1) := by decide +kernel
theorem dX9_longest_14 : decode cX9_longest 14 = .ok (.iconst 1, 1) := by decide +kernel
theorem dX9_longest_15 : decode cX9_longest 15 = .ok (.invokevirtual 60, 3) := by decide +kernel
theorem dX9_longest_18 : decode cX9_longest 18 = .ok (.ireturn, 1) := by decide +kernel
theorem dX9_longest_19 : decode cX9_longest 19 = .ok (.iconst 0, 1) := by decide +kernel
theorem dX9_longest_20 : decode cX9_longest 20 = .ok (.istore_n 2, 1) := by decide +kernel
theorem dX9_longest_21 : decode cX9_longest 21 = .ok (.iconst 0, 1) := by decide +kernel
theorem dX9_longest_22 : decode cX9_longest 22 = .ok (.istore_n 3, 1) := by decide +kernel
theorem dX9_longest_23 : decode cX9_longest 23 = .ok (.iconst 0, 1) := by decide +kernel
theorem dX9_longest_24 : decode cX9_longest 24 = .ok (.istore 4, 2) := by decide +kernel
theorem dX9_longest_26 : decode cX9_longest 26 = .ok (.iload 4, 2) := by decide +kernel
theorem dX9_longest_28 : decode cX9_longest 28 = .ok (.sipush 200, 3) := by decide +kernel
theorem dX9_longest_31 : decode cX9_longest 31 = .ok (.if_icmp .ge 33, 3) := by decide +kernel
theorem dX9_longest_34 : decode cX9_longest 34 = .ok (.aload_n 0, 1) := by decide +kernel
theorem dX9_longest_35 : decode cX9_longest 35 = .ok (.iload_n 1, 1) := by decide +kernel
theorem dX9_longest_36 : decode cX9_longest 36 = .ok (.iload 4, 2) := by decide +kernel
theorem dX9_longest_38 : decode cX9_longest 38 = .ok (.invokevirtual 283, 3) := by decide +kernel
theorem dX9_longest_41 : decode cX9_longest 41 = .ok (.ifCond .eq 9, 3) := by decide +kernel
theorem dX9_longest_44 : decode cX9_longest 44 = .ok (.iload_n 3, 1) := by decide +kernel
theorem dX9_longest_45 : decode cX9_longest 45 = .ok (.iconst 1, 1) := by decide +kernel
theorem dX9_longest_46 : decode cX9_longest 46 = .ok (.iadd, 1) := by decide +kernel
theorem dX9_longest_47 : decode cX9_longest 47 = .ok (.goto 4, 3) := by decide +kernel
theorem dX9_longest_50 : decode cX9_longest 50 = .ok (.iconst 0, 1) := by decide +kernel
theorem dX9_longest_51 : decode cX9_longest 51 = .ok (.istore_n 3, 1) := by decide +kernel
theorem dX9_longest_52 : decode cX9_longest 52 = .ok (.iload_n 2, 1) := by decide +kernel
theorem dX9_longest_53 : decode cX9_longest 53 = .ok (.iload_n 3, 1) := by decide +kernel
theorem dX9_longest_54 : decode cX9_longest 54 = .ok (.invokestatic 246, 3) := by decide +kernel
theorem dX9_longest_57 : decode cX9_longest 57 = .ok (.istore_n 2, 1) := by decide +kernel
theorem dX9_longest_58 : decode cX9_longest 58 = .ok (.iinc 4 1, 3) := by decide +kernel
theorem dX9_longest_61 : decode cX9_longest 61 = .ok (.goto (-35), 3) := by decide +kernel
theorem dX9_longest_64 : decode cX9_longest 64 = .ok (.iload_n 2, 1) := by decide +kernel
theorem dX9_longest_65 : decode cX9_longest 65 = .ok (.ireturn, 1) := by decide +kernel
theorem dX9_differing_0 : decode cX9_differing 0 = .ok (.aload_n 0, 1) := by decide +kernel
theorem dX9_differing_1 : decode cX9_differing 1 = .ok (.iconst 0, 1) := by decide +kernel
theorem dX9_differing_2 : decode cX9_differing 2 = .ok (.putfield 43, 3) := by decide +kernel
theorem dX9_differing_5 : decode cX9_differing 5 = .ok (.iconst 0, 1) := by decide +kernel
theorem dX9_differing_6 : decode cX9_differing 6 = .ok (.istore_n 1, 1) := by decide +kernel
theorem dX9_differing_7 : decode cX9_differing 7 = .ok (.iconst 0, 1) := by decide +kernel
theorem dX9_differing_8 : decode cX9_differing 8 = .ok (.istore_n 2, 1) := by decide +kernel
theorem dX9_differing_9 : decode cX9_differing 9 = .ok (.iload_n 2, 1) := by decide +kernel
theorem dX9_differing_10 : decode cX9_differing 10 = .ok (.sipush 200, 3) := by decide +kernel
theorem dX9_differing_13 : decode cX9_differing 13 = .ok (.if_icmp .ge 46, 3) := by decide +kernel
theorem dX9_differing_16 : decode cX9_differing 16 = .ok (.iload_n 1, 1) := by decide +kernel
theorem dX9_differing_17 : decode cX9_differing 17 = .ok (.aload_n 0, 1) := by decide +kernel
theorem dX9_differing_18 : decode cX9_differing 18 = .ok (.iload_n 2, 1) := by decide +kernel
theorem dX9_differing_19 : decode cX9_differing 19 = .ok (.iconst 0, 1) := by decide +kernel
theorem dX9_differing_20 : decode cX9_differing 20 = .ok (.invokevirtual 171, 3) := by decide +kernel
theorem dX9_differing_23 : decode cX9_differing 23 = .ok (.iconst (-1), 1) := by decide +kernel
theorem dX9_differing_24 : decode cX9_differing 24 = .ok (.if_icmp .eq 26, 3) := by decide +kernel
theorem dX9_differing_27 : decode cX9_differing 27 = .ok (.aload_n 0, 1) := by decide +kernel
theorem dX9_differing_28 : decode cX9_differing 28 = .ok (.iload_n 2, 1) := by decide +kernel
theorem dX9_differing_29 : decode cX9_differing 29 = .ok (.iconst 1, 1) := by decide +kernel
theorem dX9_differing_30 : decode cX9_differing 30 = .ok (.invokevirtual 171, 3) := by decide +kernel
theorem dX9_differing_33 : decode cX9_differing 33 = .ok (.aload_n 0, 1) := by decide +kernel
theorem dX9_differing_34 : decode cX9_differing 34 = .ok (.getfield 7, 3) := by decide +kernel
theorem dX9_differing_37 : decode cX9_differing 37 = .ok (.sipush 1184, 3) := by decide +kernel
theorem dX9_differing_40 : decode cX9_differing 40 = .ok (.iload_n 2, 1) := by decide +kernel
theorem dX9_differing_41 : decode cX9_differing 41 = .ok (.iadd, 1) := by decide +kernel
theorem dX9_differing_42 : decode cX9_differing 42 = .ok (.iaload, 1) := by decide +kernel
theorem dX9_differing_43 : decode cX9_differing 43 = .ok (.if_icmp .eq 7, 3) := by decide +kernel
theorem dX9_differing_46 : decode cX9_differing 46 = .ok (.iconst 1, 1) := by decide +kernel
theorem dX9_differing_47 : decode cX9_differing 47 = .ok (.goto 4, 3) := by decide +kernel
theorem dX9_differing_50 : decode cX9_differing 50 = .ok (.iconst 0, 1) := by decide +kernel
theorem dX9_differing_51 : decode cX9_differing 51 = .ok (.iadd, 1) := by decide +kernel
theorem dX9_differing_52 : decode cX9_differing 52 = .ok (.istore_n 1, 1) := by decide +kernel
theorem dX9_differing_53 : decode cX9_differing 53 = .ok (.iinc 2 1, 3) := by decide +kernel
theorem dX9_differing_56 : decode cX9_differing 56 = .ok (.goto (-47), 3) := by decide +kernel
theorem dX9_differing_59 : decode cX9_differing 59 = .ok (.iload_n 1, 1) := by decide +kernel
theorem dX9_differing_60 : decode cX9_differing 60 = .ok (.ireturn, 1) := by decide +kernel
theorem dX9_stale_0 : decode cX9_stale 0 = .ok (.aload_n 0, 1) := by decide +kernel
theorem dX9_stale_1 : decode cX9_stale 1 = .ok (.iconst 0, 1) := by decide +kernel
theorem dX9_stale_2 : decode cX9_stale 2 = .ok (.putfield 43, 3) := by decide +kernel
theorem dX9_stale_5 : decode cX9_stale 5 = .ok (.iload_n 1, 1) := by decide +kernel
theorem dX9_stale_6 : decode cX9_stale 6 = .ok (.ifCond .ge 9, 3) := by decide +kernel
theorem dX9_stale_9 : decode cX9_stale 9 = .ok (.aload_n 0, 1) := by decide +kernel
theorem dX9_stale_10 : decode cX9_stale 10 = .ok (.iconst 1, 1) := by decide +kernel
theorem dX9_stale_11 : decode cX9_stale 11 = .ok (.invokevirtual 60, 3) := by decide +kernel
theorem dX9_stale_14 : decode cX9_stale 14 = .ok (.ireturn, 1) := by decide +kernel
theorem dX9_stale_15 : decode cX9_stale 15 = .ok (.iconst 0, 1) := by decide +kernel
theorem dX9_stale_16 : decode cX9_stale 16 = .ok (.istore_n 2, 1) := by decide +kernel
theorem dX9_stale_17 : decode cX9_stale 17 = .ok (.iconst 0, 1) := by decide +kernel
theorem dX9_stale_18 : decode cX9_stale 18 = .ok (.istore_n 3, 1) := by decide +kernel
theorem dX9_stale_19 : decode cX9_stale 19 = .ok (.iload_n 3, 1) := by decide +kernel
theorem dX9_stale_20 : decode cX9_stale 20 = .ok (.sipush 200, 3) := by decide +kernel
theorem dX9_stale_23 : decode cX9_stale 23 = .ok (.if_icmp .ge 42, 3) := by decide +kernel
theorem dX9_stale_26 : decode cX9_stale 26 = .ok (.iload_n 2, 1) := by decide +kernel
theorem dX9_stale_27 : decode cX9_stale 27 = .ok (.aload_n 0, 1) := by decide +kernel
theorem dX9_stale_28 : decode cX9_stale 28 = .ok (.iload_n 3, 1) := by decide +kernel
theorem dX9_stale_29 : decode cX9_stale 29 = .ok (.invokevirtual 193, 3) := by decide +kernel
theorem dX9_stale_32 : decode cX9_stale 32 = .ok (.ifCond .eq 24, 3) := by decide +kernel
theorem dX9_stale_35 : decode cX9_stale 35 = .ok (.aload_n 0, 1) := by decide +kernel
theorem dX9_stale_36 : decode cX9_stale 36 = .ok (.iload_n 3, 1) := by decide +kernel
theorem dX9_stale_37 : decode cX9_stale 37 = .ok (.iconst 3, 1) := by decide +kernel
theorem dX9_stale_38 : decode cX9_stale 38 = .ok (.invokevirtual 171, 3) := by decide +kernel
theorem dX9_stale_41 : decode cX9_stale 41 = .ok (.aload_n 0, 1) := by decide +kernel
theorem dX9_stale_42 : decode cX9_stale 42 = .ok (.getfield 7, 3) := by decide +kernel
theorem dX9_stale_45 : decode cX9_stale 45 = .ok (.iconst 5, 1) := by decide +kernel
theorem dX9_stale_46 : decode cX9_stale 46 = .ok (.iaload, 1) := by decide +kernel
theorem dX9_stale_47 : decode cX9_stale 47 = .ok (.iload_n 1, 1) := by decide +kernel
theorem dX9_stale_48 : decode cX9_stale 48 = .ok (.isub, 1) := by decide +kernel
theorem dX9_stale_49 : decode cX9_stale 49 = .ok (.if_icmp .gt 7, 3) := by decide +kernel
theorem dX9_stale_52 : decode cX9_stale 52 = .ok (.iconst 1, 1) := by decide +kernel
theorem dX9_stale_53 : decode cX9_stale 53 = .ok (.goto 4, 3) := by decide +kernel
theorem dX9_stale_56 : decode cX9_stale 56 = .ok (.iconst 0, 1) := by decide +kernel
theorem dX9_stale_57 : decode cX9_stale 57 = .ok (.iadd, 1) := by decide +kernel
theorem dX9_stale_58 : decode cX9_stale 58 = .ok (.istore_n 2, 1) := by decide +kernel
theorem dX9_stale_59 : decode cX9_stale 59 = .ok (.iinc 3 1, 3) := by decide +kernel
theorem dX9_stale_62 : decode cX9_stale 62 = .ok (.goto (-43), 3) := by decide +kernel
theorem dX9_stale_65 : decode cX9_stale 65 = .ok (.iload_n 2, 1) := by decide +kernel
theorem dX9_stale_66 : decode cX9_stale 66 = .ok (.ireturn, 1) := by decide +kernel
theorem dX9_wouldBe_0 : decode cX9_wouldBe 0 = .ok (.aload_n 0, 1) := by decide +kernel
theorem dX9_wouldBe_1 : decode cX9_wouldBe 1 = .ok (.iconst 0, 1) := by decide +kernel
theorem dX9_wouldBe_2 : decode cX9_wouldBe 2 = .ok (.putfield 43, 3) := by decide +kernel
theorem dX9_wouldBe_5 : decode cX9_wouldBe 5 = .ok (.aload_n 0, 1) := by decide +kernel
theorem dX9_wouldBe_6 : decode cX9_wouldBe 6 = .ok (.iload_n 1, 1) := by decide +kernel
theorem dX9_wouldBe_7 : decode cX9_wouldBe 7 = .ok (.invokevirtual 153, 3) := by decide +kernel
theorem dX9_wouldBe_10 : decode cX9_wouldBe 10 = .ok (.ifCond .ne 9, 3) := by decide +kernel
theorem dX9_wouldBe_13 : decode cX9_wouldBe 13 = .ok (.aload_n 0, 1) := by decide +kernel
theorem dX9_wouldBe_14 : decode cX9_wouldBe 14 = .ok (.iconst 1, 1) := by decide +kernel
theorem dX9_wouldBe_15 : decode cX9_wouldBe 15 = .ok (.invokevirtual 60, 3) := by decide +kernel
theorem dX9_wouldBe_18 : decode cX9_wouldBe 18 = .ok (.ireturn, 1) := by decide +kernel
theorem dX9_wouldBe_19 : decode cX9_wouldBe 19 = .ok (.iload_n 2, 1) := by decide +kernel
theorem dX9_wouldBe_20 : decode cX9_wouldBe 20 = .ok (.invokestatic 274, 3) := by decide +kernel
theorem dX9_wouldBe_23 : decode cX9_wouldBe 23 = .ok (.ifCond .eq 13, 3) := by decide +kernel
theorem dX9_wouldBe_26 : decode cX9_wouldBe 26 = .ok (.iload_n 3, 1) := by decide +kernel
theorem dX9_wouldBe_27 : decode cX9_wouldBe 27 = .ok (.iconst 0, 1) := by decide +kernel
theorem dX9_wouldBe_28 : decode cX9_wouldBe 28 = .ok (.bipush 6, 2) := by decide +kernel
theorem dX9_wouldBe_30 : decode cX9_wouldBe 30 = .ok (.invokestatic 53, 3) := by decide +kernel
theorem dX9_wouldBe_33 : decode cX9_wouldBe 33 = .ok (.ifCond .ne 9, 3) := by decide +kernel
theorem dX9_wouldBe_36 : decode cX9_wouldBe 36 = .ok (.aload_n 0, 1) := by decide +kernel
theorem dX9_wouldBe_37 : decode cX9_wouldBe 37 = .ok (.iconst 2, 1) := by decide +kernel
theorem dX9_wouldBe_38 : decode cX9_wouldBe 38 = .ok (.invokevirtual 60, 3) := by decide +kernel
theorem dX9_wouldBe_41 : decode cX9_wouldBe 41 = .ok (.ireturn, 1) := by decide +kernel
theorem dX9_wouldBe_42 : decode cX9_wouldBe 42 = .ok (.aload_n 0, 1) := by decide +kernel
theorem dX9_wouldBe_43 : decode cX9_wouldBe 43 = .ok (.iload_n 2, 1) := by decide +kernel
theorem dX9_wouldBe_44 : decode cX9_wouldBe 44 = .ok (.iconst 0, 1) := by decide +kernel
theorem dX9_wouldBe_45 : decode cX9_wouldBe 45 = .ok (.invokevirtual 171, 3) := by decide +kernel
theorem dX9_wouldBe_48 : decode cX9_wouldBe 48 = .ok (.istore 4, 2) := by decide +kernel
theorem dX9_wouldBe_50 : decode cX9_wouldBe 50 = .ok (.aload_n 0, 1) := by decide +kernel
theorem dX9_wouldBe_51 : decode cX9_wouldBe 51 = .ok (.getfield 7, 3) := by decide +kernel
theorem dX9_wouldBe_54 : decode cX9_wouldBe 54 = .ok (.iconst 0, 1) := by decide +kernel
theorem dX9_wouldBe_55 : decode cX9_wouldBe 55 = .ok (.aload_n 0, 1) := by decide +kernel
theorem dX9_wouldBe_56 : decode cX9_wouldBe 56 = .ok (.getfield 13, 3) := by decide +kernel
theorem dX9_wouldBe_59 : decode cX9_wouldBe 59 = .ok (.iconst 0, 1) := by decide +kernel
theorem dX9_wouldBe_60 : decode cX9_wouldBe 60 = .ok (.invokestatic 49, 3) := by decide +kernel
theorem dX9_wouldBe_63 : decode cX9_wouldBe 63 = .ok (.aload_n 0, 1) := by decide +kernel
theorem dX9_wouldBe_64 : decode cX9_wouldBe 64 = .ok (.iconst (-1), 1) := by decide +kernel
theorem dX9_wouldBe_65 : decode cX9_wouldBe 65 = .ok (.putfield 231, 3) := by decide +kernel
theorem dX9_wouldBe_68 : decode cX9_wouldBe 68 = .ok (.aload_n 0, 1) := by decide +kernel
theorem dX9_wouldBe_69 : decode cX9_wouldBe 69 = .ok (.iconst (-1), 1) := by decide +kernel
theorem dX9_wouldBe_70 : decode cX9_wouldBe 70 = .ok (.putfield 215, 3) := by decide +kernel
theorem dX9_wouldBe_73 : decode cX9_wouldBe 73 = .ok (.aload_n 0, 1) := by decide +kernel
theorem dX9_wouldBe_74 : decode cX9_wouldBe 74 = .ok (.iload_n 1, 1) := by decide +kernel
theorem dX9_wouldBe_75 : decode cX9_wouldBe 75 = .ok (.iload_n 2, 1) := by decide +kernel
theorem dX9_wouldBe_76 : decode cX9_wouldBe 76 = .ok (.iconst (-1), 1) := by decide +kernel
theorem dX9_wouldBe_77 : decode cX9_wouldBe 77 = .ok (.invokevirtual 162, 3) := by decide +kernel
theorem dX9_wouldBe_80 : decode cX9_wouldBe 80 = .ok (.aload_n 0, 1) := by decide +kernel
theorem dX9_wouldBe_81 : decode cX9_wouldBe 81 = .ok (.iload_n 2, 1) := by decide +kernel
theorem dX9_wouldBe_82 : decode cX9_wouldBe 82 = .ok (.iload_n 3, 1) := by decide +kernel
theorem dX9_wouldBe_83 : decode cX9_wouldBe 83 = .ok (.invokevirtual 286, 3) := by decide +kernel
theorem dX9_wouldBe_86 : decode cX9_wouldBe 86 = .ok (.istore 5, 2) := by decide +kernel
theorem dX9_wouldBe_88 : decode cX9_wouldBe 88 = .ok (.aload_n 0, 1) := by decide +kernel
theorem dX9_wouldBe_89 : decode cX9_wouldBe 89 = .ok (.getfield 13, 3) := by decide +kernel
theorem dX9_wouldBe_92 : decode cX9_wouldBe 92 = .ok (.iconst 0, 1) := by decide +kernel
theorem dX9_wouldBe_93 : decode cX9_wouldBe 93 = .ok (.aload_n 0, 1) := by decide +kernel
theorem dX9_wouldBe_94 : decode cX9_wouldBe 94 = .ok (.getfield 7, 3) := by decide +kernel
theorem dX9_wouldBe_97 : decode cX9_wouldBe 97 = .ok (.iconst 0, 1) := by decide +kernel
theorem dX9_wouldBe_98 : decode cX9_wouldBe 98 = .ok (.invokestatic 49, 3) := by decide +kernel
theorem dX9_wouldBe_101 : decode cX9_wouldBe 101 = .ok (.iload_n 3, 1) := by decide +kernel
theorem dX9_wouldBe_102 : decode cX9_wouldBe 102 = .ok (.ifCond .ne 25, 3) := by decide +kernel
theorem dX9_wouldBe_105 : decode cX9_wouldBe 105 = .ok (.iload 4, 2) := by decide +kernel
theorem dX9_wouldBe_107 : decode cX9_wouldBe 107 = .ok (.iconst (-1), 1) := by decide +kernel
theorem dX9_wouldBe_108 : decode cX9_wouldBe 108 = .ok (.if_icmp .ne 7, 3) := by decide +kernel
theorem dX9_wouldBe_111 : decode cX9_wouldBe 111 = .ok (.iconst 2, 1) := by decide +kernel
theorem dX9_wouldBe_112 : decode cX9_wouldBe 112 = .ok (.goto 14, 3) := by decide +kernel
theorem dX9_wouldBe_115 : decode cX9_wouldBe 115 = .ok (.iload 4, 2) := by decide +kernel
theorem dX9_wouldBe_117 : decode cX9_wouldBe 117 = .ok (.iconst 2, 1) := by decide +kernel
theorem dX9_wouldBe_118 : decode cX9_wouldBe 118 = .ok (.if_icmp .ne 7, 3) := by decide +kernel
theorem dX9_wouldBe_121 : decode cX9_wouldBe 121 = .ok (.iconst 1, 1) := by decide +kernel
theorem dX9_wouldBe_122 : decode cX9_wouldBe 122 = .ok (.goto 4, 3) := by decide +kernel
theorem dX9_wouldBe_125 : decode cX9_wouldBe 125 = .ok (.iconst 0, 1) := by decide +kernel
theorem dX9_wouldBe_126 : decode cX9_wouldBe 126 = .ok (.ireturn, 1) := by decide +kernel
theorem dX9_wouldBe_127 : decode cX9_wouldBe 127 = .ok (.iload_n 3, 1) := by decide +kernel
theorem dX9_wouldBe_128 : decode cX9_wouldBe 128 = .ok (.iconst 1, 1) := by decide +kernel
theorem dX9_wouldBe_129 : decode cX9_wouldBe 129 = .ok (.if_icmp .ne 16, 3) := by decide +kernel
theorem dX9_wouldBe_132 : decode cX9_wouldBe 132 = .ok (.iload 5, 2) := by decide +kernel
theorem dX9_wouldBe_134 : decode cX9_wouldBe 134 = .ok (.aload_n 0, 1) := by decide +kernel
theorem dX9_wouldBe_135 : decode cX9_wouldBe 135 = .ok (.getfield 7, 3) := by decide +kernel
theorem dX9_wouldBe_138 : decode cX9_wouldBe 138 = .ok (.bipush 22, 2) := by decide +kernel
theorem dX9_wouldBe_140 : decode cX9_wouldBe 140 = .ok (.iaload, 1) := by decide +kernel
theorem dX9_wouldBe_141 : decode cX9_wouldBe 141 = .ok (.isub, 1) := by decide +kernel
theorem dX9_wouldBe_142 : decode cX9_wouldBe 142 = .ok (.goto 23, 3) := by decide +kernel
theorem dX9_wouldBe_145 : decode cX9_wouldBe 145 = .ok (.iload_n 3, 1) := by decide +kernel
theorem dX9_wouldBe_146 : decode cX9_wouldBe 146 = .ok (.iconst 5, 1) := by decide +kernel
theorem dX9_wouldBe_147 : decode cX9_wouldBe 147 = .ok (.if_icmp .ne 16, 3) := by decide +kernel
theorem dX9_wouldBe_150 : decode cX9_wouldBe 150 = .ok (.iload 5, 2) := by decide +kernel
theorem dX9_wouldBe_152 : decode cX9_wouldBe 152 = .ok (.aload_n 0, 1) := by decide +kernel
theorem dX9_wouldBe_153 : decode cX9_wouldBe 153 = .ok (.getfield 7, 3) := by decide +kernel
theorem dX9_wouldBe_156 : decode cX9_wouldBe 156 = .ok (.bipush 21, 2) := by decide +kernel
theorem dX9_wouldBe_158 : decode cX9_wouldBe 158 = .ok (.iaload, 1) := by decide +kernel
theorem dX9_wouldBe_159 : decode cX9_wouldBe 159 = .ok (.isub, 1) := by decide +kernel
theorem dX9_wouldBe_160 : decode cX9_wouldBe 160 = .ok (.goto 5, 3) := by decide +kernel
theorem dX9_wouldBe_163 : decode cX9_wouldBe 163 = .ok (.iload 5, 2) := by decide +kernel
theorem dX9_wouldBe_165 : decode cX9_wouldBe 165 = .ok (.ireturn, 1) := by decide +kernel
theorem dX9_answerAbout_0 : decode cX9_answerAbout 0 = .ok (.iload_n 2, 1) := by decide +kernel
theorem dX9_answerAbout_1 : decode cX9_answerAbout 1 = .ok (.tableswitch 68 1 5 #[35, 43, 50, 55, 60], 35) := by decide +kernel
theorem dX9_answerAbout_36 : decode cX9_answerAbout 36 = .ok (.aload_n 0, 1) := by decide +kernel
theorem dX9_answerAbout_37 : decode cX9_answerAbout 37 = .ok (.getfield 7, 3) := by decide +kernel
theorem dX9_answerAbout_40 : decode cX9_answerAbout 40 = .ok (.bipush 22, 2) := by decide +kernel
theorem dX9_answerAbout_42 : decode cX9_answerAbout 42 = .ok (.iaload, 1) := by decide +kernel
theorem dX9_answerAbout_43 : decode cX9_answerAbout 43 = .ok (.ireturn, 1) := by decide +kernel
theorem dX9_answerAbout_44 : decode cX9_answerAbout 44 = .ok (.aload_n 0, 1) := by decide +kernel
theorem dX9_answerAbout_45 : decode cX9_answerAbout 45 = .ok (.iload_n 1, 1) := by decide +kernel
theorem dX9_answerAbout_46 : decode cX9_answerAbout 46 = .ok (.iconst 0, 1) := by decide +kernel
theorem dX9_answerAbout_47 : decode cX9_answerAbout 47 = .ok (.invokevirtual 171, 3) := by decide +kernel
theorem dX9_answerAbout_50 : decode cX9_answerAbout 50 = .ok (.ireturn, 1) := by decide +kernel
theorem dX9_answerAbout_51 : decode cX9_answerAbout 51 = .ok (.aload_n 0, 1) := by decide +kernel
theorem dX9_answerAbout_52 : decode cX9_answerAbout 52 = .ok (.getfield 231, 3) := by decide +kernel
theorem dX9_answerAbout_55 : decode cX9_answerAbout 55 = .ok (.ireturn, 1) := by decide +kernel
theorem dX9_answerAbout_56 : decode cX9_answerAbout 56 = .ok (.aload_n 0, 1) := by decide +kernel
theorem dX9_answerAbout_57 : decode cX9_answerAbout 57 = .ok (.getfield 215, 3) := by decide +kernel
theorem dX9_answerAbout_60 : decode cX9_answerAbout 60 = .ok (.ireturn, 1) := by decide +kernel
theorem dX9_answerAbout_61 : decode cX9_answerAbout 61 = .ok (.aload_n 0, 1) := by decide +kernel
theorem dX9_answerAbout_62 : decode cX9_answerAbout 62 = .ok (.getfield 7, 3) := by decide +kernel
theorem dX9_answerAbout_65 : decode cX9_answerAbout 65 = .ok (.bipush 21, 2) := by decide +kernel
theorem dX9_answerAbout_67 : decode cX9_answerAbout 67 = .ok (.iaload, 1) := by decide +kernel
theorem dX9_answerAbout_68 : decode cX9_answerAbout 68 = .ok (.ireturn, 1) := by decide +kernel
theorem dX9_answerAbout_69 : decode cX9_answerAbout 69 = .ok (.aload_n 0, 1) := by decide +kernel
theorem dX9_answerAbout_70 : decode cX9_answerAbout 70 = .ok (.getfield 7, 3) := by decide +kernel
theorem dX9_answerAbout_73 : decode cX9_answerAbout 73 = .ok (.iconst 4, 1) := by decide +kernel
theorem dX9_answerAbout_74 : decode cX9_answerAbout 74 = .ok (.iaload, 1) := by decide +kernel
theorem dX9_answerAbout_75 : decode cX9_answerAbout 75 = .ok (.ireturn, 1) := by decide +kernel
theorem dX9_isPlan_0 : decode cX9_isPlan 0 = .ok (.iload_n 0, 1) := by decide +kernel
theorem dX9_isPlan_1 : decode cX9_isPlan 1 = .ok (.invokestatic 274, 3) := by decide +kernel
theorem dX9_isPlan_4 : decode cX9_isPlan 4 = .ok (.ifCond .eq 35, 3) := by decide +kernel
theorem dX9_isPlan_7 : decode cX9_isPlan 7 = .ok (.iload_n 1, 1) := by decide +kernel
theorem dX9_isPlan_8 : decode cX9_isPlan 8 = .ok (.iconst 1, 1) := by decide +kernel
theorem dX9_isPlan_9 : decode cX9_isPlan 9 = .ok (.bipush 40, 2) := by decide +kernel
theorem dX9_isPlan_11 : decode cX9_isPlan 11 = .ok (.invokestatic 53, 3) := by decide +kernel
theorem dX9_isPlan_14 : decode cX9_isPlan 14 = .ok (.ifCond .eq 25, 3) := by decide +kernel
theorem dX9_isPlan_17 : decode cX9_isPlan 17 = .ok (.iload_n 0, 1) := by decide +kernel
theorem dX9_isPlan_18 : decode cX9_isPlan 18 = .ok (.iload_n 1, 1) := by decide +kernel
theorem dX9_isPlan_19 : decode cX9_isPlan 19 = .ok (.iadd, 1) := by decide +kernel
theorem dX9_isPlan_20 : decode cX9_isPlan 20 = .ok (.sipush 200, 3) := by decide +kernel
theorem dX9_isPlan_23 : decode cX9_isPlan 23 = .ok (.if_icmp .gt 16, 3) := by decide +kernel
theorem dX9_isPlan_26 : decode cX9_isPlan 26 = .ok (.iload_n 2, 1) := by decide +kernel
theorem dX9_isPlan_27 : decode cX9_isPlan 27 = .ok (.iconst 1, 1) := by decide +kernel
theorem dX9_isPlan_28 : decode cX9_isPlan 28 = .ok (.iconst 4, 1) := by decide +kernel
theorem dX9_isPlan_29 : decode cX9_isPlan 29 = .ok (.invokestatic 53, 3) := by decide +kernel
theorem dX9_isPlan_32 : decode cX9_isPlan 32 = .ok (.ifCond .eq 7, 3) := by decide +kernel
theorem dX9_isPlan_35 : decode cX9_isPlan 35 = .ok (.iconst 1, 1) := by decide +kernel
theorem dX9_isPlan_36 : decode cX9_isPlan 36 = .ok (.goto 4, 3) := by decide +kernel
theorem dX9_isPlan_39 : decode cX9_isPlan 39 = .ok (.iconst 0, 1) := by decide +kernel
theorem dX9_isPlan_40 : decode cX9_isPlan 40 = .ok (.ireturn, 1) := by decide +kernel
theorem dX9_readAll_0 : decode cX9_readAll 0 = .ok (.iconst 0, 1) := by decide +kernel
theorem dX9_readAll_1 : decode cX9_readAll 1 = .ok (.istore 5, 2) := by decide +kernel
theorem dX9_readAll_3 : decode cX9_readAll 3 = .ok (.iload 5, 2) := by decide +kernel
theorem dX9_readAll_5 : decode cX9_readAll 5 = .ok (.iload 4, 2) := by decide +kernel
theorem dX9_readAll_7 : decode cX9_readAll 7 = .ok (.if_icmp .ge 34, 3) := by decide +kernel
theorem dX9_readAll_10 : decode cX9_readAll 10 = .ok (.iload_n 2, 1) := by decide +kernel
theorem dX9_readAll_11 : decode cX9_readAll 11 = .ok (.istore 6, 2) := by decide +kernel
theorem dX9_readAll_13 : decode cX9_readAll 13 = .ok (.iload 6, 2) := by decide +kernel
theorem dX9_readAll_15 : decode cX9_readAll 15 = .ok (.iload_n 2, 1) := by decide +kernel
theorem dX9_readAll_16 : decode cX9_readAll 16 = .ok (.iload_n 3, 1) := by decide +kernel
theorem dX9_readAll_17 : decode cX9_readAll 17 = .ok (.iadd, 1) := by decide +kernel
theorem dX9_readAll_18 : decode cX9_readAll 18 = .ok (.if_icmp .ge 17, 3) := by decide +kernel
theorem dX9_readAll_21 : decode cX9_readAll 21 = .ok (.aload_n 0, 1) := by decide +kernel
theorem dX9_readAll_22 : decode cX9_readAll 22 = .ok (.iload_n 1, 1) := by decide +kernel
theorem dX9_readAll_23 : decode cX9_readAll 23 = .ok (.iload 6, 2) := by decide +kernel
theorem dX9_readAll_25 : decode cX9_readAll 25 = .ok (.iconst (-1), 1) := by decide +kernel
theorem dX9_readAll_26 : decode cX9_readAll 26 = .ok (.invokevirtual 162, 3) := by decide +kernel
theorem dX9_readAll_29 : decode cX9_readAll 29 = .ok (.iinc 6 1, 3) := by decide +kernel
theorem dX9_readAll_32 : decode cX9_readAll 32 = .ok (.goto (-19), 3) := by decide +kernel
theorem dX9_readAll_35 : decode cX9_readAll 35 = .ok (.iinc 5 1, 3) := by decide +kernel
theorem dX9_readAll_38 : decode cX9_readAll 38 = .ok (.goto (-35), 3) := by decide +kernel
theorem dX9_readAll_41 : decode cX9_readAll 41 = .ok (.return_, 1) := by decide +kernel
theorem dX9_numberFor_0 : decode cX9_numberFor 0 = .ok (.iload_n 0, 1) := by decide +kernel
theorem dX9_numberFor_1 : decode cX9_numberFor 1 = .ok (.tableswitch 52 0 5 #[39, 39, 39, 44, 47, 50], 39) := by decide +kernel
theorem dX9_numberFor_40 : decode cX9_numberFor 40 = .ok (.bipush 14, 2) := by decide +kernel
theorem dX9_numberFor_42 : decode cX9_numberFor 42 = .ok (.iload_n 0, 1) := by decide +kernel
theorem dX9_numberFor_43 : decode cX9_numberFor 43 = .ok (.iadd, 1) := by decide +kernel
theorem dX9_numberFor_44 : decode cX9_numberFor 44 = .ok (.ireturn, 1) := by decide +kernel
theorem dX9_numberFor_45 : decode cX9_numberFor 45 = .ok (.bipush 19, 2) := by decide +kernel
theorem dX9_numberFor_47 : decode cX9_numberFor 47 = .ok (.ireturn, 1) := by decide +kernel
theorem dX9_numberFor_48 : decode cX9_numberFor 48 = .ok (.bipush 21, 2) := by decide +kernel
theorem dX9_numberFor_50 : decode cX9_numberFor 50 = .ok (.ireturn, 1) := by decide +kernel
theorem dX9_numberFor_51 : decode cX9_numberFor 51 = .ok (.iconst 4, 1) := by decide +kernel
theorem dX9_numberFor_52 : decode cX9_numberFor 52 = .ok (.ireturn, 1) := by decide +kernel
theorem dX9_numberFor_53 : decode cX9_numberFor 53 = .ok (.bipush 22, 2) := by decide +kernel
theorem dX9_numberFor_55 : decode cX9_numberFor 55 = .ok (.ireturn, 1) := by decide +kernel
theorem dX9_ahead_0 : decode cX9_ahead 0 = .ok (.aload_n 0, 1) := by decide +kernel
theorem dX9_ahead_1 : decode cX9_ahead 1 = .ok (.iconst 0, 1) := by decide +kernel
theorem dX9_ahead_2 : decode cX9_ahead 2 = .ok (.putfield 43, 3) := by decide +kernel
theorem dX9_ahead_5 : decode cX9_ahead 5 = .ok (.aload_n 0, 1) := by decide +kernel
theorem dX9_ahead_6 : decode cX9_ahead 6 = .ok (.iload_n 1, 1) := by decide +kernel
theorem dX9_ahead_7 : decode cX9_ahead 7 = .ok (.invokevirtual 153, 3) := by decide +kernel
theorem dX9_ahead_10 : decode cX9_ahead 10 = .ok (.ifCond .ne 9, 3) := by decide +kernel
theorem dX9_ahead_13 : decode cX9_ahead 13 = .ok (.aload_n 0, 1) := by decide +kernel
theorem dX9_ahead_14 : decode cX9_ahead 14 = .ok (.iconst 1, 1) := by decide +kernel
theorem dX9_ahead_15 : decode cX9_ahead 15 = .ok (.invokevirtual 60, 3) := by decide +kernel
theorem dX9_ahead_18 : decode cX9_ahead 18 = .ok (.ireturn, 1) := by decide +kernel
theorem dX9_ahead_19 : decode cX9_ahead 19 = .ok (.iload_n 2, 1) := by decide +kernel
theorem dX9_ahead_20 : decode cX9_ahead 20 = .ok (.iload_n 3, 1) := by decide +kernel
theorem dX9_ahead_21 : decode cX9_ahead 21 = .ok (.iload 4, 2) := by decide +kernel
theorem dX9_ahead_23 : decode cX9_ahead 23 = .ok (.invokestatic 289, 3) := by decide +kernel
theorem dX9_ahead_26 : decode cX9_ahead 26 = .ok (.ifCond .eq 14, 3) := by decide +kernel
theorem dX9_ahead_29 : decode cX9_ahead 29 = .ok (.iload 5, 2) := by decide +kernel
theorem dX9_ahead_31 : decode cX9_ahead 31 = .ok (.iconst 0, 1) := by decide +kernel
theorem dX9_ahead_32 : decode cX9_ahead 32 = .ok (.bipush 6, 2) := by decide +kernel
theorem dX9_ahead_34 : decode cX9_ahead 34 = .ok (.invokestatic 53, 3) := by decide +kernel
theorem dX9_ahead_37 : decode cX9_ahead 37 = .ok (.ifCond .ne 9, 3) := by decide +kernel
theorem dX9_ahead_40 : decode cX9_ahead 40 = .ok (.aload_n 0, 1) := by decide +kernel
theorem dX9_ahead_41 : decode cX9_ahead 41 = .ok (.iconst 2, 1) := by decide +kernel
theorem dX9_ahead_42 : decode cX9_ahead 42 = .ok (.invokevirtual 60, 3) := by decide +kernel
theorem dX9_ahead_45 : decode cX9_ahead 45 = .ok (.ireturn, 1) := by decide +kernel
theorem dX9_ahead_46 : decode cX9_ahead 46 = .ok (.aload_n 0, 1) := by decide +kernel
theorem dX9_ahead_47 : decode cX9_ahead 47 = .ok (.getfield 7, 3) := by decide +kernel
theorem dX9_ahead_50 : decode cX9_ahead 50 = .ok (.iconst 0, 1) := by decide +kernel
theorem dX9_ahead_51 : decode cX9_ahead 51 = .ok (.aload_n 0, 1) := by decide +kernel
theorem dX9_ahead_52 : decode cX9_ahead 52 = .ok (.getfield 13, 3) := by decide +kernel
theorem dX9_ahead_55 : decode cX9_ahead 55 = .ok (.iconst 0, 1) := by decide +kernel
theorem dX9_ahead_56 : decode cX9_ahead 56 = .ok (.invokestatic 49, 3) := by decide +kernel
theorem dX9_ahead_59 : decode cX9_ahead 59 = .ok (.aload_n 0, 1) := by decide +kernel
theorem dX9_ahead_60 : decode cX9_ahead 60 = .ok (.iload_n 1, 1) := by decide +kernel
theorem dX9_ahead_61 : decode cX9_ahead 61 = .ok (.iload_n 2, 1) := by decide +kernel
theorem dX9_ahead_62 : decode cX9_ahead 62 = .ok (.iload_n 3, 1) := by decide +kernel
theorem dX9_ahead_63 : decode cX9_ahead 63 = .ok (.iload 4, 2) := by decide +kernel
theorem dX9_ahead_65 : decode cX9_ahead 65 = .ok (.invokevirtual 292, 3) := by decide +kernel
theorem dX9_ahead_68 : decode cX9_ahead 68 = .ok (.aload_n 0, 1) := by decide +kernel
theorem dX9_ahead_69 : decode cX9_ahead 69 = .ok (.getfield 7, 3) := by decide +kernel
theorem dX9_ahead_72 : decode cX9_ahead 72 = .ok (.iload 5, 2) := by decide +kernel
theorem dX9_ahead_74 : decode cX9_ahead 74 = .ok (.invokestatic 296, 3) := by decide +kernel
theorem dX9_ahead_77 : decode cX9_ahead 77 = .ok (.iaload, 1) := by decide +kernel
theorem dX9_ahead_78 : decode cX9_ahead 78 = .ok (.istore 6, 2) := by decide +kernel
theorem dX9_ahead_80 : decode cX9_ahead 80 = .ok (.aload_n 0, 1) := by decide +kernel
theorem dX9_ahead_81 : decode cX9_ahead 81 = .ok (.getfield 13, 3) := by decide +kernel
theorem dX9_ahead_84 : decode cX9_ahead 84 = .ok (.iconst 0, 1) := by decide +kernel
theorem dX9_ahead_85 : decode cX9_ahead 85 = .ok (.aload_n 0, 1) := by decide +kernel
theorem dX9_ahead_86 : decode cX9_ahead 86 = .ok (.getfield 7, 3) := by decide +kernel
theorem dX9_ahead_89 : decode cX9_ahead 89 = .ok (.iconst 0, 1) := by decide +kernel
theorem dX9_ahead_90 : decode cX9_ahead 90 = .ok (.invokestatic 49, 3) := by decide +kernel
theorem dX9_ahead_93 : decode cX9_ahead 93 = .ok (.iload 5, 2) := by decide +kernel
theorem dX9_ahead_95 : decode cX9_ahead 95 = .ok (.iconst 5, 1) := by decide +kernel
theorem dX9_ahead_96 : decode cX9_ahead 96 = .ok (.if_icmp .ne 8, 3) := by decide +kernel
theorem dX9_ahead_99 : decode cX9_ahead 99 = .ok (.iload 6, 2) := by decide +kernel
theorem dX9_ahead_101 : decode cX9_ahead 101 = .ok (.goto 16, 3) := by decide +kernel
theorem dX9_ahead_104 : decode cX9_ahead 104 = .ok (.iload 6, 2) := by decide +kernel
theorem dX9_ahead_106 : decode cX9_ahead 106 = .ok (.aload_n 0, 1) := by decide +kernel
theorem dX9_ahead_107 : decode cX9_ahead 107 = .ok (.getfield 7, 3) := by decide +kernel
theorem dX9_ahead_110 : decode cX9_ahead 110 = .ok (.iload 5, 2) := by decide +kernel
theorem dX9_ahead_112 : decode cX9_ahead 112 = .ok (.invokestatic 296, 3) := by decide +kernel
theorem dX9_ahead_115 : decode cX9_ahead 115 = .ok (.iaload, 1) := by decide +kernel
theorem dX9_ahead_116 : decode cX9_ahead 116 = .ok (.isub, 1) := by decide +kernel
theorem dX9_ahead_117 : decode cX9_ahead 117 = .ok (.ireturn, 1) := by decide +kernel
theorem dX9_bestLength_0 : decode cX9_bestLength 0 = .ok (.aload_n 0, 1) := by decide +kernel
theorem dX9_bestLength_1 : decode cX9_bestLength 1 = .ok (.iconst 0, 1) := by decide +kernel
theorem dX9_bestLength_2 : decode cX9_bestLength 2 = .ok (.putfield 43, 3) := by decide +kernel
theorem dX9_bestLength_5 : decode cX9_bestLength 5 = .ok (.aload_n 0, 1) := by decide +kernel
theorem dX9_bestLength_6 : decode cX9_bestLength 6 = .ok (.iload_n 1, 1) := by decide +kernel
theorem dX9_bestLength_7 : decode cX9_bestLength 7 = .ok (.invokevirtual 153, 3) := by decide +kernel
theorem dX9_bestLength_10 : decode cX9_bestLength 10 = .ok (.ifCond .ne 9, 3) := by decide +kernel
theorem dX9_bestLength_13 : decode cX9_bestLength 13 = .ok (.aload_n 0, 1) := by decide +kernel
theorem dX9_bestLength_14 : decode cX9_bestLength 14 = .ok (.iconst 1, 1) := by decide +kernel
theorem dX9_bestLength_15 : decode cX9_bestLength 15 = .ok (.invokevirtual 60, 3) := by decide +kernel
theorem dX9_bestLength_18 : decode cX9_bestLength 18 = .ok (.ireturn, 1) := by decide +kernel
theorem dX9_bestLength_19 : decode cX9_bestLength 19 = .ok (.iload_n 2, 1) := by decide +kernel
theorem dX9_bestLength_20 : decode cX9_bestLength 20 = .ok (.iload_n 3, 1) := by decide +kernel
theorem dX9_bestLength_21 : decode cX9_bestLength 21 = .ok (.iload 4, 2) := by decide +kernel
theorem dX9_bestLength_23 : decode cX9_bestLength 23 = .ok (.invokestatic 289, 3) := by decide +kernel
theorem dX9_bestLength_26 : decode cX9_bestLength 26 = .ok (.ifCond .ne 9, 3) := by decide +kernel
theorem dX9_bestLength_29 : decode cX9_bestLength 29 = .ok (.aload_n 0, 1) := by decide +kernel
theorem dX9_bestLength_30 : decode cX9_bestLength 30 = .ok (.iconst 2, 1) := by decide +kernel
theorem dX9_bestLength_31 : decode cX9_bestLength 31 = .ok (.invokevirtual 60, 3) := by decide +kernel
theorem dX9_bestLength_34 : decode cX9_bestLength 34 = .ok (.ireturn, 1) := by decide +kernel
theorem dX9_bestLength_35 : decode cX9_bestLength 35 = .ok (.aload_n 0, 1) := by decide +kernel
theorem dX9_bestLength_36 : decode cX9_bestLength 36 = .ok (.getfield 7, 3) := by decide +kernel
theorem dX9_bestLength_39 : decode cX9_bestLength 39 = .ok (.iconst 0, 1) := by decide +kernel
theorem dX9_bestLength_40 : decode cX9_bestLength 40 = .ok (.aload_n 0, 1) := by decide +kernel
theorem dX9_bestLength_41 : decode cX9_bestLength 41 = .ok (.getfield 13, 3) := by decide +kernel
theorem dX9_bestLength_44 : decode cX9_bestLength 44 = .ok (.iconst 0, 1) := by decide +kernel
theorem dX9_bestLength_45 : decode cX9_bestLength 45 = .ok (.invokestatic 49, 3) := by decide +kernel
theorem dX9_bestLength_48 : decode cX9_bestLength 48 = .ok (.iconst 0, 1) := by decide +kernel
theorem dX9_bestLength_49 : decode cX9_bestLength 49 = .ok (.istore 5, 2) := by decide +kernel
theorem dX9_bestLength_51 : decode cX9_bestLength 51 = .ok (.iconst (-1), 1) := by decide +kernel
theorem dX9_bestLength_52 : decode cX9_bestLength 52 = .ok (.istore 6, 2) := by decide +kernel
theorem dX9_bestLength_54 : decode cX9_bestLength 54 = .ok (.iconst 2, 1) := by decide +kernel
theorem dX9_bestLength_55 : decode cX9_bestLength 55 = .ok (.istore 7, 2) := by decide +kernel
theorem dX9_bestLength_57 : decode cX9_bestLength 57 = .ok (.iload 7, 2) := by decide +kernel
theorem dX9_bestLength_59 : decode cX9_bestLength 59 = .ok (.bipush 20, 2) := by decide +kernel
theorem dX9_bestLength_61 : decode cX9_bestLength 61 = .ok (.if_icmp .gt 71, 3) := by decide +kernel
theorem dX9_bestLength_64 : decode cX9_bestLength 64 = .ok (.aload_n 0, 1) := by decide +kernel
theorem dX9_bestLength_65 : decode cX9_bestLength 65 = .ok (.getfield 7, 3) := by decide +kernel
theorem dX9_bestLength_68 : decode cX9_bestLength 68 = .ok (.iconst 0, 1) := by decide +kernel
theorem dX9_bestLength_69 : decode cX9_bestLength 69 = .ok (.iload 7, 2) := by decide +kernel
theorem dX9_bestLength_71 : decode cX9_bestLength 71 = .ok (.iastore, 1) := by decide +kernel
theorem dX9_bestLength_72 : decode cX9_bestLength 72 = .ok (.aload_n 0, 1) := by decide +kernel
theorem dX9_bestLength_73 : decode cX9_bestLength 73 = .ok (.iload_n 1, 1) := by decide +kernel
theorem dX9_bestLength_74 : decode cX9_bestLength 74 = .ok (.iload_n 2, 1) := by decide +kernel
theorem dX9_bestLength_75 : decode cX9_bestLength 75 = .ok (.iload_n 3, 1) := by decide +kernel
theorem dX9_bestLength_76 : decode cX9_bestLength 76 = .ok (.iload 4, 2) := by decide +kernel
theorem dX9_bestLength_78 : decode cX9_bestLength 78 = .ok (.invokevirtual 292, 3) := by decide +kernel
theorem dX9_bestLength_81 : decode cX9_bestLength 81 = .ok (.aload_n 0, 1) := by decide +kernel
theorem dX9_bestLength_82 : decode cX9_bestLength 82 = .ok (.getfield 7, 3) := by decide +kernel
theorem dX9_bestLength_85 : decode cX9_bestLength 85 = .ok (.bipush 14, 2) := by decide +kernel
theorem dX9_bestLength_87 : decode cX9_bestLength 87 = .ok (.iaload, 1) := by decide +kernel
theorem dX9_bestLength_88 : decode cX9_bestLength 88 = .ok (.aload_n 0, 1) := by decide +kernel
theorem dX9_bestLength_89 : decode cX9_bestLength 89 = .ok (.getfield 7, 3) := by decide +kernel
theorem dX9_bestLength_92 : decode cX9_bestLength 92 = .ok (.bipush 15, 2) := by decide +kernel
theorem dX9_bestLength_94 : decode cX9_bestLength 94 = .ok (.iaload, 1) := by decide +kernel
theorem dX9_bestLength_95 : decode cX9_bestLength 95 = .ok (.iadd, 1) := by decide +kernel
theorem dX9_bestLength_96 : decode cX9_bestLength 96 = .ok (.istore 8, 2) := by decide +kernel
theorem dX9_bestLength_98 : decode cX9_bestLength 98 = .ok (.aload_n 0, 1) := by decide +kernel
theorem dX9_bestLength_99 : decode cX9_bestLength 99 = .ok (.getfield 13, 3) := by decide +kernel
theorem dX9_bestLength_102 : decode cX9_bestLength 102 = .ok (.iconst 0, 1) := by decide +kernel
theorem dX9_bestLength_103 : decode cX9_bestLength 103 = .ok (.aload_n 0, 1) := by decide +kernel
theorem dX9_bestLength_104 : decode cX9_bestLength 104 = .ok (.getfield 7, 3) := by decide +kernel
theorem dX9_bestLength_107 : decode cX9_bestLength 107 = .ok (.iconst 0, 1) := by decide +kernel
theorem dX9_bestLength_108 : decode cX9_bestLength 108 = .ok (.invokestatic 49, 3) := by decide +kernel
theorem dX9_bestLength_111 : decode cX9_bestLength 111 = .ok (.iload 8, 2) := by decide +kernel
theorem dX9_bestLength_113 : decode cX9_bestLength 113 = .ok (.iload 6, 2) := by decide +kernel
theorem dX9_bestLength_115 : decode cX9_bestLength 115 = .ok (.if_icmp .le 11, 3) := by decide +kernel
theorem dX9_bestLength_118 : decode cX9_bestLength 118 = .ok (.iload 7, 2) := by decide +kernel
theorem dX9_bestLength_120 : decode cX9_bestLength 120 = .ok (.istore 5, 2) := by decide +kernel
theorem dX9_bestLength_122 : decode cX9_bestLength 122 = .ok (.iload 8, 2) := by decide +kernel
theorem dX9_bestLength_124 : decode cX9_bestLength 124 = .ok (.istore 6, 2) := by decide +kernel
theorem dX9_bestLength_126 : decode cX9_bestLength 126 = .ok (.iinc 7 1, 3) := by decide +kernel
theorem dX9_bestLength_129 : decode cX9_bestLength 129 = .ok (.goto (-72), 3) := by decide +kernel
theorem dX9_bestLength_132 : decode cX9_bestLength 132 = .ok (.iload 5, 2) := by decide +kernel
theorem dX9_bestLength_134 : decode cX9_bestLength 134 = .ok (.ireturn, 1) := by decide +kernel
theorem dX9_emit_0 : decode cX9_emit 0 = .ok (.aload_n 0, 1) := by decide +kernel
theorem dX9_emit_1 : decode cX9_emit 1 = .ok (.getfield 36, 3) := by decide +kernel
theorem dX9_emit_4 : decode cX9_emit 4 = .ok (.aload_n 0, 1) := by decide +kernel
theorem dX9_emit_5 : decode cX9_emit 5 = .ok (.getfield 299, 3) := by decide +kernel
theorem dX9_emit_8 : decode cX9_emit 8 = .ok (.iload_n 1, 1) := by decide +kernel
theorem dX9_emit_9 : decode cX9_emit 9 = .ok (.iastore, 1) := by decide +kernel
theorem dX9_emit_10 : decode cX9_emit 10 = .ok (.aload_n 0, 1) := by decide +kernel
theorem dX9_emit_11 : decode cX9_emit 11 = .ok (.dup, 1) := by decide +kernel
theorem dX9_emit_12 : decode cX9_emit 12 = .ok (.getfield 299, 3) := by decide +kernel
theorem dX9_emit_15 : decode cX9_emit 15 = .ok (.iconst 1, 1) := by decide +kernel
theorem dX9_emit_16 : decode cX9_emit 16 = .ok (.iadd, 1) := by decide +kernel
theorem dX9_emit_17 : decode cX9_emit 17 = .ok (.putfield 299, 3) := by decide +kernel
theorem dX9_emit_20 : decode cX9_emit 20 = .ok (.return_, 1) := by decide +kernel
theorem dX9_show_0 : decode cX9_show 0 = .ok (.aload_n 0, 1) := by decide +kernel
theorem dX9_show_1 : decode cX9_show 1 = .ok (.iconst 0, 1) := by decide +kernel
theorem dX9_show_2 : decode cX9_show 2 = .ok (.putfield 43, 3) := by decide +kernel
theorem dX9_show_5 : decode cX9_show 5 = .ok (.aload_n 0, 1) := by decide +kernel
theorem dX9_show_6 : decode cX9_show 6 = .ok (.iload_n 1, 1) := by decide +kernel
theorem dX9_show_7 : decode cX9_show 7 = .ok (.invokevirtual 277, 3) := by decide +kernel
theorem dX9_show_10 : decode cX9_show 10 = .ok (.ifCond .ne 9, 3) := by decide +kernel
theorem dX9_show_13 : decode cX9_show 13 = .ok (.aload_n 0, 1) := by decide +kernel
theorem dX9_show_14 : decode cX9_show 14 = .ok (.iconst 1, 1) := by decide +kernel
theorem dX9_show_15 : decode cX9_show 15 = .ok (.invokevirtual 60, 3) := by decide +kernel
theorem dX9_show_18 : decode cX9_show 18 = .ok (.ireturn, 1) := by decide +kernel
theorem dX9_show_19 : decode cX9_show 19 = .ok (.aload_n 0, 1) := by decide +kernel
theorem dX9_show_20 : decode cX9_show 20 = .ok (.iconst 0, 1) := by decide +kernel
theorem dX9_show_21 : decode cX9_show 21 = .ok (.putfield 299, 3) := by decide +kernel
theorem dX9_show_24 : decode cX9_show 24 = .ok (.iconst 0, 1) := by decide +kernel
theorem dX9_show_25 : decode cX9_show 25 = .ok (.istore_n 2, 1) := by decide +kernel
theorem dX9_show_26 : decode cX9_show 26 = .ok (.iload_n 2, 1) := by decide +kernel
theorem dX9_show_27 : decode cX9_show 27 = .ok (.aload_n 0, 1) := by decide +kernel
theorem dX9_show_28 : decode cX9_show 28 = .ok (.iload_n 1, 1) := by decide +kernel
theorem dX9_show_29 : decode cX9_show 29 = .ok (.invokevirtual 180, 3) := by decide +kernel
theorem dX9_show_32 : decode cX9_show 32 = .ok (.if_icmp .ge 50, 3) := by decide +kernel
theorem dX9_show_35 : decode cX9_show 35 = .ok (.aload_n 0, 1) := by decide +kernel
theorem dX9_show_36 : decode cX9_show 36 = .ok (.iload_n 1, 1) := by decide +kernel
theorem dX9_show_37 : decode cX9_show 37 = .ok (.iload_n 2, 1) := by decide +kernel
theorem dX9_show_38 : decode cX9_show 38 = .ok (.invokevirtual 174, 3) := by decide +kernel
theorem dX9_show_41 : decode cX9_show 41 = .ok (.istore_n 3, 1) := by decide +kernel
theorem dX9_show_42 : decode cX9_show 42 = .ok (.iload_n 2, 1) := by decide +kernel
theorem dX9_show_43 : decode cX9_show 43 = .ok (.ifCond .le 9, 3) := by decide +kernel
theorem dX9_show_46 : decode cX9_show 46 = .ok (.aload_n 0, 1) := by decide +kernel
theorem dX9_show_47 : decode cX9_show 47 = .ok (.bipush 44, 2) := by decide +kernel
theorem dX9_show_49 : decode cX9_show 49 = .ok (.invokevirtual 302, 3) := by decide +kernel
theorem dX9_show_52 : decode cX9_show 52 = .ok (.aload_n 0, 1) := by decide +kernel
theorem dX9_show_53 : decode cX9_show 53 = .ok (.iload_n 3, 1) := by decide +kernel
theorem dX9_show_54 : decode cX9_show 54 = .ok (.invokevirtual 305, 3) := by decide +kernel
theorem dX9_show_57 : decode cX9_show 57 = .ok (.iload_n 1, 1) := by decide +kernel
theorem dX9_show_58 : decode cX9_show 58 = .ok (.iconst 2, 1) := by decide +kernel
theorem dX9_show_59 : decode cX9_show 59 = .ok (.if_icmp .gt 17, 3) := by decide +kernel
theorem dX9_show_62 : decode cX9_show 62 = .ok (.aload_n 0, 1) := by decide +kernel
theorem dX9_show_63 : decode cX9_show 63 = .ok (.iload_n 3, 1) := by decide +kernel
theorem dX9_show_64 : decode cX9_show 64 = .ok (.invokevirtual 193, 3) := by decide +kernel
theorem dX9_show_67 : decode cX9_show 67 = .ok (.ifCond .eq 9, 3) := by decide +kernel
theorem dX9_show_70 : decode cX9_show 70 = .ok (.aload_n 0, 1) := by decide +kernel
theorem dX9_show_71 : decode cX9_show 71 = .ok (.bipush 42, 2) := by decide +kernel
theorem dX9_show_73 : decode cX9_show 73 = .ok (.invokevirtual 302, 3) := by decide +kernel
theorem dX9_show_76 : decode cX9_show 76 = .ok (.iinc 2 1, 3) := by decide +kernel
theorem dX9_show_79 : decode cX9_show 79 = .ok (.goto (-53), 3) := by decide +kernel
theorem dX9_show_82 : decode cX9_show 82 = .ok (.aload_n 0, 1) := by decide +kernel
theorem dX9_show_83 : decode cX9_show 83 = .ok (.getfield 299, 3) := by decide +kernel
theorem dX9_show_86 : decode cX9_show 86 = .ok (.ireturn, 1) := by decide +kernel
theorem dX9_writeNumber_0 : decode cX9_writeNumber 0 = .ok (.iload_n 1, 1) := by decide +kernel
theorem dX9_writeNumber_1 : decode cX9_writeNumber 1 = .ok (.bipush 99, 2) := by decide +kernel
theorem dX9_writeNumber_3 : decode cX9_writeNumber 3 = .ok (.if_icmp .le 14, 3) := by decide +kernel
theorem dX9_writeNumber_6 : decode cX9_writeNumber 6 = .ok (.aload_n 0, 1) := by decide +kernel
theorem dX9_writeNumber_7 : decode cX9_writeNumber 7 = .ok (.bipush 48, 2) := by decide +kernel
theorem dX9_writeNumber_9 : decode cX9_writeNumber 9 = .ok (.iload_n 1, 1) := by decide +kernel
theorem dX9_writeNumber_10 : decode cX9_writeNumber 10 = .ok (.bipush 100, 2) := by decide +kernel
theorem dX9_writeNumber_12 : decode cX9_writeNumber 12 = .ok (.idiv, 1) := by decide +kernel
theorem dX9_writeNumber_13 : decode cX9_writeNumber 13 = .ok (.iadd, 1) := by decide +kernel
theorem dX9_writeNumber_14 : decode cX9_writeNumber 14 = .ok (.invokevirtual 302, 3) := by decide +kernel
theorem dX9_writeNumber_17 : decode cX9_writeNumber 17 = .ok (.iload_n 1, 1) := by decide +kernel
theorem dX9_writeNumber_18 : decode cX9_writeNumber 18 = .ok (.bipush 9, 2) := by decide +kernel
theorem dX9_writeNumber_20 : decode cX9_writeNumber 20 = .ok (.if_icmp .le 17, 3) := by decide +kernel
theorem dX9_writeNumber_23 : decode cX9_writeNumber 23 = .ok (.aload_n 0, 1) := by decide +kernel
theorem dX9_writeNumber_24 : decode cX9_writeNumber 24 = .ok (.bipush 48, 2) := by decide +kernel
theorem dX9_writeNumber_26 : decode cX9_writeNumber 26 = .ok (.iload_n 1, 1) := by decide +kernel
theorem dX9_writeNumber_27 : decode cX9_writeNumber 27 = .ok (.bipush 10, 2) := by decide +kernel
theorem dX9_writeNumber_29 : decode cX9_writeNumber 29 = .ok (.idiv, 1) := by decide +kernel
theorem dX9_writeNumber_30 : decode cX9_writeNumber 30 = .ok (.bipush 10, 2) := by decide +kernel
theorem dX9_writeNumber_32 : decode cX9_writeNumber 32 = .ok (.irem, 1) := by decide +kernel
theorem dX9_writeNumber_33 : decode cX9_writeNumber 33 = .ok (.iadd, 1) := by decide +kernel
theorem dX9_writeNumber_34 : decode cX9_writeNumber 34 = .ok (.invokevirtual 302, 3) := by decide +kernel
theorem dX9_writeNumber_37 : decode cX9_writeNumber 37 = .ok (.aload_n 0, 1) := by decide +kernel
theorem dX9_writeNumber_38 : decode cX9_writeNumber 38 = .ok (.bipush 48, 2) := by decide +kernel
theorem dX9_writeNumber_40 : decode cX9_writeNumber 40 = .ok (.iload_n 1, 1) := by decide +kernel
theorem dX9_writeNumber_41 : decode cX9_writeNumber 41 = .ok (.bipush 10, 2) := by decide +kernel
theorem dX9_writeNumber_43 : decode cX9_writeNumber 43 = .ok (.irem, 1) := by decide +kernel
theorem dX9_writeNumber_44 : decode cX9_writeNumber 44 = .ok (.iadd, 1) := by decide +kernel
theorem dX9_writeNumber_45 : decode cX9_writeNumber 45 = .ok (.invokevirtual 302, 3) := by decide +kernel
theorem dX9_writeNumber_48 : decode cX9_writeNumber 48 = .ok (.return_, 1) := by decide +kernel
theorem dX9_output_0 : decode cX9_output 0 = .ok (.aload_n 0, 1) := by decide +kernel
theorem dX9_output_1 : decode cX9_output 1 = .ok (.iconst 0, 1) := by decide +kernel
theorem dX9_output_2 : decode cX9_output 2 = .ok (.putfield 43, 3) := by decide +kernel
theorem dX9_output_5 : decode cX9_output 5 = .ok (.iload_n 1, 1) := by decide +kernel
theorem dX9_output_6 : decode cX9_output 6 = .ok (.iconst 0, 1) := by decide +kernel
theorem dX9_output_7 : decode cX9_output 7 = .ok (.aload_n 0, 1) := by decide +kernel
theorem dX9_output_8 : decode cX9_output 8 = .ok (.getfield 299, 3) := by decide +kernel
theorem dX9_output_11 : decode cX9_output 11 = .ok (.iconst 1, 1) := by decide +kernel
theorem dX9_output_12 : decode cX9_output 12 = .ok (.isub, 1) := by decide +kernel
theorem dX9_output_13 : decode cX9_output 13 = .ok (.invokestatic 53, 3) := by decide +kernel
theorem dX9_output_16 : decode cX9_output 16 = .ok (.ifCond .eq 12, 3) := by decide +kernel
theorem dX9_output_19 : decode cX9_output 19 = .ok (.aload_n 0, 1) := by decide +kernel
theorem dX9_output_20 : decode cX9_output 20 = .ok (.getfield 36, 3) := by decide +kernel
theorem dX9_output_23 : decode cX9_output 23 = .ok (.iload_n 1, 1) := by decide +kernel
theorem dX9_output_24 : decode cX9_output 24 = .ok (.iaload, 1) := by decide +kernel
theorem dX9_output_25 : decode cX9_output 25 = .ok (.goto 4, 3) := by decide +kernel
theorem dX9_output_28 : decode cX9_output 28 = .ok (.iconst (-1), 1) := by decide +kernel
theorem dX9_output_29 : decode cX9_output 29 = .ok (.ireturn, 1) := by decide +kernel
theorem dX9_undo_0 : decode cX9_undo 0 = .ok (.aload_n 0, 1) := by decide +kernel
theorem dX9_undo_1 : decode cX9_undo 1 = .ok (.iconst 0, 1) := by decide +kernel
theorem dX9_undo_2 : decode cX9_undo 2 = .ok (.putfield 43, 3) := by decide +kernel
theorem dX9_undo_5 : decode cX9_undo 5 = .ok (.aload_n 0, 1) := by decide +kernel
theorem dX9_undo_6 : decode cX9_undo 6 = .ok (.getfield 46, 3) := by decide +kernel
theorem dX9_undo_9 : decode cX9_undo 9 = .ok (.ifCond .ne 5, 3) := by decide +kernel
theorem dX9_undo_12 : decode cX9_undo 12 = .ok (.iconst (-1), 1) := by decide +kernel
theorem dX9_undo_13 : decode cX9_undo 13 = .ok (.ireturn, 1) := by decide +kernel
theorem dX9_undo_14 : decode cX9_undo 14 = .ok (.aload_n 0, 1) := by decide +kernel
theorem dX9_undo_15 : decode cX9_undo 15 = .ok (.dup, 1) := by decide +kernel
theorem dX9_undo_16 : decode cX9_undo 16 = .ok (.getfield 46, 3) := by decide +kernel
theorem dX9_undo_19 : decode cX9_undo 19 = .ok (.iconst 1, 1) := by decide +kernel
theorem dX9_undo_20 : decode cX9_undo 20 = .ok (.isub, 1) := by decide +kernel
theorem dX9_undo_21 : decode cX9_undo 21 = .ok (.putfield 46, 3) := by decide +kernel
theorem dX9_undo_24 : decode cX9_undo 24 = .ok (.aload_n 0, 1) := by decide +kernel
theorem dX9_undo_25 : decode cX9_undo 25 = .ok (.getfield 16, 3) := by decide +kernel
theorem dX9_undo_28 : decode cX9_undo 28 = .ok (.sipush 1384, 3) := by decide +kernel
theorem dX9_undo_31 : decode cX9_undo 31 = .ok (.aload_n 0, 1) := by decide +kernel
theorem dX9_undo_32 : decode cX9_undo 32 = .ok (.getfield 46, 3) := by decide +kernel
theorem dX9_undo_35 : decode cX9_undo 35 = .ok (.imul, 1) := by decide +kernel
theorem dX9_undo_36 : decode cX9_undo 36 = .ok (.aload_n 0, 1) := by decide +kernel
theorem dX9_undo_37 : decode cX9_undo 37 = .ok (.getfield 7, 3) := by decide +kernel
theorem dX9_undo_40 : decode cX9_undo 40 = .ok (.iconst 0, 1) := by decide +kernel
theorem dX9_undo_41 : decode cX9_undo 41 = .ok (.invokestatic 49, 3) := by decide +kernel
theorem dX9_undo_44 : decode cX9_undo 44 = .ok (.aload_n 0, 1) := by decide +kernel
theorem dX9_undo_45 : decode cX9_undo 45 = .ok (.getfield 46, 3) := by decide +kernel
theorem dX9_undo_48 : decode cX9_undo 48 = .ok (.ireturn, 1) := by decide +kernel
theorem dX9_save_0 : decode cX9_save 0 = .ok (.aload_n 0, 1) := by decide +kernel
theorem dX9_save_1 : decode cX9_save 1 = .ok (.iload_n 1, 1) := by decide +kernel
theorem dX9_save_2 : decode cX9_save 2 = .ok (.iconst 0, 1) := by decide +kernel
theorem dX9_save_3 : decode cX9_save 3 = .ok (.iconst 1, 1) := by decide +kernel
theorem dX9_save_4 : decode cX9_save 4 = .ok (.invokestatic 53, 3) := by decide +kernel
theorem dX9_save_7 : decode cX9_save 7 = .ok (.ifCond .eq 7, 3) := by decide +kernel
theorem dX9_save_10 : decode cX9_save 10 = .ok (.iconst 0, 1) := by decide +kernel
theorem dX9_save_11 : decode cX9_save 11 = .ok (.goto 4, 3) := by decide +kernel
theorem dX9_save_14 : decode cX9_save 14 = .ok (.iconst 1, 1) := by decide +kernel
theorem dX9_save_15 : decode cX9_save 15 = .ok (.putfield 43, 3) := by decide +kernel
theorem dX9_save_18 : decode cX9_save 18 = .ok (.aload_n 0, 1) := by decide +kernel
theorem dX9_save_19 : decode cX9_save 19 = .ok (.getfield 43, 3) := by decide +kernel
theorem dX9_save_22 : decode cX9_save 22 = .ok (.ifCond .ne 27, 3) := by decide +kernel
theorem dX9_save_25 : decode cX9_save 25 = .ok (.aload_n 0, 1) := by decide +kernel
theorem dX9_save_26 : decode cX9_save 26 = .ok (.getfield 7, 3) := by decide +kernel
theorem dX9_save_29 : decode cX9_save 29 = .ok (.iconst 0, 1) := by decide +kernel
theorem dX9_save_30 : decode cX9_save 30 = .ok (.aload_n 0, 1) := by decide +kernel
theorem dX9_save_31 : decode cX9_save 31 = .ok (.getfield 19, 3) := by decide +kernel
theorem dX9_save_34 : decode cX9_save 34 = .ok (.sipush 1384, 3) := by decide +kernel
theorem dX9_save_37 : decode cX9_save 37 = .ok (.iload_n 1, 1) := by decide +kernel
theorem dX9_save_38 : decode cX9_save 38 = .ok (.imul, 1) := by decide +kernel
theorem dX9_save_39 : decode cX9_save 39 = .ok (.invokestatic 49, 3) := by decide +kernel
theorem dX9_save_42 : decode cX9_save 42 = .ok (.aload_n 0, 1) := by decide +kernel
theorem dX9_save_43 : decode cX9_save 43 = .ok (.getfield 22, 3) := by decide +kernel
theorem dX9_save_46 : decode cX9_save 46 = .ok (.iload_n 1, 1) := by decide +kernel
theorem dX9_save_47 : decode cX9_save 47 = .ok (.iconst 1, 1) := by decide +kernel
theorem dX9_save_48 : decode cX9_save 48 = .ok (.bastore, 1) := by decide +kernel
theorem dX9_save_49 : decode cX9_save 49 = .ok (.return_, 1) := by decide +kernel
theorem dX9_restore_0 : decode cX9_restore 0 = .ok (.aload_n 0, 1) := by decide +kernel
theorem dX9_restore_1 : decode cX9_restore 1 = .ok (.iload_n 1, 1) := by decide +kernel
theorem dX9_restore_2 : decode cX9_restore 2 = .ok (.iconst 0, 1) := by decide +kernel
theorem dX9_restore_3 : decode cX9_restore 3 = .ok (.iconst 1, 1) := by decide +kernel
theorem dX9_restore_4 : decode cX9_restore 4 = .ok (.invokestatic 53, 3) := by decide +kernel
theorem dX9_restore_7 : decode cX9_restore 7 = .ok (.ifCond .ne 7, 3) := by decide +kernel
theorem dX9_restore_10 : decode cX9_restore 10 = .ok (.iconst 1, 1) := by decide +kernel
theorem dX9_restore_11 : decode cX9_restore 11 = .ok (.goto 17, 3) := by decide +kernel
theorem dX9_restore_14 : decode cX9_restore 14 = .ok (.aload_n 0, 1) := by decide +kernel
theorem dX9_restore_15 : decode cX9_restore 15 = .ok (.getfield 22, 3) := by decide +kernel
theorem dX9_restore_18 : decode cX9_restore 18 = .ok (.iload_n 1, 1) := by decide +kernel
theorem dX9_restore_19 : decode cX9_restore 19 = .ok (.baload, 1) := by decide +kernel
theorem dX9_restore_20 : decode cX9_restore 20 = .ok (.ifCond .ne 7, 3) := by decide +kernel
theorem dX9_restore_23 : decode cX9_restore 23 = .ok (.iconst 2, 1) := by decide +kernel
theorem dX9_restore_24 : decode cX9_restore 24 = .ok (.goto 4, 3) := by decide +kernel
theorem dX9_restore_27 : decode cX9_restore 27 = .ok (.iconst 0, 1) := by decide +kernel
theorem dX9_restore_28 : decode cX9_restore 28 = .ok (.putfield 43, 3) := by decide +kernel
theorem dX9_restore_31 : decode cX9_restore 31 = .ok (.aload_n 0, 1) := by decide +kernel
theorem dX9_restore_32 : decode cX9_restore 32 = .ok (.getfield 43, 3) := by decide +kernel
theorem dX9_restore_35 : decode cX9_restore 35 = .ok (.ifCond .ne 25, 3) := by decide +kernel
theorem dX9_restore_38 : decode cX9_restore 38 = .ok (.aload_n 0, 1) := by decide +kernel
theorem dX9_restore_39 : decode cX9_restore 39 = .ok (.getfield 19, 3) := by decide +kernel
theorem dX9_restore_42 : decode cX9_restore 42 = .ok (.sipush 1384, 3) := by decide +kernel
theorem dX9_restore_45 : decode cX9_restore 45 = .ok (.iload_n 1, 1) := by decide +kernel
theorem dX9_restore_46 : decode cX9_restore 46 = .ok (.imul, 1) := by decide +kernel
theorem dX9_restore_47 : decode cX9_restore 47 = .ok (.aload_n 0, 1) := by decide +kernel
theorem dX9_restore_48 : decode cX9_restore 48 = .ok (.getfield 7, 3) := by decide +kernel
theorem dX9_restore_51 : decode cX9_restore 51 = .ok (.iconst 0, 1) := by decide +kernel
theorem dX9_restore_52 : decode cX9_restore 52 = .ok (.invokestatic 49, 3) := by decide +kernel
theorem dX9_restore_55 : decode cX9_restore 55 = .ok (.aload_n 0, 1) := by decide +kernel
theorem dX9_restore_56 : decode cX9_restore 56 = .ok (.iconst 0, 1) := by decide +kernel
theorem dX9_restore_57 : decode cX9_restore 57 = .ok (.putfield 46, 3) := by decide +kernel
theorem dX9_restore_60 : decode cX9_restore 60 = .ok (.return_, 1) := by decide +kernel
theorem dJ9_max_7cf53_0 : decode cJ9_max_7cf53 0 = .ok (.iload_n 0, 1) := by decide +kernel
theorem dJ9_max_7cf53_1 : decode cJ9_max_7cf53 1 = .ok (.iload_n 1, 1) := by decide +kernel
theorem dJ9_max_7cf53_2 : decode cJ9_max_7cf53 2 = .ok (.if_icmp .lt 7, 3) := by decide +kernel
theorem dJ9_max_7cf53_5 : decode cJ9_max_7cf53 5 = .ok (.iload_n 0, 1) := by decide +kernel
theorem dJ9_max_7cf53_6 : decode cJ9_max_7cf53 6 = .ok (.goto 4, 3) := by decide +kernel
theorem dJ9_max_7cf53_9 : decode cJ9_max_7cf53 9 = .ok (.iload_n 1, 1) := by decide +kernel
theorem dJ9_max_7cf53_10 : decode cJ9_max_7cf53 10 = .ok (.ireturn, 1) := by decide +kernel
theorem dJ9_min_7cf53_0 : decode cJ9_min_7cf53 0 = .ok (.iload_n 0, 1) := by decide +kernel
theorem dJ9_min_7cf53_1 : decode cJ9_min_7cf53 1 = .ok (.iload_n 1, 1) := by decide +kernel
theorem dJ9_min_7cf53_2 : decode cJ9_min_7cf53 2 = .ok (.if_icmp .gt 7, 3) := by decide +kernel
theorem dJ9_min_7cf53_5 : decode cJ9_min_7cf53 5 = .ok (.iload_n 0, 1) := by decide +kernel
theorem dJ9_min_7cf53_6 : decode cJ9_min_7cf53 6 = .ok (.goto 4, 3) := by decide +kernel
theorem dJ9_min_7cf53_9 : decode cJ9_min_7cf53 9 = .ok (.iload_n 1, 1) := by decide +kernel
theorem dJ9_min_7cf53_10 : decode cJ9_min_7cf53 10 = .ok (.ireturn, 1) := by decide +kernel
theorem dJ0_length_8abf5_0 : decode cJ0_length_8abf5 0 = .ok (.aload_n 0, 1) := by decide +kernel
theorem dJ0_length_8abf5_1 : decode cJ0_length_8abf5 1 = .ok (.getfield 9, 3) := by decide +kernel
theorem dJ0_length_8abf5_4 : decode cJ0_length_8abf5 4 = .ok (.arraylength, 1) := by decide +kernel
theorem dJ0_length_8abf5_5 : decode cJ0_length_8abf5 5 = .ok (.aload_n 0, 1) := by decide +kernel
theorem dJ0_length_8abf5_6 : decode cJ0_length_8abf5 6 = .ok (.invokevirtual 335, 3) := by decide +kernel
theorem dJ0_length_8abf5_9 : decode cJ0_length_8abf5 9 = .ok (.ishr, 1) := by decide +kernel
theorem dJ0_length_8abf5_10 : decode cJ0_length_8abf5 10 = .ok (.ireturn, 1) := by decide +kernel
theorem dJ0_charAt_5068e_0 : decode cJ0_charAt_5068e 0 = .ok (.aload_n 0, 1) := by decide +kernel
theorem dJ0_charAt_5068e_1 : decode cJ0_charAt_5068e 1 = .ok (.invokevirtual 492, 3) := by decide +kernel
theorem dJ0_charAt_5068e_4 : decode cJ0_charAt_5068e 4 = .ok (.ifCond .eq 12, 3) := by decide +kernel
theorem dJ0_charAt_5068e_7 : decode cJ0_charAt_5068e 7 = .ok (.aload_n 0, 1) := by decide +kernel
theorem dJ0_charAt_5068e_8 : decode cJ0_charAt_5068e 8 = .ok (.getfield 9, 3) := by decide +kernel
theorem dJ0_charAt_5068e_11 : decode cJ0_charAt_5068e 11 = .ok (.iload_n 1, 1) := by decide +kernel
theorem dJ0_charAt_5068e_12 : decode cJ0_charAt_5068e 12 = .ok (.invokestatic 495, 3) := by decide +kernel
theorem dJ0_charAt_5068e_15 : decode cJ0_charAt_5068e 15 = .ok (.ireturn, 1) := by decide +kernel
theorem dJ0_charAt_5068e_16 : decode cJ0_charAt_5068e 16 = .ok (.aload_n 0, 1) := by decide +kernel
theorem dJ0_charAt_5068e_17 : decode cJ0_charAt_5068e 17 = .ok (.getfield 9, 3) := by decide +kernel
theorem dJ0_charAt_5068e_20 : decode cJ0_charAt_5068e 20 = .ok (.iload_n 1, 1) := by decide +kernel
theorem dJ0_charAt_5068e_21 : decode cJ0_charAt_5068e 21 = .ok (.invokestatic 498, 3) := by decide +kernel
theorem dJ0_charAt_5068e_24 : decode cJ0_charAt_5068e 24 = .ok (.ireturn, 1) := by decide +kernel
theorem dJ0_coder_7d493_0 : decode cJ0_coder_7d493 0 = .ok (.getstatic 38, 3) := by decide +kernel
theorem dJ0_coder_7d493_3 : decode cJ0_coder_7d493 3 = .ok (.ifCond .eq 10, 3) := by decide +kernel
theorem dJ0_coder_7d493_6 : decode cJ0_coder_7d493 6 = .ok (.aload_n 0, 1) := by decide +kernel
theorem dJ0_coder_7d493_7 : decode cJ0_coder_7d493 7 = .ok (.getfield 15, 3) := by decide +kernel
theorem dJ0_coder_7d493_10 : decode cJ0_coder_7d493 10 = .ok (.goto 4, 3) := by decide +kernel
theorem dJ0_coder_7d493_13 : decode cJ0_coder_7d493 13 = .ok (.iconst 1, 1) := by decide +kernel
theorem dJ0_coder_7d493_14 : decode cJ0_coder_7d493 14 = .ok (.ireturn, 1) := by decide +kernel
theorem dJ0_isLatin1_aae02_0 : decode cJ0_isLatin1_aae02 0 = .ok (.getstatic 38, 3) := by decide +kernel
theorem dJ0_isLatin1_aae02_3 : decode cJ0_isLatin1_aae02 3 = .ok (.ifCond .eq 14, 3) := by decide +kernel
theorem dJ0_isLatin1_aae02_6 : decode cJ0_isLatin1_aae02 6 = .ok (.aload_n 0, 1) := by decide +kernel
theorem dJ0_isLatin1_aae02_7 : decode cJ0_isLatin1_aae02 7 = .ok (.getfield 15, 3) := by decide +kernel
theorem dJ0_isLatin1_aae02_10 : decode cJ0_isLatin1_aae02 10 = .ok (.ifCond .ne 7, 3) := by decide +kernel
theorem dJ0_isLatin1_aae02_13 : decode cJ0_isLatin1_aae02 13 = .ok (.iconst 1, 1) := by decide +kernel
theorem dJ0_isLatin1_aae02_14 : decode cJ0_isLatin1_aae02 14 = .ok (.goto 4, 3) := by decide +kernel
theorem dJ0_isLatin1_aae02_17 : decode cJ0_isLatin1_aae02 17 = .ok (.iconst 0, 1) := by decide +kernel
theorem dJ0_isLatin1_aae02_18 : decode cJ0_isLatin1_aae02 18 = .ok (.ireturn, 1) := by decide +kernel
theorem dJ0_checkIndex_df160_0 : decode cJ0_checkIndex_df160 0 = .ok (.iload_n 0, 1) := by decide +kernel
theorem dJ0_checkIndex_df160_1 : decode cJ0_checkIndex_df160 1 = .ok (.iload_n 1, 1) := by decide +kernel
theorem dJ0_checkIndex_df160_2 : decode cJ0_checkIndex_df160 2 = .ok (.getstatic 1053, 3) := by decide +kernel
theorem dJ0_checkIndex_df160_5 : decode cJ0_checkIndex_df160 5 = .ok (.invokestatic 1059, 3) := by decide +kernel
theorem dJ0_checkIndex_df160_8 : decode cJ0_checkIndex_df160 8 = .ok (.pop, 1) := by decide +kernel
theorem dJ0_checkIndex_df160_9 : decode cJ0_checkIndex_df160 9 = .ok (.return_, 1) := by decide +kernel
theorem dJ1_charAt_3b067_0 : decode cJ1_charAt_3b067 0 = .ok (.iload_n 1, 1) := by decide +kernel
theorem dJ1_charAt_3b067_1 : decode cJ1_charAt_3b067 1 = .ok (.aload_n 0, 1) := by decide +kernel
theorem dJ1_charAt_3b067_2 : decode cJ1_charAt_3b067 2 = .ok (.arraylength, 1) := by decide +kernel
theorem dJ1_charAt_3b067_3 : decode cJ1_charAt_3b067 3 = .ok (.invokestatic 9, 3) := by decide +kernel
theorem dJ1_charAt_3b067_6 : decode cJ1_charAt_3b067 6 = .ok (.aload_n 0, 1) := by decide +kernel
theorem dJ1_charAt_3b067_7 : decode cJ1_charAt_3b067 7 = .ok (.iload_n 1, 1) := by decide +kernel
theorem dJ1_charAt_3b067_8 : decode cJ1_charAt_3b067 8 = .ok (.baload, 1) := by decide +kernel
theorem dJ1_charAt_3b067_9 : decode cJ1_charAt_3b067 9 = .ok (.sipush 255, 3) := by decide +kernel
theorem dJ1_charAt_3b067_12 : decode cJ1_charAt_3b067 12 = .ok (.iand, 1) := by decide +kernel
theorem dJ1_charAt_3b067_13 : decode cJ1_charAt_3b067 13 = .ok (.i2c, 1) := by decide +kernel
theorem dJ1_charAt_3b067_14 : decode cJ1_charAt_3b067 14 = .ok (.ireturn, 1) := by decide +kernel
theorem dJ2_getChar_3b067_0 : decode cJ2_getChar_3b067 0 = .ok (.getstatic 44, 3) := by decide +kernel
theorem dJ2_getChar_3b067_3 : decode cJ2_getChar_3b067 3 = .ok (.ifCond .ne 25, 3) := by decide +kernel
theorem dJ2_getChar_3b067_6 : decode cJ2_getChar_3b067 6 = .ok (.iload_n 1, 1) := by decide +kernel
theorem dJ2_getChar_3b067_7 : decode cJ2_getChar_3b067 7 = .ok (.ifCond .lt 11, 3) := by decide +kernel
theorem dJ2_getChar_3b067_10 : decode cJ2_getChar_3b067 10 = .ok (.iload_n 1, 1) := by decide +kernel
theorem dJ2_getChar_3b067_11 : decode cJ2_getChar_3b067 11 = .ok (.aload_n 0, 1) := by decide +kernel
theorem dJ2_getChar_3b067_12 : decode cJ2_getChar_3b067 12 = .ok (.invokestatic 48, 3) := by decide +kernel
theorem dJ2_getChar_3b067_15 : decode cJ2_getChar_3b067 15 = .ok (.if_icmp .lt 13, 3) := by decide +kernel
theorem dJ2_getChar_3b067_18 : decode cJ2_getChar_3b067 18 = .ok (.new 52, 3) := by decide +kernel
theorem dJ2_getChar_3b067_21 : decode cJ2_getChar_3b067 21 = .ok (.dup, 1) := by decide +kernel
theorem dJ2_getChar_3b067_22 : decode cJ2_getChar_3b067 22 = .ok (.ldc 54, 2) := by decide +kernel
theorem dJ2_getChar_3b067_24 : decode cJ2_getChar_3b067 24 = .ok (.invokespecial 56, 3) := by decide +kernel
theorem dJ2_getChar_3b067_27 : decode cJ2_getChar_3b067 27 = .ok (.athrow, 1) := by decide +kernel
theorem dJ2_getChar_3b067_28 : decode cJ2_getChar_3b067 28 = .ok (.iload_n 1, 1) := by decide +kernel
theorem dJ2_getChar_3b067_29 : decode cJ2_getChar_3b067 29 = .ok (.iconst 1, 1) := by decide +kernel
theorem dJ2_getChar_3b067_30 : decode cJ2_getChar_3b067 30 = .ok (.ishl, 1) := by decide +kernel
theorem dJ2_getChar_3b067_31 : decode cJ2_getChar_3b067 31 = .ok (.istore_n 1, 1) := by decide +kernel
theorem dJ2_getChar_3b067_32 : decode cJ2_getChar_3b067 32 = .ok (.aload_n 0, 1) := by decide +kernel
theorem dJ2_getChar_3b067_33 : decode cJ2_getChar_3b067 33 = .ok (.iload_n 1, 1) := by decide +kernel
theorem dJ2_getChar_3b067_34 : decode cJ2_getChar_3b067 34 = .ok (.iinc 1 1, 3) := by decide +kernel
theorem dJ2_getChar_3b067_37 : decode cJ2_getChar_3b067 37 = .ok (.baload, 1) := by decide +kernel
theorem dJ2_getChar_3b067_38 : decode cJ2_getChar_3b067 38 = .ok (.sipush 255, 3) := by decide +kernel
theorem dJ2_getChar_3b067_41 : decode cJ2_getChar_3b067 41 = .ok (.iand, 1) := by decide +kernel
theorem dJ2_getChar_3b067_42 : decode cJ2_getChar_3b067 42 = .ok (.getstatic 59, 3) := by decide +kernel
theorem dJ2_getChar_3b067_45 : decode cJ2_getChar_3b067 45 = .ok (.ishl, 1) := by decide +kernel
theorem dJ2_getChar_3b067_46 : decode cJ2_getChar_3b067 46 = .ok (.aload_n 0, 1) := by decide +kernel
theorem dJ2_getChar_3b067_47 : decode cJ2_getChar_3b067 47 = .ok (.iload_n 1, 1) := by decide +kernel
theorem dJ2_getChar_3b067_48 : decode cJ2_getChar_3b067 48 = .ok (.baload, 1) := by decide +kernel
theorem dJ2_getChar_3b067_49 : decode cJ2_getChar_3b067 49 = .ok (.sipush 255, 3) := by decide +kernel
theorem dJ2_getChar_3b067_52 : decode cJ2_getChar_3b067 52 = .ok (.iand, 1) := by decide +kernel
theorem dJ2_getChar_3b067_53 : decode cJ2_getChar_3b067 53 = .ok (.getstatic 63, 3) := by decide +kernel
theorem dJ2_getChar_3b067_56 : decode cJ2_getChar_3b067 56 = .ok (.ishl, 1) := by decide +kernel
theorem dJ2_getChar_3b067_57 : decode cJ2_getChar_3b067 57 = .ok (.ior, 1) := by decide +kernel
theorem dJ2_getChar_3b067_58 : decode cJ2_getChar_3b067 58 = .ok (.i2c, 1) := by decide +kernel
theorem dJ2_getChar_3b067_59 : decode cJ2_getChar_3b067 59 = .ok (.ireturn, 1) := by decide +kernel
theorem dJ2_length_9d52b_0 : decode cJ2_length_9d52b 0 = .ok (.aload_n 0, 1) := by decide +kernel
theorem dJ2_length_9d52b_1 : decode cJ2_length_9d52b 1 = .ok (.arraylength, 1) := by decide +kernel
theorem dJ2_length_9d52b_2 : decode cJ2_length_9d52b 2 = .ok (.iconst 1, 1) := by decide +kernel
theorem dJ2_length_9d52b_3 : decode cJ2_length_9d52b 3 = .ok (.ishr, 1) := by decide +kernel
theorem dJ2_length_9d52b_4 : decode cJ2_length_9d52b 4 = .ok (.ireturn, 1) := by decide +kernel
theorem dJ2_charAt_3b067_0 : decode cJ2_charAt_3b067 0 = .ok (.iload_n 1, 1) := by decide +kernel
theorem dJ2_charAt_3b067_1 : decode cJ2_charAt_3b067 1 = .ok (.aload_n 0, 1) := by decide +kernel
theorem dJ2_charAt_3b067_2 : decode cJ2_charAt_3b067 2 = .ok (.invokestatic 67, 3) := by decide +kernel
theorem dJ2_charAt_3b067_5 : decode cJ2_charAt_3b067 5 = .ok (.aload_n 0, 1) := by decide +kernel
theorem dJ2_charAt_3b067_6 : decode cJ2_charAt_3b067 6 = .ok (.iload_n 1, 1) := by decide +kernel
theorem dJ2_charAt_3b067_7 : decode cJ2_charAt_3b067 7 = .ok (.invokestatic 71, 3) := by decide +kernel
theorem dJ2_charAt_3b067_10 : decode cJ2_charAt_3b067 10 = .ok (.ireturn, 1) := by decide +kernel
theorem dJ2_checkIndex_2214a_0 : decode cJ2_checkIndex_2214a 0 = .ok (.iload_n 0, 1) := by decide +kernel
theorem dJ2_checkIndex_2214a_1 : decode cJ2_checkIndex_2214a 1 = .ok (.aload_n 1, 1) := by decide +kernel
theorem dJ2_checkIndex_2214a_2 : decode cJ2_checkIndex_2214a 2 = .ok (.invokestatic 48, 3) := by decide +kernel
theorem dJ2_checkIndex_2214a_5 : decode cJ2_checkIndex_2214a 5 = .ok (.invokestatic 414, 3) := by decide +kernel
theorem dJ2_checkIndex_2214a_8 : decode cJ2_checkIndex_2214a 8 = .ok (.return_, 1) := by decide +kernel
theorem dJ3_checkIndex_8e157_0 : decode cJ3_checkIndex_8e157 0 = .ok (.iload_n 0, 1) := by decide +kernel
theorem dJ3_checkIndex_8e157_1 : decode cJ3_checkIndex_8e157 1 = .ok (.ifCond .lt 8, 3) := by decide +kernel
theorem dJ3_checkIndex_8e157_4 : decode cJ3_checkIndex_8e157 4 = .ok (.iload_n 0, 1) := by decide +kernel
theorem dJ3_checkIndex_8e157_5 : decode cJ3_checkIndex_8e157 5 = .ok (.iload_n 1, 1) := by decide +kernel
theorem dJ3_checkIndex_8e157_6 : decode cJ3_checkIndex_8e157 6 = .ok (.if_icmp .lt 10, 3) := by decide +kernel
theorem dJ3_checkIndex_8e157_9 : decode cJ3_checkIndex_8e157 9 = .ok (.aload_n 2, 1) := by decide +kernel
theorem dJ3_checkIndex_8e157_10 : decode cJ3_checkIndex_8e157 10 = .ok (.iload_n 0, 1) := by decide +kernel
theorem dJ3_checkIndex_8e157_11 : decode cJ3_checkIndex_8e157 11 = .ok (.iload_n 1, 1) := by decide +kernel
theorem dJ3_checkIndex_8e157_12 : decode cJ3_checkIndex_8e157 12 = .ok (.invokestatic 95, 3) := by decide +kernel
theorem dJ3_checkIndex_8e157_15 : decode cJ3_checkIndex_8e157 15 = .ok (.athrow, 1) := by decide +kernel
theorem dJ3_checkIndex_8e157_16 : decode cJ3_checkIndex_8e157 16 = .ok (.iload_n 0, 1) := by decide +kernel
theorem dJ3_checkIndex_8e157_17 : decode cJ3_checkIndex_8e157 17 = .ok (.ireturn, 1) := by decide +kernel
theorem dL_appendText_0 : decode cL_appendText 0 = .ok (.aload_n 2, 1) := by decide +kernel
theorem dL_appendText_1 : decode cL_appendText 1 = .ok (.iconst 0, 1) := by decide +kernel
theorem dL_appendText_2 : decode cL_appendText 2 = .ok (.aload_n 0, 1) := by decide +kernel
theorem dL_appendText_3 : decode cL_appendText 3 = .ok (.iload_n 1, 1) := by decide +kernel
theorem dL_appendText_4 : decode cL_appendText 4 = .ok (.invokevirtual 7, 3) := by decide +kernel
theorem dL_appendText_7 : decode cL_appendText 7 = .ok (.i2l, 1) := by decide +kernel
theorem dL_appendText_8 : decode cL_appendText 8 = .ok (.lastore, 1) := by decide +kernel
theorem dL_appendText_9 : decode cL_appendText 9 = .ok (.goto 6, 3) := by decide +kernel
theorem dL_appendText_12 : decode cL_appendText 12 = .ok (.astore_n 3, 1) := by decide +kernel
theorem dL_appendText_13 : decode cL_appendText 13 = .ok (.iconst 1, 1) := by decide +kernel
theorem dL_appendText_14 : decode cL_appendText 14 = .ok (.ireturn, 1) := by decide +kernel
theorem dL_appendText_15 : decode cL_appendText 15 = .ok (.iconst 0, 1) := by decide +kernel
theorem dL_appendText_16 : decode cL_appendText 16 = .ok (.ireturn, 1) := by decide +kernel
theorem dL_truncateText_0 : decode cL_truncateText 0 = .ok (.aload_n 2, 1) := by decide +kernel
theorem dL_truncateText_1 : decode cL_truncateText 1 = .ok (.iconst 0, 1) := by decide +kernel
theorem dL_truncateText_2 : decode cL_truncateText 2 = .ok (.aload_n 0, 1) := by decide +kernel
theorem dL_truncateText_3 : decode cL_truncateText 3 = .ok (.iload_n 1, 1) := by decide +kernel
theorem dL_truncateText_4 : decode cL_truncateText 4 = .ok (.invokevirtual 15, 3) := by decide +kernel
theorem dL_truncateText_7 : decode cL_truncateText 7 = .ok (.i2l, 1) := by decide +kernel
theorem dL_truncateText_8 : decode cL_truncateText 8 = .ok (.lastore, 1) := by decide +kernel
theorem dL_truncateText_9 : decode cL_truncateText 9 = .ok (.goto 6, 3) := by decide +kernel
theorem dL_truncateText_12 : decode cL_truncateText 12 = .ok (.astore_n 3, 1) := by decide +kernel
theorem dL_truncateText_13 : decode cL_truncateText 13 = .ok (.iconst 1, 1) := by decide +kernel
theorem dL_truncateText_14 : decode cL_truncateText 14 = .ok (.ireturn, 1) := by decide +kernel
theorem dL_truncateText_15 : decode cL_truncateText 15 = .ok (.iconst 0, 1) := by decide +kernel
theorem dL_truncateText_16 : decode cL_truncateText 16 = .ok (.ireturn, 1) := by decide +kernel
theorem dL_addClient_0 : decode cL_addClient 0 = .ok (.aload_n 2, 1) := by decide +kernel
theorem dL_addClient_1 : decode cL_addClient 1 = .ok (.iconst 0, 1) := by decide +kernel
theorem dL_addClient_2 : decode cL_addClient 2 = .ok (.aload_n 0, 1) := by decide +kernel
theorem dL_addClient_3 : decode cL_addClient 3 = .ok (.iload_n 1, 1) := by decide +kernel
theorem dL_addClient_4 : decode cL_addClient 4 = .ok (.invokevirtual 20, 3) := by decide +kernel
theorem dL_addClient_7 : decode cL_addClient 7 = .ok (.i2l, 1) := by decide +kernel
theorem dL_addClient_8 : decode cL_addClient 8 = .ok (.lastore, 1) := by decide +kernel
theorem dL_addClient_9 : decode cL_addClient 9 = .ok (.goto 9, 3) := by decide +kernel
theorem dL_addClient_12 : decode cL_addClient 12 = .ok (.astore_n 3, 1) := by decide +kernel
theorem dL_addClient_13 : decode cL_addClient 13 = .ok (.iconst 1, 1) := by decide +kernel
theorem dL_addClient_14 : decode cL_addClient 14 = .ok (.ireturn, 1) := by decide +kernel
theorem dL_addClient_15 : decode cL_addClient 15 = .ok (.astore_n 3, 1) := by decide +kernel
theorem dL_addClient_16 : decode cL_addClient 16 = .ok (.iconst 2, 1) := by decide +kernel
theorem dL_addClient_17 : decode cL_addClient 17 = .ok (.ireturn, 1) := by decide +kernel
theorem dL_addClient_18 : decode cL_addClient 18 = .ok (.iconst 0, 1) := by decide +kernel
theorem dL_addClient_19 : decode cL_addClient 19 = .ok (.ireturn, 1) := by decide +kernel
theorem dL_setWeight_0 : decode cL_setWeight 0 = .ok (.aload_n 3, 1) := by decide +kernel
theorem dL_setWeight_1 : decode cL_setWeight 1 = .ok (.iconst 0, 1) := by decide +kernel
theorem dL_setWeight_2 : decode cL_setWeight 2 = .ok (.aload_n 0, 1) := by decide +kernel
theorem dL_setWeight_3 : decode cL_setWeight 3 = .ok (.iload_n 1, 1) := by decide +kernel
theorem dL_setWeight_4 : decode cL_setWeight 4 = .ok (.iload_n 2, 1) := by decide +kernel
theorem dL_setWeight_5 : decode cL_setWeight 5 = .ok (.invokevirtual 23, 3) := by decide +kernel
theorem dL_setWeight_8 : decode cL_setWeight 8 = .ok (.i2l, 1) := by decide +kernel
theorem dL_setWeight_9 : decode cL_setWeight 9 = .ok (.lastore, 1) := by decide +kernel
theorem dL_setWeight_10 : decode cL_setWeight 10 = .ok (.goto 11, 3) := by decide +kernel
theorem dL_setWeight_13 : decode cL_setWeight 13 = .ok (.astore 4, 2) := by decide +kernel
theorem dL_setWeight_15 : decode cL_setWeight 15 = .ok (.iconst 1, 1) := by decide +kernel
theorem dL_setWeight_16 : decode cL_setWeight 16 = .ok (.ireturn, 1) := by decide +kernel
theorem dL_setWeight_17 : decode cL_setWeight 17 = .ok (.astore 4, 2) := by decide +kernel
theorem dL_setWeight_19 : decode cL_setWeight 19 = .ok (.iconst 2, 1) := by decide +kernel
theorem dL_setWeight_20 : decode cL_setWeight 20 = .ok (.ireturn, 1) := by decide +kernel
theorem dL_setWeight_21 : decode cL_setWeight 21 = .ok (.iconst 0, 1) := by decide +kernel
theorem dL_setWeight_22 : decode cL_setWeight 22 = .ok (.ireturn, 1) := by decide +kernel
theorem dL_set_0 : decode cL_set 0 = .ok (.aload_n 3, 1) := by decide +kernel
theorem dL_set_1 : decode cL_set 1 = .ok (.iconst 0, 1) := by decide +kernel
theorem dL_set_2 : decode cL_set 2 = .ok (.aload_n 0, 1) := by decide +kernel
theorem dL_set_3 : decode cL_set 3 = .ok (.iload_n 1, 1) := by decide +kernel
theorem dL_set_4 : decode cL_set 4 = .ok (.iload_n 2, 1) := by decide +kernel
theorem dL_set_5 : decode cL_set 5 = .ok (.invokevirtual 29, 3) := by decide +kernel
theorem dL_set_8 : decode cL_set 8 = .ok (.i2l, 1) := by decide +kernel
theorem dL_set_9 : decode cL_set 9 = .ok (.lastore, 1) := by decide +kernel
theorem dL_set_10 : decode cL_set 10 = .ok (.goto 7, 3) := by decide +kernel
theorem dL_set_13 : decode cL_set 13 = .ok (.astore 4, 2) := by decide +kernel
theorem dL_set_15 : decode cL_set 15 = .ok (.iconst 1, 1) := by decide +kernel
theorem dL_set_16 : decode cL_set 16 = .ok (.ireturn, 1) := by decide +kernel
theorem dL_set_17 : decode cL_set 17 = .ok (.iconst 0, 1) := by decide +kernel
theorem dL_set_18 : decode cL_set 18 = .ok (.ireturn, 1) := by decide +kernel
theorem dL_shape_0 : decode cL_shape 0 = .ok (.aload_n 3, 1) := by decide +kernel
theorem dL_shape_1 : decode cL_shape 1 = .ok (.iconst 0, 1) := by decide +kernel
theorem dL_shape_2 : decode cL_shape 2 = .ok (.aload_n 0, 1) := by decide +kernel
theorem dL_shape_3 : decode cL_shape 3 = .ok (.iload_n 1, 1) := by decide +kernel
theorem dL_shape_4 : decode cL_shape 4 = .ok (.iload_n 2, 1) := by decide +kernel
theorem dL_shape_5 : decode cL_shape 5 = .ok (.invokevirtual 32, 3) := by decide +kernel
theorem dL_shape_8 : decode cL_shape 8 = .ok (.i2l, 1) := by decide +kernel
theorem dL_shape_9 : decode cL_shape 9 = .ok (.lastore, 1) := by decide +kernel
theorem dL_shape_10 : decode cL_shape 10 = .ok (.goto 7, 3) := by decide +kernel
theorem dL_shape_13 : decode cL_shape 13 = .ok (.astore 4, 2) := by decide +kernel
theorem dL_shape_15 : decode cL_shape 15 = .ok (.iconst 1, 1) := by decide +kernel
theorem dL_shape_16 : decode cL_shape 16 = .ok (.ireturn, 1) := by decide +kernel
theorem dL_shape_17 : decode cL_shape 17 = .ok (.iconst 0, 1) := by decide +kernel
theorem dL_shape_18 : decode cL_shape 18 = .ok (.ireturn, 1) := by decide +kernel
theorem dL_count_0 : decode cL_count 0 = .ok (.aload_n 2, 1) := by decide +kernel
theorem dL_count_1 : decode cL_count 1 = .ok (.iconst 0, 1) := by decide +kernel
theorem dL_count_2 : decode cL_count 2 = .ok (.aload_n 0, 1) := by decide +kernel
theorem dL_count_3 : decode cL_count 3 = .ok (.iload_n 1, 1) := by decide +kernel
theorem dL_count_4 : decode cL_count 4 = .ok (.invokevirtual 35, 3) := by decide +kernel
theorem dL_count_7 : decode cL_count 7 = .ok (.i2l, 1) := by decide +kernel
theorem dL_count_8 : decode cL_count 8 = .ok (.lastore, 1) := by decide +kernel
theorem dL_count_9 : decode cL_count 9 = .ok (.goto 6, 3) := by decide +kernel
theorem dL_count_12 : decode cL_count 12 = .ok (.astore_n 3, 1) := by decide +kernel
theorem dL_count_13 : decode cL_count 13 = .ok (.iconst 1, 1) := by decide +kernel
theorem dL_count_14 : decode cL_count 14 = .ok (.ireturn, 1) := by decide +kernel
theorem dL_count_15 : decode cL_count 15 = .ok (.iconst 0, 1) := by decide +kernel
theorem dL_count_16 : decode cL_count 16 = .ok (.ireturn, 1) := by decide +kernel
theorem dL_client_0 : decode cL_client 0 = .ok (.aload_n 3, 1) := by decide +kernel
theorem dL_client_1 : decode cL_client 1 = .ok (.iconst 0, 1) := by decide +kernel
theorem dL_client_2 : decode cL_client 2 = .ok (.aload_n 0, 1) := by decide +kernel
theorem dL_client_3 : decode cL_client 3 = .ok (.iload_n 1, 1) := by decide +kernel
theorem dL_client_4 : decode cL_client 4 = .ok (.iload_n 2, 1) := by decide +kernel
theorem dL_client_5 : decode cL_client 5 = .ok (.invokevirtual 38, 3) := by decide +kernel
theorem dL_client_8 : decode cL_client 8 = .ok (.i2l, 1) := by decide +kernel
theorem dL_client_9 : decode cL_client 9 = .ok (.lastore, 1) := by decide +kernel
theorem dL_client_10 : decode cL_client 10 = .ok (.goto 11, 3) := by decide +kernel
theorem dL_client_13 : decode cL_client 13 = .ok (.astore 4, 2) := by decide +kernel
theorem dL_client_15 : decode cL_client 15 = .ok (.iconst 1, 1) := by decide +kernel
theorem dL_client_16 : decode cL_client 16 = .ok (.ireturn, 1) := by decide +kernel
theorem dL_client_17 : decode cL_client 17 = .ok (.astore 4, 2) := by decide +kernel
theorem dL_client_19 : decode cL_client 19 = .ok (.iconst 2, 1) := by decide +kernel
theorem dL_client_20 : decode cL_client 20 = .ok (.ireturn, 1) := by decide +kernel
theorem dL_client_21 : decode cL_client 21 = .ok (.iconst 0, 1) := by decide +kernel
theorem dL_client_22 : decode cL_client 22 = .ok (.ireturn, 1) := by decide +kernel
theorem dL_block_0 : decode cL_block 0 = .ok (.aload_n 3, 1) := by decide +kernel
theorem dL_block_1 : decode cL_block 1 = .ok (.iconst 0, 1) := by decide +kernel
theorem dL_block_2 : decode cL_block 2 = .ok (.aload_n 0, 1) := by decide +kernel
theorem dL_block_3 : decode cL_block 3 = .ok (.iload_n 1, 1) := by decide +kernel
theorem dL_block_4 : decode cL_block 4 = .ok (.iload_n 2, 1) := by decide +kernel
theorem dL_block_5 : decode cL_block 5 = .ok (.invokevirtual 41, 3) := by decide +kernel
theorem dL_block_8 : decode cL_block 8 = .ok (.i2l, 1) := by decide +kernel
theorem dL_block_9 : decode cL_block 9 = .ok (.lastore, 1) := by decide +kernel
theorem dL_block_10 : decode cL_block 10 = .ok (.goto 7, 3) := by decide +kernel
theorem dL_block_13 : decode cL_block 13 = .ok (.astore 4, 2) := by decide +kernel
theorem dL_block_15 : decode cL_block 15 = .ok (.iconst 1, 1) := by decide +kernel
theorem dL_block_16 : decode cL_block 16 = .ok (.ireturn, 1) := by decide +kernel
theorem dL_block_17 : decode cL_block 17 = .ok (.iconst 0, 1) := by decide +kernel
theorem dL_block_18 : decode cL_block 18 = .ok (.ireturn, 1) := by decide +kernel
theorem dL_at_0 : decode cL_at 0 = .ok (.aload_n 3, 1) := by decide +kernel
theorem dL_at_1 : decode cL_at 1 = .ok (.iconst 0, 1) := by decide +kernel
theorem dL_at_2 : decode cL_at 2 = .ok (.aload_n 0, 1) := by decide +kernel
theorem dL_at_3 : decode cL_at 3 = .ok (.iload_n 1, 1) := by decide +kernel
theorem dL_at_4 : decode cL_at 4 = .ok (.iload_n 2, 1) := by decide +kernel
theorem dL_at_5 : decode cL_at 5 = .ok (.invokevirtual 44, 3) := by decide +kernel
theorem dL_at_8 : decode cL_at 8 = .ok (.i2l, 1) := by decide +kernel
theorem dL_at_9 : decode cL_at 9 = .ok (.lastore, 1) := by decide +kernel
theorem dL_at_10 : decode cL_at 10 = .ok (.goto 7, 3) := by decide +kernel
theorem dL_at_13 : decode cL_at 13 = .ok (.astore 4, 2) := by decide +kernel
theorem dL_at_15 : decode cL_at 15 = .ok (.iconst 1, 1) := by decide +kernel
theorem dL_at_16 : decode cL_at 16 = .ok (.ireturn, 1) := by decide +kernel
theorem dL_at_17 : decode cL_at 17 = .ok (.iconst 0, 1) := by decide +kernel
theorem dL_at_18 : decode cL_at 18 = .ok (.ireturn, 1) := by decide +kernel
theorem dL_read_0 : decode cL_read 0 = .ok (.aload_n 3, 1) := by decide +kernel
theorem dL_read_1 : decode cL_read 1 = .ok (.iconst 0, 1) := by decide +kernel
theorem dL_read_2 : decode cL_read 2 = .ok (.aload_n 0, 1) := by decide +kernel
theorem dL_read_3 : decode cL_read 3 = .ok (.iload_n 1, 1) := by decide +kernel
theorem dL_read_4 : decode cL_read 4 = .ok (.iload_n 2, 1) := by decide +kernel
theorem dL_read_5 : decode cL_read 5 = .ok (.invokevirtual 47, 3) := by decide +kernel
theorem dL_read_8 : decode cL_read 8 = .ok (.i2l, 1) := by decide +kernel
theorem dL_read_9 : decode cL_read 9 = .ok (.lastore, 1) := by decide +kernel
theorem dL_read_10 : decode cL_read 10 = .ok (.goto 11, 3) := by decide +kernel
theorem dL_read_13 : decode cL_read 13 = .ok (.astore 4, 2) := by decide +kernel
theorem dL_read_15 : decode cL_read 15 = .ok (.iconst 1, 1) := by decide +kernel
theorem dL_read_16 : decode cL_read 16 = .ok (.ireturn, 1) := by decide +kernel
theorem dL_read_17 : decode cL_read 17 = .ok (.astore 4, 2) := by decide +kernel
theorem dL_read_19 : decode cL_read 19 = .ok (.iconst 2, 1) := by decide +kernel
theorem dL_read_20 : decode cL_read 20 = .ok (.ireturn, 1) := by decide +kernel
theorem dL_read_21 : decode cL_read 21 = .ok (.iconst 0, 1) := by decide +kernel
theorem dL_read_22 : decode cL_read 22 = .ok (.ireturn, 1) := by decide +kernel
theorem dL_write_0 : decode cL_write 0 = .ok (.aload 4, 2) := by decide +kernel
theorem dL_write_2 : decode cL_write 2 = .ok (.iconst 0, 1) := by decide +kernel
theorem dL_write_3 : decode cL_write 3 = .ok (.aload_n 0, 1) := by decide +kernel
theorem dL_write_4 : decode cL_write 4 = .ok (.iload_n 1, 1) := by decide +kernel
theorem dL_write_5 : decode cL_write 5 = .ok (.iload_n 2, 1) := by decide +kernel
theorem dL_write_6 : decode cL_write 6 = .ok (.iload_n 3, 1) := by decide +kernel
theorem dL_write_7 : decode cL_write 7 = .ok (.invokevirtual 50, 3) := by decide +kernel
theorem dL_write_10 : decode cL_write 10 = .ok (.i2l, 1) := by decide +kernel
theorem dL_write_11 : decode cL_write 11 = .ok (.lastore, 1) := by decide +kernel
theorem dL_write_12 : decode cL_write 12 = .ok (.goto 11, 3) := by decide +kernel
theorem dL_write_15 : decode cL_write 15 = .ok (.astore 5, 2) := by decide +kernel
theorem dL_write_17 : decode cL_write 17 = .ok (.iconst 1, 1) := by decide +kernel
theorem dL_write_18 : decode cL_write 18 = .ok (.ireturn, 1) := by decide +kernel
theorem dL_write_19 : decode cL_write 19 = .ok (.astore 5, 2) := by decide +kernel
theorem dL_write_21 : decode cL_write 21 = .ok (.iconst 2, 1) := by decide +kernel
theorem dL_write_22 : decode cL_write 22 = .ok (.ireturn, 1) := by decide +kernel
theorem dL_write_23 : decode cL_write 23 = .ok (.iconst 0, 1) := by decide +kernel
theorem dL_write_24 : decode cL_write 24 = .ok (.ireturn, 1) := by decide +kernel
theorem dL_flush_0 : decode cL_flush 0 = .ok (.aload_n 2, 1) := by decide +kernel
theorem dL_flush_1 : decode cL_flush 1 = .ok (.iconst 0, 1) := by decide +kernel
theorem dL_flush_2 : decode cL_flush 2 = .ok (.aload_n 0, 1) := by decide +kernel
theorem dL_flush_3 : decode cL_flush 3 = .ok (.iload_n 1, 1) := by decide +kernel
theorem dL_flush_4 : decode cL_flush 4 = .ok (.invokevirtual 54, 3) := by decide +kernel
theorem dL_flush_7 : decode cL_flush 7 = .ok (.i2l, 1) := by decide +kernel
theorem dL_flush_8 : decode cL_flush 8 = .ok (.lastore, 1) := by decide +kernel
theorem dL_flush_9 : decode cL_flush 9 = .ok (.goto 6, 3) := by decide +kernel
theorem dL_flush_12 : decode cL_flush 12 = .ok (.astore_n 3, 1) := by decide +kernel
theorem dL_flush_13 : decode cL_flush 13 = .ok (.iconst 1, 1) := by decide +kernel
theorem dL_flush_14 : decode cL_flush 14 = .ok (.ireturn, 1) := by decide +kernel
theorem dL_flush_15 : decode cL_flush 15 = .ok (.iconst 0, 1) := by decide +kernel
theorem dL_flush_16 : decode cL_flush 16 = .ok (.ireturn, 1) := by decide +kernel
theorem dL_forget_0 : decode cL_forget 0 = .ok (.aload_n 2, 1) := by decide +kernel
theorem dL_forget_1 : decode cL_forget 1 = .ok (.iconst 0, 1) := by decide +kernel
theorem dL_forget_2 : decode cL_forget 2 = .ok (.aload_n 0, 1) := by decide +kernel
theorem dL_forget_3 : decode cL_forget 3 = .ok (.iload_n 1, 1) := by decide +kernel
theorem dL_forget_4 : decode cL_forget 4 = .ok (.invokevirtual 57, 3) := by decide +kernel
theorem dL_forget_7 : decode cL_forget 7 = .ok (.ifCond .eq 7, 3) := by decide +kernel
theorem dL_forget_10 : decode cL_forget 10 = .ok (.lconst 1, 1) := by decide +kernel
theorem dL_forget_11 : decode cL_forget 11 = .ok (.goto 4, 3) := by decide +kernel
theorem dL_forget_14 : decode cL_forget 14 = .ok (.lconst 0, 1) := by decide +kernel
theorem dL_forget_15 : decode cL_forget 15 = .ok (.lastore, 1) := by decide +kernel
theorem dL_forget_16 : decode cL_forget 16 = .ok (.goto 6, 3) := by decide +kernel
theorem dL_forget_19 : decode cL_forget 19 = .ok (.astore_n 3, 1) := by decide +kernel
theorem dL_forget_20 : decode cL_forget 20 = .ok (.iconst 1, 1) := by decide +kernel
theorem dL_forget_21 : decode cL_forget 21 = .ok (.ireturn, 1) := by decide +kernel
theorem dL_forget_22 : decode cL_forget 22 = .ok (.iconst 0, 1) := by decide +kernel
theorem dL_forget_23 : decode cL_forget 23 = .ok (.ireturn, 1) := by decide +kernel
theorem dL_share_0 : decode cL_share 0 = .ok (.aload_n 2, 1) := by decide +kernel
theorem dL_share_1 : decode cL_share 1 = .ok (.iconst 0, 1) := by decide +kernel
theorem dL_share_2 : decode cL_share 2 = .ok (.aload_n 0, 1) := by decide +kernel
theorem dL_share_3 : decode cL_share 3 = .ok (.iload_n 1, 1) := by decide +kernel
theorem dL_share_4 : decode cL_share 4 = .ok (.invokevirtual 61, 3) := by decide +kernel
theorem dL_share_7 : decode cL_share 7 = .ok (.dastore, 1) := by decide +kernel
theorem dL_share_8 : decode cL_share 8 = .ok (.goto 6, 3) := by decide +kernel
theorem dL_share_11 : decode cL_share 11 = .ok (.astore_n 3, 1) := by decide +kernel
theorem dL_share_12 : decode cL_share 12 = .ok (.iconst 1, 1) := by decide +kernel
theorem dL_share_13 : decode cL_share 13 = .ok (.ireturn, 1) := by decide +kernel
theorem dL_share_14 : decode cL_share 14 = .ok (.iconst 0, 1) := by decide +kernel
theorem dL_share_15 : decode cL_share 15 = .ok (.ireturn, 1) := by decide +kernel
theorem dL_order_0 : decode cL_order 0 = .ok (.aload_n 2, 1) := by decide +kernel
theorem dL_order_1 : decode cL_order 1 = .ok (.iconst 0, 1) := by decide +kernel
theorem dL_order_2 : decode cL_order 2 = .ok (.aload_n 0, 1) := by decide +kernel
theorem dL_order_3 : decode cL_order 3 = .ok (.iload_n 1, 1) := by decide +kernel
theorem dL_order_4 : decode cL_order 4 = .ok (.invokevirtual 65, 3) := by decide +kernel
theorem dL_order_7 : decode cL_order 7 = .ok (.i2l, 1) := by decide +kernel
theorem dL_order_8 : decode cL_order 8 = .ok (.lastore, 1) := by decide +kernel
theorem dL_order_9 : decode cL_order 9 = .ok (.goto 6, 3) := by decide +kernel
theorem dL_order_12 : decode cL_order 12 = .ok (.astore_n 3, 1) := by decide +kernel
theorem dL_order_13 : decode cL_order 13 = .ok (.iconst 1, 1) := by decide +kernel
theorem dL_order_14 : decode cL_order 14 = .ok (.ireturn, 1) := by decide +kernel
theorem dL_order_15 : decode cL_order 15 = .ok (.iconst 0, 1) := by decide +kernel
theorem dL_order_16 : decode cL_order 16 = .ok (.ireturn, 1) := by decide +kernel
theorem dL_ages_0 : decode cL_ages 0 = .ok (.aload_n 2, 1) := by decide +kernel
theorem dL_ages_1 : decode cL_ages 1 = .ok (.iconst 0, 1) := by decide +kernel
theorem dL_ages_2 : decode cL_ages 2 = .ok (.aload_n 0, 1) := by decide +kernel
theorem dL_ages_3 : decode cL_ages 3 = .ok (.iload_n 1, 1) := by decide +kernel
theorem dL_ages_4 : decode cL_ages 4 = .ok (.invokevirtual 68, 3) := by decide +kernel
theorem dL_ages_7 : decode cL_ages 7 = .ok (.i2l, 1) := by decide +kernel
theorem dL_ages_8 : decode cL_ages 8 = .ok (.lastore, 1) := by decide +kernel
theorem dL_ages_9 : decode cL_ages 9 = .ok (.goto 6, 3) := by decide +kernel
theorem dL_ages_12 : decode cL_ages 12 = .ok (.astore_n 3, 1) := by decide +kernel
theorem dL_ages_13 : decode cL_ages 13 = .ok (.iconst 1, 1) := by decide +kernel
theorem dL_ages_14 : decode cL_ages 14 = .ok (.ireturn, 1) := by decide +kernel
theorem dL_ages_15 : decode cL_ages 15 = .ok (.iconst 0, 1) := by decide +kernel
theorem dL_ages_16 : decode cL_ages 16 = .ok (.ireturn, 1) := by decide +kernel
theorem dL_ownedAt_0 : decode cL_ownedAt 0 = .ok (.aload 4, 2) := by decide +kernel
theorem dL_ownedAt_2 : decode cL_ownedAt 2 = .ok (.iconst 0, 1) := by decide +kernel
theorem dL_ownedAt_3 : decode cL_ownedAt 3 = .ok (.aload_n 0, 1) := by decide +kernel
theorem dL_ownedAt_4 : decode cL_ownedAt 4 = .ok (.iload_n 1, 1) := by decide +kernel
theorem dL_ownedAt_5 : decode cL_ownedAt 5 = .ok (.iload_n 2, 1) := by decide +kernel
theorem dL_ownedAt_6 : decode cL_ownedAt 6 = .ok (.iload_n 3, 1) := by decide +kernel
theorem dL_ownedAt_7 : decode cL_ownedAt 7 = .ok (.invokevirtual 71, 3) := by decide +kernel
theorem dL_ownedAt_10 : decode cL_ownedAt 10 = .ok (.i2l, 1) := by decide +kernel
theorem dL_ownedAt_11 : decode cL_ownedAt 11 = .ok (.lastore, 1) := by decide +kernel
theorem dL_ownedAt_12 : decode cL_ownedAt 12 = .ok (.goto 7, 3) := by decide +kernel
theorem dL_ownedAt_15 : decode cL_ownedAt 15 = .ok (.astore 5, 2) := by decide +kernel
theorem dL_ownedAt_17 : decode cL_ownedAt 17 = .ok (.iconst 1, 1) := by decide +kernel
theorem dL_ownedAt_18 : decode cL_ownedAt 18 = .ok (.ireturn, 1) := by decide +kernel
theorem dL_ownedAt_19 : decode cL_ownedAt 19 = .ok (.iconst 0, 1) := by decide +kernel
theorem dL_ownedAt_20 : decode cL_ownedAt 20 = .ok (.ireturn, 1) := by decide +kernel
theorem dL_excess_0 : decode cL_excess 0 = .ok (.aload_n 2, 1) := by decide +kernel
theorem dL_excess_1 : decode cL_excess 1 = .ok (.iconst 0, 1) := by decide +kernel
theorem dL_excess_2 : decode cL_excess 2 = .ok (.aload_n 0, 1) := by decide +kernel
theorem dL_excess_3 : decode cL_excess 3 = .ok (.iload_n 1, 1) := by decide +kernel
theorem dL_excess_4 : decode cL_excess 4 = .ok (.invokevirtual 74, 3) := by decide +kernel
theorem dL_excess_7 : decode cL_excess 7 = .ok (.f2d, 1) := by decide +kernel
theorem dL_excess_8 : decode cL_excess 8 = .ok (.dastore, 1) := by decide +kernel
theorem dL_excess_9 : decode cL_excess 9 = .ok (.goto 6, 3) := by decide +kernel
theorem dL_excess_12 : decode cL_excess 12 = .ok (.astore_n 3, 1) := by decide +kernel
theorem dL_excess_13 : decode cL_excess 13 = .ok (.iconst 1, 1) := by decide +kernel
theorem dL_excess_14 : decode cL_excess 14 = .ok (.ireturn, 1) := by decide +kernel
theorem dL_excess_15 : decode cL_excess 15 = .ok (.iconst 0, 1) := by decide +kernel
theorem dL_excess_16 : decode cL_excess 16 = .ok (.ireturn, 1) := by decide +kernel
theorem dL_toScan_0 : decode cL_toScan 0 = .ok (.aload_n 3, 1) := by decide +kernel
theorem dL_toScan_1 : decode cL_toScan 1 = .ok (.iconst 0, 1) := by decide +kernel
theorem dL_toScan_2 : decode cL_toScan 2 = .ok (.aload_n 0, 1) := by decide +kernel
theorem dL_toScan_3 : decode cL_toScan 3 = .ok (.iload_n 1, 1) := by decide +kernel
theorem dL_toScan_4 : decode cL_toScan 4 = .ok (.iload_n 2, 1) := by decide +kernel
theorem dL_toScan_5 : decode cL_toScan 5 = .ok (.invokevirtual 78, 3) := by decide +kernel
theorem dL_toScan_8 : decode cL_toScan 8 = .ok (.i2l, 1) := by decide +kernel
theorem dL_toScan_9 : decode cL_toScan 9 = .ok (.lastore, 1) := by decide +kernel
theorem dL_toScan_10 : decode cL_toScan 10 = .ok (.goto 11, 3) := by decide +kernel
theorem dL_toScan_13 : decode cL_toScan 13 = .ok (.astore 4, 2) := by decide +kernel
theorem dL_toScan_15 : decode cL_toScan 15 = .ok (.iconst 1, 1) := by decide +kernel
theorem dL_toScan_16 : decode cL_toScan 16 = .ok (.ireturn, 1) := by decide +kernel
theorem dL_toScan_17 : decode cL_toScan 17 = .ok (.astore 4, 2) := by decide +kernel
theorem dL_toScan_19 : decode cL_toScan 19 = .ok (.iconst 2, 1) := by decide +kernel
theorem dL_toScan_20 : decode cL_toScan 20 = .ok (.ireturn, 1) := by decide +kernel
theorem dL_toScan_21 : decode cL_toScan 21 = .ok (.iconst 0, 1) := by decide +kernel
theorem dL_toScan_22 : decode cL_toScan 22 = .ok (.ireturn, 1) := by decide +kernel
theorem dL_rank_0 : decode cL_rank 0 = .ok (.aload_n 2, 1) := by decide +kernel
theorem dL_rank_1 : decode cL_rank 1 = .ok (.iconst 0, 1) := by decide +kernel
theorem dL_rank_2 : decode cL_rank 2 = .ok (.aload_n 0, 1) := by decide +kernel
theorem dL_rank_3 : decode cL_rank 3 = .ok (.iload_n 1, 1) := by decide +kernel
theorem dL_rank_4 : decode cL_rank 4 = .ok (.invokevirtual 81, 3) := by decide +kernel
theorem dL_rank_7 : decode cL_rank 7 = .ok (.i2l, 1) := by decide +kernel
theorem dL_rank_8 : decode cL_rank 8 = .ok (.lastore, 1) := by decide +kernel
theorem dL_rank_9 : decode cL_rank 9 = .ok (.goto 6, 3) := by decide +kernel
theorem dL_rank_12 : decode cL_rank 12 = .ok (.astore_n 3, 1) := by decide +kernel
theorem dL_rank_13 : decode cL_rank 13 = .ok (.iconst 1, 1) := by decide +kernel
theorem dL_rank_14 : decode cL_rank 14 = .ok (.ireturn, 1) := by decide +kernel
theorem dL_rank_15 : decode cL_rank 15 = .ok (.iconst 0, 1) := by decide +kernel
theorem dL_rank_16 : decode cL_rank 16 = .ok (.ireturn, 1) := by decide +kernel
theorem dL_between_0 : decode cL_between 0 = .ok (.aload 4, 2) := by decide +kernel
theorem dL_between_2 : decode cL_between 2 = .ok (.iconst 0, 1) := by decide +kernel
theorem dL_between_3 : decode cL_between 3 = .ok (.aload_n 0, 1) := by decide +kernel
theorem dL_between_4 : decode cL_between 4 = .ok (.iload_n 1, 1) := by decide +kernel
theorem dL_between_5 : decode cL_between 5 = .ok (.iload_n 2, 1) := by decide +kernel
theorem dL_between_6 : decode cL_between 6 = .ok (.iload_n 3, 1) := by decide +kernel
theorem dL_between_7 : decode cL_between 7 = .ok (.invokevirtual 84, 3) := by decide +kernel
theorem dL_between_10 : decode cL_between 10 = .ok (.i2l, 1) := by decide +kernel
theorem dL_between_11 : decode cL_between 11 = .ok (.lastore, 1) := by decide +kernel
theorem dL_between_12 : decode cL_between 12 = .ok (.goto 11, 3) := by decide +kernel
theorem dL_between_15 : decode cL_between 15 = .ok (.astore 5, 2) := by decide +kernel
theorem dL_between_17 : decode cL_between 17 = .ok (.iconst 1, 1) := by decide +kernel
theorem dL_between_18 : decode cL_between 18 = .ok (.ireturn, 1) := by decide +kernel
theorem dL_between_19 : decode cL_between 19 = .ok (.astore 5, 2) := by decide +kernel
theorem dL_between_21 : decode cL_between 21 = .ok (.iconst 2, 1) := by decide +kernel
theorem dL_between_22 : decode cL_between 22 = .ok (.ireturn, 1) := by decide +kernel
theorem dL_between_23 : decode cL_between 23 = .ok (.iconst 0, 1) := by decide +kernel
theorem dL_between_24 : decode cL_between 24 = .ok (.ireturn, 1) := by decide +kernel
theorem dL_longest_0 : decode cL_longest 0 = .ok (.aload_n 2, 1) := by decide +kernel
theorem dL_longest_1 : decode cL_longest 1 = .ok (.iconst 0, 1) := by decide +kernel
theorem dL_longest_2 : decode cL_longest 2 = .ok (.aload_n 0, 1) := by decide +kernel
theorem dL_longest_3 : decode cL_longest 3 = .ok (.iload_n 1, 1) := by decide +kernel
theorem dL_longest_4 : decode cL_longest 4 = .ok (.invokevirtual 87, 3) := by decide +kernel
theorem dL_longest_7 : decode cL_longest 7 = .ok (.i2l, 1) := by decide +kernel
theorem dL_longest_8 : decode cL_longest 8 = .ok (.lastore, 1) := by decide +kernel
theorem dL_longest_9 : decode cL_longest 9 = .ok (.goto 6, 3) := by decide +kernel
theorem dL_longest_12 : decode cL_longest 12 = .ok (.astore_n 3, 1) := by decide +kernel
theorem dL_longest_13 : decode cL_longest 13 = .ok (.iconst 1, 1) := by decide +kernel
theorem dL_longest_14 : decode cL_longest 14 = .ok (.ireturn, 1) := by decide +kernel
theorem dL_longest_15 : decode cL_longest 15 = .ok (.iconst 0, 1) := by decide +kernel
theorem dL_longest_16 : decode cL_longest 16 = .ok (.ireturn, 1) := by decide +kernel
theorem dL_stale_0 : decode cL_stale 0 = .ok (.aload_n 2, 1) := by decide +kernel
theorem dL_stale_1 : decode cL_stale 1 = .ok (.iconst 0, 1) := by decide +kernel
theorem dL_stale_2 : decode cL_stale 2 = .ok (.aload_n 0, 1) := by decide +kernel
theorem dL_stale_3 : decode cL_stale 3 = .ok (.iload_n 1, 1) := by decide +kernel
theorem dL_stale_4 : decode cL_stale 4 = .ok (.invokevirtual 90, 3) := by decide +kernel
theorem dL_stale_7 : decode cL_stale 7 = .ok (.i2l, 1) := by decide +kernel
theorem dL_stale_8 : decode cL_stale 8 = .ok (.lastore, 1) := by decide +kernel
theorem dL_stale_9 : decode cL_stale 9 = .ok (.goto 6, 3) := by decide +kernel
theorem dL_stale_12 : decode cL_stale 12 = .ok (.astore_n 3, 1) := by decide +kernel
theorem dL_stale_13 : decode cL_stale 13 = .ok (.iconst 1, 1) := by decide +kernel
theorem dL_stale_14 : decode cL_stale 14 = .ok (.ireturn, 1) := by decide +kernel
theorem dL_stale_15 : decode cL_stale 15 = .ok (.iconst 0, 1) := by decide +kernel
theorem dL_stale_16 : decode cL_stale 16 = .ok (.ireturn, 1) := by decide +kernel
theorem dL_wouldBe_0 : decode cL_wouldBe 0 = .ok (.aload 4, 2) := by decide +kernel
theorem dL_wouldBe_2 : decode cL_wouldBe 2 = .ok (.iconst 0, 1) := by decide +kernel
theorem dL_wouldBe_3 : decode cL_wouldBe 3 = .ok (.aload_n 0, 1) := by decide +kernel
theorem dL_wouldBe_4 : decode cL_wouldBe 4 = .ok (.iload_n 1, 1) := by decide +kernel
theorem dL_wouldBe_5 : decode cL_wouldBe 5 = .ok (.iload_n 2, 1) := by decide +kernel
theorem dL_wouldBe_6 : decode cL_wouldBe 6 = .ok (.iload_n 3, 1) := by decide +kernel
theorem dL_wouldBe_7 : decode cL_wouldBe 7 = .ok (.invokevirtual 93, 3) := by decide +kernel
theorem dL_wouldBe_10 : decode cL_wouldBe 10 = .ok (.i2l, 1) := by decide +kernel
theorem dL_wouldBe_11 : decode cL_wouldBe 11 = .ok (.lastore, 1) := by decide +kernel
theorem dL_wouldBe_12 : decode cL_wouldBe 12 = .ok (.goto 11, 3) := by decide +kernel
theorem dL_wouldBe_15 : decode cL_wouldBe 15 = .ok (.astore 5, 2) := by decide +kernel
theorem dL_wouldBe_17 : decode cL_wouldBe 17 = .ok (.iconst 1, 1) := by decide +kernel
theorem dL_wouldBe_18 : decode cL_wouldBe 18 = .ok (.ireturn, 1) := by decide +kernel
theorem dL_wouldBe_19 : decode cL_wouldBe 19 = .ok (.astore 5, 2) := by decide +kernel
theorem dL_wouldBe_21 : decode cL_wouldBe 21 = .ok (.iconst 2, 1) := by decide +kernel
theorem dL_wouldBe_22 : decode cL_wouldBe 22 = .ok (.ireturn, 1) := by decide +kernel
theorem dL_wouldBe_23 : decode cL_wouldBe 23 = .ok (.iconst 0, 1) := by decide +kernel
theorem dL_wouldBe_24 : decode cL_wouldBe 24 = .ok (.ireturn, 1) := by decide +kernel
theorem dL_ahead_0 : decode cL_ahead 0 = .ok (.aload 6, 2) := by decide +kernel
theorem dL_ahead_2 : decode cL_ahead 2 = .ok (.iconst 0, 1) := by decide +kernel
theorem dL_ahead_3 : decode cL_ahead 3 = .ok (.aload_n 0, 1) := by decide +kernel
theorem dL_ahead_4 : decode cL_ahead 4 = .ok (.iload_n 1, 1) := by decide +kernel
theorem dL_ahead_5 : decode cL_ahead 5 = .ok (.iload_n 2, 1) := by decide +kernel
theorem dL_ahead_6 : decode cL_ahead 6 = .ok (.iload_n 3, 1) := by decide +kernel
theorem dL_ahead_7 : decode cL_ahead 7 = .ok (.iload 4, 2) := by decide +kernel
theorem dL_ahead_9 : decode cL_ahead 9 = .ok (.iload 5, 2) := by decide +kernel
theorem dL_ahead_11 : decode cL_ahead 11 = .ok (.invokevirtual 96, 3) := by decide +kernel
theorem dL_ahead_14 : decode cL_ahead 14 = .ok (.i2l, 1) := by decide +kernel
theorem dL_ahead_15 : decode cL_ahead 15 = .ok (.lastore, 1) := by decide +kernel
theorem dL_ahead_16 : decode cL_ahead 16 = .ok (.goto 11, 3) := by decide +kernel
theorem dL_ahead_19 : decode cL_ahead 19 = .ok (.astore 7, 2) := by decide +kernel
theorem dL_ahead_21 : decode cL_ahead 21 = .ok (.iconst 1, 1) := by decide +kernel
theorem dL_ahead_22 : decode cL_ahead 22 = .ok (.ireturn, 1) := by decide +kernel
theorem dL_ahead_23 : decode cL_ahead 23 = .ok (.astore 7, 2) := by decide +kernel
theorem dL_ahead_25 : decode cL_ahead 25 = .ok (.iconst 2, 1) := by decide +kernel
theorem dL_ahead_26 : decode cL_ahead 26 = .ok (.ireturn, 1) := by decide +kernel
theorem dL_ahead_27 : decode cL_ahead 27 = .ok (.iconst 0, 1) := by decide +kernel
theorem dL_ahead_28 : decode cL_ahead 28 = .ok (.ireturn, 1) := by decide +kernel
theorem dL_bestLength_0 : decode cL_bestLength 0 = .ok (.aload 5, 2) := by decide +kernel
theorem dL_bestLength_2 : decode cL_bestLength 2 = .ok (.iconst 0, 1) := by decide +kernel
theorem dL_bestLength_3 : decode cL_bestLength 3 = .ok (.aload_n 0, 1) := by decide +kernel
theorem dL_bestLength_4 : decode cL_bestLength 4 = .ok (.iload_n 1, 1) := by decide +kernel
theorem dL_bestLength_5 : decode cL_bestLength 5 = .ok (.iload_n 2, 1) := by decide +kernel
theorem dL_bestLength_6 : decode cL_bestLength 6 = .ok (.iload_n 3, 1) := by decide +kernel
theorem dL_bestLength_7 : decode cL_bestLength 7 = .ok (.iload 4, 2) := by decide +kernel
theorem dL_bestLength_9 : decode cL_bestLength 9 = .ok (.invokevirtual 100, 3) := by decide +kernel
theorem dL_bestLength_12 : decode cL_bestLength 12 = .ok (.i2l, 1) := by decide +kernel
theorem dL_bestLength_13 : decode cL_bestLength 13 = .ok (.lastore, 1) := by decide +kernel
theorem dL_bestLength_14 : decode cL_bestLength 14 = .ok (.goto 11, 3) := by decide +kernel
theorem dL_bestLength_17 : decode cL_bestLength 17 = .ok (.astore 6, 2) := by decide +kernel
theorem dL_bestLength_19 : decode cL_bestLength 19 = .ok (.iconst 1, 1) := by decide +kernel
theorem dL_bestLength_20 : decode cL_bestLength 20 = .ok (.ireturn, 1) := by decide +kernel
theorem dL_bestLength_21 : decode cL_bestLength 21 = .ok (.astore 6, 2) := by decide +kernel
theorem dL_bestLength_23 : decode cL_bestLength 23 = .ok (.iconst 2, 1) := by decide +kernel
theorem dL_bestLength_24 : decode cL_bestLength 24 = .ok (.ireturn, 1) := by decide +kernel
theorem dL_bestLength_25 : decode cL_bestLength 25 = .ok (.iconst 0, 1) := by decide +kernel
theorem dL_bestLength_26 : decode cL_bestLength 26 = .ok (.ireturn, 1) := by decide +kernel
theorem dL_show_0 : decode cL_show 0 = .ok (.aload_n 2, 1) := by decide +kernel
theorem dL_show_1 : decode cL_show 1 = .ok (.iconst 0, 1) := by decide +kernel
theorem dL_show_2 : decode cL_show 2 = .ok (.aload_n 0, 1) := by decide +kernel
theorem dL_show_3 : decode cL_show 3 = .ok (.iload_n 1, 1) := by decide +kernel
theorem dL_show_4 : decode cL_show 4 = .ok (.invokevirtual 104, 3) := by decide +kernel
theorem dL_show_7 : decode cL_show 7 = .ok (.i2l, 1) := by decide +kernel
theorem dL_show_8 : decode cL_show 8 = .ok (.lastore, 1) := by decide +kernel
theorem dL_show_9 : decode cL_show 9 = .ok (.goto 6, 3) := by decide +kernel
theorem dL_show_12 : decode cL_show 12 = .ok (.astore_n 3, 1) := by decide +kernel
theorem dL_show_13 : decode cL_show 13 = .ok (.iconst 1, 1) := by decide +kernel
theorem dL_show_14 : decode cL_show 14 = .ok (.ireturn, 1) := by decide +kernel
theorem dL_show_15 : decode cL_show 15 = .ok (.iconst 0, 1) := by decide +kernel
theorem dL_show_16 : decode cL_show 16 = .ok (.ireturn, 1) := by decide +kernel
theorem dL_save_0 : decode cL_save 0 = .ok (.aload_n 0, 1) := by decide +kernel
theorem dL_save_1 : decode cL_save 1 = .ok (.iload_n 1, 1) := by decide +kernel
theorem dL_save_2 : decode cL_save 2 = .ok (.invokevirtual 107, 3) := by decide +kernel
theorem dL_save_5 : decode cL_save 5 = .ok (.goto 6, 3) := by decide +kernel
theorem dL_save_8 : decode cL_save 8 = .ok (.astore_n 2, 1) := by decide +kernel
theorem dL_save_9 : decode cL_save 9 = .ok (.iconst 1, 1) := by decide +kernel
theorem dL_save_10 : decode cL_save 10 = .ok (.ireturn, 1) := by decide +kernel
theorem dL_save_11 : decode cL_save 11 = .ok (.iconst 0, 1) := by decide +kernel
theorem dL_save_12 : decode cL_save 12 = .ok (.ireturn, 1) := by decide +kernel
theorem dL_restore_0 : decode cL_restore 0 = .ok (.aload_n 0, 1) := by decide +kernel
theorem dL_restore_1 : decode cL_restore 1 = .ok (.iload_n 1, 1) := by decide +kernel
theorem dL_restore_2 : decode cL_restore 2 = .ok (.invokevirtual 111, 3) := by decide +kernel
theorem dL_restore_5 : decode cL_restore 5 = .ok (.goto 9, 3) := by decide +kernel
theorem dL_restore_8 : decode cL_restore 8 = .ok (.astore_n 2, 1) := by decide +kernel
theorem dL_restore_9 : decode cL_restore 9 = .ok (.iconst 1, 1) := by decide +kernel
theorem dL_restore_10 : decode cL_restore 10 = .ok (.ireturn, 1) := by decide +kernel
theorem dL_restore_11 : decode cL_restore 11 = .ok (.astore_n 2, 1) := by decide +kernel
theorem dL_restore_12 : decode cL_restore 12 = .ok (.iconst 2, 1) := by decide +kernel
theorem dL_restore_13 : decode cL_restore 13 = .ok (.ireturn, 1) := by decide +kernel
theorem dL_restore_14 : decode cL_restore 14 = .ok (.iconst 0, 1) := by decide +kernel
theorem dL_restore_15 : decode cL_restore 15 = .ok (.ireturn, 1) := by decide +kernel
