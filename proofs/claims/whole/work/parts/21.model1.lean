theorem dX10_thrown_0 : decode cX10_thrown 0 = .ok (.aload_n 0, 1) := by decide +kernel
theorem dX10_thrown_1 : decode cX10_thrown 1 = .ok (.getfield 35, 3) := by decide +kernel
theorem dX10_thrown_4 : decode cX10_thrown 4 = .ok (.ireturn, 1) := by decide +kernel
theorem vm_X10_thrown : aVm yX10_thrown RX10 cX10_thrown 1 (some .int) 0 := ⟨tw_1577, tw_1575, tw_1576, tw_15, rfl, by decide +kernel, by decide +kernel, by decide +kernel⟩
theorem dX10_isIn_0 : decode cX10_isIn 0 = .ok (.iload_n 0, 1) := by decide +kernel
theorem dX10_isIn_1 : decode cX10_isIn 1 = .ok (.iload_n 1, 1) := by decide +kernel
theorem dX10_isIn_2 : decode cX10_isIn 2 = .ok (.if_icmp .lt 12, 3) := by decide +kernel
theorem dX10_isIn_5 : decode cX10_isIn 5 = .ok (.iload_n 0, 1) := by decide +kernel
theorem dX10_isIn_6 : decode cX10_isIn 6 = .ok (.iload_n 2, 1) := by decide +kernel
theorem dX10_isIn_7 : decode cX10_isIn 7 = .ok (.if_icmp .gt 7, 3) := by decide +kernel
theorem dX10_isIn_10 : decode cX10_isIn 10 = .ok (.iconst 1, 1) := by decide +kernel
theorem dX10_isIn_11 : decode cX10_isIn 11 = .ok (.goto 4, 3) := by decide +kernel
theorem dX10_isIn_14 : decode cX10_isIn 14 = .ok (.iconst 0, 1) := by decide +kernel
theorem dX10_isIn_15 : decode cX10_isIn 15 = .ok (.ireturn, 1) := by decide +kernel
theorem sm_X10_isIn : aSm yX10_isIn cX10_isIn 3 (some .boolean) 3 := ⟨tw_1584, tw_1583, tw_15, by decide +kernel, by decide +kernel, by decide +kernel⟩
theorem dX10_copies_0 : decode cX10_copies 0 = .ok (.iconst 0, 1) := by decide +kernel
theorem dX10_copies_1 : decode cX10_copies 1 = .ok (.istore 4, 2) := by decide +kernel
theorem dX10_copies_3 : decode cX10_copies 3 = .ok (.iload 4, 2) := by decide +kernel
theorem dX10_copies_5 : decode cX10_copies 5 = .ok (.bipush 97, 2) := by decide +kernel
theorem dX10_copies_7 : decode cX10_copies 7 = .ok (.if_icmp .ge 21, 3) := by decide +kernel
theorem dX10_copies_10 : decode cX10_copies 10 = .ok (.aload_n 2, 1) := by decide +kernel
theorem dX10_copies_11 : decode cX10_copies 11 = .ok (.iload_n 3, 1) := by decide +kernel
theorem dX10_copies_12 : decode cX10_copies 12 = .ok (.iload 4, 2) := by decide +kernel
theorem dX10_copies_14 : decode cX10_copies 14 = .ok (.iadd, 1) := by decide +kernel
theorem dX10_copies_15 : decode cX10_copies 15 = .ok (.aload_n 0, 1) := by decide +kernel
theorem dX10_copies_16 : decode cX10_copies 16 = .ok (.iload_n 1, 1) := by decide +kernel
theorem dX10_copies_17 : decode cX10_copies 17 = .ok (.iload 4, 2) := by decide +kernel
theorem dX10_copies_19 : decode cX10_copies 19 = .ok (.iadd, 1) := by decide +kernel
theorem dX10_copies_20 : decode cX10_copies 20 = .ok (.iaload, 1) := by decide +kernel
theorem dX10_copies_21 : decode cX10_copies 21 = .ok (.iastore, 1) := by decide +kernel
theorem dX10_copies_22 : decode cX10_copies 22 = .ok (.iinc 4 1, 3) := by decide +kernel
theorem dX10_copies_25 : decode cX10_copies 25 = .ok (.goto (-22), 3) := by decide +kernel
theorem dX10_copies_28 : decode cX10_copies 28 = .ok (.return_, 1) := by decide +kernel
theorem sm_X10_copies : aSm yX10_copies cX10_copies 5 none 4 := ⟨tw_1595, tw_1594, tw_15, by decide +kernel, by decide +kernel, by decide +kernel⟩
theorem dX10_goes_0 : decode cX10_goes 0 = .ok (.aload_n 0, 1) := by decide +kernel
theorem dX10_goes_1 : decode cX10_goes 1 = .ok (.iload_n 1, 1) := by decide +kernel
theorem dX10_goes_2 : decode cX10_goes 2 = .ok (.ifCond .ne 7, 3) := by decide +kernel
theorem dX10_goes_5 : decode cX10_goes 5 = .ok (.iconst 1, 1) := by decide +kernel
theorem dX10_goes_6 : decode cX10_goes 6 = .ok (.goto 12, 3) := by decide +kernel
theorem dX10_goes_9 : decode cX10_goes 9 = .ok (.iload_n 2, 1) := by decide +kernel
theorem dX10_goes_10 : decode cX10_goes 10 = .ok (.ifCond .ne 7, 3) := by decide +kernel
theorem dX10_goes_13 : decode cX10_goes 13 = .ok (.iconst 2, 1) := by decide +kernel
theorem dX10_goes_14 : decode cX10_goes 14 = .ok (.goto 4, 3) := by decide +kernel
theorem dX10_goes_17 : decode cX10_goes 17 = .ok (.iconst 0, 1) := by decide +kernel
theorem dX10_goes_18 : decode cX10_goes 18 = .ok (.putfield 35, 3) := by decide +kernel
theorem dX10_goes_21 : decode cX10_goes 21 = .ok (.aload_n 0, 1) := by decide +kernel
theorem dX10_goes_22 : decode cX10_goes 22 = .ok (.getfield 35, 3) := by decide +kernel
theorem dX10_goes_25 : decode cX10_goes 25 = .ok (.ifCond .ne 7, 3) := by decide +kernel
theorem dX10_goes_28 : decode cX10_goes 28 = .ok (.iconst 1, 1) := by decide +kernel
theorem dX10_goes_29 : decode cX10_goes 29 = .ok (.goto 4, 3) := by decide +kernel
theorem dX10_goes_32 : decode cX10_goes 32 = .ok (.iconst 0, 1) := by decide +kernel
theorem dX10_goes_33 : decode cX10_goes 33 = .ok (.ireturn, 1) := by decide +kernel
theorem vm_X10_goes : aVm yX10_goes RX10 cX10_goes 3 (some .boolean) 2 := ⟨tw_1588, tw_1587, List.mem_append_left _ (List.mem_of_getElem? (i := 27) (by decide +kernel)), tw_15, rfl, by decide +kernel, by decide +kernel, by decide +kernel⟩
theorem dX10_hinders_0 : decode cX10_hinders 0 = .ok (.iload_n 1, 1) := by decide +kernel
theorem dX10_hinders_1 : decode cX10_hinders 1 = .ok (.ifCond .eq 20, 3) := by decide +kernel
theorem dX10_hinders_4 : decode cX10_hinders 4 = .ok (.aload_n 0, 1) := by decide +kernel
theorem dX10_hinders_5 : decode cX10_hinders 5 = .ok (.getfield 38, 3) := by decide +kernel
theorem dX10_hinders_8 : decode cX10_hinders 8 = .ok (.ifCond .ne 13, 3) := by decide +kernel
theorem dX10_hinders_11 : decode cX10_hinders 11 = .ok (.aload_n 0, 1) := by decide +kernel
theorem dX10_hinders_12 : decode cX10_hinders 12 = .ok (.iload_n 2, 1) := by decide +kernel
theorem dX10_hinders_13 : decode cX10_hinders 13 = .ok (.putfield 38, 3) := by decide +kernel
theorem dX10_hinders_16 : decode cX10_hinders 16 = .ok (.aload_n 0, 1) := by decide +kernel
theorem dX10_hinders_17 : decode cX10_hinders 17 = .ok (.iload_n 3, 1) := by decide +kernel
theorem dX10_hinders_18 : decode cX10_hinders 18 = .ok (.putfield 41, 3) := by decide +kernel
theorem dX10_hinders_21 : decode cX10_hinders 21 = .ok (.return_, 1) := by decide +kernel
theorem vm_X10_hinders : aVm yX10_hinders RX10 cX10_hinders 4 none 3 := ⟨tw_1619, tw_1618, List.mem_append_left _ (List.mem_of_getElem? (i := 30) (by decide +kernel)), tw_15, rfl, by decide +kernel, by decide +kernel, by decide +kernel⟩
theorem dX10_begins_0 : decode cX10_begins 0 = .ok (.aload_n 0, 1) := by decide +kernel
theorem dX10_begins_1 : decode cX10_begins 1 = .ok (.getfield 9, 3) := by decide +kernel
theorem dX10_begins_4 : decode cX10_begins 4 = .ok (.iconst 0, 1) := by decide +kernel
theorem dX10_begins_5 : decode cX10_begins 5 = .ok (.aload_n 0, 1) := by decide +kernel
theorem dX10_begins_6 : decode cX10_begins 6 = .ok (.getfield 13, 3) := by decide +kernel
theorem dX10_begins_9 : decode cX10_begins 9 = .ok (.iconst 0, 1) := by decide +kernel
theorem dX10_begins_10 : decode cX10_begins 10 = .ok (.invokestatic 44, 3) := by decide +kernel
theorem dX10_begins_13 : decode cX10_begins 13 = .ok (.aload_n 0, 1) := by decide +kernel
theorem dX10_begins_14 : decode cX10_begins 14 = .ok (.iconst 0, 1) := by decide +kernel
theorem dX10_begins_15 : decode cX10_begins 15 = .ok (.putfield 38, 3) := by decide +kernel
theorem dX10_begins_18 : decode cX10_begins 18 = .ok (.aload_n 0, 1) := by decide +kernel
theorem dX10_begins_19 : decode cX10_begins 19 = .ok (.iconst 0, 1) := by decide +kernel
theorem dX10_begins_20 : decode cX10_begins 20 = .ok (.putfield 35, 3) := by decide +kernel
theorem dX10_begins_23 : decode cX10_begins 23 = .ok (.return_, 1) := by decide +kernel
theorem vm_X10_begins : aVm yX10_begins RX10 cX10_begins 1 none 0 := ⟨tw_1611, tw_1610, List.mem_append_left _ (List.mem_of_getElem? (i := 28) (by decide +kernel)), tw_15, rfl, by decide +kernel, by decide +kernel, by decide +kernel⟩
theorem dX10_remembers_0 : decode cX10_remembers 0 = .ok (.aload_n 0, 1) := by decide +kernel
theorem dX10_remembers_1 : decode cX10_remembers 1 = .ok (.getfield 48, 3) := by decide +kernel
theorem dX10_remembers_4 : decode cX10_remembers 4 = .ok (.bipush 8, 2) := by decide +kernel
theorem dX10_remembers_6 : decode cX10_remembers 6 = .ok (.if_icmp .ne 43, 3) := by decide +kernel
theorem dX10_remembers_9 : decode cX10_remembers 9 = .ok (.iconst 0, 1) := by decide +kernel
theorem dX10_remembers_10 : decode cX10_remembers 10 = .ok (.istore_n 1, 1) := by decide +kernel
theorem dX10_remembers_11 : decode cX10_remembers 11 = .ok (.iload_n 1, 1) := by decide +kernel
theorem dX10_remembers_12 : decode cX10_remembers 12 = .ok (.sipush 679, 3) := by decide +kernel
theorem dX10_remembers_15 : decode cX10_remembers 15 = .ok (.if_icmp .ge 24, 3) := by decide +kernel
theorem dX10_remembers_18 : decode cX10_remembers 18 = .ok (.aload_n 0, 1) := by decide +kernel
theorem dX10_remembers_19 : decode cX10_remembers 19 = .ok (.getfield 19, 3) := by decide +kernel
theorem dX10_remembers_22 : decode cX10_remembers 22 = .ok (.iload_n 1, 1) := by decide +kernel
theorem dX10_remembers_23 : decode cX10_remembers 23 = .ok (.aload_n 0, 1) := by decide +kernel
theorem dX10_remembers_24 : decode cX10_remembers 24 = .ok (.getfield 19, 3) := by decide +kernel
theorem dX10_remembers_27 : decode cX10_remembers 27 = .ok (.iload_n 1, 1) := by decide +kernel
theorem dX10_remembers_28 : decode cX10_remembers 28 = .ok (.bipush 97, 2) := by decide +kernel
theorem dX10_remembers_30 : decode cX10_remembers 30 = .ok (.iadd, 1) := by decide +kernel
theorem dX10_remembers_31 : decode cX10_remembers 31 = .ok (.iaload, 1) := by decide +kernel
theorem dX10_remembers_32 : decode cX10_remembers 32 = .ok (.iastore, 1) := by decide +kernel
theorem dX10_remembers_33 : decode cX10_remembers 33 = .ok (.iinc 1 1, 3) := by decide +kernel
theorem dX10_remembers_36 : decode cX10_remembers 36 = .ok (.goto (-25), 3) := by decide +kernel
theorem dX10_remembers_39 : decode cX10_remembers 39 = .ok (.aload_n 0, 1) := by decide +kernel
theorem dX10_remembers_40 : decode cX10_remembers 40 = .ok (.dup, 1) := by decide +kernel
theorem dX10_remembers_41 : decode cX10_remembers 41 = .ok (.getfield 48, 3) := by decide +kernel
theorem dX10_remembers_44 : decode cX10_remembers 44 = .ok (.iconst 1, 1) := by decide +kernel
theorem dX10_remembers_45 : decode cX10_remembers 45 = .ok (.isub, 1) := by decide +kernel
theorem dX10_remembers_46 : decode cX10_remembers 46 = .ok (.putfield 48, 3) := by decide +kernel
theorem dX10_remembers_49 : decode cX10_remembers 49 = .ok (.aload_n 0, 1) := by decide +kernel
theorem dX10_remembers_50 : decode cX10_remembers 50 = .ok (.getfield 13, 3) := by decide +kernel
theorem dX10_remembers_53 : decode cX10_remembers 53 = .ok (.iconst 0, 1) := by decide +kernel
theorem dX10_remembers_54 : decode cX10_remembers 54 = .ok (.aload_n 0, 1) := by decide +kernel
theorem dX10_remembers_55 : decode cX10_remembers 55 = .ok (.getfield 19, 3) := by decide +kernel
theorem dX10_remembers_58 : decode cX10_remembers 58 = .ok (.aload_n 0, 1) := by decide +kernel
theorem dX10_remembers_59 : decode cX10_remembers 59 = .ok (.getfield 48, 3) := by decide +kernel
theorem dX10_remembers_62 : decode cX10_remembers 62 = .ok (.bipush 97, 2) := by decide +kernel
theorem dX10_remembers_64 : decode cX10_remembers 64 = .ok (.imul, 1) := by decide +kernel
theorem dX10_remembers_65 : decode cX10_remembers 65 = .ok (.invokestatic 44, 3) := by decide +kernel
theorem dX10_remembers_68 : decode cX10_remembers 68 = .ok (.aload_n 0, 1) := by decide +kernel
theorem dX10_remembers_69 : decode cX10_remembers 69 = .ok (.dup, 1) := by decide +kernel
theorem dX10_remembers_70 : decode cX10_remembers 70 = .ok (.getfield 48, 3) := by decide +kernel
theorem dX10_remembers_73 : decode cX10_remembers 73 = .ok (.iconst 1, 1) := by decide +kernel
theorem dX10_remembers_74 : decode cX10_remembers 74 = .ok (.iadd, 1) := by decide +kernel
theorem dX10_remembers_75 : decode cX10_remembers 75 = .ok (.putfield 48, 3) := by decide +kernel
theorem dX10_remembers_78 : decode cX10_remembers 78 = .ok (.return_, 1) := by decide +kernel
theorem vm_X10_remembers : aVm yX10_remembers RX10 cX10_remembers 2 none 0 := ⟨tw_1634, tw_1633, List.mem_append_left _ (List.mem_of_getElem? (i := 33) (by decide +kernel)), tw_15, rfl, by decide +kernel, by decide +kernel, by decide +kernel⟩
theorem dX10_refuses_0 : decode cX10_refuses 0 = .ok (.aload_n 0, 1) := by decide +kernel
theorem dX10_refuses_1 : decode cX10_refuses 1 = .ok (.iload_n 1, 1) := by decide +kernel
theorem dX10_refuses_2 : decode cX10_refuses 2 = .ok (.putfield 51, 3) := by decide +kernel
theorem dX10_refuses_5 : decode cX10_refuses 5 = .ok (.aload_n 0, 1) := by decide +kernel
theorem dX10_refuses_6 : decode cX10_refuses 6 = .ok (.iload_n 2, 1) := by decide +kernel
theorem dX10_refuses_7 : decode cX10_refuses 7 = .ok (.putfield 54, 3) := by decide +kernel
theorem dX10_refuses_10 : decode cX10_refuses 10 = .ok (.aload_n 0, 1) := by decide +kernel
theorem dX10_refuses_11 : decode cX10_refuses 11 = .ok (.iload_n 3, 1) := by decide +kernel
theorem dX10_refuses_12 : decode cX10_refuses 12 = .ok (.putfield 57, 3) := by decide +kernel
theorem dX10_refuses_15 : decode cX10_refuses 15 = .ok (.aload_n 0, 1) := by decide +kernel
theorem dX10_refuses_16 : decode cX10_refuses 16 = .ok (.iload 4, 2) := by decide +kernel
theorem dX10_refuses_18 : decode cX10_refuses 18 = .ok (.putfield 60, 3) := by decide +kernel
theorem dX10_refuses_21 : decode cX10_refuses 21 = .ok (.aload_n 0, 1) := by decide +kernel
theorem dX10_refuses_22 : decode cX10_refuses 22 = .ok (.iload 5, 2) := by decide +kernel
theorem dX10_refuses_24 : decode cX10_refuses 24 = .ok (.putfield 35, 3) := by decide +kernel
theorem dX10_refuses_27 : decode cX10_refuses 27 = .ok (.aload_n 0, 1) := by decide +kernel
theorem dX10_refuses_28 : decode cX10_refuses 28 = .ok (.getfield 13, 3) := by decide +kernel
theorem dX10_refuses_31 : decode cX10_refuses 31 = .ok (.iconst 0, 1) := by decide +kernel
theorem dX10_refuses_32 : decode cX10_refuses 32 = .ok (.aload_n 0, 1) := by decide +kernel
theorem dX10_refuses_33 : decode cX10_refuses 33 = .ok (.getfield 9, 3) := by decide +kernel
theorem dX10_refuses_36 : decode cX10_refuses 36 = .ok (.iconst 0, 1) := by decide +kernel
theorem dX10_refuses_37 : decode cX10_refuses 37 = .ok (.invokestatic 44, 3) := by decide +kernel
theorem dX10_refuses_40 : decode cX10_refuses 40 = .ok (.iconst 0, 1) := by decide +kernel
theorem dX10_refuses_41 : decode cX10_refuses 41 = .ok (.ireturn, 1) := by decide +kernel
theorem vm_X10_refuses : aVm yX10_refuses RX10 cX10_refuses 6 (some .int) 5 := ⟨tw_1630, tw_1629, List.mem_append_left _ (List.mem_of_getElem? (i := 32) (by decide +kernel)), tw_15, rfl, by decide +kernel, by decide +kernel, by decide +kernel⟩
theorem dX10_ends_0 : decode cX10_ends 0 = .ok (.aload_n 0, 1) := by decide +kernel
theorem dX10_ends_1 : decode cX10_ends 1 = .ok (.getfield 38, 3) := by decide +kernel
theorem dX10_ends_4 : decode cX10_ends 4 = .ok (.ifCond .eq 19, 3) := by decide +kernel
theorem dX10_ends_7 : decode cX10_ends 7 = .ok (.aload_n 0, 1) := by decide +kernel
theorem dX10_ends_8 : decode cX10_ends 8 = .ok (.aload_n 0, 1) := by decide +kernel
theorem dX10_ends_9 : decode cX10_ends 9 = .ok (.getfield 38, 3) := by decide +kernel
theorem dX10_ends_12 : decode cX10_ends 12 = .ok (.aload_n 0, 1) := by decide +kernel
theorem dX10_ends_13 : decode cX10_ends 13 = .ok (.getfield 41, 3) := by decide +kernel
theorem dX10_ends_16 : decode cX10_ends 16 = .ok (.iconst 0, 1) := by decide +kernel
theorem dX10_ends_17 : decode cX10_ends 17 = .ok (.iconst 0, 1) := by decide +kernel
theorem dX10_ends_18 : decode cX10_ends 18 = .ok (.iconst 1, 1) := by decide +kernel
theorem dX10_ends_19 : decode cX10_ends 19 = .ok (.invokevirtual 63, 3) := by decide +kernel
theorem dX10_ends_22 : decode cX10_ends 22 = .ok (.ireturn, 1) := by decide +kernel
theorem dX10_ends_23 : decode cX10_ends 23 = .ok (.aload_n 0, 1) := by decide +kernel
theorem dX10_ends_24 : decode cX10_ends 24 = .ok (.invokevirtual 67, 3) := by decide +kernel
theorem dX10_ends_27 : decode cX10_ends 27 = .ok (.iload_n 1, 1) := by decide +kernel
theorem dX10_ends_28 : decode cX10_ends 28 = .ok (.ireturn, 1) := by decide +kernel
theorem vm_X10_ends : aVm yX10_ends RX10 cX10_ends 2 (some .int) 1 := ⟨tw_1626, tw_1625, List.mem_append_left _ (List.mem_of_getElem? (i := 31) (by decide +kernel)), tw_15, rfl, by decide +kernel, by decide +kernel, by decide +kernel⟩
theorem dX10_reason_0 : decode cX10_reason 0 = .ok (.iload_n 1, 1) := by decide +kernel
theorem dX10_reason_1 : decode cX10_reason 1 = .ok (.ifCond .ne 10, 3) := by decide +kernel
theorem dX10_reason_4 : decode cX10_reason 4 = .ok (.aload_n 0, 1) := by decide +kernel
theorem dX10_reason_5 : decode cX10_reason 5 = .ok (.getfield 51, 3) := by decide +kernel
theorem dX10_reason_8 : decode cX10_reason 8 = .ok (.goto 7, 3) := by decide +kernel
theorem dX10_reason_11 : decode cX10_reason 11 = .ok (.aload_n 0, 1) := by decide +kernel
theorem dX10_reason_12 : decode cX10_reason 12 = .ok (.getfield 57, 3) := by decide +kernel
theorem dX10_reason_15 : decode cX10_reason 15 = .ok (.istore_n 3, 1) := by decide +kernel
theorem dX10_reason_16 : decode cX10_reason 16 = .ok (.aload_n 0, 1) := by decide +kernel
theorem dX10_reason_17 : decode cX10_reason 17 = .ok (.iload_n 1, 1) := by decide +kernel
theorem dX10_reason_18 : decode cX10_reason 18 = .ok (.iconst 0, 1) := by decide +kernel
theorem dX10_reason_19 : decode cX10_reason 19 = .ok (.iconst 1, 1) := by decide +kernel
theorem dX10_reason_20 : decode cX10_reason 20 = .ok (.invokestatic 70, 3) := by decide +kernel
theorem dX10_reason_23 : decode cX10_reason 23 = .ok (.iload_n 3, 1) := by decide +kernel
theorem dX10_reason_24 : decode cX10_reason 24 = .ok (.ifCond .eq 7, 3) := by decide +kernel
theorem dX10_reason_27 : decode cX10_reason 27 = .ok (.iconst 1, 1) := by decide +kernel
theorem dX10_reason_28 : decode cX10_reason 28 = .ok (.goto 4, 3) := by decide +kernel
theorem dX10_reason_31 : decode cX10_reason 31 = .ok (.iconst 0, 1) := by decide +kernel
theorem dX10_reason_32 : decode cX10_reason 32 = .ok (.invokevirtual 74, 3) := by decide +kernel
theorem dX10_reason_35 : decode cX10_reason 35 = .ok (.ifCond .ne 5, 3) := by decide +kernel
theorem dX10_reason_38 : decode cX10_reason 38 = .ok (.iconst 0, 1) := by decide +kernel
theorem dX10_reason_39 : decode cX10_reason 39 = .ok (.ireturn, 1) := by decide +kernel
theorem dX10_reason_40 : decode cX10_reason 40 = .ok (.iload_n 2, 1) := by decide +kernel
theorem dX10_reason_41 : decode cX10_reason 41 = .ok (.ifCond .ne 7, 3) := by decide +kernel
theorem dX10_reason_44 : decode cX10_reason 44 = .ok (.iload_n 3, 1) := by decide +kernel
theorem dX10_reason_45 : decode cX10_reason 45 = .ok (.goto 18, 3) := by decide +kernel
theorem dX10_reason_48 : decode cX10_reason 48 = .ok (.iload_n 1, 1) := by decide +kernel
theorem dX10_reason_49 : decode cX10_reason 49 = .ok (.ifCond .ne 10, 3) := by decide +kernel
theorem dX10_reason_52 : decode cX10_reason 52 = .ok (.aload_n 0, 1) := by decide +kernel
theorem dX10_reason_53 : decode cX10_reason 53 = .ok (.getfield 54, 3) := by decide +kernel
theorem dX10_reason_56 : decode cX10_reason 56 = .ok (.goto 7, 3) := by decide +kernel
theorem dX10_reason_59 : decode cX10_reason 59 = .ok (.aload_n 0, 1) := by decide +kernel
theorem dX10_reason_60 : decode cX10_reason 60 = .ok (.getfield 60, 3) := by decide +kernel
theorem dX10_reason_63 : decode cX10_reason 63 = .ok (.ireturn, 1) := by decide +kernel
theorem vm_X10_reason : aVm yX10_reason RX10 cX10_reason 4 (some .int) 2 := ⟨tw_1581, tw_1579, tw_1580, tw_15, rfl, by decide +kernel, by decide +kernel, by decide +kernel⟩
theorem dX10_undo_0 : decode cX10_undo 0 = .ok (.aload_n 0, 1) := by decide +kernel
theorem dX10_undo_1 : decode cX10_undo 1 = .ok (.aload_n 0, 1) := by decide +kernel
theorem dX10_undo_2 : decode cX10_undo 2 = .ok (.getfield 48, 3) := by decide +kernel
theorem dX10_undo_5 : decode cX10_undo 5 = .ok (.ifCond .ne 7, 3) := by decide +kernel
theorem dX10_undo_8 : decode cX10_undo 8 = .ok (.iconst 1, 1) := by decide +kernel
theorem dX10_undo_9 : decode cX10_undo 9 = .ok (.goto 4, 3) := by decide +kernel
theorem dX10_undo_12 : decode cX10_undo 12 = .ok (.iconst 0, 1) := by decide +kernel
theorem dX10_undo_13 : decode cX10_undo 13 = .ok (.putfield 35, 3) := by decide +kernel
theorem dX10_undo_16 : decode cX10_undo 16 = .ok (.aload_n 0, 1) := by decide +kernel
theorem dX10_undo_17 : decode cX10_undo 17 = .ok (.getfield 48, 3) := by decide +kernel
theorem dX10_undo_20 : decode cX10_undo 20 = .ok (.ifCond .le 32, 3) := by decide +kernel
theorem dX10_undo_23 : decode cX10_undo 23 = .ok (.aload_n 0, 1) := by decide +kernel
theorem dX10_undo_24 : decode cX10_undo 24 = .ok (.dup, 1) := by decide +kernel
theorem dX10_undo_25 : decode cX10_undo 25 = .ok (.getfield 48, 3) := by decide +kernel
theorem dX10_undo_28 : decode cX10_undo 28 = .ok (.iconst 1, 1) := by decide +kernel
theorem dX10_undo_29 : decode cX10_undo 29 = .ok (.isub, 1) := by decide +kernel
theorem dX10_undo_30 : decode cX10_undo 30 = .ok (.putfield 48, 3) := by decide +kernel
theorem dX10_undo_33 : decode cX10_undo 33 = .ok (.aload_n 0, 1) := by decide +kernel
theorem dX10_undo_34 : decode cX10_undo 34 = .ok (.getfield 19, 3) := by decide +kernel
theorem dX10_undo_37 : decode cX10_undo 37 = .ok (.aload_n 0, 1) := by decide +kernel
theorem dX10_undo_38 : decode cX10_undo 38 = .ok (.getfield 48, 3) := by decide +kernel
theorem dX10_undo_41 : decode cX10_undo 41 = .ok (.bipush 97, 2) := by decide +kernel
theorem dX10_undo_43 : decode cX10_undo 43 = .ok (.imul, 1) := by decide +kernel
theorem dX10_undo_44 : decode cX10_undo 44 = .ok (.aload_n 0, 1) := by decide +kernel
theorem dX10_undo_45 : decode cX10_undo 45 = .ok (.getfield 9, 3) := by decide +kernel
theorem dX10_undo_48 : decode cX10_undo 48 = .ok (.iconst 0, 1) := by decide +kernel
theorem dX10_undo_49 : decode cX10_undo 49 = .ok (.invokestatic 44, 3) := by decide +kernel
theorem dX10_undo_52 : decode cX10_undo 52 = .ok (.aload_n 0, 1) := by decide +kernel
theorem dX10_undo_53 : decode cX10_undo 53 = .ok (.getfield 48, 3) := by decide +kernel
theorem dX10_undo_56 : decode cX10_undo 56 = .ok (.ireturn, 1) := by decide +kernel
theorem vm_X10_undo : aVm yX10_undo RX10 cX10_undo 1 (some .int) 0 := ⟨tw_1592, tw_1590, tw_1591, tw_15, rfl, by decide +kernel, by decide +kernel, by decide +kernel⟩
theorem dX10_save_0 : decode cX10_save 0 = .ok (.aload_n 0, 1) := by decide +kernel
theorem dX10_save_1 : decode cX10_save 1 = .ok (.iconst 0, 1) := by decide +kernel
theorem dX10_save_2 : decode cX10_save 2 = .ok (.putfield 35, 3) := by decide +kernel
theorem dX10_save_5 : decode cX10_save 5 = .ok (.aload_n 0, 1) := by decide +kernel
theorem dX10_save_6 : decode cX10_save 6 = .ok (.getfield 9, 3) := by decide +kernel
theorem dX10_save_9 : decode cX10_save 9 = .ok (.iconst 0, 1) := by decide +kernel
theorem dX10_save_10 : decode cX10_save 10 = .ok (.aload_n 0, 1) := by decide +kernel
theorem dX10_save_11 : decode cX10_save 11 = .ok (.getfield 16, 3) := by decide +kernel
theorem dX10_save_14 : decode cX10_save 14 = .ok (.iconst 0, 1) := by decide +kernel
theorem dX10_save_15 : decode cX10_save 15 = .ok (.invokestatic 44, 3) := by decide +kernel
theorem dX10_save_18 : decode cX10_save 18 = .ok (.aload_n 0, 1) := by decide +kernel
theorem dX10_save_19 : decode cX10_save 19 = .ok (.iconst 1, 1) := by decide +kernel
theorem dX10_save_20 : decode cX10_save 20 = .ok (.putfield 78, 3) := by decide +kernel
theorem dX10_save_23 : decode cX10_save 23 = .ok (.aload_n 0, 1) := by decide +kernel
theorem dX10_save_24 : decode cX10_save 24 = .ok (.getfield 9, 3) := by decide +kernel
theorem dX10_save_27 : decode cX10_save 27 = .ok (.iconst 1, 1) := by decide +kernel
theorem dX10_save_28 : decode cX10_save 28 = .ok (.iaload, 1) := by decide +kernel
theorem dX10_save_29 : decode cX10_save 29 = .ok (.ireturn, 1) := by decide +kernel
theorem vm_X10_save : aVm yX10_save RX10 cX10_save 1 (some .int) 0 := ⟨tw_1599, tw_1597, tw_1598, tw_15, rfl, by decide +kernel, by decide +kernel, by decide +kernel⟩
theorem dX10_restore_0 : decode cX10_restore 0 = .ok (.aload_n 0, 1) := by decide +kernel
theorem dX10_restore_1 : decode cX10_restore 1 = .ok (.aload_n 0, 1) := by decide +kernel
theorem dX10_restore_2 : decode cX10_restore 2 = .ok (.getfield 78, 3) := by decide +kernel
theorem dX10_restore_5 : decode cX10_restore 5 = .ok (.ifCond .eq 7, 3) := by decide +kernel
theorem dX10_restore_8 : decode cX10_restore 8 = .ok (.iconst 0, 1) := by decide +kernel
theorem dX10_restore_9 : decode cX10_restore 9 = .ok (.goto 4, 3) := by decide +kernel
theorem dX10_restore_12 : decode cX10_restore 12 = .ok (.iconst 1, 1) := by decide +kernel
theorem dX10_restore_13 : decode cX10_restore 13 = .ok (.putfield 35, 3) := by decide +kernel
theorem dX10_restore_16 : decode cX10_restore 16 = .ok (.aload_n 0, 1) := by decide +kernel
theorem dX10_restore_17 : decode cX10_restore 17 = .ok (.getfield 78, 3) := by decide +kernel
theorem dX10_restore_20 : decode cX10_restore 20 = .ok (.ifCond .eq 21, 3) := by decide +kernel
theorem dX10_restore_23 : decode cX10_restore 23 = .ok (.aload_n 0, 1) := by decide +kernel
theorem dX10_restore_24 : decode cX10_restore 24 = .ok (.getfield 16, 3) := by decide +kernel
theorem dX10_restore_27 : decode cX10_restore 27 = .ok (.iconst 0, 1) := by decide +kernel
theorem dX10_restore_28 : decode cX10_restore 28 = .ok (.aload_n 0, 1) := by decide +kernel
theorem dX10_restore_29 : decode cX10_restore 29 = .ok (.getfield 9, 3) := by decide +kernel
theorem dX10_restore_32 : decode cX10_restore 32 = .ok (.iconst 0, 1) := by decide +kernel
theorem dX10_restore_33 : decode cX10_restore 33 = .ok (.invokestatic 44, 3) := by decide +kernel
theorem dX10_restore_36 : decode cX10_restore 36 = .ok (.aload_n 0, 1) := by decide +kernel
theorem dX10_restore_37 : decode cX10_restore 37 = .ok (.iconst 0, 1) := by decide +kernel
theorem dX10_restore_38 : decode cX10_restore 38 = .ok (.putfield 48, 3) := by decide +kernel
theorem dX10_restore_41 : decode cX10_restore 41 = .ok (.aload_n 0, 1) := by decide +kernel
theorem dX10_restore_42 : decode cX10_restore 42 = .ok (.getfield 78, 3) := by decide +kernel
theorem dX10_restore_45 : decode cX10_restore 45 = .ok (.ifCond .eq 12, 3) := by decide +kernel
theorem dX10_restore_48 : decode cX10_restore 48 = .ok (.aload_n 0, 1) := by decide +kernel
theorem dX10_restore_49 : decode cX10_restore 49 = .ok (.getfield 9, 3) := by decide +kernel
theorem dX10_restore_52 : decode cX10_restore 52 = .ok (.iconst 1, 1) := by decide +kernel
theorem dX10_restore_53 : decode cX10_restore 53 = .ok (.iaload, 1) := by decide +kernel
theorem dX10_restore_54 : decode cX10_restore 54 = .ok (.goto 4, 3) := by decide +kernel
theorem dX10_restore_57 : decode cX10_restore 57 = .ok (.iconst 0, 1) := by decide +kernel
theorem dX10_restore_58 : decode cX10_restore 58 = .ok (.ireturn, 1) := by decide +kernel
theorem vm_X10_restore : aVm yX10_restore RX10 cX10_restore 1 (some .int) 0 := ⟨tw_1603, tw_1601, tw_1602, tw_15, rfl, by decide +kernel, by decide +kernel, by decide +kernel⟩
theorem dX10_roomAt_0 : decode cX10_roomAt 0 = .ok (.bipush 9, 2) := by decide +kernel
theorem dX10_roomAt_2 : decode cX10_roomAt 2 = .ok (.iconst 3, 1) := by decide +kernel
theorem dX10_roomAt_3 : decode cX10_roomAt 3 = .ok (.iload_n 0, 1) := by decide +kernel
theorem dX10_roomAt_4 : decode cX10_roomAt 4 = .ok (.imul, 1) := by decide +kernel
theorem dX10_roomAt_5 : decode cX10_roomAt 5 = .ok (.iadd, 1) := by decide +kernel
theorem dX10_roomAt_6 : decode cX10_roomAt 6 = .ok (.ireturn, 1) := by decide +kernel
theorem sm_X10_roomAt : aSm yX10_roomAt cX10_roomAt 1 (some .int) 1 := ⟨tw_1622, tw_1621, tw_15, by decide +kernel, by decide +kernel, by decide +kernel⟩
theorem dX10_echoAt_0 : decode cX10_echoAt 0 = .ok (.bipush 27, 2) := by decide +kernel
theorem dX10_echoAt_2 : decode cX10_echoAt 2 = .ok (.iconst 5, 1) := by decide +kernel
theorem dX10_echoAt_3 : decode cX10_echoAt 3 = .ok (.iload_n 0, 1) := by decide +kernel
theorem dX10_echoAt_4 : decode cX10_echoAt 4 = .ok (.imul, 1) := by decide +kernel
theorem dX10_echoAt_5 : decode cX10_echoAt 5 = .ok (.iadd, 1) := by decide +kernel
theorem dX10_echoAt_6 : decode cX10_echoAt 6 = .ok (.ireturn, 1) := by decide +kernel
theorem sm_X10_echoAt : aSm yX10_echoAt cX10_echoAt 1 (some .int) 1 := ⟨tw_1649, tw_1648, tw_15, by decide +kernel, by decide +kernel, by decide +kernel⟩
theorem dX10_singerAt_0 : decode cX10_singerAt 0 = .ok (.bipush 67, 2) := by decide +kernel
theorem dX10_singerAt_2 : decode cX10_singerAt 2 = .ok (.iconst 5, 1) := by decide +kernel
theorem dX10_singerAt_3 : decode cX10_singerAt 3 = .ok (.iload_n 0, 1) := by decide +kernel
theorem dX10_singerAt_4 : decode cX10_singerAt 4 = .ok (.imul, 1) := by decide +kernel
theorem dX10_singerAt_5 : decode cX10_singerAt 5 = .ok (.iadd, 1) := by decide +kernel
theorem dX10_singerAt_6 : decode cX10_singerAt 6 = .ok (.ireturn, 1) := by decide +kernel
theorem sm_X10_singerAt : aSm yX10_singerAt cX10_singerAt 1 (some .int) 1 := ⟨tw_1660, tw_1659, tw_15, by decide +kernel, by decide +kernel, by decide +kernel⟩
theorem dX10_isRoom_0 : decode cX10_isRoom 0 = .ok (.iload_n 1, 1) := by decide +kernel
theorem dX10_isRoom_1 : decode cX10_isRoom 1 = .ok (.iconst 0, 1) := by decide +kernel
theorem dX10_isRoom_2 : decode cX10_isRoom 2 = .ok (.aload_n 0, 1) := by decide +kernel
theorem dX10_isRoom_3 : decode cX10_isRoom 3 = .ok (.getfield 9, 3) := by decide +kernel
theorem dX10_isRoom_6 : decode cX10_isRoom 6 = .ok (.iconst 0, 1) := by decide +kernel
theorem dX10_isRoom_7 : decode cX10_isRoom 7 = .ok (.iaload, 1) := by decide +kernel
theorem dX10_isRoom_8 : decode cX10_isRoom 8 = .ok (.iconst 1, 1) := by decide +kernel
theorem dX10_isRoom_9 : decode cX10_isRoom 9 = .ok (.isub, 1) := by decide +kernel
theorem dX10_isRoom_10 : decode cX10_isRoom 10 = .ok (.invokestatic 70, 3) := by decide +kernel
theorem dX10_isRoom_13 : decode cX10_isRoom 13 = .ok (.ireturn, 1) := by decide +kernel
theorem vm_X10_isRoom : aVm yX10_isRoom RX10 cX10_isRoom 2 (some .boolean) 1 := ⟨tw_1646, tw_1645, List.mem_append_left _ (List.mem_of_getElem? (i := 35) (by decide +kernel)), tw_15, rfl, by decide +kernel, by decide +kernel, by decide +kernel⟩
theorem dX10_isEcho_0 : decode cX10_isEcho 0 = .ok (.iload_n 1, 1) := by decide +kernel
theorem dX10_isEcho_1 : decode cX10_isEcho 1 = .ok (.iconst 0, 1) := by decide +kernel
theorem dX10_isEcho_2 : decode cX10_isEcho 2 = .ok (.aload_n 0, 1) := by decide +kernel
theorem dX10_isEcho_3 : decode cX10_isEcho 3 = .ok (.getfield 9, 3) := by decide +kernel
theorem dX10_isEcho_6 : decode cX10_isEcho 6 = .ok (.iconst 1, 1) := by decide +kernel
theorem dX10_isEcho_7 : decode cX10_isEcho 7 = .ok (.iaload, 1) := by decide +kernel
theorem dX10_isEcho_8 : decode cX10_isEcho 8 = .ok (.iconst 1, 1) := by decide +kernel
theorem dX10_isEcho_9 : decode cX10_isEcho 9 = .ok (.isub, 1) := by decide +kernel
theorem dX10_isEcho_10 : decode cX10_isEcho 10 = .ok (.invokestatic 70, 3) := by decide +kernel
theorem dX10_isEcho_13 : decode cX10_isEcho 13 = .ok (.ireturn, 1) := by decide +kernel
theorem vm_X10_isEcho : aVm yX10_isEcho RX10 cX10_isEcho 2 (some .boolean) 1 := ⟨tw_1705, tw_1704, List.mem_append_left _ (List.mem_of_getElem? (i := 44) (by decide +kernel)), tw_15, rfl, by decide +kernel, by decide +kernel, by decide +kernel⟩
theorem dX10_isSinger_0 : decode cX10_isSinger 0 = .ok (.iload_n 1, 1) := by decide +kernel
theorem dX10_isSinger_1 : decode cX10_isSinger 1 = .ok (.iconst 0, 1) := by decide +kernel
theorem dX10_isSinger_2 : decode cX10_isSinger 2 = .ok (.aload_n 0, 1) := by decide +kernel
theorem dX10_isSinger_3 : decode cX10_isSinger 3 = .ok (.getfield 9, 3) := by decide +kernel
theorem dX10_isSinger_6 : decode cX10_isSinger 6 = .ok (.iconst 2, 1) := by decide +kernel
theorem dX10_isSinger_7 : decode cX10_isSinger 7 = .ok (.iaload, 1) := by decide +kernel
theorem dX10_isSinger_8 : decode cX10_isSinger 8 = .ok (.iconst 1, 1) := by decide +kernel
theorem dX10_isSinger_9 : decode cX10_isSinger 9 = .ok (.isub, 1) := by decide +kernel
theorem dX10_isSinger_10 : decode cX10_isSinger 10 = .ok (.invokestatic 70, 3) := by decide +kernel
theorem dX10_isSinger_13 : decode cX10_isSinger 13 = .ok (.ireturn, 1) := by decide +kernel
theorem vm_X10_isSinger : aVm yX10_isSinger RX10 cX10_isSinger 2 (some .boolean) 1 := ⟨tw_1672, tw_1671, List.mem_append_left _ (List.mem_of_getElem? (i := 38) (by decide +kernel)), tw_15, rfl, by decide +kernel, by decide +kernel, by decide +kernel⟩
theorem dX10_singersIn_0 : decode cX10_singersIn 0 = .ok (.iconst 0, 1) := by decide +kernel
theorem dX10_singersIn_1 : decode cX10_singersIn 1 = .ok (.istore_n 2, 1) := by decide +kernel
theorem dX10_singersIn_2 : decode cX10_singersIn 2 = .ok (.iconst 0, 1) := by decide +kernel
theorem dX10_singersIn_3 : decode cX10_singersIn 3 = .ok (.istore_n 3, 1) := by decide +kernel
theorem dX10_singersIn_4 : decode cX10_singersIn 4 = .ok (.iload_n 3, 1) := by decide +kernel
theorem dX10_singersIn_5 : decode cX10_singersIn 5 = .ok (.aload_n 0, 1) := by decide +kernel
theorem dX10_singersIn_6 : decode cX10_singersIn 6 = .ok (.getfield 9, 3) := by decide +kernel
theorem dX10_singersIn_9 : decode cX10_singersIn 9 = .ok (.iconst 2, 1) := by decide +kernel
theorem dX10_singersIn_10 : decode cX10_singersIn 10 = .ok (.iaload, 1) := by decide +kernel
theorem dX10_singersIn_11 : decode cX10_singersIn 11 = .ok (.if_icmp .ge 34, 3) := by decide +kernel
theorem dX10_singersIn_14 : decode cX10_singersIn 14 = .ok (.iload_n 2, 1) := by decide +kernel
theorem dX10_singersIn_15 : decode cX10_singersIn 15 = .ok (.aload_n 0, 1) := by decide +kernel
theorem dX10_singersIn_16 : decode cX10_singersIn 16 = .ok (.getfield 9, 3) := by decide +kernel
theorem dX10_singersIn_19 : decode cX10_singersIn 19 = .ok (.iload_n 3, 1) := by decide +kernel
theorem dX10_singersIn_20 : decode cX10_singersIn 20 = .ok (.invokestatic 82, 3) := by decide +kernel
theorem dX10_singersIn_23 : decode cX10_singersIn 23 = .ok (.iconst 2, 1) := by decide +kernel
theorem dX10_singersIn_24 : decode cX10_singersIn 24 = .ok (.iadd, 1) := by decide +kernel
theorem dX10_singersIn_25 : decode cX10_singersIn 25 = .ok (.iaload, 1) := by decide +kernel
theorem dX10_singersIn_26 : decode cX10_singersIn 26 = .ok (.iload_n 1, 1) := by decide +kernel
theorem dX10_singersIn_27 : decode cX10_singersIn 27 = .ok (.if_icmp .ne 9, 3) := by decide +kernel
theorem dX10_singersIn_30 : decode cX10_singersIn 30 = .ok (.iconst 1, 1) := by decide +kernel
theorem dX10_singersIn_31 : decode cX10_singersIn 31 = .ok (.iload_n 3, 1) := by decide +kernel
theorem dX10_singersIn_32 : decode cX10_singersIn 32 = .ok (.ishl, 1) := by decide +kernel
theorem dX10_singersIn_33 : decode cX10_singersIn 33 = .ok (.goto 4, 3) := by decide +kernel
theorem dX10_singersIn_36 : decode cX10_singersIn 36 = .ok (.iconst 0, 1) := by decide +kernel
theorem dX10_singersIn_37 : decode cX10_singersIn 37 = .ok (.ior, 1) := by decide +kernel
theorem dX10_singersIn_38 : decode cX10_singersIn 38 = .ok (.istore_n 2, 1) := by decide +kernel
theorem dX10_singersIn_39 : decode cX10_singersIn 39 = .ok (.iinc 3 1, 3) := by decide +kernel
theorem dX10_singersIn_42 : decode cX10_singersIn 42 = .ok (.goto (-38), 3) := by decide +kernel
theorem dX10_singersIn_45 : decode cX10_singersIn 45 = .ok (.iload_n 2, 1) := by decide +kernel
theorem dX10_singersIn_46 : decode cX10_singersIn 46 = .ok (.ireturn, 1) := by decide +kernel
theorem vm_X10_singersIn : aVm yX10_singersIn RX10 cX10_singersIn 4 (some .int) 1 := ⟨tw_1684, tw_1683, List.mem_append_left _ (List.mem_of_getElem? (i := 41) (by decide +kernel)), tw_15, rfl, by decide +kernel, by decide +kernel, by decide +kernel⟩
theorem dX10_echoesIn_0 : decode cX10_echoesIn 0 = .ok (.iconst 0, 1) := by decide +kernel
theorem dX10_echoesIn_1 : decode cX10_echoesIn 1 = .ok (.istore_n 3, 1) := by decide +kernel
theorem dX10_echoesIn_2 : decode cX10_echoesIn 2 = .ok (.iconst 0, 1) := by decide +kernel
theorem dX10_echoesIn_3 : decode cX10_echoesIn 3 = .ok (.istore 4, 2) := by decide +kernel
theorem dX10_echoesIn_5 : decode cX10_echoesIn 5 = .ok (.iload 4, 2) := by decide +kernel
theorem dX10_echoesIn_7 : decode cX10_echoesIn 7 = .ok (.aload_n 0, 1) := by decide +kernel
theorem dX10_echoesIn_8 : decode cX10_echoesIn 8 = .ok (.getfield 9, 3) := by decide +kernel
theorem dX10_echoesIn_11 : decode cX10_echoesIn 11 = .ok (.iconst 1, 1) := by decide +kernel
theorem dX10_echoesIn_12 : decode cX10_echoesIn 12 = .ok (.iaload, 1) := by decide +kernel
theorem dX10_echoesIn_13 : decode cX10_echoesIn 13 = .ok (.if_icmp .ge 68, 3) := by decide +kernel
theorem dX10_echoesIn_16 : decode cX10_echoesIn 16 = .ok (.aload_n 0, 1) := by decide +kernel
theorem dX10_echoesIn_17 : decode cX10_echoesIn 17 = .ok (.getfield 9, 3) := by decide +kernel
theorem dX10_echoesIn_20 : decode cX10_echoesIn 20 = .ok (.iload 4, 2) := by decide +kernel
theorem dX10_echoesIn_22 : decode cX10_echoesIn 22 = .ok (.invokestatic 86, 3) := by decide +kernel
theorem dX10_echoesIn_25 : decode cX10_echoesIn 25 = .ok (.iconst 0, 1) := by decide +kernel
theorem dX10_echoesIn_26 : decode cX10_echoesIn 26 = .ok (.iadd, 1) := by decide +kernel
theorem dX10_echoesIn_27 : decode cX10_echoesIn 27 = .ok (.iaload, 1) := by decide +kernel
theorem dX10_echoesIn_28 : decode cX10_echoesIn 28 = .ok (.iload_n 1, 1) := by decide +kernel
theorem dX10_echoesIn_29 : decode cX10_echoesIn 29 = .ok (.if_icmp .ne 27, 3) := by decide +kernel
theorem dX10_echoesIn_32 : decode cX10_echoesIn 32 = .ok (.iload_n 2, 1) := by decide +kernel
theorem dX10_echoesIn_33 : decode cX10_echoesIn 33 = .ok (.ifCond .eq 19, 3) := by decide +kernel
theorem dX10_echoesIn_36 : decode cX10_echoesIn 36 = .ok (.aload_n 0, 1) := by decide +kernel
theorem dX10_echoesIn_37 : decode cX10_echoesIn 37 = .ok (.getfield 9, 3) := by decide +kernel
theorem dX10_echoesIn_40 : decode cX10_echoesIn 40 = .ok (.iload 4, 2) := by decide +kernel
theorem dX10_echoesIn_42 : decode cX10_echoesIn 42 = .ok (.invokestatic 86, 3) := by decide +kernel
theorem dX10_echoesIn_45 : decode cX10_echoesIn 45 = .ok (.iconst 2, 1) := by decide +kernel
theorem dX10_echoesIn_46 : decode cX10_echoesIn 46 = .ok (.iadd, 1) := by decide +kernel
theorem dX10_echoesIn_47 : decode cX10_echoesIn 47 = .ok (.iaload, 1) := by decide +kernel
theorem dX10_echoesIn_48 : decode cX10_echoesIn 48 = .ok (.iconst (-1), 1) := by decide +kernel
theorem dX10_echoesIn_49 : decode cX10_echoesIn 49 = .ok (.if_icmp .ne 7, 3) := by decide +kernel
theorem dX10_echoesIn_52 : decode cX10_echoesIn 52 = .ok (.iconst 1, 1) := by decide +kernel
theorem dX10_echoesIn_53 : decode cX10_echoesIn 53 = .ok (.goto 4, 3) := by decide +kernel
theorem dX10_echoesIn_56 : decode cX10_echoesIn 56 = .ok (.iconst 0, 1) := by decide +kernel
theorem dX10_echoesIn_57 : decode cX10_echoesIn 57 = .ok (.istore 5, 2) := by decide +kernel
theorem dX10_echoesIn_59 : decode cX10_echoesIn 59 = .ok (.iload_n 3, 1) := by decide +kernel
theorem dX10_echoesIn_60 : decode cX10_echoesIn 60 = .ok (.iload 5, 2) := by decide +kernel
theorem dX10_echoesIn_62 : decode cX10_echoesIn 62 = .ok (.ifCond .eq 10, 3) := by decide +kernel
theorem dX10_echoesIn_65 : decode cX10_echoesIn 65 = .ok (.iconst 1, 1) := by decide +kernel
theorem dX10_echoesIn_66 : decode cX10_echoesIn 66 = .ok (.iload 4, 2) := by decide +kernel
theorem dX10_echoesIn_68 : decode cX10_echoesIn 68 = .ok (.ishl, 1) := by decide +kernel
theorem dX10_echoesIn_69 : decode cX10_echoesIn 69 = .ok (.goto 4, 3) := by decide +kernel
theorem dX10_echoesIn_72 : decode cX10_echoesIn 72 = .ok (.iconst 0, 1) := by decide +kernel
theorem dX10_echoesIn_73 : decode cX10_echoesIn 73 = .ok (.ior, 1) := by decide +kernel
theorem dX10_echoesIn_74 : decode cX10_echoesIn 74 = .ok (.istore_n 3, 1) := by decide +kernel
theorem dX10_echoesIn_75 : decode cX10_echoesIn 75 = .ok (.iinc 4 1, 3) := by decide +kernel
theorem dX10_echoesIn_78 : decode cX10_echoesIn 78 = .ok (.goto (-73), 3) := by decide +kernel
theorem dX10_echoesIn_81 : decode cX10_echoesIn 81 = .ok (.iload_n 3, 1) := by decide +kernel
theorem dX10_echoesIn_82 : decode cX10_echoesIn 82 = .ok (.ireturn, 1) := by decide +kernel
theorem vm_X10_echoesIn : aVm yX10_echoesIn RX10 cX10_echoesIn 6 (some .int) 2 := ⟨tw_1759, tw_1758, List.mem_append_left _ (List.mem_of_getElem? (i := 52) (by decide +kernel)), tw_15, rfl, by decide +kernel, by decide +kernel, by decide +kernel⟩
def w_X10_thrown (q : aS) (P : Int32 → aS → Prop) : Prop := P (q.1 0 15) q
def w_X10_isIn (x1 : Int32) (x2 : Int32) (x3 : Int32) (q : aS) (P : Int32 → aS → Prop) : Prop := ((x1 < x2 → P 0 q) ∧ (¬ x1 < x2 → ((x3 < x1 → P 0 q) ∧ (¬ x3 < x1 → P 1 q))))
def LX10_copies_3 (pa : Nat) (na : Nat) (pb : Nat) (nb : Nat) (c1 : Int32) (c3 : Int32) (P : Int32 → aS → Prop) (K : aS → Prop) : Nat → Int32 → aS → Prop
  | 0, _, _ => False
  | N + 1, v4, q => ((97 ≤ v4 → K  q) ∧ (¬ 97 ≤ v4 → (vp_in (c1 + v4) na ∧ (vp_in (c3 + v4) nb ∧ ∀ q3 : aS, q3 = (up2 q.1 pb (Int32.toNatClampNeg (c3 + v4)) (q.1 pa (Int32.toNatClampNeg (c1 + v4))), q.2) → ∀ x4 : Int32, x4 = v4 + 1 → (LX10_copies_3 pa na pb nb c1 c3 P K N) x4 q3))))
def w_X10_copies (pa : Nat) (na : Nat) (pb : Nat) (nb : Nat) (x2 : Int32) (x4 : Int32) (q : aS) (P : Int32 → aS → Prop) : Prop := ∃ M6, LX10_copies_3 pa na pb nb x2 x4 P (fun q5 => P 0 q5) M6 0 q
def JX10_goes_18 (s0 : Int32) (P : Int32 → aS → Prop) (q : aS) : Prop := ∀ q3 : aS, q3 = (up2 q.1 0 15 s0, q.2) → ((¬ (q3.1 0 15) = 0 → P 0 q3) ∧ ((q3.1 0 15) = 0 → P 1 q3))
def w_X10_goes (x1 : Int32) (x2 : Int32) (q : aS) (P : Int32 → aS → Prop) : Prop := ((¬ x1 = 0 → ((¬ x2 = 0 → JX10_goes_18 0 P q) ∧ (x2 = 0 → JX10_goes_18 2 P q))) ∧ (x1 = 0 → JX10_goes_18 1 P q))
def w_X10_hinders (x1 : Int32) (x2 : Int32) (x3 : Int32) (q : aS) (P : Int32 → aS → Prop) : Prop := ((x1 = 0 → P 0 q) ∧ (¬ x1 = 0 → ((¬ (q.1 0 16) = 0 → P 0 q) ∧ ((q.1 0 16) = 0 → ∀ q4 : aS, q4 = (up2 q.1 0 16 x2, q.2) → ∀ q5 : aS, q5 = (up2 q4.1 0 17 x3, q4.2) → P 0 q5))))
def w_X10_begins (q : aS) (P : Int32 → aS → Prop) : Prop := w_X10_copies 1 97 2 97 0 0 q (fun _ q2 => ∀ q3 : aS, q3 = (up2 q2.1 0 16 0, q2.2) → ∀ q4 : aS, q4 = (up2 q3.1 0 15 0, q3.2) → P 0 q4)
def JX10_remembers_49 (P : Int32 → aS → Prop) (q : aS) : Prop := w_X10_copies 2 97 4 776 0 ((q.1 0 5) * 97) q (fun _ q2 => ∀ q3 : aS, q3 = (up2 q2.1 0 5 ((q2.1 0 5) + 1), q2.2) → P 0 q3)
def LX10_remembers_11 (P : Int32 → aS → Prop) (K : aS → Prop) : Nat → Int32 → aS → Prop
  | 0, _, _ => False
  | N + 1, v1, q => ((679 ≤ v1 → K  q) ∧ (¬ 679 ≤ v1 → (vp_in (v1 + 97) 776 ∧ (vp_in v1 776 ∧ ∀ q4 : aS, q4 = (up2 q.1 4 (Int32.toNatClampNeg v1) (q.1 4 (Int32.toNatClampNeg (v1 + 97))), q.2) → ∀ x5 : Int32, x5 = v1 + 1 → (LX10_remembers_11 P K N) x5 q4))))
def w_X10_remembers (q : aS) (P : Int32 → aS → Prop) : Prop := ((¬ (q.1 0 5) = 8 → JX10_remembers_49 P q) ∧ ((q.1 0 5) = 8 → ∃ M8, LX10_remembers_11 P (fun q6 => ∀ q7 : aS, q7 = (up2 q6.1 0 5 ((q6.1 0 5) - 1), q6.2) → JX10_remembers_49 P q7) M8 0 q))
def w_X10_refuses (x1 : Int32) (x2 : Int32) (x3 : Int32) (x4 : Int32) (x5 : Int32) (q : aS) (P : Int32 → aS → Prop) : Prop := ∀ q6 : aS, q6 = (up2 q.1 0 6 x1, q.2) → ∀ q7 : aS, q7 = (up2 q6.1 0 7 x2, q6.2) → ∀ q8 : aS, q8 = (up2 q7.1 0 8 x3, q7.2) → ∀ q9 : aS, q9 = (up2 q8.1 0 9 x4, q8.2) → ∀ q10 : aS, q10 = (up2 q9.1 0 15 x5, q9.2) → w_X10_copies 2 97 1 97 0 0 q10 (fun _ q12 => P 0 q12)
def w_X10_ends (x1 : Int32) (q : aS) (P : Int32 → aS → Prop) : Prop := (((q.1 0 16) = 0 → w_X10_remembers q (fun _ q3 => P x1 q3)) ∧ (¬ (q.1 0 16) = 0 → w_X10_refuses (q.1 0 16) (q.1 0 17) 0 0 1 q (fun r4 q5 => P r4 q5)))
def JX10_reason_32 (j1 : Int32) (j2 : Int32) (j3 : Int32) (s0 : Int32) (s1 : Int32) (P : Int32 → aS → Prop) (q : aS) : Prop := w_X10_goes s1 s0 q (fun r5 q6 => ((¬ r5 = 0 → ((¬ j2 = 0 → ((¬ j1 = 0 → P (q6.1 0 9) q6) ∧ (j1 = 0 → P (q6.1 0 7) q6))) ∧ (j2 = 0 → P j3 q6))) ∧ (r5 = 0 → P 0 q6)))
def JX10_reason_15 (j1 : Int32) (j2 : Int32) (s0 : Int32) (P : Int32 → aS → Prop) (q : aS) : Prop := w_X10_isIn j1 0 1 q (fun r3 q4 => ((s0 = 0 → JX10_reason_32 j1 j2 s0 0 r3 P q4) ∧ (¬ s0 = 0 → JX10_reason_32 j1 j2 s0 1 r3 P q4)))
def w_X10_reason (x1 : Int32) (x2 : Int32) (q : aS) (P : Int32 → aS → Prop) : Prop := ((¬ x1 = 0 → JX10_reason_15 x1 x2 (q.1 0 8) P q) ∧ (x1 = 0 → JX10_reason_15 x1 x2 (q.1 0 6) P q))
def JX10_undo_13 (s0 : Int32) (P : Int32 → aS → Prop) (q : aS) : Prop := ∀ q1 : aS, q1 = (up2 q.1 0 15 s0, q.2) → (((q1.1 0 5) ≤ 0 → P (q1.1 0 5) q1) ∧ (¬ (q1.1 0 5) ≤ 0 → ∀ q2 : aS, q2 = (up2 q1.1 0 5 ((q1.1 0 5) - 1), q1.2) → w_X10_copies 4 776 1 97 ((q2.1 0 5) * 97) 0 q2 (fun _ q4 => P (q4.1 0 5) q4)))
def w_X10_undo (q : aS) (P : Int32 → aS → Prop) : Prop := ((¬ (q.1 0 5) = 0 → JX10_undo_13 0 P q) ∧ ((q.1 0 5) = 0 → JX10_undo_13 1 P q))
def w_X10_save (q : aS) (P : Int32 → aS → Prop) : Prop := ∀ q1 : aS, q1 = (up2 q.1 0 15 0, q.2) → w_X10_copies 1 97 3 97 0 0 q1 (fun _ q3 => ∀ q4 : aS, q4 = (up2 q3.1 0 4 1, q3.2) → (vp_in 1 97 ∧ P (q4.1 1 (Int32.toNatClampNeg 1)) q4))
def JX10_restore_41 (P : Int32 → aS → Prop) (q : aS) : Prop := (((q.1 0 4) = 0 → P 0 q) ∧ (¬ (q.1 0 4) = 0 → (vp_in 1 97 ∧ P (q.1 1 (Int32.toNatClampNeg 1)) q)))
def JX10_restore_13 (s0 : Int32) (P : Int32 → aS → Prop) (q : aS) : Prop := ∀ q1 : aS, q1 = (up2 q.1 0 15 s0, q.2) → (((q1.1 0 4) = 0 → JX10_restore_41 P q1) ∧ (¬ (q1.1 0 4) = 0 → w_X10_copies 3 97 1 97 0 0 q1 (fun _ q3 => ∀ q4 : aS, q4 = (up2 q3.1 0 5 0, q3.2) → JX10_restore_41 P q4)))
def w_X10_restore (q : aS) (P : Int32 → aS → Prop) : Prop := (((q.1 0 4) = 0 → JX10_restore_13 1 P q) ∧ (¬ (q.1 0 4) = 0 → JX10_restore_13 0 P q))
def w_X10_roomAt (x1 : Int32) (q : aS) (P : Int32 → aS → Prop) : Prop := P (9 + (3 * x1)) q
def w_X10_echoAt (x1 : Int32) (q : aS) (P : Int32 → aS → Prop) : Prop := P (27 + (5 * x1)) q
def w_X10_singerAt (x1 : Int32) (q : aS) (P : Int32 → aS → Prop) : Prop := P (67 + (5 * x1)) q
def w_X10_isRoom (x1 : Int32) (q : aS) (P : Int32 → aS → Prop) : Prop := (vp_in 0 97 ∧ w_X10_isIn x1 0 ((q.1 1 (Int32.toNatClampNeg 0)) - 1) q (fun r2 q3 => P r2 q3))
def w_X10_isEcho (x1 : Int32) (q : aS) (P : Int32 → aS → Prop) : Prop := (vp_in 1 97 ∧ w_X10_isIn x1 0 ((q.1 1 (Int32.toNatClampNeg 1)) - 1) q (fun r2 q3 => P r2 q3))
def w_X10_isSinger (x1 : Int32) (q : aS) (P : Int32 → aS → Prop) : Prop := (vp_in 2 97 ∧ w_X10_isIn x1 0 ((q.1 1 (Int32.toNatClampNeg 2)) - 1) q (fun r2 q3 => P r2 q3))
def LX10_singersIn_4 (c1 : Int32) (P : Int32 → aS → Prop) (K : Int32 → aS → Prop) : Nat → Int32 → Int32 → aS → Prop
  | 0, _, _, _ => False
  | N + 1, v2, v3, q => (vp_in 2 97 ∧ (((q.1 1 (Int32.toNatClampNeg 2)) ≤ v3 → K v2 q) ∧ (¬ (q.1 1 (Int32.toNatClampNeg 2)) ≤ v3 → w_X10_singerAt v3 q (fun r2 q3 => (vp_in (r2 + 2) 97 ∧ ((¬ (q3.1 1 (Int32.toNatClampNeg (r2 + 2))) = c1 → ∀ x4 : Int32, x4 = (v2 ||| 0) → ∀ x5 : Int32, x5 = v3 + 1 → (LX10_singersIn_4 c1 P K N) x4 x5 q3) ∧ ((q3.1 1 (Int32.toNatClampNeg (r2 + 2))) = c1 → ∀ x6 : Int32, x6 = (v2 ||| (1 <<< (v3 &&& 31))) → ∀ x7 : Int32, x7 = v3 + 1 → (LX10_singersIn_4 c1 P K N) x6 x7 q3)))))))
def w_X10_singersIn (x1 : Int32) (q : aS) (P : Int32 → aS → Prop) : Prop := ∃ M10, LX10_singersIn_4 x1 P (fun y8 q9 => P y8 q9) M10 0 0 q
def JX10_echoesIn_57 (c1 : Int32) (c2 : Int32) (j3 : Int32) (j4 : Int32) (s0 : Int32) (P : Int32 → aS → Prop) (B : Int32 → Int32 → aS → Prop) (K : Int32 → aS → Prop) (q : aS) : Prop := ((s0 = 0 → ∀ x5 : Int32, x5 = (j3 ||| 0) → ∀ x6 : Int32, x6 = j4 + 1 → B x5 x6 q) ∧ (¬ s0 = 0 → ∀ x7 : Int32, x7 = (j3 ||| (1 <<< (j4 &&& 31))) → ∀ x8 : Int32, x8 = j4 + 1 → B x7 x8 q))
def JX10_echoesIn_56 (c1 : Int32) (c2 : Int32) (j3 : Int32) (j4 : Int32) (P : Int32 → aS → Prop) (B : Int32 → Int32 → aS → Prop) (K : Int32 → aS → Prop) (q : aS) : Prop := JX10_echoesIn_57 c1 c2 j3 j4 0 P B K q
def JX10_echoesIn_52 (c1 : Int32) (c2 : Int32) (j3 : Int32) (j4 : Int32) (P : Int32 → aS → Prop) (B : Int32 → Int32 → aS → Prop) (K : Int32 → aS → Prop) (q : aS) : Prop := JX10_echoesIn_57 c1 c2 j3 j4 1 P B K q
def LX10_echoesIn_5 (c1 : Int32) (c2 : Int32) (P : Int32 → aS → Prop) (K : Int32 → aS → Prop) : Nat → Int32 → Int32 → aS → Prop
  | 0, _, _, _ => False
  | N + 1, v3, v4, q => (vp_in 1 97 ∧ (((q.1 1 (Int32.toNatClampNeg 1)) ≤ v4 → K v3 q) ∧ (¬ (q.1 1 (Int32.toNatClampNeg 1)) ≤ v4 → w_X10_echoAt v4 q (fun r3 q4 => (vp_in (r3 + 0) 97 ∧ ((¬ (q4.1 1 (Int32.toNatClampNeg (r3 + 0))) = c1 → JX10_echoesIn_56 c1 c2 v3 v4 P (LX10_echoesIn_5 c1 c2 P K N) K q4) ∧ ((q4.1 1 (Int32.toNatClampNeg (r3 + 0))) = c1 → ((c2 = 0 → JX10_echoesIn_52 c1 c2 v3 v4 P (LX10_echoesIn_5 c1 c2 P K N) K q4) ∧ (¬ c2 = 0 → w_X10_echoAt v4 q4 (fun r9 q10 => (vp_in (r9 + 2) 97 ∧ ((¬ (q10.1 1 (Int32.toNatClampNeg (r9 + 2))) = (-1) → JX10_echoesIn_56 c1 c2 v3 v4 P (LX10_echoesIn_5 c1 c2 P K N) K q10) ∧ ((q10.1 1 (Int32.toNatClampNeg (r9 + 2))) = (-1) → JX10_echoesIn_52 c1 c2 v3 v4 P (LX10_echoesIn_5 c1 c2 P K N) K q10)))))))))))))
def w_X10_echoesIn (x1 : Int32) (x2 : Int32) (q : aS) (P : Int32 → aS → Prop) : Prop := ∃ M13, LX10_echoesIn_5 x1 x2 P (fun y11 q12 => P y11 q12) M13 0 0 q
set_option maxRecDepth 20000 in
theorem t_X10_thrown {l : Launch} {g : aG} (hX : isM g) (hl : l.stackTraces = false) (q : aS) (P : Int32 → aS → Prop) (h : w_X10_thrown q P) : aMi l g yX10_thrown (aWs yX10_thrown cX10_thrown 1 (some .int)) 0 0 0 [.ref (gAd g 0)] q P (fun _ _ => False) := by
  refine aMi_of RX10 ⟨by decide +kernel, rfl⟩ (cat_all rfl) (Nat.le_of_ble_eq_true rfl) hl hX.cl (fun f hR hC hE => ?_)
  show AW f g 0 [some (.ref (gAd g 0))] [] q 0 0
  unfold w_X10_thrown at h
  refine a_aload_n (pc := 0) hC dX10_thrown_0 rfl ?_
  refine a_get (pc := 1) hC cl_X10 (oM_0 hX) 15 (by decide) tw_1519 rfl dX10_thrown_1 ?_
  exact a_iret (pc := 4) hC hE h (Nat.le_of_ble_eq_true rfl) (Nat.le_of_ble_eq_true rfl) dX10_thrown_4
set_option maxRecDepth 20000 in
theorem t_X10_isIn {l : Launch} {g : aG} (hX : isM g) (hl : l.stackTraces = false) (x1 : Int32) (x2 : Int32) (x3 : Int32) (q : aS) (P : Int32 → aS → Prop) (h : w_X10_isIn x1 x2 x3 q P) : aMi l g yX10_isIn (aWs yX10_isIn cX10_isIn 3 (some .boolean)) 0 0 0 [.int x1, .int x2, .int x3] q (fun r u => (r = 0 ∨ r = 1) ∧ P r u) (fun _ _ => False) := by
  refine aMi_of RX10 ⟨by decide +kernel, rfl⟩ (cat_all rfl) (Nat.le_of_ble_eq_true rfl) hl hX.cl (fun f hR hC hE => ?_)
  show AW f g 0 [some (.int x1), some (.int x2), some (.int x3)] [] q 0 0
  unfold w_X10_isIn at h
  refine a_iload_n (pc := 0) hC dX10_isIn_0 rfl ?_
  refine a_iload_n (pc := 1) hC dX10_isIn_1 rfl ?_
  refine a_icmp_lt (pc := 2) (tgt := 14) hC dX10_isIn_2 (by decide) (fun c => ?_) (fun c => ?_)
  · replace h := h.1 c
    refine a_iconst (pc := 14) hC dX10_isIn_14 (v := 0) rfl ?_
    exact a_bret (pc := 15) hC hE (Or.inl rfl) h (Nat.le_of_ble_eq_true rfl) (Nat.le_of_ble_eq_true rfl) dX10_isIn_15
  · replace h := h.2 c
    refine a_iload_n (pc := 5) hC dX10_isIn_5 rfl ?_
    refine a_iload_n (pc := 6) hC dX10_isIn_6 rfl ?_
    refine a_icmp_gt (pc := 7) (tgt := 14) hC dX10_isIn_7 (by decide) (fun c => ?_) (fun c => ?_)
    · replace h := h.1 c
      refine a_iconst (pc := 14) hC dX10_isIn_14 (v := 0) rfl ?_
      exact a_bret (pc := 15) hC hE (Or.inl rfl) h (Nat.le_of_ble_eq_true rfl) (Nat.le_of_ble_eq_true rfl) dX10_isIn_15
    · replace h := h.2 c
      refine a_iconst (pc := 10) hC dX10_isIn_10 (v := 1) rfl ?_
      refine a_goto (pc := 11) (tgt := 15) hC dX10_isIn_11 (by decide) ?_
      exact a_bret (pc := 15) hC hE (Or.inr rfl) h (Nat.le_of_ble_eq_true rfl) (Nat.le_of_ble_eq_true rfl) dX10_isIn_15
set_option maxRecDepth 20000 in
theorem tLX10_copies_3 {f : aF} {g : aG} (hX : isM g) (pa : Nat) (na : Nat) (pb : Nat) (nb : Nat) (ha : aAr g pa 0 na .int) (hb : aAr g pb 0 nb .int) (P : Int32 → aS → Prop) (hR : f_R f = aR 0 0 0) (hC : aOK f g cX10_copies 5 RX10) (hE : aEv f g P (fun _ _ => False) 0 0) (c1 : Int32) (c3 : Int32) {K : aS → Prop} (hK : ∀ (q : aS), K q → AW f g 28 [none, none, none, none, none] [] q 0 0) : ∀ (N : Nat) (v4 : Int32) (q : aS), LX10_copies_3 pa na pb nb c1 c3 P K N v4 q → AW f g 3 [some (.ref (gAd g pa)), some (.int c1), some (.ref (gAd g pb)), some (.int c3), some (.int v4)] [] q 0 0 := by
  intro N
  induction N with
  | zero =>
    intro v4 q h
    exact h.elim
  | succ N ih =>
    intro v4 q h
    unfold LX10_copies_3 at h
    refine a_iload (pc := 3) hC dX10_copies_3 rfl ?_
    refine a_bipush (pc := 5) hC dX10_copies_5 (v := 97) rfl ?_
    refine a_icmp_ge (pc := 7) (tgt := 28) hC dX10_copies_7 (by decide) (fun c => ?_) (fun c => ?_)
    · replace h := h.1 c
      exact (hK _ h).forget trivial
    · replace h := h.2 c
      refine a_aload_n (pc := 10) hC dX10_copies_10 rfl ?_
      refine a_iload_n (pc := 11) hC dX10_copies_11 rfl ?_
      refine a_iload (pc := 12) hC dX10_copies_12 rfl ?_
      refine a_iadd (pc := 14) hC dX10_copies_14 ?_
      refine a_aload_n (pc := 15) hC dX10_copies_15 rfl ?_
      refine a_iload_n (pc := 16) hC dX10_copies_16 rfl ?_
      refine a_iload (pc := 17) hC dX10_copies_17 rfl ?_
      refine a_iadd (pc := 19) hC dX10_copies_19 ?_
      refine a_iald (pc := 20) hC ha h.1 dX10_copies_20 ?_
      replace h := h.2
      refine a_iast (pc := 21) hC hb h.1 dX10_copies_21 ?_
      replace h := h.2
      replace h := h _ rfl
      refine a_iinc (pc := 22) hC dX10_copies_22 rfl (c := 1) rfl ?_
      replace h := h _ rfl
      refine a_goto (pc := 25) (tgt := 3) hC dX10_copies_25 (by decide) ?_
      exact (ih _ _ h).forget ⟨rfl, rfl, rfl, rfl, rfl, trivial⟩
set_option maxRecDepth 20000 in
theorem t_X10_copies {l : Launch} {g : aG} (hX : isM g) (pa : Nat) (na : Nat) (pb : Nat) (nb : Nat) (ha : aAr g pa 0 na .int) (hb : aAr g pb 0 nb .int) (hl : l.stackTraces = false) (x2 : Int32) (x4 : Int32) (q : aS) (P : Int32 → aS → Prop) (h : w_X10_copies pa na pb nb x2 x4 q P) : aMv l g yX10_copies (aWs yX10_copies cX10_copies 5 none) 0 0 0 [.ref (gAd g pa), .int x2, .ref (gAd g pb), .int x4] q P (fun _ _ => False) := by
  refine aMv_of RX10 ⟨by decide +kernel, rfl⟩ (cat_all rfl) (Nat.le_of_ble_eq_true rfl) hl hX.cl (fun f hR hC hE => ?_)
  show AW f g 0 [some (.ref (gAd g pa)), some (.int x2), some (.ref (gAd g pb)), some (.int x4), none] [] q 0 0
  unfold w_X10_copies at h
  refine a_iconst (pc := 0) hC dX10_copies_0 (v := 0) rfl ?_
  refine a_istore (pc := 1) hC dX10_copies_1 (Nat.le_of_ble_eq_true rfl) ?_
  obtain ⟨N, h⟩ := h
  refine (tLX10_copies_3 hX pa na pb nb ha hb P hR hC hE _ _ (fun q5 h => ?_) N _ _ h).forget ⟨rfl, rfl, rfl, rfl, rfl, trivial⟩
  exact a_vret (pc := 28) hC hE h (Nat.le_of_ble_eq_true rfl) (Nat.le_of_ble_eq_true rfl) dX10_copies_28
set_option maxRecDepth 20000 in
theorem tJX10_goes_18 {f : aF} {g : aG} (hX : isM g) (P : Int32 → aS → Prop) (hR : f_R f = aR 0 0 0) (hC : aOK f g cX10_goes 3 RX10) (hE : aEi f g .boolean (fun r u => (r = 0 ∨ r = 1) ∧ P r u) (fun _ _ => False) 0 0) (s0 : Int32) (q : aS) (h : JX10_goes_18 s0 P q) : AW f g 18 [some (.ref (gAd g 0)), none, none] [.int s0, .ref (gAd g 0)] q 0 0 := by
  unfold JX10_goes_18 at h
  refine a_put (pc := 18) hC cl_X10 (oM_0 hX) 15 (by decide) tw_1519 tyX10 tyX10_ok rfl rfl rfl (Nat.le_of_ble_eq_true rfl) rfl dX10_goes_18 ?_
  replace h := h _ rfl
  refine a_aload_n (pc := 21) hC dX10_goes_21 rfl ?_
  refine a_get (pc := 22) hC cl_X10 (oM_0 hX) 15 (by decide) tw_1519 rfl dX10_goes_22 ?_
  refine a_if_ne (pc := 25) (tgt := 32) hC dX10_goes_25 (by decide) (fun c => ?_) (fun c => ?_)
  · replace h := h.1 c
    refine a_iconst (pc := 32) hC dX10_goes_32 (v := 0) rfl ?_
    exact a_bret (pc := 33) hC hE (Or.inl rfl) h (Nat.le_of_ble_eq_true rfl) (Nat.le_of_ble_eq_true rfl) dX10_goes_33
  · replace h := h.2 c
    refine a_iconst (pc := 28) hC dX10_goes_28 (v := 1) rfl ?_
    refine a_goto (pc := 29) (tgt := 33) hC dX10_goes_29 (by decide) ?_
    exact a_bret (pc := 33) hC hE (Or.inr rfl) h (Nat.le_of_ble_eq_true rfl) (Nat.le_of_ble_eq_true rfl) dX10_goes_33
set_option maxRecDepth 20000 in
theorem t_X10_goes {l : Launch} {g : aG} (hX : isM g) (hl : l.stackTraces = false) (x1 : Int32) (x2 : Int32) (q : aS) (P : Int32 → aS → Prop) (h : w_X10_goes x1 x2 q P) : aMi l g yX10_goes (aWs yX10_goes cX10_goes 3 (some .boolean)) 0 0 0 [.ref (gAd g 0), .int x1, .int x2] q (fun r u => (r = 0 ∨ r = 1) ∧ P r u) (fun _ _ => False) := by
  refine aMi_of RX10 ⟨by decide +kernel, rfl⟩ (cat_all rfl) (Nat.le_of_ble_eq_true rfl) hl hX.cl (fun f hR hC hE => ?_)
  show AW f g 0 [some (.ref (gAd g 0)), some (.int x1), some (.int x2)] [] q 0 0
  unfold w_X10_goes at h
  refine a_aload_n (pc := 0) hC dX10_goes_0 rfl ?_
  refine a_iload_n (pc := 1) hC dX10_goes_1 rfl ?_
  refine a_if_ne (pc := 2) (tgt := 9) hC dX10_goes_2 (by decide) (fun c => ?_) (fun c => ?_)
  · replace h := h.1 c
    refine a_iload_n (pc := 9) hC dX10_goes_9 rfl ?_
    refine a_if_ne (pc := 10) (tgt := 17) hC dX10_goes_10 (by decide) (fun c => ?_) (fun c => ?_)
    · replace h := h.1 c
      refine a_iconst (pc := 17) hC dX10_goes_17 (v := 0) rfl ?_
      exact (tJX10_goes_18 hX P hR hC hE _ _ h).forget ⟨rfl, trivial⟩
    · replace h := h.2 c
      refine a_iconst (pc := 13) hC dX10_goes_13 (v := 2) rfl ?_
      refine a_goto (pc := 14) (tgt := 18) hC dX10_goes_14 (by decide) ?_
      exact (tJX10_goes_18 hX P hR hC hE _ _ h).forget ⟨rfl, trivial⟩
  · replace h := h.2 c
    refine a_iconst (pc := 5) hC dX10_goes_5 (v := 1) rfl ?_
    refine a_goto (pc := 6) (tgt := 18) hC dX10_goes_6 (by decide) ?_
    exact (tJX10_goes_18 hX P hR hC hE _ _ h).forget ⟨rfl, trivial⟩
set_option maxRecDepth 20000 in
theorem t_X10_hinders {l : Launch} {g : aG} (hX : isM g) (hl : l.stackTraces = false) (x1 : Int32) (x2 : Int32) (x3 : Int32) (q : aS) (P : Int32 → aS → Prop) (h : w_X10_hinders x1 x2 x3 q P) : aMv l g yX10_hinders (aWs yX10_hinders cX10_hinders 4 none) 0 0 0 [.ref (gAd g 0), .int x1, .int x2, .int x3] q P (fun _ _ => False) := by
  refine aMv_of RX10 ⟨by decide +kernel, rfl⟩ (cat_all rfl) (Nat.le_of_ble_eq_true rfl) hl hX.cl (fun f hR hC hE => ?_)
  show AW f g 0 [some (.ref (gAd g 0)), some (.int x1), some (.int x2), some (.int x3)] [] q 0 0
  unfold w_X10_hinders at h
  refine a_iload_n (pc := 0) hC dX10_hinders_0 rfl ?_
  refine a_if_eq (pc := 1) (tgt := 21) hC dX10_hinders_1 (by decide) (fun c => ?_) (fun c => ?_)
  · replace h := h.1 c
    exact a_vret (pc := 21) hC hE h (Nat.le_of_ble_eq_true rfl) (Nat.le_of_ble_eq_true rfl) dX10_hinders_21
  · replace h := h.2 c
    refine a_aload_n (pc := 4) hC dX10_hinders_4 rfl ?_
    refine a_get (pc := 5) hC cl_X10 (oM_0 hX) 16 (by decide) tw_1520 rfl dX10_hinders_5 ?_
    refine a_if_ne (pc := 8) (tgt := 21) hC dX10_hinders_8 (by decide) (fun c => ?_) (fun c => ?_)
    · replace h := h.1 c
      exact a_vret (pc := 21) hC hE h (Nat.le_of_ble_eq_true rfl) (Nat.le_of_ble_eq_true rfl) dX10_hinders_21
    · replace h := h.2 c
      refine a_aload_n (pc := 11) hC dX10_hinders_11 rfl ?_
      refine a_iload_n (pc := 12) hC dX10_hinders_12 rfl ?_
      refine a_put (pc := 13) hC cl_X10 (oM_0 hX) 16 (by decide) tw_1520 tyX10 tyX10_ok rfl rfl rfl (Nat.le_of_ble_eq_true rfl) rfl dX10_hinders_13 ?_
      replace h := h _ rfl
      refine a_aload_n (pc := 16) hC dX10_hinders_16 rfl ?_
      refine a_iload_n (pc := 17) hC dX10_hinders_17 rfl ?_
      refine a_put (pc := 18) hC cl_X10 (oM_0 hX) 17 (by decide) tw_1521 tyX10 tyX10_ok rfl rfl rfl (Nat.le_of_ble_eq_true rfl) rfl dX10_hinders_18 ?_
      replace h := h _ rfl
      exact a_vret (pc := 21) hC hE h (Nat.le_of_ble_eq_true rfl) (Nat.le_of_ble_eq_true rfl) dX10_hinders_21
set_option maxRecDepth 20000 in
theorem t_X10_begins {l : Launch} {g : aG} (hX : isM g) (hl : l.stackTraces = false) (q : aS) (P : Int32 → aS → Prop) (h : w_X10_begins q P) : aMv l g yX10_begins (aWs yX10_begins cX10_begins 1 none) 1 0 0 [.ref (gAd g 0)] q P (fun _ _ => False) := by
  refine aMv_of RX10 ⟨by decide +kernel, rfl⟩ (cat_all rfl) (Nat.le_of_ble_eq_true rfl) hl hX.cl (fun f hR hC hE => ?_)
  show AW f g 0 [some (.ref (gAd g 0))] [] q 0 0
  unfold w_X10_begins at h
  refine a_aload_n (pc := 0) hC dX10_begins_0 rfl ?_
  refine a_get (pc := 1) hC cl_X10 (oM_0 hX) 0 (by decide) tw_1504 rfl dX10_begins_1 ?_
  refine a_iconst (pc := 4) hC dX10_begins_4 (v := 0) rfl ?_
  refine a_aload_n (pc := 5) hC dX10_begins_5 rfl ?_
  refine a_get (pc := 6) hC cl_X10 (oM_0 hX) 1 (by decide) tw_1505 rfl dX10_begins_6 ?_
  refine a_iconst (pc := 9) hC dX10_begins_9 (v := 0) rfl ?_
  refine a_callSv (pc := 10) hC hR sm_X10_copies tw_1593 ⟨(Nat.le_of_ble_eq_true rfl), (Nat.le_of_ble_eq_true rfl), (Nat.le_of_ble_eq_true rfl), (Nat.le_of_ble_eq_true rfl)⟩ dX10_begins_10 (t_X10_copies hX _ _ _ _ (oM_1 hX) (oM_2 hX) hC.tr _ _ _ _ h) rfl rfl rfl (Nat.le_of_ble_eq_true rfl) (fun q2 h => ?_)
  refine a_aload_n (pc := 13) hC dX10_begins_13 rfl ?_
  refine a_iconst (pc := 14) hC dX10_begins_14 (v := 0) rfl ?_
  refine a_put (pc := 15) hC cl_X10 (oM_0 hX) 16 (by decide) tw_1520 tyX10 tyX10_ok rfl rfl rfl (Nat.le_of_ble_eq_true rfl) rfl dX10_begins_15 ?_
  replace h := h _ rfl
  refine a_aload_n (pc := 18) hC dX10_begins_18 rfl ?_
  refine a_iconst (pc := 19) hC dX10_begins_19 (v := 0) rfl ?_
  refine a_put (pc := 20) hC cl_X10 (oM_0 hX) 15 (by decide) tw_1519 tyX10 tyX10_ok rfl rfl rfl (Nat.le_of_ble_eq_true rfl) rfl dX10_begins_20 ?_
  replace h := h _ rfl
  exact a_vret (pc := 23) hC hE h (Nat.le_of_ble_eq_true rfl) (Nat.le_of_ble_eq_true rfl) dX10_begins_23
set_option maxRecDepth 20000 in
theorem tJX10_remembers_49 {f : aF} {g : aG} (hX : isM g) (P : Int32 → aS → Prop) (hR : f_R f = aR 1 0 0) (hC : aOK f g cX10_remembers 2 RX10) (hE : aEv f g P (fun _ _ => False) 0 0) (q : aS) (h : JX10_remembers_49 P q) : AW f g 49 [some (.ref (gAd g 0)), none] [] q 0 0 := by
  unfold JX10_remembers_49 at h
  refine a_aload_n (pc := 49) hC dX10_remembers_49 rfl ?_
  refine a_get (pc := 50) hC cl_X10 (oM_0 hX) 1 (by decide) tw_1505 rfl dX10_remembers_50 ?_
  refine a_iconst (pc := 53) hC dX10_remembers_53 (v := 0) rfl ?_
  refine a_aload_n (pc := 54) hC dX10_remembers_54 rfl ?_
  refine a_get (pc := 55) hC cl_X10 (oM_0 hX) 3 (by decide) tw_1507 rfl dX10_remembers_55 ?_
  refine a_aload_n (pc := 58) hC dX10_remembers_58 rfl ?_
  refine a_get (pc := 59) hC cl_X10 (oM_0 hX) 5 (by decide) tw_1509 rfl dX10_remembers_59 ?_
  refine a_bipush (pc := 62) hC dX10_remembers_62 (v := 97) rfl ?_
  refine a_imul (pc := 64) hC dX10_remembers_64 ?_
  refine a_callSv (pc := 65) hC hR sm_X10_copies tw_1593 ⟨(Nat.le_of_ble_eq_true rfl), (Nat.le_of_ble_eq_true rfl), (Nat.le_of_ble_eq_true rfl), (Nat.le_of_ble_eq_true rfl)⟩ dX10_remembers_65 (t_X10_copies hX _ _ _ _ (oM_2 hX) (oM_4 hX) hC.tr _ _ _ _ h) rfl rfl rfl (Nat.le_of_ble_eq_true rfl) (fun q2 h => ?_)
  refine a_aload_n (pc := 68) hC dX10_remembers_68 rfl ?_
  refine a_dup (pc := 69) hC dX10_remembers_69 rfl ?_
  refine a_get (pc := 70) hC cl_X10 (oM_0 hX) 5 (by decide) tw_1509 rfl dX10_remembers_70 ?_
  refine a_iconst (pc := 73) hC dX10_remembers_73 (v := 1) rfl ?_
  refine a_iadd (pc := 74) hC dX10_remembers_74 ?_
  refine a_put (pc := 75) hC cl_X10 (oM_0 hX) 5 (by decide) tw_1509 tyX10 tyX10_ok rfl rfl rfl (Nat.le_of_ble_eq_true rfl) rfl dX10_remembers_75 ?_
  replace h := h _ rfl
  exact a_vret (pc := 78) hC hE h (Nat.le_of_ble_eq_true rfl) (Nat.le_of_ble_eq_true rfl) dX10_remembers_78
set_option maxRecDepth 20000 in
theorem tLX10_remembers_11 {f : aF} {g : aG} (hX : isM g) (P : Int32 → aS → Prop) (hR : f_R f = aR 1 0 0) (hC : aOK f g cX10_remembers 2 RX10) (hE : aEv f g P (fun _ _ => False) 0 0) {K : aS → Prop} (hK : ∀ (q : aS), K q → AW f g 39 [some (.ref (gAd g 0)), none] [] q 0 0) : ∀ (N : Nat) (v1 : Int32) (q : aS), LX10_remembers_11 P K N v1 q → AW f g 11 [some (.ref (gAd g 0)), some (.int v1)] [] q 0 0 := by
  intro N
  induction N with
  | zero =>
    intro v1 q h
    exact h.elim
  | succ N ih =>
    intro v1 q h
    unfold LX10_remembers_11 at h
    refine a_iload_n (pc := 11) hC dX10_remembers_11 rfl ?_
    refine a_sipush (pc := 12) hC dX10_remembers_12 (v := 679) rfl ?_
    refine a_icmp_ge (pc := 15) (tgt := 39) hC dX10_remembers_15 (by decide) (fun c => ?_) (fun c => ?_)
    · replace h := h.1 c
      exact (hK _ h).forget ⟨rfl, trivial⟩
    · replace h := h.2 c
      refine a_aload_n (pc := 18) hC dX10_remembers_18 rfl ?_
      refine a_get (pc := 19) hC cl_X10 (oM_0 hX) 3 (by decide) tw_1507 rfl dX10_remembers_19 ?_
      refine a_iload_n (pc := 22) hC dX10_remembers_22 rfl ?_
      refine a_aload_n (pc := 23) hC dX10_remembers_23 rfl ?_
      refine a_get (pc := 24) hC cl_X10 (oM_0 hX) 3 (by decide) tw_1507 rfl dX10_remembers_24 ?_
      refine a_iload_n (pc := 27) hC dX10_remembers_27 rfl ?_
      refine a_bipush (pc := 28) hC dX10_remembers_28 (v := 97) rfl ?_
      refine a_iadd (pc := 30) hC dX10_remembers_30 ?_
      refine a_iald (pc := 31) hC (oM_4 hX) h.1 dX10_remembers_31 ?_
      replace h := h.2
      refine a_iast (pc := 32) hC (oM_4 hX) h.1 dX10_remembers_32 ?_
      replace h := h.2
      replace h := h _ rfl
      refine a_iinc (pc := 33) hC dX10_remembers_33 rfl (c := 1) rfl ?_
      replace h := h _ rfl
      refine a_goto (pc := 36) (tgt := 11) hC dX10_remembers_36 (by decide) ?_
      exact (ih _ _ h).forget ⟨rfl, rfl, trivial⟩
set_option maxRecDepth 20000 in
theorem t_X10_remembers {l : Launch} {g : aG} (hX : isM g) (hl : l.stackTraces = false) (q : aS) (P : Int32 → aS → Prop) (h : w_X10_remembers q P) : aMv l g yX10_remembers (aWs yX10_remembers cX10_remembers 2 none) 1 0 0 [.ref (gAd g 0)] q P (fun _ _ => False) := by
  refine aMv_of RX10 ⟨by decide +kernel, rfl⟩ (cat_all rfl) (Nat.le_of_ble_eq_true rfl) hl hX.cl (fun f hR hC hE => ?_)
  show AW f g 0 [some (.ref (gAd g 0)), none] [] q 0 0
  unfold w_X10_remembers at h
  refine a_aload_n (pc := 0) hC dX10_remembers_0 rfl ?_
  refine a_get (pc := 1) hC cl_X10 (oM_0 hX) 5 (by decide) tw_1509 rfl dX10_remembers_1 ?_
  refine a_bipush (pc := 4) hC dX10_remembers_4 (v := 8) rfl ?_
  refine a_icmp_ne (pc := 6) (tgt := 49) hC dX10_remembers_6 (by decide) (fun c => ?_) (fun c => ?_)
  · replace h := h.1 c
    exact (tJX10_remembers_49 hX P hR hC hE _ h).forget ⟨rfl, trivial⟩
  · replace h := h.2 c
    refine a_iconst (pc := 9) hC dX10_remembers_9 (v := 0) rfl ?_
    refine a_istore_n (pc := 10) hC dX10_remembers_10 (Nat.le_of_ble_eq_true rfl) ?_
    obtain ⟨N, h⟩ := h
    refine (tLX10_remembers_11 hX P hR hC hE (fun q6 h => ?_) N _ _ h).forget ⟨rfl, rfl, trivial⟩
    refine a_aload_n (pc := 39) hC dX10_remembers_39 rfl ?_
    refine a_dup (pc := 40) hC dX10_remembers_40 rfl ?_
    refine a_get (pc := 41) hC cl_X10 (oM_0 hX) 5 (by decide) tw_1509 rfl dX10_remembers_41 ?_
    refine a_iconst (pc := 44) hC dX10_remembers_44 (v := 1) rfl ?_
    refine a_isub (pc := 45) hC dX10_remembers_45 ?_
    refine a_put (pc := 46) hC cl_X10 (oM_0 hX) 5 (by decide) tw_1509 tyX10 tyX10_ok rfl rfl rfl (Nat.le_of_ble_eq_true rfl) rfl dX10_remembers_46 ?_
    replace h := h _ rfl
    exact (tJX10_remembers_49 hX P hR hC hE _ h).forget ⟨rfl, trivial⟩
set_option maxRecDepth 20000 in
theorem t_X10_refuses {l : Launch} {g : aG} (hX : isM g) (hl : l.stackTraces = false) (x1 : Int32) (x2 : Int32) (x3 : Int32) (x4 : Int32) (x5 : Int32) (q : aS) (P : Int32 → aS → Prop) (h : w_X10_refuses x1 x2 x3 x4 x5 q P) : aMi l g yX10_refuses (aWs yX10_refuses cX10_refuses 6 (some .int)) 1 0 0 [.ref (gAd g 0), .int x1, .int x2, .int x3, .int x4, .int x5] q P (fun _ _ => False) := by
  refine aMi_of RX10 ⟨by decide +kernel, rfl⟩ (cat_all rfl) (Nat.le_of_ble_eq_true rfl) hl hX.cl (fun f hR hC hE => ?_)
  show AW f g 0 [some (.ref (gAd g 0)), some (.int x1), some (.int x2), some (.int x3), some (.int x4), some (.int x5)] [] q 0 0
  unfold w_X10_refuses at h
  refine a_aload_n (pc := 0) hC dX10_refuses_0 rfl ?_
  refine a_iload_n (pc := 1) hC dX10_refuses_1 rfl ?_
  refine a_put (pc := 2) hC cl_X10 (oM_0 hX) 6 (by decide) tw_1510 tyX10 tyX10_ok rfl rfl rfl (Nat.le_of_ble_eq_true rfl) rfl dX10_refuses_2 ?_
  replace h := h _ rfl
  refine a_aload_n (pc := 5) hC dX10_refuses_5 rfl ?_
  refine a_iload_n (pc := 6) hC dX10_refuses_6 rfl ?_
  refine a_put (pc := 7) hC cl_X10 (oM_0 hX) 7 (by decide) tw_1511 tyX10 tyX10_ok rfl rfl rfl (Nat.le_of_ble_eq_true rfl) rfl dX10_refuses_7 ?_
  replace h := h _ rfl
  refine a_aload_n (pc := 10) hC dX10_refuses_10 rfl ?_
  refine a_iload_n (pc := 11) hC dX10_refuses_11 rfl ?_
  refine a_put (pc := 12) hC cl_X10 (oM_0 hX) 8 (by decide) tw_1512 tyX10 tyX10_ok rfl rfl rfl (Nat.le_of_ble_eq_true rfl) rfl dX10_refuses_12 ?_
  replace h := h _ rfl
  refine a_aload_n (pc := 15) hC dX10_refuses_15 rfl ?_
  refine a_iload (pc := 16) hC dX10_refuses_16 rfl ?_
  refine a_put (pc := 18) hC cl_X10 (oM_0 hX) 9 (by decide) tw_1513 tyX10 tyX10_ok rfl rfl rfl (Nat.le_of_ble_eq_true rfl) rfl dX10_refuses_18 ?_
  replace h := h _ rfl
  refine a_aload_n (pc := 21) hC dX10_refuses_21 rfl ?_
  refine a_iload (pc := 22) hC dX10_refuses_22 rfl ?_
  refine a_put (pc := 24) hC cl_X10 (oM_0 hX) 15 (by decide) tw_1519 tyX10 tyX10_ok rfl rfl rfl (Nat.le_of_ble_eq_true rfl) rfl dX10_refuses_24 ?_
  replace h := h _ rfl
  refine a_aload_n (pc := 27) hC dX10_refuses_27 rfl ?_
  refine a_get (pc := 28) hC cl_X10 (oM_0 hX) 1 (by decide) tw_1505 rfl dX10_refuses_28 ?_
  refine a_iconst (pc := 31) hC dX10_refuses_31 (v := 0) rfl ?_
  refine a_aload_n (pc := 32) hC dX10_refuses_32 rfl ?_
  refine a_get (pc := 33) hC cl_X10 (oM_0 hX) 0 (by decide) tw_1504 rfl dX10_refuses_33 ?_
  refine a_iconst (pc := 36) hC dX10_refuses_36 (v := 0) rfl ?_
  refine a_callSv (pc := 37) hC hR sm_X10_copies tw_1593 ⟨(Nat.le_of_ble_eq_true rfl), (Nat.le_of_ble_eq_true rfl), (Nat.le_of_ble_eq_true rfl), (Nat.le_of_ble_eq_true rfl)⟩ dX10_refuses_37 (t_X10_copies hX _ _ _ _ (oM_2 hX) (oM_1 hX) hC.tr _ _ _ _ h) rfl rfl rfl (Nat.le_of_ble_eq_true rfl) (fun q12 h => ?_)
  refine a_iconst (pc := 40) hC dX10_refuses_40 (v := 0) rfl ?_
  exact a_iret (pc := 41) hC hE h (Nat.le_of_ble_eq_true rfl) (Nat.le_of_ble_eq_true rfl) dX10_refuses_41
set_option maxRecDepth 20000 in
theorem t_X10_ends {l : Launch} {g : aG} (hX : isM g) (hl : l.stackTraces = false) (x1 : Int32) (q : aS) (P : Int32 → aS → Prop) (h : w_X10_ends x1 q P) : aMi l g yX10_ends (aWs yX10_ends cX10_ends 2 (some .int)) 2 0 0 [.ref (gAd g 0), .int x1] q P (fun _ _ => False) := by
  refine aMi_of RX10 ⟨by decide +kernel, rfl⟩ (cat_all rfl) (Nat.le_of_ble_eq_true rfl) hl hX.cl (fun f hR hC hE => ?_)
  show AW f g 0 [some (.ref (gAd g 0)), some (.int x1)] [] q 0 0
  unfold w_X10_ends at h
  refine a_aload_n (pc := 0) hC dX10_ends_0 rfl ?_
  refine a_get (pc := 1) hC cl_X10 (oM_0 hX) 16 (by decide) tw_1520 rfl dX10_ends_1 ?_
  refine a_if_eq (pc := 4) (tgt := 23) hC dX10_ends_4 (by decide) (fun c => ?_) (fun c => ?_)
  · replace h := h.1 c
    refine a_aload_n (pc := 23) hC dX10_ends_23 rfl ?_
    refine a_callVv (pc := 24) hC hR vm_X10_remembers tw_1631 cl_X10 (oM_0 hX) ⟨(Nat.le_of_ble_eq_true rfl), (Nat.le_of_ble_eq_true rfl), (Nat.le_of_ble_eq_true rfl), (Nat.le_of_ble_eq_true rfl)⟩ dX10_ends_24 (t_X10_remembers hX hC.tr _ _ h) rfl rfl rfl (Nat.le_of_ble_eq_true rfl) (fun q3 h => ?_)
    refine a_iload_n (pc := 27) hC dX10_ends_27 rfl ?_
    exact a_iret (pc := 28) hC hE h (Nat.le_of_ble_eq_true rfl) (Nat.le_of_ble_eq_true rfl) dX10_ends_28
  · replace h := h.2 c
    refine a_aload_n (pc := 7) hC dX10_ends_7 rfl ?_
    refine a_aload_n (pc := 8) hC dX10_ends_8 rfl ?_
    refine a_get (pc := 9) hC cl_X10 (oM_0 hX) 16 (by decide) tw_1520 rfl dX10_ends_9 ?_
    refine a_aload_n (pc := 12) hC dX10_ends_12 rfl ?_
    refine a_get (pc := 13) hC cl_X10 (oM_0 hX) 17 (by decide) tw_1521 rfl dX10_ends_13 ?_
    refine a_iconst (pc := 16) hC dX10_ends_16 (v := 0) rfl ?_
    refine a_iconst (pc := 17) hC dX10_ends_17 (v := 0) rfl ?_
    refine a_iconst (pc := 18) hC dX10_ends_18 (v := 1) rfl ?_
    refine a_callV (pc := 19) hC hR vm_X10_refuses tw_1627 cl_X10 (oM_0 hX) ⟨(Nat.le_of_ble_eq_true rfl), (Nat.le_of_ble_eq_true rfl), (Nat.le_of_ble_eq_true rfl), (Nat.le_of_ble_eq_true rfl)⟩ dX10_ends_19 (t_X10_refuses hX hC.tr _ _ _ _ _ _ _ h) rfl rfl rfl (Nat.le_of_ble_eq_true rfl) (fun r4 q5 h => ?_)
    exact a_iret (pc := 22) hC hE h (Nat.le_of_ble_eq_true rfl) (Nat.le_of_ble_eq_true rfl) dX10_ends_22
set_option maxRecDepth 20000 in
theorem tJX10_reason_32 {f : aF} {g : aG} (hX : isM g) (P : Int32 → aS → Prop) (hR : f_R f = aR 1 0 0) (hC : aOK f g cX10_reason 4 RX10) (hE : aEi f g .int P (fun _ _ => False) 0 0) (j1 : Int32) (j2 : Int32) (j3 : Int32) (s0 : Int32) (s1 : Int32) (q : aS) (h : JX10_reason_32 j1 j2 j3 s0 s1 P q) : AW f g 32 [some (.ref (gAd g 0)), some (.int j1), some (.int j2), some (.int j3)] [.int s0, .int s1, .ref (gAd g 0)] q 0 0 := by
  unfold JX10_reason_32 at h
  refine a_callV (pc := 32) hC hR vm_X10_goes tw_1585 cl_X10 (oM_0 hX) ⟨(Nat.le_of_ble_eq_true rfl), (Nat.le_of_ble_eq_true rfl), (Nat.le_of_ble_eq_true rfl), (Nat.le_of_ble_eq_true rfl)⟩ dX10_reason_32 (t_X10_goes hX hC.tr _ _ _ _ h) rfl rfl rfl (Nat.le_of_ble_eq_true rfl) (fun r5 q6 h => ?_)
  have z_r5 := h.1
  replace h := h.2
  refine a_if_ne (pc := 35) (tgt := 40) hC dX10_reason_35 (by decide) (fun c => ?_) (fun c => ?_)
  · replace h := h.1 c
    refine a_iload_n (pc := 40) hC dX10_reason_40 rfl ?_
    refine a_if_ne (pc := 41) (tgt := 48) hC dX10_reason_41 (by decide) (fun c => ?_) (fun c => ?_)
    · replace h := h.1 c
      refine a_iload_n (pc := 48) hC dX10_reason_48 rfl ?_
      refine a_if_ne (pc := 49) (tgt := 59) hC dX10_reason_49 (by decide) (fun c => ?_) (fun c => ?_)
      · replace h := h.1 c
        refine a_aload_n (pc := 59) hC dX10_reason_59 rfl ?_
        refine a_get (pc := 60) hC cl_X10 (oM_0 hX) 9 (by decide) tw_1513 rfl dX10_reason_60 ?_
        exact a_iret (pc := 63) hC hE h (Nat.le_of_ble_eq_true rfl) (Nat.le_of_ble_eq_true rfl) dX10_reason_63
      · replace h := h.2 c
        refine a_aload_n (pc := 52) hC dX10_reason_52 rfl ?_
        refine a_get (pc := 53) hC cl_X10 (oM_0 hX) 7 (by decide) tw_1511 rfl dX10_reason_53 ?_
        refine a_goto (pc := 56) (tgt := 63) hC dX10_reason_56 (by decide) ?_
        exact a_iret (pc := 63) hC hE h (Nat.le_of_ble_eq_true rfl) (Nat.le_of_ble_eq_true rfl) dX10_reason_63
    · replace h := h.2 c
      refine a_iload_n (pc := 44) hC dX10_reason_44 rfl ?_
      refine a_goto (pc := 45) (tgt := 63) hC dX10_reason_45 (by decide) ?_
      exact a_iret (pc := 63) hC hE h (Nat.le_of_ble_eq_true rfl) (Nat.le_of_ble_eq_true rfl) dX10_reason_63
  · replace h := h.2 c
    refine a_iconst (pc := 38) hC dX10_reason_38 (v := 0) rfl ?_
    exact a_iret (pc := 39) hC hE h (Nat.le_of_ble_eq_true rfl) (Nat.le_of_ble_eq_true rfl) dX10_reason_39
set_option maxRecDepth 20000 in
theorem tJX10_reason_15 {f : aF} {g : aG} (hX : isM g) (P : Int32 → aS → Prop) (hR : f_R f = aR 1 0 0) (hC : aOK f g cX10_reason 4 RX10) (hE : aEi f g .int P (fun _ _ => False) 0 0) (j1 : Int32) (j2 : Int32) (s0 : Int32) (q : aS) (h : JX10_reason_15 j1 j2 s0 P q) : AW f g 15 [some (.ref (gAd g 0)), some (.int j1), some (.int j2), none] [.int s0] q 0 0 := by
  unfold JX10_reason_15 at h
  refine a_istore_n (pc := 15) hC dX10_reason_15 (Nat.le_of_ble_eq_true rfl) ?_
  refine a_aload_n (pc := 16) hC dX10_reason_16 rfl ?_
  refine a_iload_n (pc := 17) hC dX10_reason_17 rfl ?_
  refine a_iconst (pc := 18) hC dX10_reason_18 (v := 0) rfl ?_
  refine a_iconst (pc := 19) hC dX10_reason_19 (v := 1) rfl ?_
  refine a_callS (pc := 20) hC hR sm_X10_isIn tw_1582 ⟨(Nat.le_of_ble_eq_true rfl), (Nat.le_of_ble_eq_true rfl), (Nat.le_of_ble_eq_true rfl), (Nat.le_of_ble_eq_true rfl)⟩ dX10_reason_20 (t_X10_isIn hX hC.tr _ _ _ _ _ h) rfl rfl rfl (Nat.le_of_ble_eq_true rfl) (fun r3 q4 h => ?_)
  have z_r3 := h.1
  replace h := h.2
  refine a_iload_n (pc := 23) hC dX10_reason_23 rfl ?_
  refine a_if_eq (pc := 24) (tgt := 31) hC dX10_reason_24 (by decide) (fun c => ?_) (fun c => ?_)
  · replace h := h.1 c
    refine a_iconst (pc := 31) hC dX10_reason_31 (v := 0) rfl ?_
    exact (tJX10_reason_32 hX P hR hC hE _ _ _ _ _ _ h).forget ⟨rfl, rfl, rfl, rfl, trivial⟩
  · replace h := h.2 c
    refine a_iconst (pc := 27) hC dX10_reason_27 (v := 1) rfl ?_
    refine a_goto (pc := 28) (tgt := 32) hC dX10_reason_28 (by decide) ?_
    exact (tJX10_reason_32 hX P hR hC hE _ _ _ _ _ _ h).forget ⟨rfl, rfl, rfl, rfl, trivial⟩
set_option maxRecDepth 20000 in
theorem t_X10_reason {l : Launch} {g : aG} (hX : isM g) (hl : l.stackTraces = false) (x1 : Int32) (x2 : Int32) (q : aS) (P : Int32 → aS → Prop) (h : w_X10_reason x1 x2 q P) : aMi l g yX10_reason (aWs yX10_reason cX10_reason 4 (some .int)) 1 0 0 [.ref (gAd g 0), .int x1, .int x2] q P (fun _ _ => False) := by
  refine aMi_of RX10 ⟨by decide +kernel, rfl⟩ (cat_all rfl) (Nat.le_of_ble_eq_true rfl) hl hX.cl (fun f hR hC hE => ?_)
  show AW f g 0 [some (.ref (gAd g 0)), some (.int x1), some (.int x2), none] [] q 0 0
  unfold w_X10_reason at h
  refine a_iload_n (pc := 0) hC dX10_reason_0 rfl ?_
  refine a_if_ne (pc := 1) (tgt := 11) hC dX10_reason_1 (by decide) (fun c => ?_) (fun c => ?_)
  · replace h := h.1 c
    refine a_aload_n (pc := 11) hC dX10_reason_11 rfl ?_
    refine a_get (pc := 12) hC cl_X10 (oM_0 hX) 8 (by decide) tw_1512 rfl dX10_reason_12 ?_
    exact (tJX10_reason_15 hX P hR hC hE _ _ _ _ h).forget ⟨rfl, rfl, rfl, trivial⟩
  · replace h := h.2 c
    refine a_aload_n (pc := 4) hC dX10_reason_4 rfl ?_
    refine a_get (pc := 5) hC cl_X10 (oM_0 hX) 6 (by decide) tw_1510 rfl dX10_reason_5 ?_
    refine a_goto (pc := 8) (tgt := 15) hC dX10_reason_8 (by decide) ?_
    exact (tJX10_reason_15 hX P hR hC hE _ _ _ _ h).forget ⟨rfl, rfl, rfl, trivial⟩
set_option maxRecDepth 20000 in
theorem tJX10_undo_13 {f : aF} {g : aG} (hX : isM g) (P : Int32 → aS → Prop) (hR : f_R f = aR 1 0 0) (hC : aOK f g cX10_undo 1 RX10) (hE : aEi f g .int P (fun _ _ => False) 0 0) (s0 : Int32) (q : aS) (h : JX10_undo_13 s0 P q) : AW f g 13 [some (.ref (gAd g 0))] [.int s0, .ref (gAd g 0)] q 0 0 := by
  unfold JX10_undo_13 at h
  refine a_put (pc := 13) hC cl_X10 (oM_0 hX) 15 (by decide) tw_1519 tyX10 tyX10_ok rfl rfl rfl (Nat.le_of_ble_eq_true rfl) rfl dX10_undo_13 ?_
  replace h := h _ rfl
  refine a_aload_n (pc := 16) hC dX10_undo_16 rfl ?_
  refine a_get (pc := 17) hC cl_X10 (oM_0 hX) 5 (by decide) tw_1509 rfl dX10_undo_17 ?_
  refine a_if_le (pc := 20) (tgt := 52) hC dX10_undo_20 (by decide) (fun c => ?_) (fun c => ?_)
  · replace h := h.1 c
    refine a_aload_n (pc := 52) hC dX10_undo_52 rfl ?_
    refine a_get (pc := 53) hC cl_X10 (oM_0 hX) 5 (by decide) tw_1509 rfl dX10_undo_53 ?_
    exact a_iret (pc := 56) hC hE h (Nat.le_of_ble_eq_true rfl) (Nat.le_of_ble_eq_true rfl) dX10_undo_56
  · replace h := h.2 c
    refine a_aload_n (pc := 23) hC dX10_undo_23 rfl ?_
    refine a_dup (pc := 24) hC dX10_undo_24 rfl ?_
    refine a_get (pc := 25) hC cl_X10 (oM_0 hX) 5 (by decide) tw_1509 rfl dX10_undo_25 ?_
    refine a_iconst (pc := 28) hC dX10_undo_28 (v := 1) rfl ?_
    refine a_isub (pc := 29) hC dX10_undo_29 ?_
    refine a_put (pc := 30) hC cl_X10 (oM_0 hX) 5 (by decide) tw_1509 tyX10 tyX10_ok rfl rfl rfl (Nat.le_of_ble_eq_true rfl) rfl dX10_undo_30 ?_
    replace h := h _ rfl
    refine a_aload_n (pc := 33) hC dX10_undo_33 rfl ?_
    refine a_get (pc := 34) hC cl_X10 (oM_0 hX) 3 (by decide) tw_1507 rfl dX10_undo_34 ?_
    refine a_aload_n (pc := 37) hC dX10_undo_37 rfl ?_
    refine a_get (pc := 38) hC cl_X10 (oM_0 hX) 5 (by decide) tw_1509 rfl dX10_undo_38 ?_
    refine a_bipush (pc := 41) hC dX10_undo_41 (v := 97) rfl ?_
    refine a_imul (pc := 43) hC dX10_undo_43 ?_
    refine a_aload_n (pc := 44) hC dX10_undo_44 rfl ?_
    refine a_get (pc := 45) hC cl_X10 (oM_0 hX) 0 (by decide) tw_1504 rfl dX10_undo_45 ?_
    refine a_iconst (pc := 48) hC dX10_undo_48 (v := 0) rfl ?_
    refine a_callSv (pc := 49) hC hR sm_X10_copies tw_1593 ⟨(Nat.le_of_ble_eq_true rfl), (Nat.le_of_ble_eq_true rfl), (Nat.le_of_ble_eq_true rfl), (Nat.le_of_ble_eq_true rfl)⟩ dX10_undo_49 (t_X10_copies hX _ _ _ _ (oM_4 hX) (oM_1 hX) hC.tr _ _ _ _ h) rfl rfl rfl (Nat.le_of_ble_eq_true rfl) (fun q4 h => ?_)
    refine a_aload_n (pc := 52) hC dX10_undo_52 rfl ?_
    refine a_get (pc := 53) hC cl_X10 (oM_0 hX) 5 (by decide) tw_1509 rfl dX10_undo_53 ?_
    exact a_iret (pc := 56) hC hE h (Nat.le_of_ble_eq_true rfl) (Nat.le_of_ble_eq_true rfl) dX10_undo_56
set_option maxRecDepth 20000 in
theorem t_X10_undo {l : Launch} {g : aG} (hX : isM g) (hl : l.stackTraces = false) (q : aS) (P : Int32 → aS → Prop) (h : w_X10_undo q P) : aMi l g yX10_undo (aWs yX10_undo cX10_undo 1 (some .int)) 1 0 0 [.ref (gAd g 0)] q P (fun _ _ => False) := by
  refine aMi_of RX10 ⟨by decide +kernel, rfl⟩ (cat_all rfl) (Nat.le_of_ble_eq_true rfl) hl hX.cl (fun f hR hC hE => ?_)
  show AW f g 0 [some (.ref (gAd g 0))] [] q 0 0
  unfold w_X10_undo at h
  refine a_aload_n (pc := 0) hC dX10_undo_0 rfl ?_
  refine a_aload_n (pc := 1) hC dX10_undo_1 rfl ?_
  refine a_get (pc := 2) hC cl_X10 (oM_0 hX) 5 (by decide) tw_1509 rfl dX10_undo_2 ?_
  refine a_if_ne (pc := 5) (tgt := 12) hC dX10_undo_5 (by decide) (fun c => ?_) (fun c => ?_)
  · replace h := h.1 c
    refine a_iconst (pc := 12) hC dX10_undo_12 (v := 0) rfl ?_
    exact (tJX10_undo_13 hX P hR hC hE _ _ h).forget ⟨rfl, trivial⟩
  · replace h := h.2 c
    refine a_iconst (pc := 8) hC dX10_undo_8 (v := 1) rfl ?_
    refine a_goto (pc := 9) (tgt := 13) hC dX10_undo_9 (by decide) ?_
    exact (tJX10_undo_13 hX P hR hC hE _ _ h).forget ⟨rfl, trivial⟩
set_option maxRecDepth 20000 in
theorem t_X10_save {l : Launch} {g : aG} (hX : isM g) (hl : l.stackTraces = false) (q : aS) (P : Int32 → aS → Prop) (h : w_X10_save q P) : aMi l g yX10_save (aWs yX10_save cX10_save 1 (some .int)) 1 0 0 [.ref (gAd g 0)] q P (fun _ _ => False) := by
  refine aMi_of RX10 ⟨by decide +kernel, rfl⟩ (cat_all rfl) (Nat.le_of_ble_eq_true rfl) hl hX.cl (fun f hR hC hE => ?_)
  show AW f g 0 [some (.ref (gAd g 0))] [] q 0 0
  unfold w_X10_save at h
  refine a_aload_n (pc := 0) hC dX10_save_0 rfl ?_
  refine a_iconst (pc := 1) hC dX10_save_1 (v := 0) rfl ?_
  refine a_put (pc := 2) hC cl_X10 (oM_0 hX) 15 (by decide) tw_1519 tyX10 tyX10_ok rfl rfl rfl (Nat.le_of_ble_eq_true rfl) rfl dX10_save_2 ?_
  replace h := h _ rfl
  refine a_aload_n (pc := 5) hC dX10_save_5 rfl ?_
  refine a_get (pc := 6) hC cl_X10 (oM_0 hX) 0 (by decide) tw_1504 rfl dX10_save_6 ?_
  refine a_iconst (pc := 9) hC dX10_save_9 (v := 0) rfl ?_
  refine a_aload_n (pc := 10) hC dX10_save_10 rfl ?_
  refine a_get (pc := 11) hC cl_X10 (oM_0 hX) 2 (by decide) tw_1506 rfl dX10_save_11 ?_
  refine a_iconst (pc := 14) hC dX10_save_14 (v := 0) rfl ?_
  refine a_callSv (pc := 15) hC hR sm_X10_copies tw_1593 ⟨(Nat.le_of_ble_eq_true rfl), (Nat.le_of_ble_eq_true rfl), (Nat.le_of_ble_eq_true rfl), (Nat.le_of_ble_eq_true rfl)⟩ dX10_save_15 (t_X10_copies hX _ _ _ _ (oM_1 hX) (oM_3 hX) hC.tr _ _ _ _ h) rfl rfl rfl (Nat.le_of_ble_eq_true rfl) (fun q3 h => ?_)
  refine a_aload_n (pc := 18) hC dX10_save_18 rfl ?_
  refine a_iconst (pc := 19) hC dX10_save_19 (v := 1) rfl ?_
  refine a_put (pc := 20) hC cl_X10 (oM_0 hX) 4 (by decide) tw_1508 tyX10 tyX10_ok rfl (by decide) (by decide) (Nat.le_of_ble_eq_true rfl) rfl dX10_save_20 ?_
  replace h := h _ rfl
  refine a_aload_n (pc := 23) hC dX10_save_23 rfl ?_
  refine a_get (pc := 24) hC cl_X10 (oM_0 hX) 0 (by decide) tw_1504 rfl dX10_save_24 ?_
  refine a_iconst (pc := 27) hC dX10_save_27 (v := 1) rfl ?_
  refine a_iald (pc := 28) hC (oM_1 hX) h.1 dX10_save_28 ?_
  replace h := h.2
  exact a_iret (pc := 29) hC hE h (Nat.le_of_ble_eq_true rfl) (Nat.le_of_ble_eq_true rfl) dX10_save_29
set_option maxRecDepth 20000 in
theorem tJX10_restore_41 {f : aF} {g : aG} (hX : isM g) (P : Int32 → aS → Prop) (hR : f_R f = aR 1 0 0) (hC : aOK f g cX10_restore 1 RX10) (hE : aEi f g .int P (fun _ _ => False) 0 0) (q : aS) (h : JX10_restore_41 P q) : AW f g 41 [some (.ref (gAd g 0))] [] q 0 0 := by
  unfold JX10_restore_41 at h
  refine a_aload_n (pc := 41) hC dX10_restore_41 rfl ?_
  refine a_get (pc := 42) hC cl_X10 (oM_0 hX) 4 (by decide) tw_1508 rfl dX10_restore_42 ?_
  refine a_if_eq (pc := 45) (tgt := 57) hC dX10_restore_45 (by decide) (fun c => ?_) (fun c => ?_)
  · replace h := h.1 c
    refine a_iconst (pc := 57) hC dX10_restore_57 (v := 0) rfl ?_
    exact a_iret (pc := 58) hC hE h (Nat.le_of_ble_eq_true rfl) (Nat.le_of_ble_eq_true rfl) dX10_restore_58
  · replace h := h.2 c
    refine a_aload_n (pc := 48) hC dX10_restore_48 rfl ?_
    refine a_get (pc := 49) hC cl_X10 (oM_0 hX) 0 (by decide) tw_1504 rfl dX10_restore_49 ?_
    refine a_iconst (pc := 52) hC dX10_restore_52 (v := 1) rfl ?_
    refine a_iald (pc := 53) hC (oM_1 hX) h.1 dX10_restore_53 ?_
    replace h := h.2
    refine a_goto (pc := 54) (tgt := 58) hC dX10_restore_54 (by decide) ?_
    exact a_iret (pc := 58) hC hE h (Nat.le_of_ble_eq_true rfl) (Nat.le_of_ble_eq_true rfl) dX10_restore_58
set_option maxRecDepth 20000 in
theorem tJX10_restore_13 {f : aF} {g : aG} (hX : isM g) (P : Int32 → aS → Prop) (hR : f_R f = aR 1 0 0) (hC : aOK f g cX10_restore 1 RX10) (hE : aEi f g .int P (fun _ _ => False) 0 0) (s0 : Int32) (q : aS) (h : JX10_restore_13 s0 P q) : AW f g 13 [some (.ref (gAd g 0))] [.int s0, .ref (gAd g 0)] q 0 0 := by
  unfold JX10_restore_13 at h
  refine a_put (pc := 13) hC cl_X10 (oM_0 hX) 15 (by decide) tw_1519 tyX10 tyX10_ok rfl rfl rfl (Nat.le_of_ble_eq_true rfl) rfl dX10_restore_13 ?_
  replace h := h _ rfl
  refine a_aload_n (pc := 16) hC dX10_restore_16 rfl ?_
  refine a_get (pc := 17) hC cl_X10 (oM_0 hX) 4 (by decide) tw_1508 rfl dX10_restore_17 ?_
  refine a_if_eq (pc := 20) (tgt := 41) hC dX10_restore_20 (by decide) (fun c => ?_) (fun c => ?_)
  · replace h := h.1 c
    exact (tJX10_restore_41 hX P hR hC hE _ h).forget ⟨rfl, trivial⟩
  · replace h := h.2 c
    refine a_aload_n (pc := 23) hC dX10_restore_23 rfl ?_
    refine a_get (pc := 24) hC cl_X10 (oM_0 hX) 2 (by decide) tw_1506 rfl dX10_restore_24 ?_
    refine a_iconst (pc := 27) hC dX10_restore_27 (v := 0) rfl ?_
    refine a_aload_n (pc := 28) hC dX10_restore_28 rfl ?_
    refine a_get (pc := 29) hC cl_X10 (oM_0 hX) 0 (by decide) tw_1504 rfl dX10_restore_29 ?_
    refine a_iconst (pc := 32) hC dX10_restore_32 (v := 0) rfl ?_
    refine a_callSv (pc := 33) hC hR sm_X10_copies tw_1593 ⟨(Nat.le_of_ble_eq_true rfl), (Nat.le_of_ble_eq_true rfl), (Nat.le_of_ble_eq_true rfl), (Nat.le_of_ble_eq_true rfl)⟩ dX10_restore_33 (t_X10_copies hX _ _ _ _ (oM_3 hX) (oM_1 hX) hC.tr _ _ _ _ h) rfl rfl rfl (Nat.le_of_ble_eq_true rfl) (fun q3 h => ?_)
    refine a_aload_n (pc := 36) hC dX10_restore_36 rfl ?_
    refine a_iconst (pc := 37) hC dX10_restore_37 (v := 0) rfl ?_
    refine a_put (pc := 38) hC cl_X10 (oM_0 hX) 5 (by decide) tw_1509 tyX10 tyX10_ok rfl rfl rfl (Nat.le_of_ble_eq_true rfl) rfl dX10_restore_38 ?_
    replace h := h _ rfl
    exact (tJX10_restore_41 hX P hR hC hE _ h).forget ⟨rfl, trivial⟩
set_option maxRecDepth 20000 in
theorem t_X10_restore {l : Launch} {g : aG} (hX : isM g) (hl : l.stackTraces = false) (q : aS) (P : Int32 → aS → Prop) (h : w_X10_restore q P) : aMi l g yX10_restore (aWs yX10_restore cX10_restore 1 (some .int)) 1 0 0 [.ref (gAd g 0)] q P (fun _ _ => False) := by
  refine aMi_of RX10 ⟨by decide +kernel, rfl⟩ (cat_all rfl) (Nat.le_of_ble_eq_true rfl) hl hX.cl (fun f hR hC hE => ?_)
  show AW f g 0 [some (.ref (gAd g 0))] [] q 0 0
  unfold w_X10_restore at h
  refine a_aload_n (pc := 0) hC dX10_restore_0 rfl ?_
  refine a_aload_n (pc := 1) hC dX10_restore_1 rfl ?_
  refine a_get (pc := 2) hC cl_X10 (oM_0 hX) 4 (by decide) tw_1508 rfl dX10_restore_2 ?_
  refine a_if_eq (pc := 5) (tgt := 12) hC dX10_restore_5 (by decide) (fun c => ?_) (fun c => ?_)
  · replace h := h.1 c
    refine a_iconst (pc := 12) hC dX10_restore_12 (v := 1) rfl ?_
    exact (tJX10_restore_13 hX P hR hC hE _ _ h).forget ⟨rfl, trivial⟩
  · replace h := h.2 c
    refine a_iconst (pc := 8) hC dX10_restore_8 (v := 0) rfl ?_
    refine a_goto (pc := 9) (tgt := 13) hC dX10_restore_9 (by decide) ?_
    exact (tJX10_restore_13 hX P hR hC hE _ _ h).forget ⟨rfl, trivial⟩
set_option maxRecDepth 20000 in
theorem t_X10_roomAt {l : Launch} {g : aG} (hX : isM g) (hl : l.stackTraces = false) (x1 : Int32) (q : aS) (P : Int32 → aS → Prop) (h : w_X10_roomAt x1 q P) : aMi l g yX10_roomAt (aWs yX10_roomAt cX10_roomAt 1 (some .int)) 0 0 0 [.int x1] q P (fun _ _ => False) := by
  refine aMi_of RX10 ⟨by decide +kernel, rfl⟩ (cat_all rfl) (Nat.le_of_ble_eq_true rfl) hl hX.cl (fun f hR hC hE => ?_)
  show AW f g 0 [some (.int x1)] [] q 0 0
  unfold w_X10_roomAt at h
  refine a_bipush (pc := 0) hC dX10_roomAt_0 (v := 9) rfl ?_
  refine a_iconst (pc := 2) hC dX10_roomAt_2 (v := 3) rfl ?_
  refine a_iload_n (pc := 3) hC dX10_roomAt_3 rfl ?_
  refine a_imul (pc := 4) hC dX10_roomAt_4 ?_
  refine a_iadd (pc := 5) hC dX10_roomAt_5 ?_
  exact a_iret (pc := 6) hC hE h (Nat.le_of_ble_eq_true rfl) (Nat.le_of_ble_eq_true rfl) dX10_roomAt_6
set_option maxRecDepth 20000 in
theorem t_X10_echoAt {l : Launch} {g : aG} (hX : isM g) (hl : l.stackTraces = false) (x1 : Int32) (q : aS) (P : Int32 → aS → Prop) (h : w_X10_echoAt x1 q P) : aMi l g yX10_echoAt (aWs yX10_echoAt cX10_echoAt 1 (some .int)) 0 0 0 [.int x1] q P (fun _ _ => False) := by
  refine aMi_of RX10 ⟨by decide +kernel, rfl⟩ (cat_all rfl) (Nat.le_of_ble_eq_true rfl) hl hX.cl (fun f hR hC hE => ?_)
  show AW f g 0 [some (.int x1)] [] q 0 0
  unfold w_X10_echoAt at h
  refine a_bipush (pc := 0) hC dX10_echoAt_0 (v := 27) rfl ?_
  refine a_iconst (pc := 2) hC dX10_echoAt_2 (v := 5) rfl ?_
  refine a_iload_n (pc := 3) hC dX10_echoAt_3 rfl ?_
  refine a_imul (pc := 4) hC dX10_echoAt_4 ?_
  refine a_iadd (pc := 5) hC dX10_echoAt_5 ?_
  exact a_iret (pc := 6) hC hE h (Nat.le_of_ble_eq_true rfl) (Nat.le_of_ble_eq_true rfl) dX10_echoAt_6
set_option maxRecDepth 20000 in
theorem t_X10_singerAt {l : Launch} {g : aG} (hX : isM g) (hl : l.stackTraces = false) (x1 : Int32) (q : aS) (P : Int32 → aS → Prop) (h : w_X10_singerAt x1 q P) : aMi l g yX10_singerAt (aWs yX10_singerAt cX10_singerAt 1 (some .int)) 0 0 0 [.int x1] q P (fun _ _ => False) := by
  refine aMi_of RX10 ⟨by decide +kernel, rfl⟩ (cat_all rfl) (Nat.le_of_ble_eq_true rfl) hl hX.cl (fun f hR hC hE => ?_)
  show AW f g 0 [some (.int x1)] [] q 0 0
  unfold w_X10_singerAt at h
  refine a_bipush (pc := 0) hC dX10_singerAt_0 (v := 67) rfl ?_
  refine a_iconst (pc := 2) hC dX10_singerAt_2 (v := 5) rfl ?_
  refine a_iload_n (pc := 3) hC dX10_singerAt_3 rfl ?_
  refine a_imul (pc := 4) hC dX10_singerAt_4 ?_
  refine a_iadd (pc := 5) hC dX10_singerAt_5 ?_
  exact a_iret (pc := 6) hC hE h (Nat.le_of_ble_eq_true rfl) (Nat.le_of_ble_eq_true rfl) dX10_singerAt_6
set_option maxRecDepth 20000 in
theorem t_X10_isRoom {l : Launch} {g : aG} (hX : isM g) (hl : l.stackTraces = false) (x1 : Int32) (q : aS) (P : Int32 → aS → Prop) (h : w_X10_isRoom x1 q P) : aMi l g yX10_isRoom (aWs yX10_isRoom cX10_isRoom 2 (some .boolean)) 1 0 0 [.ref (gAd g 0), .int x1] q (fun r u => (r = 0 ∨ r = 1) ∧ P r u) (fun _ _ => False) := by
  refine aMi_of RX10 ⟨by decide +kernel, rfl⟩ (cat_all rfl) (Nat.le_of_ble_eq_true rfl) hl hX.cl (fun f hR hC hE => ?_)
  show AW f g 0 [some (.ref (gAd g 0)), some (.int x1)] [] q 0 0
  unfold w_X10_isRoom at h
  refine a_iload_n (pc := 0) hC dX10_isRoom_0 rfl ?_
  refine a_iconst (pc := 1) hC dX10_isRoom_1 (v := 0) rfl ?_
  refine a_aload_n (pc := 2) hC dX10_isRoom_2 rfl ?_
  refine a_get (pc := 3) hC cl_X10 (oM_0 hX) 0 (by decide) tw_1504 rfl dX10_isRoom_3 ?_
  refine a_iconst (pc := 6) hC dX10_isRoom_6 (v := 0) rfl ?_
  refine a_iald (pc := 7) hC (oM_1 hX) h.1 dX10_isRoom_7 ?_
  replace h := h.2
  refine a_iconst (pc := 8) hC dX10_isRoom_8 (v := 1) rfl ?_
  refine a_isub (pc := 9) hC dX10_isRoom_9 ?_
  refine a_callS (pc := 10) hC hR sm_X10_isIn tw_1582 ⟨(Nat.le_of_ble_eq_true rfl), (Nat.le_of_ble_eq_true rfl), (Nat.le_of_ble_eq_true rfl), (Nat.le_of_ble_eq_true rfl)⟩ dX10_isRoom_10 (t_X10_isIn hX hC.tr _ _ _ _ _ h) rfl rfl rfl (Nat.le_of_ble_eq_true rfl) (fun r2 q3 h => ?_)
  have z_r2 := h.1
  replace h := h.2
  exact a_bret (pc := 13) hC hE z_r2 h (Nat.le_of_ble_eq_true rfl) (Nat.le_of_ble_eq_true rfl) dX10_isRoom_13
set_option maxRecDepth 20000 in
theorem t_X10_isEcho {l : Launch} {g : aG} (hX : isM g) (hl : l.stackTraces = false) (x1 : Int32) (q : aS) (P : Int32 → aS → Prop) (h : w_X10_isEcho x1 q P) : aMi l g yX10_isEcho (aWs yX10_isEcho cX10_isEcho 2 (some .boolean)) 1 0 0 [.ref (gAd g 0), .int x1] q (fun r u => (r = 0 ∨ r = 1) ∧ P r u) (fun _ _ => False) := by
  refine aMi_of RX10 ⟨by decide +kernel, rfl⟩ (cat_all rfl) (Nat.le_of_ble_eq_true rfl) hl hX.cl (fun f hR hC hE => ?_)
  show AW f g 0 [some (.ref (gAd g 0)), some (.int x1)] [] q 0 0
  unfold w_X10_isEcho at h
  refine a_iload_n (pc := 0) hC dX10_isEcho_0 rfl ?_
  refine a_iconst (pc := 1) hC dX10_isEcho_1 (v := 0) rfl ?_
  refine a_aload_n (pc := 2) hC dX10_isEcho_2 rfl ?_
  refine a_get (pc := 3) hC cl_X10 (oM_0 hX) 0 (by decide) tw_1504 rfl dX10_isEcho_3 ?_
  refine a_iconst (pc := 6) hC dX10_isEcho_6 (v := 1) rfl ?_
  refine a_iald (pc := 7) hC (oM_1 hX) h.1 dX10_isEcho_7 ?_
  replace h := h.2
  refine a_iconst (pc := 8) hC dX10_isEcho_8 (v := 1) rfl ?_
  refine a_isub (pc := 9) hC dX10_isEcho_9 ?_
  refine a_callS (pc := 10) hC hR sm_X10_isIn tw_1582 ⟨(Nat.le_of_ble_eq_true rfl), (Nat.le_of_ble_eq_true rfl), (Nat.le_of_ble_eq_true rfl), (Nat.le_of_ble_eq_true rfl)⟩ dX10_isEcho_10 (t_X10_isIn hX hC.tr _ _ _ _ _ h) rfl rfl rfl (Nat.le_of_ble_eq_true rfl) (fun r2 q3 h => ?_)
  have z_r2 := h.1
  replace h := h.2
  exact a_bret (pc := 13) hC hE z_r2 h (Nat.le_of_ble_eq_true rfl) (Nat.le_of_ble_eq_true rfl) dX10_isEcho_13
set_option maxRecDepth 20000 in
theorem t_X10_isSinger {l : Launch} {g : aG} (hX : isM g) (hl : l.stackTraces = false) (x1 : Int32) (q : aS) (P : Int32 → aS → Prop) (h : w_X10_isSinger x1 q P) : aMi l g yX10_isSinger (aWs yX10_isSinger cX10_isSinger 2 (some .boolean)) 1 0 0 [.ref (gAd g 0), .int x1] q (fun r u => (r = 0 ∨ r = 1) ∧ P r u) (fun _ _ => False) := by
  refine aMi_of RX10 ⟨by decide +kernel, rfl⟩ (cat_all rfl) (Nat.le_of_ble_eq_true rfl) hl hX.cl (fun f hR hC hE => ?_)
  show AW f g 0 [some (.ref (gAd g 0)), some (.int x1)] [] q 0 0
  unfold w_X10_isSinger at h
  refine a_iload_n (pc := 0) hC dX10_isSinger_0 rfl ?_
  refine a_iconst (pc := 1) hC dX10_isSinger_1 (v := 0) rfl ?_
  refine a_aload_n (pc := 2) hC dX10_isSinger_2 rfl ?_
  refine a_get (pc := 3) hC cl_X10 (oM_0 hX) 0 (by decide) tw_1504 rfl dX10_isSinger_3 ?_
  refine a_iconst (pc := 6) hC dX10_isSinger_6 (v := 2) rfl ?_
  refine a_iald (pc := 7) hC (oM_1 hX) h.1 dX10_isSinger_7 ?_
  replace h := h.2
  refine a_iconst (pc := 8) hC dX10_isSinger_8 (v := 1) rfl ?_
  refine a_isub (pc := 9) hC dX10_isSinger_9 ?_
  refine a_callS (pc := 10) hC hR sm_X10_isIn tw_1582 ⟨(Nat.le_of_ble_eq_true rfl), (Nat.le_of_ble_eq_true rfl), (Nat.le_of_ble_eq_true rfl), (Nat.le_of_ble_eq_true rfl)⟩ dX10_isSinger_10 (t_X10_isIn hX hC.tr _ _ _ _ _ h) rfl rfl rfl (Nat.le_of_ble_eq_true rfl) (fun r2 q3 h => ?_)
  have z_r2 := h.1
  replace h := h.2
  exact a_bret (pc := 13) hC hE z_r2 h (Nat.le_of_ble_eq_true rfl) (Nat.le_of_ble_eq_true rfl) dX10_isSinger_13
set_option maxRecDepth 20000 in
theorem tLX10_singersIn_4 {f : aF} {g : aG} (hX : isM g) (P : Int32 → aS → Prop) (hR : f_R f = aR 1 0 0) (hC : aOK f g cX10_singersIn 4 RX10) (hE : aEi f g .int P (fun _ _ => False) 0 0) (c1 : Int32) {K : Int32 → aS → Prop} (hK : ∀ (w2 : Int32) (q : aS), K w2 q → AW f g 45 [none, none, some (.int w2), none] [] q 0 0) : ∀ (N : Nat) (v2 : Int32) (v3 : Int32) (q : aS), LX10_singersIn_4 c1 P K N v2 v3 q → AW f g 4 [some (.ref (gAd g 0)), some (.int c1), some (.int v2), some (.int v3)] [] q 0 0 := by
  intro N
  induction N with
  | zero =>
    intro v2 v3 q h
    exact h.elim
  | succ N ih =>
    intro v2 v3 q h
    unfold LX10_singersIn_4 at h
    refine a_iload_n (pc := 4) hC dX10_singersIn_4 rfl ?_
    refine a_aload_n (pc := 5) hC dX10_singersIn_5 rfl ?_
    refine a_get (pc := 6) hC cl_X10 (oM_0 hX) 0 (by decide) tw_1504 rfl dX10_singersIn_6 ?_
    refine a_iconst (pc := 9) hC dX10_singersIn_9 (v := 2) rfl ?_
    refine a_iald (pc := 10) hC (oM_1 hX) h.1 dX10_singersIn_10 ?_
    replace h := h.2
    refine a_icmp_ge (pc := 11) (tgt := 45) hC dX10_singersIn_11 (by decide) (fun c => ?_) (fun c => ?_)
    · replace h := h.1 c
      exact (hK _ _ h).forget ⟨rfl, trivial⟩
    · replace h := h.2 c
      refine a_iload_n (pc := 14) hC dX10_singersIn_14 rfl ?_
      refine a_aload_n (pc := 15) hC dX10_singersIn_15 rfl ?_
      refine a_get (pc := 16) hC cl_X10 (oM_0 hX) 0 (by decide) tw_1504 rfl dX10_singersIn_16 ?_
      refine a_iload_n (pc := 19) hC dX10_singersIn_19 rfl ?_
      refine a_callS (pc := 20) hC hR sm_X10_singerAt tw_1658 ⟨(Nat.le_of_ble_eq_true rfl), (Nat.le_of_ble_eq_true rfl), (Nat.le_of_ble_eq_true rfl), (Nat.le_of_ble_eq_true rfl)⟩ dX10_singersIn_20 (t_X10_singerAt hX hC.tr _ _ _ h) rfl rfl rfl (Nat.le_of_ble_eq_true rfl) (fun r2 q3 h => ?_)
      refine a_iconst (pc := 23) hC dX10_singersIn_23 (v := 2) rfl ?_
      refine a_iadd (pc := 24) hC dX10_singersIn_24 ?_
      refine a_iald (pc := 25) hC (oM_1 hX) h.1 dX10_singersIn_25 ?_
      replace h := h.2
      refine a_iload_n (pc := 26) hC dX10_singersIn_26 rfl ?_
      refine a_icmp_ne (pc := 27) (tgt := 36) hC dX10_singersIn_27 (by decide) (fun c => ?_) (fun c => ?_)
      · replace h := h.1 c
        refine a_iconst (pc := 36) hC dX10_singersIn_36 (v := 0) rfl ?_
        refine a_ior (pc := 37) hC dX10_singersIn_37 ?_
        refine a_istore_n (pc := 38) hC dX10_singersIn_38 (Nat.le_of_ble_eq_true rfl) ?_
        replace h := h _ rfl
        refine a_iinc (pc := 39) hC dX10_singersIn_39 rfl (c := 1) rfl ?_
        replace h := h _ rfl
        refine a_goto (pc := 42) (tgt := 4) hC dX10_singersIn_42 (by decide) ?_
        exact (ih _ _ _ h).forget ⟨rfl, rfl, rfl, rfl, trivial⟩
      · replace h := h.2 c
        refine a_iconst (pc := 30) hC dX10_singersIn_30 (v := 1) rfl ?_
        refine a_iload_n (pc := 31) hC dX10_singersIn_31 rfl ?_
        refine a_ishl (pc := 32) hC dX10_singersIn_32 ?_
        refine a_goto (pc := 33) (tgt := 37) hC dX10_singersIn_33 (by decide) ?_
        refine a_ior (pc := 37) hC dX10_singersIn_37 ?_
        refine a_istore_n (pc := 38) hC dX10_singersIn_38 (Nat.le_of_ble_eq_true rfl) ?_
        replace h := h _ rfl
        refine a_iinc (pc := 39) hC dX10_singersIn_39 rfl (c := 1) rfl ?_
        replace h := h _ rfl
        refine a_goto (pc := 42) (tgt := 4) hC dX10_singersIn_42 (by decide) ?_
        exact (ih _ _ _ h).forget ⟨rfl, rfl, rfl, rfl, trivial⟩
set_option maxRecDepth 20000 in
theorem t_X10_singersIn {l : Launch} {g : aG} (hX : isM g) (hl : l.stackTraces = false) (x1 : Int32) (q : aS) (P : Int32 → aS → Prop) (h : w_X10_singersIn x1 q P) : aMi l g yX10_singersIn (aWs yX10_singersIn cX10_singersIn 4 (some .int)) 1 0 0 [.ref (gAd g 0), .int x1] q P (fun _ _ => False) := by
  refine aMi_of RX10 ⟨by decide +kernel, rfl⟩ (cat_all rfl) (Nat.le_of_ble_eq_true rfl) hl hX.cl (fun f hR hC hE => ?_)
  show AW f g 0 [some (.ref (gAd g 0)), some (.int x1), none, none] [] q 0 0
  unfold w_X10_singersIn at h
  refine a_iconst (pc := 0) hC dX10_singersIn_0 (v := 0) rfl ?_
  refine a_istore_n (pc := 1) hC dX10_singersIn_1 (Nat.le_of_ble_eq_true rfl) ?_
  refine a_iconst (pc := 2) hC dX10_singersIn_2 (v := 0) rfl ?_
  refine a_istore_n (pc := 3) hC dX10_singersIn_3 (Nat.le_of_ble_eq_true rfl) ?_
  obtain ⟨N, h⟩ := h
  refine (tLX10_singersIn_4 hX P hR hC hE _ (fun y8 q9 h => ?_) N _ _ _ h).forget ⟨rfl, rfl, rfl, rfl, trivial⟩
  refine a_iload_n (pc := 45) hC dX10_singersIn_45 rfl ?_
  exact a_iret (pc := 46) hC hE h (Nat.le_of_ble_eq_true rfl) (Nat.le_of_ble_eq_true rfl) dX10_singersIn_46
set_option maxRecDepth 20000 in
theorem tJX10_echoesIn_57 {f : aF} {g : aG} (hX : isM g) (P : Int32 → aS → Prop) (hR : f_R f = aR 1 0 0) (hC : aOK f g cX10_echoesIn 6 RX10) (hE : aEi f g .int P (fun _ _ => False) 0 0) (c1 : Int32) (c2 : Int32) (j3 : Int32) (j4 : Int32) (s0 : Int32) (B : Int32 → Int32 → aS → Prop) (K : Int32 → aS → Prop) (hB : ∀ (w3 : Int32) (w4 : Int32) (q : aS), B w3 w4 q → AW f g 5 [some (.ref (gAd g 0)), some (.int c1), some (.int c2), some (.int w3), some (.int w4), none] [] q 0 0) (hK : ∀ (w3 : Int32) (q : aS), K w3 q → AW f g 81 [none, none, none, some (.int w3), none, none] [] q 0 0) (q : aS) (h : JX10_echoesIn_57 c1 c2 j3 j4 s0 P B K q) : AW f g 57 [some (.ref (gAd g 0)), some (.int c1), some (.int c2), some (.int j3), some (.int j4), none] [.int s0] q 0 0 := by
  unfold JX10_echoesIn_57 at h
  refine a_istore (pc := 57) hC dX10_echoesIn_57 (Nat.le_of_ble_eq_true rfl) ?_
  refine a_iload_n (pc := 59) hC dX10_echoesIn_59 rfl ?_
  refine a_iload (pc := 60) hC dX10_echoesIn_60 rfl ?_
  refine a_if_eq (pc := 62) (tgt := 72) hC dX10_echoesIn_62 (by decide) (fun c => ?_) (fun c => ?_)
  · replace h := h.1 c
    refine a_iconst (pc := 72) hC dX10_echoesIn_72 (v := 0) rfl ?_
    refine a_ior (pc := 73) hC dX10_echoesIn_73 ?_
    refine a_istore_n (pc := 74) hC dX10_echoesIn_74 (Nat.le_of_ble_eq_true rfl) ?_
    replace h := h _ rfl
    refine a_iinc (pc := 75) hC dX10_echoesIn_75 rfl (c := 1) rfl ?_
    replace h := h _ rfl
    refine a_goto (pc := 78) (tgt := 5) hC dX10_echoesIn_78 (by decide) ?_
    exact (hB _ _ _ h).forget ⟨rfl, rfl, rfl, rfl, rfl, trivial⟩
  · replace h := h.2 c
    refine a_iconst (pc := 65) hC dX10_echoesIn_65 (v := 1) rfl ?_
    refine a_iload (pc := 66) hC dX10_echoesIn_66 rfl ?_
    refine a_ishl (pc := 68) hC dX10_echoesIn_68 ?_
    refine a_goto (pc := 69) (tgt := 73) hC dX10_echoesIn_69 (by decide) ?_
    refine a_ior (pc := 73) hC dX10_echoesIn_73 ?_
    refine a_istore_n (pc := 74) hC dX10_echoesIn_74 (Nat.le_of_ble_eq_true rfl) ?_
    replace h := h _ rfl
    refine a_iinc (pc := 75) hC dX10_echoesIn_75 rfl (c := 1) rfl ?_
    replace h := h _ rfl
    refine a_goto (pc := 78) (tgt := 5) hC dX10_echoesIn_78 (by decide) ?_
    exact (hB _ _ _ h).forget ⟨rfl, rfl, rfl, rfl, rfl, trivial⟩
set_option maxRecDepth 20000 in
theorem tJX10_echoesIn_56 {f : aF} {g : aG} (hX : isM g) (P : Int32 → aS → Prop) (hR : f_R f = aR 1 0 0) (hC : aOK f g cX10_echoesIn 6 RX10) (hE : aEi f g .int P (fun _ _ => False) 0 0) (c1 : Int32) (c2 : Int32) (j3 : Int32) (j4 : Int32) (B : Int32 → Int32 → aS → Prop) (K : Int32 → aS → Prop) (hB : ∀ (w3 : Int32) (w4 : Int32) (q : aS), B w3 w4 q → AW f g 5 [some (.ref (gAd g 0)), some (.int c1), some (.int c2), some (.int w3), some (.int w4), none] [] q 0 0) (hK : ∀ (w3 : Int32) (q : aS), K w3 q → AW f g 81 [none, none, none, some (.int w3), none, none] [] q 0 0) (q : aS) (h : JX10_echoesIn_56 c1 c2 j3 j4 P B K q) : AW f g 56 [some (.ref (gAd g 0)), some (.int c1), some (.int c2), some (.int j3), some (.int j4), none] [] q 0 0 := by
  unfold JX10_echoesIn_56 at h
  refine a_iconst (pc := 56) hC dX10_echoesIn_56 (v := 0) rfl ?_
  exact (tJX10_echoesIn_57 hX P hR hC hE _ _ _ _ _ _ _ hB hK _ h).forget ⟨rfl, rfl, rfl, rfl, rfl, trivial⟩
set_option maxRecDepth 20000 in
theorem tJX10_echoesIn_52 {f : aF} {g : aG} (hX : isM g) (P : Int32 → aS → Prop) (hR : f_R f = aR 1 0 0) (hC : aOK f g cX10_echoesIn 6 RX10) (hE : aEi f g .int P (fun _ _ => False) 0 0) (c1 : Int32) (c2 : Int32) (j3 : Int32) (j4 : Int32) (B : Int32 → Int32 → aS → Prop) (K : Int32 → aS → Prop) (hB : ∀ (w3 : Int32) (w4 : Int32) (q : aS), B w3 w4 q → AW f g 5 [some (.ref (gAd g 0)), some (.int c1), some (.int c2), some (.int w3), some (.int w4), none] [] q 0 0) (hK : ∀ (w3 : Int32) (q : aS), K w3 q → AW f g 81 [none, none, none, some (.int w3), none, none] [] q 0 0) (q : aS) (h : JX10_echoesIn_52 c1 c2 j3 j4 P B K q) : AW f g 52 [some (.ref (gAd g 0)), some (.int c1), some (.int c2), some (.int j3), some (.int j4), none] [] q 0 0 := by
  unfold JX10_echoesIn_52 at h
  refine a_iconst (pc := 52) hC dX10_echoesIn_52 (v := 1) rfl ?_
  refine a_goto (pc := 53) (tgt := 57) hC dX10_echoesIn_53 (by decide) ?_
  exact (tJX10_echoesIn_57 hX P hR hC hE _ _ _ _ _ _ _ hB hK _ h).forget ⟨rfl, rfl, rfl, rfl, rfl, trivial⟩
set_option maxRecDepth 20000 in
theorem tLX10_echoesIn_5 {f : aF} {g : aG} (hX : isM g) (P : Int32 → aS → Prop) (hR : f_R f = aR 1 0 0) (hC : aOK f g cX10_echoesIn 6 RX10) (hE : aEi f g .int P (fun _ _ => False) 0 0) (c1 : Int32) (c2 : Int32) {K : Int32 → aS → Prop} (hK : ∀ (w3 : Int32) (q : aS), K w3 q → AW f g 81 [none, none, none, some (.int w3), none, none] [] q 0 0) : ∀ (N : Nat) (v3 : Int32) (v4 : Int32) (q : aS), LX10_echoesIn_5 c1 c2 P K N v3 v4 q → AW f g 5 [some (.ref (gAd g 0)), some (.int c1), some (.int c2), some (.int v3), some (.int v4), none] [] q 0 0 := by
  intro N
  induction N with
  | zero =>
    intro v3 v4 q h
    exact h.elim
  | succ N ih =>
    intro v3 v4 q h
    unfold LX10_echoesIn_5 at h
    refine a_iload (pc := 5) hC dX10_echoesIn_5 rfl ?_
    refine a_aload_n (pc := 7) hC dX10_echoesIn_7 rfl ?_
    refine a_get (pc := 8) hC cl_X10 (oM_0 hX) 0 (by decide) tw_1504 rfl dX10_echoesIn_8 ?_
    refine a_iconst (pc := 11) hC dX10_echoesIn_11 (v := 1) rfl ?_
    refine a_iald (pc := 12) hC (oM_1 hX) h.1 dX10_echoesIn_12 ?_
    replace h := h.2
    refine a_icmp_ge (pc := 13) (tgt := 81) hC dX10_echoesIn_13 (by decide) (fun c => ?_) (fun c => ?_)
    · replace h := h.1 c
      exact (hK _ _ h).forget ⟨rfl, trivial⟩
    · replace h := h.2 c
      refine a_aload_n (pc := 16) hC dX10_echoesIn_16 rfl ?_
      refine a_get (pc := 17) hC cl_X10 (oM_0 hX) 0 (by decide) tw_1504 rfl dX10_echoesIn_17 ?_
      refine a_iload (pc := 20) hC dX10_echoesIn_20 rfl ?_
      refine a_callS (pc := 22) hC hR sm_X10_echoAt tw_1647 ⟨(Nat.le_of_ble_eq_true rfl), (Nat.le_of_ble_eq_true rfl), (Nat.le_of_ble_eq_true rfl), (Nat.le_of_ble_eq_true rfl)⟩ dX10_echoesIn_22 (t_X10_echoAt hX hC.tr _ _ _ h) rfl rfl rfl (Nat.le_of_ble_eq_true rfl) (fun r3 q4 h => ?_)
      refine a_iconst (pc := 25) hC dX10_echoesIn_25 (v := 0) rfl ?_
      refine a_iadd (pc := 26) hC dX10_echoesIn_26 ?_
      refine a_iald (pc := 27) hC (oM_1 hX) h.1 dX10_echoesIn_27 ?_
      replace h := h.2
      refine a_iload_n (pc := 28) hC dX10_echoesIn_28 rfl ?_
      refine a_icmp_ne (pc := 29) (tgt := 56) hC dX10_echoesIn_29 (by decide) (fun c => ?_) (fun c => ?_)
      · replace h := h.1 c
        exact (tJX10_echoesIn_56 hX P hR hC hE _ _ _ _ _ _ ih hK _ h).forget ⟨rfl, rfl, rfl, rfl, rfl, trivial⟩
      · replace h := h.2 c
        refine a_iload_n (pc := 32) hC dX10_echoesIn_32 rfl ?_
        refine a_if_eq (pc := 33) (tgt := 52) hC dX10_echoesIn_33 (by decide) (fun c => ?_) (fun c => ?_)
        · replace h := h.1 c
          exact (tJX10_echoesIn_52 hX P hR hC hE _ _ _ _ _ _ ih hK _ h).forget ⟨rfl, rfl, rfl, rfl, rfl, trivial⟩
        · replace h := h.2 c
          refine a_aload_n (pc := 36) hC dX10_echoesIn_36 rfl ?_
          refine a_get (pc := 37) hC cl_X10 (oM_0 hX) 0 (by decide) tw_1504 rfl dX10_echoesIn_37 ?_
          refine a_iload (pc := 40) hC dX10_echoesIn_40 rfl ?_
          refine a_callS (pc := 42) hC hR sm_X10_echoAt tw_1647 ⟨(Nat.le_of_ble_eq_true rfl), (Nat.le_of_ble_eq_true rfl), (Nat.le_of_ble_eq_true rfl), (Nat.le_of_ble_eq_true rfl)⟩ dX10_echoesIn_42 (t_X10_echoAt hX hC.tr _ _ _ h) rfl rfl rfl (Nat.le_of_ble_eq_true rfl) (fun r9 q10 h => ?_)
          refine a_iconst (pc := 45) hC dX10_echoesIn_45 (v := 2) rfl ?_
          refine a_iadd (pc := 46) hC dX10_echoesIn_46 ?_
          refine a_iald (pc := 47) hC (oM_1 hX) h.1 dX10_echoesIn_47 ?_
          replace h := h.2
          refine a_iconst (pc := 48) hC dX10_echoesIn_48 (v := (-1)) rfl ?_
          refine a_icmp_ne (pc := 49) (tgt := 56) hC dX10_echoesIn_49 (by decide) (fun c => ?_) (fun c => ?_)
          · replace h := h.1 c
            exact (tJX10_echoesIn_56 hX P hR hC hE _ _ _ _ _ _ ih hK _ h).forget ⟨rfl, rfl, rfl, rfl, rfl, trivial⟩
          · replace h := h.2 c
            exact (tJX10_echoesIn_52 hX P hR hC hE _ _ _ _ _ _ ih hK _ h).forget ⟨rfl, rfl, rfl, rfl, rfl, trivial⟩
set_option maxRecDepth 20000 in
theorem t_X10_echoesIn {l : Launch} {g : aG} (hX : isM g) (hl : l.stackTraces = false) (x1 : Int32) (x2 : Int32) (q : aS) (P : Int32 → aS → Prop) (h : w_X10_echoesIn x1 x2 q P) : aMi l g yX10_echoesIn (aWs yX10_echoesIn cX10_echoesIn 6 (some .int)) 1 0 0 [.ref (gAd g 0), .int x1, .int x2] q P (fun _ _ => False) := by
  refine aMi_of RX10 ⟨by decide +kernel, rfl⟩ (cat_all rfl) (Nat.le_of_ble_eq_true rfl) hl hX.cl (fun f hR hC hE => ?_)
  show AW f g 0 [some (.ref (gAd g 0)), some (.int x1), some (.int x2), none, none, none] [] q 0 0
  unfold w_X10_echoesIn at h
  refine a_iconst (pc := 0) hC dX10_echoesIn_0 (v := 0) rfl ?_
  refine a_istore_n (pc := 1) hC dX10_echoesIn_1 (Nat.le_of_ble_eq_true rfl) ?_
  refine a_iconst (pc := 2) hC dX10_echoesIn_2 (v := 0) rfl ?_
  refine a_istore (pc := 3) hC dX10_echoesIn_3 (Nat.le_of_ble_eq_true rfl) ?_
  obtain ⟨N, h⟩ := h
  refine (tLX10_echoesIn_5 hX P hR hC hE _ _ (fun y11 q12 h => ?_) N _ _ _ h).forget ⟨rfl, rfl, rfl, rfl, rfl, trivial⟩
  refine a_iload_n (pc := 81) hC dX10_echoesIn_81 rfl ?_
  exact a_iret (pc := 82) hC hE h (Nat.le_of_ble_eq_true rfl) (Nat.le_of_ble_eq_true rfl) dX10_echoesIn_82
