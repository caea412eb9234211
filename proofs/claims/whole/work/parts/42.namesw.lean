abbrev cW_cell : ByteArray := method_2_code
def yW_cell : MethodName := ⟨"ThreadSlotsLaw", "cell", "([II)I"⟩
theorem dW_cell_0 : decode cW_cell 0 = .ok (.iload_n 1, 1) := by decide +kernel
theorem dW_cell_1 : decode cW_cell 1 = .ok (.aload_n 0, 1) := by decide +kernel
theorem dW_cell_2 : decode cW_cell 2 = .ok (.arraylength, 1) := by decide +kernel
theorem dW_cell_3 : decode cW_cell 3 = .ok (.if_icmp .ge 9, 3) := by decide +kernel
theorem dW_cell_6 : decode cW_cell 6 = .ok (.aload_n 0, 1) := by decide +kernel
theorem dW_cell_7 : decode cW_cell 7 = .ok (.iload_n 1, 1) := by decide +kernel
theorem dW_cell_8 : decode cW_cell 8 = .ok (.iaload, 1) := by decide +kernel
theorem dW_cell_9 : decode cW_cell 9 = .ok (.goto 4, 3) := by decide +kernel
theorem dW_cell_12 : decode cW_cell 12 = .ok (.iconst 0, 1) := by decide +kernel
theorem dW_cell_13 : decode cW_cell 13 = .ok (.ireturn, 1) := by decide +kernel
abbrev cW_rule : ByteArray := method_3_code
def yW_rule : MethodName := ⟨"ThreadSlotsLaw", "rule", "(LThreadSlots;I[J)I"⟩
theorem dW_rule_0 : decode cW_rule 0 = .ok (.aload_n 2, 1) := by decide +kernel
theorem dW_rule_1 : decode cW_rule 1 = .ok (.iconst 0, 1) := by decide +kernel
theorem dW_rule_2 : decode cW_rule 2 = .ok (.aload_n 0, 1) := by decide +kernel
theorem dW_rule_3 : decode cW_rule 3 = .ok (.iload_n 1, 1) := by decide +kernel
theorem dW_rule_4 : decode cW_rule 4 = .ok (.invokevirtual 7, 3) := by decide +kernel
theorem dW_rule_7 : decode cW_rule 7 = .ok (.i2l, 1) := by decide +kernel
theorem dW_rule_8 : decode cW_rule 8 = .ok (.lastore, 1) := by decide +kernel
theorem dW_rule_9 : decode cW_rule 9 = .ok (.goto 6, 3) := by decide +kernel
theorem dW_rule_12 : decode cW_rule 12 = .ok (.astore_n 3, 1) := by decide +kernel
theorem dW_rule_13 : decode cW_rule 13 = .ok (.iconst 1, 1) := by decide +kernel
theorem dW_rule_14 : decode cW_rule 14 = .ok (.ireturn, 1) := by decide +kernel
theorem dW_rule_15 : decode cW_rule 15 = .ok (.iconst 0, 1) := by decide +kernel
theorem dW_rule_16 : decode cW_rule 16 = .ok (.ireturn, 1) := by decide +kernel
abbrev cW_bound : ByteArray := method_4_code
def yW_bound : MethodName := ⟨"ThreadSlotsLaw", "bound", "(LThreadSlots;I[J)I"⟩
theorem dW_bound_0 : decode cW_bound 0 = .ok (.aload_n 2, 1) := by decide +kernel
theorem dW_bound_1 : decode cW_bound 1 = .ok (.iconst 0, 1) := by decide +kernel
theorem dW_bound_2 : decode cW_bound 2 = .ok (.aload_n 0, 1) := by decide +kernel
theorem dW_bound_3 : decode cW_bound 3 = .ok (.iload_n 1, 1) := by decide +kernel
theorem dW_bound_4 : decode cW_bound 4 = .ok (.invokevirtual 15, 3) := by decide +kernel
theorem dW_bound_7 : decode cW_bound 7 = .ok (.i2l, 1) := by decide +kernel
theorem dW_bound_8 : decode cW_bound 8 = .ok (.lastore, 1) := by decide +kernel
theorem dW_bound_9 : decode cW_bound 9 = .ok (.goto 6, 3) := by decide +kernel
theorem dW_bound_12 : decode cW_bound 12 = .ok (.astore_n 3, 1) := by decide +kernel
theorem dW_bound_13 : decode cW_bound 13 = .ok (.iconst 1, 1) := by decide +kernel
theorem dW_bound_14 : decode cW_bound 14 = .ok (.ireturn, 1) := by decide +kernel
theorem dW_bound_15 : decode cW_bound 15 = .ok (.iconst 0, 1) := by decide +kernel
theorem dW_bound_16 : decode cW_bound 16 = .ok (.ireturn, 1) := by decide +kernel
abbrev cW_cost : ByteArray := method_5_code
def yW_cost : MethodName := ⟨"ThreadSlotsLaw", "cost", "(LThreadSlots;I[J)I"⟩
theorem dW_cost_0 : decode cW_cost 0 = .ok (.aload_n 2, 1) := by decide +kernel
theorem dW_cost_1 : decode cW_cost 1 = .ok (.iconst 0, 1) := by decide +kernel
theorem dW_cost_2 : decode cW_cost 2 = .ok (.aload_n 0, 1) := by decide +kernel
theorem dW_cost_3 : decode cW_cost 3 = .ok (.iload_n 1, 1) := by decide +kernel
theorem dW_cost_4 : decode cW_cost 4 = .ok (.invokevirtual 18, 3) := by decide +kernel
theorem dW_cost_7 : decode cW_cost 7 = .ok (.i2l, 1) := by decide +kernel
theorem dW_cost_8 : decode cW_cost 8 = .ok (.lastore, 1) := by decide +kernel
theorem dW_cost_9 : decode cW_cost 9 = .ok (.goto 6, 3) := by decide +kernel
theorem dW_cost_12 : decode cW_cost 12 = .ok (.astore_n 3, 1) := by decide +kernel
theorem dW_cost_13 : decode cW_cost 13 = .ok (.iconst 1, 1) := by decide +kernel
theorem dW_cost_14 : decode cW_cost 14 = .ok (.ireturn, 1) := by decide +kernel
theorem dW_cost_15 : decode cW_cost 15 = .ok (.iconst 0, 1) := by decide +kernel
theorem dW_cost_16 : decode cW_cost 16 = .ok (.ireturn, 1) := by decide +kernel
abbrev cW_ready : ByteArray := method_6_code
def yW_ready : MethodName := ⟨"ThreadSlotsLaw", "ready", "(LThreadSlots;IZ[J)I"⟩
theorem dW_ready_0 : decode cW_ready 0 = .ok (.aload_n 3, 1) := by decide +kernel
theorem dW_ready_1 : decode cW_ready 1 = .ok (.iconst 0, 1) := by decide +kernel
theorem dW_ready_2 : decode cW_ready 2 = .ok (.aload_n 0, 1) := by decide +kernel
theorem dW_ready_3 : decode cW_ready 3 = .ok (.iload_n 1, 1) := by decide +kernel
theorem dW_ready_4 : decode cW_ready 4 = .ok (.iload_n 2, 1) := by decide +kernel
theorem dW_ready_5 : decode cW_ready 5 = .ok (.invokevirtual 21, 3) := by decide +kernel
theorem dW_ready_8 : decode cW_ready 8 = .ok (.ifCond .eq 7, 3) := by decide +kernel
theorem dW_ready_11 : decode cW_ready 11 = .ok (.lconst 1, 1) := by decide +kernel
theorem dW_ready_12 : decode cW_ready 12 = .ok (.goto 4, 3) := by decide +kernel
theorem dW_ready_15 : decode cW_ready 15 = .ok (.lconst 0, 1) := by decide +kernel
theorem dW_ready_16 : decode cW_ready 16 = .ok (.lastore, 1) := by decide +kernel
theorem dW_ready_17 : decode cW_ready 17 = .ok (.goto 7, 3) := by decide +kernel
theorem dW_ready_20 : decode cW_ready 20 = .ok (.astore 4, 2) := by decide +kernel
theorem dW_ready_22 : decode cW_ready 22 = .ok (.iconst 1, 1) := by decide +kernel
theorem dW_ready_23 : decode cW_ready 23 = .ok (.ireturn, 1) := by decide +kernel
theorem dW_ready_24 : decode cW_ready 24 = .ok (.iconst 0, 1) := by decide +kernel
theorem dW_ready_25 : decode cW_ready 25 = .ok (.ireturn, 1) := by decide +kernel
abbrev cW_rank : ByteArray := method_7_code
def yW_rank : MethodName := ⟨"ThreadSlotsLaw", "rank", "(LThreadSlots;II[J)I"⟩
theorem dW_rank_0 : decode cW_rank 0 = .ok (.aload_n 3, 1) := by decide +kernel
theorem dW_rank_1 : decode cW_rank 1 = .ok (.iconst 0, 1) := by decide +kernel
theorem dW_rank_2 : decode cW_rank 2 = .ok (.aload_n 0, 1) := by decide +kernel
theorem dW_rank_3 : decode cW_rank 3 = .ok (.iload_n 1, 1) := by decide +kernel
theorem dW_rank_4 : decode cW_rank 4 = .ok (.iload_n 2, 1) := by decide +kernel
theorem dW_rank_5 : decode cW_rank 5 = .ok (.invokevirtual 27, 3) := by decide +kernel
theorem dW_rank_8 : decode cW_rank 8 = .ok (.i2l, 1) := by decide +kernel
theorem dW_rank_9 : decode cW_rank 9 = .ok (.lastore, 1) := by decide +kernel
theorem dW_rank_10 : decode cW_rank 10 = .ok (.goto 11, 3) := by decide +kernel
theorem dW_rank_13 : decode cW_rank 13 = .ok (.astore 4, 2) := by decide +kernel
theorem dW_rank_15 : decode cW_rank 15 = .ok (.iconst 1, 1) := by decide +kernel
theorem dW_rank_16 : decode cW_rank 16 = .ok (.ireturn, 1) := by decide +kernel
theorem dW_rank_17 : decode cW_rank 17 = .ok (.astore 4, 2) := by decide +kernel
theorem dW_rank_19 : decode cW_rank 19 = .ok (.iconst 2, 1) := by decide +kernel
theorem dW_rank_20 : decode cW_rank 20 = .ok (.ireturn, 1) := by decide +kernel
theorem dW_rank_21 : decode cW_rank 21 = .ok (.iconst 0, 1) := by decide +kernel
theorem dW_rank_22 : decode cW_rank 22 = .ok (.ireturn, 1) := by decide +kernel
abbrev cW_sleep : ByteArray := method_8_code
def yW_sleep : MethodName := ⟨"ThreadSlotsLaw", "sleep", "(LThreadSlots;II[J)I"⟩
theorem dW_sleep_0 : decode cW_sleep 0 = .ok (.aload_n 3, 1) := by decide +kernel
theorem dW_sleep_1 : decode cW_sleep 1 = .ok (.iconst 0, 1) := by decide +kernel
theorem dW_sleep_2 : decode cW_sleep 2 = .ok (.aload_n 0, 1) := by decide +kernel
theorem dW_sleep_3 : decode cW_sleep 3 = .ok (.iload_n 1, 1) := by decide +kernel
theorem dW_sleep_4 : decode cW_sleep 4 = .ok (.iload_n 2, 1) := by decide +kernel
theorem dW_sleep_5 : decode cW_sleep 5 = .ok (.invokevirtual 31, 3) := by decide +kernel
theorem dW_sleep_8 : decode cW_sleep 8 = .ok (.i2l, 1) := by decide +kernel
theorem dW_sleep_9 : decode cW_sleep 9 = .ok (.lastore, 1) := by decide +kernel
theorem dW_sleep_10 : decode cW_sleep 10 = .ok (.goto 11, 3) := by decide +kernel
theorem dW_sleep_13 : decode cW_sleep 13 = .ok (.astore 4, 2) := by decide +kernel
theorem dW_sleep_15 : decode cW_sleep 15 = .ok (.iconst 1, 1) := by decide +kernel
theorem dW_sleep_16 : decode cW_sleep 16 = .ok (.ireturn, 1) := by decide +kernel
theorem dW_sleep_17 : decode cW_sleep 17 = .ok (.astore 4, 2) := by decide +kernel
theorem dW_sleep_19 : decode cW_sleep 19 = .ok (.iconst 2, 1) := by decide +kernel
theorem dW_sleep_20 : decode cW_sleep 20 = .ok (.ireturn, 1) := by decide +kernel
theorem dW_sleep_21 : decode cW_sleep 21 = .ok (.iconst 0, 1) := by decide +kernel
theorem dW_sleep_22 : decode cW_sleep 22 = .ok (.ireturn, 1) := by decide +kernel
abbrev cW_miss : ByteArray := method_9_code
def yW_miss : MethodName := ⟨"ThreadSlotsLaw", "miss", "(LThreadSlots;I[J)I"⟩
theorem dW_miss_0 : decode cW_miss 0 = .ok (.aload_n 2, 1) := by decide +kernel
theorem dW_miss_1 : decode cW_miss 1 = .ok (.iconst 0, 1) := by decide +kernel
theorem dW_miss_2 : decode cW_miss 2 = .ok (.aload_n 0, 1) := by decide +kernel
theorem dW_miss_3 : decode cW_miss 3 = .ok (.iload_n 1, 1) := by decide +kernel
theorem dW_miss_4 : decode cW_miss 4 = .ok (.invokevirtual 34, 3) := by decide +kernel
theorem dW_miss_7 : decode cW_miss 7 = .ok (.i2l, 1) := by decide +kernel
theorem dW_miss_8 : decode cW_miss 8 = .ok (.lastore, 1) := by decide +kernel
theorem dW_miss_9 : decode cW_miss 9 = .ok (.goto 6, 3) := by decide +kernel
theorem dW_miss_12 : decode cW_miss 12 = .ok (.astore_n 3, 1) := by decide +kernel
theorem dW_miss_13 : decode cW_miss 13 = .ok (.iconst 1, 1) := by decide +kernel
theorem dW_miss_14 : decode cW_miss 14 = .ok (.ireturn, 1) := by decide +kernel
theorem dW_miss_15 : decode cW_miss 15 = .ok (.iconst 0, 1) := by decide +kernel
theorem dW_miss_16 : decode cW_miss 16 = .ok (.ireturn, 1) := by decide +kernel
abbrev cW_run : ByteArray := method_10_code
def yW_run : MethodName := ⟨"ThreadSlotsLaw", "run", "(LThreadSlots;I[J)I"⟩
theorem dW_run_0 : decode cW_run 0 = .ok (.aload_n 2, 1) := by decide +kernel
theorem dW_run_1 : decode cW_run 1 = .ok (.iconst 0, 1) := by decide +kernel
theorem dW_run_2 : decode cW_run 2 = .ok (.aload_n 0, 1) := by decide +kernel
theorem dW_run_3 : decode cW_run 3 = .ok (.iload_n 1, 1) := by decide +kernel
theorem dW_run_4 : decode cW_run 4 = .ok (.invokevirtual 37, 3) := by decide +kernel
theorem dW_run_7 : decode cW_run 7 = .ok (.i2l, 1) := by decide +kernel
theorem dW_run_8 : decode cW_run 8 = .ok (.lastore, 1) := by decide +kernel
theorem dW_run_9 : decode cW_run 9 = .ok (.goto 6, 3) := by decide +kernel
theorem dW_run_12 : decode cW_run 12 = .ok (.astore_n 3, 1) := by decide +kernel
theorem dW_run_13 : decode cW_run 13 = .ok (.iconst 1, 1) := by decide +kernel
theorem dW_run_14 : decode cW_run 14 = .ok (.ireturn, 1) := by decide +kernel
theorem dW_run_15 : decode cW_run 15 = .ok (.iconst 0, 1) := by decide +kernel
theorem dW_run_16 : decode cW_run 16 = .ok (.ireturn, 1) := by decide +kernel
abbrev cW_part : ByteArray := method_11_code
def yW_part : MethodName := ⟨"ThreadSlotsLaw", "part", "(LThreadSlots;III[J)I"⟩
theorem dW_part_0 : decode cW_part 0 = .ok (.aload 4, 2) := by decide +kernel
theorem dW_part_2 : decode cW_part 2 = .ok (.iconst 0, 1) := by decide +kernel
theorem dW_part_3 : decode cW_part 3 = .ok (.aload_n 0, 1) := by decide +kernel
theorem dW_part_4 : decode cW_part 4 = .ok (.iload_n 1, 1) := by decide +kernel
theorem dW_part_5 : decode cW_part 5 = .ok (.iload_n 2, 1) := by decide +kernel
theorem dW_part_6 : decode cW_part 6 = .ok (.iload_n 3, 1) := by decide +kernel
theorem dW_part_7 : decode cW_part 7 = .ok (.invokevirtual 40, 3) := by decide +kernel
theorem dW_part_10 : decode cW_part 10 = .ok (.i2l, 1) := by decide +kernel
theorem dW_part_11 : decode cW_part 11 = .ok (.lastore, 1) := by decide +kernel
theorem dW_part_12 : decode cW_part 12 = .ok (.goto 11, 3) := by decide +kernel
theorem dW_part_15 : decode cW_part 15 = .ok (.astore 5, 2) := by decide +kernel
theorem dW_part_17 : decode cW_part 17 = .ok (.iconst 1, 1) := by decide +kernel
theorem dW_part_18 : decode cW_part 18 = .ok (.ireturn, 1) := by decide +kernel
theorem dW_part_19 : decode cW_part 19 = .ok (.astore 5, 2) := by decide +kernel
theorem dW_part_21 : decode cW_part 21 = .ok (.iconst 2, 1) := by decide +kernel
theorem dW_part_22 : decode cW_part 22 = .ok (.ireturn, 1) := by decide +kernel
theorem dW_part_23 : decode cW_part 23 = .ok (.iconst 0, 1) := by decide +kernel
theorem dW_part_24 : decode cW_part 24 = .ok (.ireturn, 1) := by decide +kernel
abbrev cW_put : ByteArray := method_12_code
def yW_put : MethodName := ⟨"ThreadSlotsLaw", "put", "(LThreadSlots;III[J)I"⟩
theorem dW_put_0 : decode cW_put 0 = .ok (.aload 4, 2) := by decide +kernel
theorem dW_put_2 : decode cW_put 2 = .ok (.iconst 0, 1) := by decide +kernel
theorem dW_put_3 : decode cW_put 3 = .ok (.aload_n 0, 1) := by decide +kernel
theorem dW_put_4 : decode cW_put 4 = .ok (.iload_n 1, 1) := by decide +kernel
theorem dW_put_5 : decode cW_put 5 = .ok (.iload_n 2, 1) := by decide +kernel
theorem dW_put_6 : decode cW_put 6 = .ok (.iload_n 3, 1) := by decide +kernel
theorem dW_put_7 : decode cW_put 7 = .ok (.invokevirtual 44, 3) := by decide +kernel
theorem dW_put_10 : decode cW_put 10 = .ok (.i2l, 1) := by decide +kernel
theorem dW_put_11 : decode cW_put 11 = .ok (.lastore, 1) := by decide +kernel
theorem dW_put_12 : decode cW_put 12 = .ok (.goto 7, 3) := by decide +kernel
theorem dW_put_15 : decode cW_put 15 = .ok (.astore 5, 2) := by decide +kernel
theorem dW_put_17 : decode cW_put 17 = .ok (.iconst 1, 1) := by decide +kernel
theorem dW_put_18 : decode cW_put 18 = .ok (.ireturn, 1) := by decide +kernel
theorem dW_put_19 : decode cW_put 19 = .ok (.iconst 0, 1) := by decide +kernel
theorem dW_put_20 : decode cW_put 20 = .ok (.ireturn, 1) := by decide +kernel
abbrev cW_take : ByteArray := method_13_code
def yW_take : MethodName := ⟨"ThreadSlotsLaw", "take", "(LThreadSlots;II[J)I"⟩
theorem dW_take_0 : decode cW_take 0 = .ok (.aload_n 3, 1) := by decide +kernel
theorem dW_take_1 : decode cW_take 1 = .ok (.iconst 0, 1) := by decide +kernel
theorem dW_take_2 : decode cW_take 2 = .ok (.aload_n 0, 1) := by decide +kernel
theorem dW_take_3 : decode cW_take 3 = .ok (.iload_n 1, 1) := by decide +kernel
theorem dW_take_4 : decode cW_take 4 = .ok (.iload_n 2, 1) := by decide +kernel
theorem dW_take_5 : decode cW_take 5 = .ok (.invokevirtual 47, 3) := by decide +kernel
theorem dW_take_8 : decode cW_take 8 = .ok (.i2l, 1) := by decide +kernel
theorem dW_take_9 : decode cW_take 9 = .ok (.lastore, 1) := by decide +kernel
theorem dW_take_10 : decode cW_take 10 = .ok (.goto 11, 3) := by decide +kernel
theorem dW_take_13 : decode cW_take 13 = .ok (.astore 4, 2) := by decide +kernel
theorem dW_take_15 : decode cW_take 15 = .ok (.iconst 1, 1) := by decide +kernel
theorem dW_take_16 : decode cW_take 16 = .ok (.ireturn, 1) := by decide +kernel
theorem dW_take_17 : decode cW_take 17 = .ok (.astore 4, 2) := by decide +kernel
theorem dW_take_19 : decode cW_take 19 = .ok (.iconst 2, 1) := by decide +kernel
theorem dW_take_20 : decode cW_take 20 = .ok (.ireturn, 1) := by decide +kernel
theorem dW_take_21 : decode cW_take 21 = .ok (.iconst 0, 1) := by decide +kernel
theorem dW_take_22 : decode cW_take 22 = .ok (.ireturn, 1) := by decide +kernel
abbrev cW_entry : ByteArray := method_14_code
def yW_entry : MethodName := ⟨"ThreadSlotsLaw", "entry", "(LThreadSlots;III[J)I"⟩
theorem dW_entry_0 : decode cW_entry 0 = .ok (.aload 4, 2) := by decide +kernel
theorem dW_entry_2 : decode cW_entry 2 = .ok (.iconst 0, 1) := by decide +kernel
theorem dW_entry_3 : decode cW_entry 3 = .ok (.aload_n 0, 1) := by decide +kernel
theorem dW_entry_4 : decode cW_entry 4 = .ok (.iload_n 1, 1) := by decide +kernel
theorem dW_entry_5 : decode cW_entry 5 = .ok (.iload_n 2, 1) := by decide +kernel
theorem dW_entry_6 : decode cW_entry 6 = .ok (.iload_n 3, 1) := by decide +kernel
theorem dW_entry_7 : decode cW_entry 7 = .ok (.invokevirtual 52, 3) := by decide +kernel
theorem dW_entry_10 : decode cW_entry 10 = .ok (.i2l, 1) := by decide +kernel
theorem dW_entry_11 : decode cW_entry 11 = .ok (.lastore, 1) := by decide +kernel
theorem dW_entry_12 : decode cW_entry 12 = .ok (.goto 7, 3) := by decide +kernel
theorem dW_entry_15 : decode cW_entry 15 = .ok (.astore 5, 2) := by decide +kernel
theorem dW_entry_17 : decode cW_entry 17 = .ok (.iconst 1, 1) := by decide +kernel
theorem dW_entry_18 : decode cW_entry 18 = .ok (.ireturn, 1) := by decide +kernel
theorem dW_entry_19 : decode cW_entry 19 = .ok (.iconst 0, 1) := by decide +kernel
theorem dW_entry_20 : decode cW_entry 20 = .ok (.ireturn, 1) := by decide +kernel
abbrev cW_set : ByteArray := method_15_code
def yW_set : MethodName := ⟨"ThreadSlotsLaw", "set", "(LThreadSlots;II[J)I"⟩
theorem dW_set_0 : decode cW_set 0 = .ok (.aload_n 3, 1) := by decide +kernel
theorem dW_set_1 : decode cW_set 1 = .ok (.iconst 0, 1) := by decide +kernel
theorem dW_set_2 : decode cW_set 2 = .ok (.aload_n 0, 1) := by decide +kernel
theorem dW_set_3 : decode cW_set 3 = .ok (.iload_n 1, 1) := by decide +kernel
theorem dW_set_4 : decode cW_set 4 = .ok (.iload_n 2, 1) := by decide +kernel
theorem dW_set_5 : decode cW_set 5 = .ok (.invokevirtual 55, 3) := by decide +kernel
theorem dW_set_8 : decode cW_set 8 = .ok (.i2l, 1) := by decide +kernel
theorem dW_set_9 : decode cW_set 9 = .ok (.lastore, 1) := by decide +kernel
theorem dW_set_10 : decode cW_set 10 = .ok (.goto 7, 3) := by decide +kernel
theorem dW_set_13 : decode cW_set 13 = .ok (.astore 4, 2) := by decide +kernel
theorem dW_set_15 : decode cW_set 15 = .ok (.iconst 1, 1) := by decide +kernel
theorem dW_set_16 : decode cW_set 16 = .ok (.ireturn, 1) := by decide +kernel
theorem dW_set_17 : decode cW_set 17 = .ok (.iconst 0, 1) := by decide +kernel
theorem dW_set_18 : decode cW_set 18 = .ok (.ireturn, 1) := by decide +kernel
abbrev cW_register : ByteArray := method_16_code
def yW_register : MethodName := ⟨"ThreadSlotsLaw", "register", "(LThreadSlots;II[J)I"⟩
theorem dW_register_0 : decode cW_register 0 = .ok (.aload_n 3, 1) := by decide +kernel
theorem dW_register_1 : decode cW_register 1 = .ok (.iconst 0, 1) := by decide +kernel
theorem dW_register_2 : decode cW_register 2 = .ok (.aload_n 0, 1) := by decide +kernel
theorem dW_register_3 : decode cW_register 3 = .ok (.iload_n 1, 1) := by decide +kernel
theorem dW_register_4 : decode cW_register 4 = .ok (.iload_n 2, 1) := by decide +kernel
theorem dW_register_5 : decode cW_register 5 = .ok (.invokevirtual 58, 3) := by decide +kernel
theorem dW_register_8 : decode cW_register 8 = .ok (.i2l, 1) := by decide +kernel
theorem dW_register_9 : decode cW_register 9 = .ok (.lastore, 1) := by decide +kernel
theorem dW_register_10 : decode cW_register 10 = .ok (.goto 7, 3) := by decide +kernel
theorem dW_register_13 : decode cW_register 13 = .ok (.astore 4, 2) := by decide +kernel
theorem dW_register_15 : decode cW_register 15 = .ok (.iconst 1, 1) := by decide +kernel
theorem dW_register_16 : decode cW_register 16 = .ok (.ireturn, 1) := by decide +kernel
theorem dW_register_17 : decode cW_register 17 = .ok (.iconst 0, 1) := by decide +kernel
theorem dW_register_18 : decode cW_register 18 = .ok (.ireturn, 1) := by decide +kernel
abbrev cW_thread : ByteArray := method_17_code
def yW_thread : MethodName := ⟨"ThreadSlotsLaw", "thread", "(LThreadSlots;II[J)I"⟩
theorem dW_thread_0 : decode cW_thread 0 = .ok (.aload_n 3, 1) := by decide +kernel
theorem dW_thread_1 : decode cW_thread 1 = .ok (.iconst 0, 1) := by decide +kernel
theorem dW_thread_2 : decode cW_thread 2 = .ok (.aload_n 0, 1) := by decide +kernel
theorem dW_thread_3 : decode cW_thread 3 = .ok (.iload_n 1, 1) := by decide +kernel
theorem dW_thread_4 : decode cW_thread 4 = .ok (.iload_n 2, 1) := by decide +kernel
theorem dW_thread_5 : decode cW_thread 5 = .ok (.invokevirtual 61, 3) := by decide +kernel
theorem dW_thread_8 : decode cW_thread 8 = .ok (.i2l, 1) := by decide +kernel
theorem dW_thread_9 : decode cW_thread 9 = .ok (.lastore, 1) := by decide +kernel
theorem dW_thread_10 : decode cW_thread 10 = .ok (.goto 7, 3) := by decide +kernel
theorem dW_thread_13 : decode cW_thread 13 = .ok (.astore 4, 2) := by decide +kernel
theorem dW_thread_15 : decode cW_thread 15 = .ok (.iconst 1, 1) := by decide +kernel
theorem dW_thread_16 : decode cW_thread 16 = .ok (.ireturn, 1) := by decide +kernel
theorem dW_thread_17 : decode cW_thread 17 = .ok (.iconst 0, 1) := by decide +kernel
theorem dW_thread_18 : decode cW_thread 18 = .ok (.ireturn, 1) := by decide +kernel
abbrev cW_share : ByteArray := method_18_code
def yW_share : MethodName := ⟨"ThreadSlotsLaw", "share", "(LThreadSlots;II[J)I"⟩
theorem dW_share_0 : decode cW_share 0 = .ok (.aload_n 3, 1) := by decide +kernel
theorem dW_share_1 : decode cW_share 1 = .ok (.iconst 0, 1) := by decide +kernel
theorem dW_share_2 : decode cW_share 2 = .ok (.aload_n 0, 1) := by decide +kernel
theorem dW_share_3 : decode cW_share 3 = .ok (.iload_n 1, 1) := by decide +kernel
theorem dW_share_4 : decode cW_share 4 = .ok (.iload_n 2, 1) := by decide +kernel
theorem dW_share_5 : decode cW_share 5 = .ok (.invokevirtual 64, 3) := by decide +kernel
theorem dW_share_8 : decode cW_share 8 = .ok (.i2l, 1) := by decide +kernel
theorem dW_share_9 : decode cW_share 9 = .ok (.lastore, 1) := by decide +kernel
theorem dW_share_10 : decode cW_share 10 = .ok (.goto 7, 3) := by decide +kernel
theorem dW_share_13 : decode cW_share 13 = .ok (.astore 4, 2) := by decide +kernel
theorem dW_share_15 : decode cW_share 15 = .ok (.iconst 1, 1) := by decide +kernel
theorem dW_share_16 : decode cW_share 16 = .ok (.ireturn, 1) := by decide +kernel
theorem dW_share_17 : decode cW_share 17 = .ok (.iconst 0, 1) := by decide +kernel
theorem dW_share_18 : decode cW_share 18 = .ok (.ireturn, 1) := by decide +kernel
abbrev cW_law : ByteArray := code
def yW_law : MethodName := ⟨"ThreadSlotsLaw", "law", "([I)Z"⟩
theorem dW_law_0 : decode cW_law 0 = .ok (.new 8, 3) := by decide +kernel
theorem dW_law_3 : decode cW_law 3 = .ok (.dup, 1) := by decide +kernel
theorem dW_law_4 : decode cW_law 4 = .ok (.aload_n 0, 1) := by decide +kernel
theorem dW_law_5 : decode cW_law 5 = .ok (.iconst 0, 1) := by decide +kernel
theorem dW_law_6 : decode cW_law 6 = .ok (.invokestatic 67, 3) := by decide +kernel
theorem dW_law_9 : decode cW_law 9 = .ok (.aload_n 0, 1) := by decide +kernel
theorem dW_law_10 : decode cW_law 10 = .ok (.iconst 1, 1) := by decide +kernel
theorem dW_law_11 : decode cW_law 11 = .ok (.invokestatic 67, 3) := by decide +kernel
theorem dW_law_14 : decode cW_law 14 = .ok (.invokespecial 73, 3) := by decide +kernel
theorem dW_law_17 : decode cW_law 17 = .ok (.astore_n 1, 1) := by decide +kernel
theorem dW_law_18 : decode cW_law 18 = .ok (.new 76, 3) := by decide +kernel
theorem dW_law_21 : decode cW_law 21 = .ok (.dup, 1) := by decide +kernel
theorem dW_law_22 : decode cW_law 22 = .ok (.aload_n 0, 1) := by decide +kernel
theorem dW_law_23 : decode cW_law 23 = .ok (.iconst 0, 1) := by decide +kernel
theorem dW_law_24 : decode cW_law 24 = .ok (.invokestatic 67, 3) := by decide +kernel
theorem dW_law_27 : decode cW_law 27 = .ok (.aload_n 0, 1) := by decide +kernel
theorem dW_law_28 : decode cW_law 28 = .ok (.iconst 1, 1) := by decide +kernel
theorem dW_law_29 : decode cW_law 29 = .ok (.invokestatic 67, 3) := by decide +kernel
theorem dW_law_32 : decode cW_law 32 = .ok (.invokespecial 78, 3) := by decide +kernel
theorem dW_law_35 : decode cW_law 35 = .ok (.astore_n 2, 1) := by decide +kernel
theorem dW_law_36 : decode cW_law 36 = .ok (.iconst 1, 1) := by decide +kernel
theorem dW_law_37 : decode cW_law 37 = .ok (.newarray .long, 2) := by decide +kernel
theorem dW_law_39 : decode cW_law 39 = .ok (.astore_n 3, 1) := by decide +kernel
theorem dW_law_40 : decode cW_law 40 = .ok (.iconst 2, 1) := by decide +kernel
theorem dW_law_41 : decode cW_law 41 = .ok (.istore 4, 2) := by decide +kernel
theorem dW_law_43 : decode cW_law 43 = .ok (.iload 4, 2) := by decide +kernel
theorem dW_law_45 : decode cW_law 45 = .ok (.aload_n 0, 1) := by decide +kernel
theorem dW_law_46 : decode cW_law 46 = .ok (.arraylength, 1) := by decide +kernel
theorem dW_law_47 : decode cW_law 47 = .ok (.iconst 4, 1) := by decide +kernel
theorem dW_law_48 : decode cW_law 48 = .ok (.isub, 1) := by decide +kernel
theorem dW_law_49 : decode cW_law 49 = .ok (.if_icmp .gt 1226, 3) := by decide +kernel
theorem dW_law_52 : decode cW_law 52 = .ok (.aload_n 0, 1) := by decide +kernel
theorem dW_law_53 : decode cW_law 53 = .ok (.iload 4, 2) := by decide +kernel
theorem dW_law_55 : decode cW_law 55 = .ok (.iaload, 1) := by decide +kernel
theorem dW_law_56 : decode cW_law 56 = .ok (.bipush 31, 2) := by decide +kernel
theorem dW_law_58 : decode cW_law 58 = .ok (.iand, 1) := by decide +kernel
theorem dW_law_59 : decode cW_law 59 = .ok (.tableswitch 1210 0 17 #[85, 141, 197, 253, 344, 412, 480, 536, 549, 605, 685, 765, 833, 913, 981, 1049, 1117, 1185], 85) := by decide +kernel
theorem dW_law_144 : decode cW_law 144 = .ok (.aload_n 1, 1) := by decide +kernel
theorem dW_law_145 : decode cW_law 145 = .ok (.aload_n 0, 1) := by decide +kernel
theorem dW_law_146 : decode cW_law 146 = .ok (.iload 4, 2) := by decide +kernel
theorem dW_law_148 : decode cW_law 148 = .ok (.iconst 1, 1) := by decide +kernel
theorem dW_law_149 : decode cW_law 149 = .ok (.iadd, 1) := by decide +kernel
theorem dW_law_150 : decode cW_law 150 = .ok (.iaload, 1) := by decide +kernel
theorem dW_law_151 : decode cW_law 151 = .ok (.aload_n 3, 1) := by decide +kernel
theorem dW_law_152 : decode cW_law 152 = .ok (.invokestatic 79, 3) := by decide +kernel
theorem dW_law_155 : decode cW_law 155 = .ok (.istore 5, 2) := by decide +kernel
theorem dW_law_157 : decode cW_law 157 = .ok (.aload_n 2, 1) := by decide +kernel
theorem dW_law_158 : decode cW_law 158 = .ok (.aload_n 0, 1) := by decide +kernel
theorem dW_law_159 : decode cW_law 159 = .ok (.iload 4, 2) := by decide +kernel
theorem dW_law_161 : decode cW_law 161 = .ok (.iconst 1, 1) := by decide +kernel
theorem dW_law_162 : decode cW_law 162 = .ok (.iadd, 1) := by decide +kernel
theorem dW_law_163 : decode cW_law 163 = .ok (.iaload, 1) := by decide +kernel
theorem dW_law_164 : decode cW_law 164 = .ok (.invokevirtual 82, 3) := by decide +kernel
theorem dW_law_167 : decode cW_law 167 = .ok (.istore 6, 2) := by decide +kernel
theorem dW_law_169 : decode cW_law 169 = .ok (.aload_n 2, 1) := by decide +kernel
theorem dW_law_170 : decode cW_law 170 = .ok (.invokevirtual 83, 3) := by decide +kernel
theorem dW_law_173 : decode cW_law 173 = .ok (.iload 5, 2) := by decide +kernel
theorem dW_law_175 : decode cW_law 175 = .ok (.if_icmp .eq 5, 3) := by decide +kernel
theorem dW_law_178 : decode cW_law 178 = .ok (.iconst 0, 1) := by decide +kernel
theorem dW_law_179 : decode cW_law 179 = .ok (.ireturn, 1) := by decide +kernel
theorem dW_law_180 : decode cW_law 180 = .ok (.iload 5, 2) := by decide +kernel
theorem dW_law_182 : decode cW_law 182 = .ok (.ifCond .ne 15, 3) := by decide +kernel
theorem dW_law_185 : decode cW_law 185 = .ok (.aload_n 3, 1) := by decide +kernel
theorem dW_law_186 : decode cW_law 186 = .ok (.iconst 0, 1) := by decide +kernel
theorem dW_law_187 : decode cW_law 187 = .ok (.laload, 1) := by decide +kernel
theorem dW_law_188 : decode cW_law 188 = .ok (.iload 6, 2) := by decide +kernel
theorem dW_law_190 : decode cW_law 190 = .ok (.i2l, 1) := by decide +kernel
theorem dW_law_191 : decode cW_law 191 = .ok (.lcmp, 1) := by decide +kernel
theorem dW_law_192 : decode cW_law 192 = .ok (.ifCond .eq 5, 3) := by decide +kernel
theorem dW_law_195 : decode cW_law 195 = .ok (.iconst 0, 1) := by decide +kernel
theorem dW_law_196 : decode cW_law 196 = .ok (.ireturn, 1) := by decide +kernel
theorem dW_law_197 : decode cW_law 197 = .ok (.goto 1072, 3) := by decide +kernel
theorem dW_law_200 : decode cW_law 200 = .ok (.aload_n 1, 1) := by decide +kernel
theorem dW_law_201 : decode cW_law 201 = .ok (.aload_n 0, 1) := by decide +kernel
theorem dW_law_202 : decode cW_law 202 = .ok (.iload 4, 2) := by decide +kernel
theorem dW_law_204 : decode cW_law 204 = .ok (.iconst 1, 1) := by decide +kernel
theorem dW_law_205 : decode cW_law 205 = .ok (.iadd, 1) := by decide +kernel
theorem dW_law_206 : decode cW_law 206 = .ok (.iaload, 1) := by decide +kernel
theorem dW_law_207 : decode cW_law 207 = .ok (.aload_n 3, 1) := by decide +kernel
theorem dW_law_208 : decode cW_law 208 = .ok (.invokestatic 87, 3) := by decide +kernel
theorem dW_law_211 : decode cW_law 211 = .ok (.istore 5, 2) := by decide +kernel
theorem dW_law_213 : decode cW_law 213 = .ok (.aload_n 2, 1) := by decide +kernel
theorem dW_law_214 : decode cW_law 214 = .ok (.aload_n 0, 1) := by decide +kernel
theorem dW_law_215 : decode cW_law 215 = .ok (.iload 4, 2) := by decide +kernel
theorem dW_law_217 : decode cW_law 217 = .ok (.iconst 1, 1) := by decide +kernel
theorem dW_law_218 : decode cW_law 218 = .ok (.iadd, 1) := by decide +kernel
theorem dW_law_219 : decode cW_law 219 = .ok (.iaload, 1) := by decide +kernel
theorem dW_law_220 : decode cW_law 220 = .ok (.invokevirtual 89, 3) := by decide +kernel
theorem dW_law_223 : decode cW_law 223 = .ok (.istore 6, 2) := by decide +kernel
theorem dW_law_225 : decode cW_law 225 = .ok (.aload_n 2, 1) := by decide +kernel
theorem dW_law_226 : decode cW_law 226 = .ok (.invokevirtual 83, 3) := by decide +kernel
theorem dW_law_229 : decode cW_law 229 = .ok (.iload 5, 2) := by decide +kernel
theorem dW_law_231 : decode cW_law 231 = .ok (.if_icmp .eq 5, 3) := by decide +kernel
theorem dW_law_234 : decode cW_law 234 = .ok (.iconst 0, 1) := by decide +kernel
theorem dW_law_235 : decode cW_law 235 = .ok (.ireturn, 1) := by decide +kernel
theorem dW_law_236 : decode cW_law 236 = .ok (.iload 5, 2) := by decide +kernel
theorem dW_law_238 : decode cW_law 238 = .ok (.ifCond .ne 15, 3) := by decide +kernel
theorem dW_law_241 : decode cW_law 241 = .ok (.aload_n 3, 1) := by decide +kernel
theorem dW_law_242 : decode cW_law 242 = .ok (.iconst 0, 1) := by decide +kernel
theorem dW_law_243 : decode cW_law 243 = .ok (.laload, 1) := by decide +kernel
theorem dW_law_244 : decode cW_law 244 = .ok (.iload 6, 2) := by decide +kernel
theorem dW_law_246 : decode cW_law 246 = .ok (.i2l, 1) := by decide +kernel
theorem dW_law_247 : decode cW_law 247 = .ok (.lcmp, 1) := by decide +kernel
theorem dW_law_248 : decode cW_law 248 = .ok (.ifCond .eq 5, 3) := by decide +kernel
theorem dW_law_251 : decode cW_law 251 = .ok (.iconst 0, 1) := by decide +kernel
theorem dW_law_252 : decode cW_law 252 = .ok (.ireturn, 1) := by decide +kernel
theorem dW_law_253 : decode cW_law 253 = .ok (.goto 1016, 3) := by decide +kernel
theorem dW_law_256 : decode cW_law 256 = .ok (.aload_n 1, 1) := by decide +kernel
theorem dW_law_257 : decode cW_law 257 = .ok (.aload_n 0, 1) := by decide +kernel
theorem dW_law_258 : decode cW_law 258 = .ok (.iload 4, 2) := by decide +kernel
theorem dW_law_260 : decode cW_law 260 = .ok (.iconst 1, 1) := by decide +kernel
theorem dW_law_261 : decode cW_law 261 = .ok (.iadd, 1) := by decide +kernel
theorem dW_law_262 : decode cW_law 262 = .ok (.iaload, 1) := by decide +kernel
theorem dW_law_263 : decode cW_law 263 = .ok (.aload_n 3, 1) := by decide +kernel
theorem dW_law_264 : decode cW_law 264 = .ok (.invokestatic 90, 3) := by decide +kernel
theorem dW_law_267 : decode cW_law 267 = .ok (.istore 5, 2) := by decide +kernel
theorem dW_law_269 : decode cW_law 269 = .ok (.aload_n 2, 1) := by decide +kernel
theorem dW_law_270 : decode cW_law 270 = .ok (.aload_n 0, 1) := by decide +kernel
theorem dW_law_271 : decode cW_law 271 = .ok (.iload 4, 2) := by decide +kernel
theorem dW_law_273 : decode cW_law 273 = .ok (.iconst 1, 1) := by decide +kernel
theorem dW_law_274 : decode cW_law 274 = .ok (.iadd, 1) := by decide +kernel
theorem dW_law_275 : decode cW_law 275 = .ok (.iaload, 1) := by decide +kernel
theorem dW_law_276 : decode cW_law 276 = .ok (.invokevirtual 92, 3) := by decide +kernel
theorem dW_law_279 : decode cW_law 279 = .ok (.istore 6, 2) := by decide +kernel
theorem dW_law_281 : decode cW_law 281 = .ok (.aload_n 2, 1) := by decide +kernel
theorem dW_law_282 : decode cW_law 282 = .ok (.invokevirtual 83, 3) := by decide +kernel
theorem dW_law_285 : decode cW_law 285 = .ok (.iload 5, 2) := by decide +kernel
theorem dW_law_287 : decode cW_law 287 = .ok (.if_icmp .eq 5, 3) := by decide +kernel
theorem dW_law_290 : decode cW_law 290 = .ok (.iconst 0, 1) := by decide +kernel
theorem dW_law_291 : decode cW_law 291 = .ok (.ireturn, 1) := by decide +kernel
theorem dW_law_292 : decode cW_law 292 = .ok (.iload 5, 2) := by decide +kernel
theorem dW_law_294 : decode cW_law 294 = .ok (.ifCond .ne 15, 3) := by decide +kernel
theorem dW_law_297 : decode cW_law 297 = .ok (.aload_n 3, 1) := by decide +kernel
theorem dW_law_298 : decode cW_law 298 = .ok (.iconst 0, 1) := by decide +kernel
theorem dW_law_299 : decode cW_law 299 = .ok (.laload, 1) := by decide +kernel
theorem dW_law_300 : decode cW_law 300 = .ok (.iload 6, 2) := by decide +kernel
theorem dW_law_302 : decode cW_law 302 = .ok (.i2l, 1) := by decide +kernel
theorem dW_law_303 : decode cW_law 303 = .ok (.lcmp, 1) := by decide +kernel
theorem dW_law_304 : decode cW_law 304 = .ok (.ifCond .eq 5, 3) := by decide +kernel
theorem dW_law_307 : decode cW_law 307 = .ok (.iconst 0, 1) := by decide +kernel
theorem dW_law_308 : decode cW_law 308 = .ok (.ireturn, 1) := by decide +kernel
theorem dW_law_309 : decode cW_law 309 = .ok (.goto 960, 3) := by decide +kernel
theorem dW_law_312 : decode cW_law 312 = .ok (.aload_n 1, 1) := by decide +kernel
theorem dW_law_313 : decode cW_law 313 = .ok (.aload_n 0, 1) := by decide +kernel
theorem dW_law_314 : decode cW_law 314 = .ok (.iload 4, 2) := by decide +kernel
theorem dW_law_316 : decode cW_law 316 = .ok (.iconst 1, 1) := by decide +kernel
theorem dW_law_317 : decode cW_law 317 = .ok (.iadd, 1) := by decide +kernel
theorem dW_law_318 : decode cW_law 318 = .ok (.iaload, 1) := by decide +kernel
theorem dW_law_319 : decode cW_law 319 = .ok (.aload_n 0, 1) := by decide +kernel
theorem dW_law_320 : decode cW_law 320 = .ok (.iload 4, 2) := by decide +kernel
theorem dW_law_322 : decode cW_law 322 = .ok (.iconst 2, 1) := by decide +kernel
theorem dW_law_323 : decode cW_law 323 = .ok (.iadd, 1) := by decide +kernel
theorem dW_law_324 : decode cW_law 324 = .ok (.iaload, 1) := by decide +kernel
theorem dW_law_325 : decode cW_law 325 = .ok (.ifCond .eq 7, 3) := by decide +kernel
theorem dW_law_328 : decode cW_law 328 = .ok (.iconst 1, 1) := by decide +kernel
theorem dW_law_329 : decode cW_law 329 = .ok (.goto 4, 3) := by decide +kernel
theorem dW_law_332 : decode cW_law 332 = .ok (.iconst 0, 1) := by decide +kernel
theorem dW_law_333 : decode cW_law 333 = .ok (.aload_n 3, 1) := by decide +kernel
theorem dW_law_334 : decode cW_law 334 = .ok (.invokestatic 93, 3) := by decide +kernel
theorem dW_law_337 : decode cW_law 337 = .ok (.istore 5, 2) := by decide +kernel
theorem dW_law_339 : decode cW_law 339 = .ok (.aload_n 2, 1) := by decide +kernel
theorem dW_law_340 : decode cW_law 340 = .ok (.aload_n 0, 1) := by decide +kernel
theorem dW_law_341 : decode cW_law 341 = .ok (.iload 4, 2) := by decide +kernel
theorem dW_law_343 : decode cW_law 343 = .ok (.iconst 1, 1) := by decide +kernel
theorem dW_law_344 : decode cW_law 344 = .ok (.iadd, 1) := by decide +kernel
theorem dW_law_345 : decode cW_law 345 = .ok (.iaload, 1) := by decide +kernel
theorem dW_law_346 : decode cW_law 346 = .ok (.aload_n 0, 1) := by decide +kernel
theorem dW_law_347 : decode cW_law 347 = .ok (.iload 4, 2) := by decide +kernel
theorem dW_law_349 : decode cW_law 349 = .ok (.iconst 2, 1) := by decide +kernel
theorem dW_law_350 : decode cW_law 350 = .ok (.iadd, 1) := by decide +kernel
theorem dW_law_351 : decode cW_law 351 = .ok (.iaload, 1) := by decide +kernel
theorem dW_law_352 : decode cW_law 352 = .ok (.ifCond .eq 7, 3) := by decide +kernel
theorem dW_law_355 : decode cW_law 355 = .ok (.iconst 1, 1) := by decide +kernel
theorem dW_law_356 : decode cW_law 356 = .ok (.goto 4, 3) := by decide +kernel
theorem dW_law_359 : decode cW_law 359 = .ok (.iconst 0, 1) := by decide +kernel
theorem dW_law_360 : decode cW_law 360 = .ok (.invokevirtual 96, 3) := by decide +kernel
theorem dW_law_363 : decode cW_law 363 = .ok (.istore 6, 2) := by decide +kernel
theorem dW_law_365 : decode cW_law 365 = .ok (.aload_n 2, 1) := by decide +kernel
theorem dW_law_366 : decode cW_law 366 = .ok (.invokevirtual 83, 3) := by decide +kernel
theorem dW_law_369 : decode cW_law 369 = .ok (.iload 5, 2) := by decide +kernel
theorem dW_law_371 : decode cW_law 371 = .ok (.if_icmp .eq 5, 3) := by decide +kernel
theorem dW_law_374 : decode cW_law 374 = .ok (.iconst 0, 1) := by decide +kernel
theorem dW_law_375 : decode cW_law 375 = .ok (.ireturn, 1) := by decide +kernel
theorem dW_law_376 : decode cW_law 376 = .ok (.iload 5, 2) := by decide +kernel
theorem dW_law_378 : decode cW_law 378 = .ok (.ifCond .ne 22, 3) := by decide +kernel
theorem dW_law_381 : decode cW_law 381 = .ok (.aload_n 3, 1) := by decide +kernel
theorem dW_law_382 : decode cW_law 382 = .ok (.iconst 0, 1) := by decide +kernel
theorem dW_law_383 : decode cW_law 383 = .ok (.laload, 1) := by decide +kernel
theorem dW_law_384 : decode cW_law 384 = .ok (.iload 6, 2) := by decide +kernel
theorem dW_law_386 : decode cW_law 386 = .ok (.ifCond .eq 7, 3) := by decide +kernel
theorem dW_law_389 : decode cW_law 389 = .ok (.lconst 1, 1) := by decide +kernel
theorem dW_law_390 : decode cW_law 390 = .ok (.goto 4, 3) := by decide +kernel
theorem dW_law_393 : decode cW_law 393 = .ok (.lconst 0, 1) := by decide +kernel
theorem dW_law_394 : decode cW_law 394 = .ok (.lcmp, 1) := by decide +kernel
theorem dW_law_395 : decode cW_law 395 = .ok (.ifCond .eq 5, 3) := by decide +kernel
theorem dW_law_398 : decode cW_law 398 = .ok (.iconst 0, 1) := by decide +kernel
theorem dW_law_399 : decode cW_law 399 = .ok (.ireturn, 1) := by decide +kernel
theorem dW_law_400 : decode cW_law 400 = .ok (.goto 869, 3) := by decide +kernel
theorem dW_law_403 : decode cW_law 403 = .ok (.aload_n 1, 1) := by decide +kernel
theorem dW_law_404 : decode cW_law 404 = .ok (.aload_n 0, 1) := by decide +kernel
theorem dW_law_405 : decode cW_law 405 = .ok (.iload 4, 2) := by decide +kernel
theorem dW_law_407 : decode cW_law 407 = .ok (.iconst 1, 1) := by decide +kernel
theorem dW_law_408 : decode cW_law 408 = .ok (.iadd, 1) := by decide +kernel
theorem dW_law_409 : decode cW_law 409 = .ok (.iaload, 1) := by decide +kernel
theorem dW_law_410 : decode cW_law 410 = .ok (.aload_n 0, 1) := by decide +kernel
theorem dW_law_411 : decode cW_law 411 = .ok (.iload 4, 2) := by decide +kernel
theorem dW_law_413 : decode cW_law 413 = .ok (.iconst 2, 1) := by decide +kernel
theorem dW_law_414 : decode cW_law 414 = .ok (.iadd, 1) := by decide +kernel
theorem dW_law_415 : decode cW_law 415 = .ok (.iaload, 1) := by decide +kernel
theorem dW_law_416 : decode cW_law 416 = .ok (.aload_n 3, 1) := by decide +kernel
theorem dW_law_417 : decode cW_law 417 = .ok (.invokestatic 97, 3) := by decide +kernel
theorem dW_law_420 : decode cW_law 420 = .ok (.istore 5, 2) := by decide +kernel
theorem dW_law_422 : decode cW_law 422 = .ok (.aload_n 2, 1) := by decide +kernel
theorem dW_law_423 : decode cW_law 423 = .ok (.aload_n 0, 1) := by decide +kernel
theorem dW_law_424 : decode cW_law 424 = .ok (.iload 4, 2) := by decide +kernel
theorem dW_law_426 : decode cW_law 426 = .ok (.iconst 1, 1) := by decide +kernel
theorem dW_law_427 : decode cW_law 427 = .ok (.iadd, 1) := by decide +kernel
theorem dW_law_428 : decode cW_law 428 = .ok (.iaload, 1) := by decide +kernel
theorem dW_law_429 : decode cW_law 429 = .ok (.aload_n 0, 1) := by decide +kernel
theorem dW_law_430 : decode cW_law 430 = .ok (.iload 4, 2) := by decide +kernel
theorem dW_law_432 : decode cW_law 432 = .ok (.iconst 2, 1) := by decide +kernel
theorem dW_law_433 : decode cW_law 433 = .ok (.iadd, 1) := by decide +kernel
theorem dW_law_434 : decode cW_law 434 = .ok (.iaload, 1) := by decide +kernel
theorem dW_law_435 : decode cW_law 435 = .ok (.invokevirtual 100, 3) := by decide +kernel
theorem dW_law_438 : decode cW_law 438 = .ok (.istore 6, 2) := by decide +kernel
theorem dW_law_440 : decode cW_law 440 = .ok (.aload_n 2, 1) := by decide +kernel
theorem dW_law_441 : decode cW_law 441 = .ok (.invokevirtual 83, 3) := by decide +kernel
theorem dW_law_444 : decode cW_law 444 = .ok (.iload 5, 2) := by decide +kernel
theorem dW_law_446 : decode cW_law 446 = .ok (.if_icmp .eq 5, 3) := by decide +kernel
theorem dW_law_449 : decode cW_law 449 = .ok (.iconst 0, 1) := by decide +kernel
theorem dW_law_450 : decode cW_law 450 = .ok (.ireturn, 1) := by decide +kernel
theorem dW_law_451 : decode cW_law 451 = .ok (.iload 5, 2) := by decide +kernel
theorem dW_law_453 : decode cW_law 453 = .ok (.ifCond .ne 15, 3) := by decide +kernel
theorem dW_law_456 : decode cW_law 456 = .ok (.aload_n 3, 1) := by decide +kernel
theorem dW_law_457 : decode cW_law 457 = .ok (.iconst 0, 1) := by decide +kernel
theorem dW_law_458 : decode cW_law 458 = .ok (.laload, 1) := by decide +kernel
theorem dW_law_459 : decode cW_law 459 = .ok (.iload 6, 2) := by decide +kernel
theorem dW_law_461 : decode cW_law 461 = .ok (.i2l, 1) := by decide +kernel
theorem dW_law_462 : decode cW_law 462 = .ok (.lcmp, 1) := by decide +kernel
theorem dW_law_463 : decode cW_law 463 = .ok (.ifCond .eq 5, 3) := by decide +kernel
theorem dW_law_466 : decode cW_law 466 = .ok (.iconst 0, 1) := by decide +kernel
theorem dW_law_467 : decode cW_law 467 = .ok (.ireturn, 1) := by decide +kernel
theorem dW_law_468 : decode cW_law 468 = .ok (.goto 801, 3) := by decide +kernel
theorem dW_law_471 : decode cW_law 471 = .ok (.aload_n 1, 1) := by decide +kernel
theorem dW_law_472 : decode cW_law 472 = .ok (.aload_n 0, 1) := by decide +kernel
theorem dW_law_473 : decode cW_law 473 = .ok (.iload 4, 2) := by decide +kernel
theorem dW_law_475 : decode cW_law 475 = .ok (.iconst 1, 1) := by decide +kernel
theorem dW_law_476 : decode cW_law 476 = .ok (.iadd, 1) := by decide +kernel
theorem dW_law_477 : decode cW_law 477 = .ok (.iaload, 1) := by decide +kernel
theorem dW_law_478 : decode cW_law 478 = .ok (.aload_n 0, 1) := by decide +kernel
theorem dW_law_479 : decode cW_law 479 = .ok (.iload 4, 2) := by decide +kernel
theorem dW_law_481 : decode cW_law 481 = .ok (.iconst 2, 1) := by decide +kernel
theorem dW_law_482 : decode cW_law 482 = .ok (.iadd, 1) := by decide +kernel
theorem dW_law_483 : decode cW_law 483 = .ok (.iaload, 1) := by decide +kernel
theorem dW_law_484 : decode cW_law 484 = .ok (.aload_n 3, 1) := by decide +kernel
theorem dW_law_485 : decode cW_law 485 = .ok (.invokestatic 101, 3) := by decide +kernel
theorem dW_law_488 : decode cW_law 488 = .ok (.istore 5, 2) := by decide +kernel
theorem dW_law_490 : decode cW_law 490 = .ok (.aload_n 2, 1) := by decide +kernel
theorem dW_law_491 : decode cW_law 491 = .ok (.aload_n 0, 1) := by decide +kernel
theorem dW_law_492 : decode cW_law 492 = .ok (.iload 4, 2) := by decide +kernel
theorem dW_law_494 : decode cW_law 494 = .ok (.iconst 1, 1) := by decide +kernel
theorem dW_law_495 : decode cW_law 495 = .ok (.iadd, 1) := by decide +kernel
theorem dW_law_496 : decode cW_law 496 = .ok (.iaload, 1) := by decide +kernel
theorem dW_law_497 : decode cW_law 497 = .ok (.aload_n 0, 1) := by decide +kernel
theorem dW_law_498 : decode cW_law 498 = .ok (.iload 4, 2) := by decide +kernel
theorem dW_law_500 : decode cW_law 500 = .ok (.iconst 2, 1) := by decide +kernel
theorem dW_law_501 : decode cW_law 501 = .ok (.iadd, 1) := by decide +kernel
theorem dW_law_502 : decode cW_law 502 = .ok (.iaload, 1) := by decide +kernel
theorem dW_law_503 : decode cW_law 503 = .ok (.invokevirtual 103, 3) := by decide +kernel
theorem dW_law_506 : decode cW_law 506 = .ok (.istore 6, 2) := by decide +kernel
theorem dW_law_508 : decode cW_law 508 = .ok (.aload_n 2, 1) := by decide +kernel
theorem dW_law_509 : decode cW_law 509 = .ok (.invokevirtual 83, 3) := by decide +kernel
theorem dW_law_512 : decode cW_law 512 = .ok (.iload 5, 2) := by decide +kernel
theorem dW_law_514 : decode cW_law 514 = .ok (.if_icmp .eq 5, 3) := by decide +kernel
theorem dW_law_517 : decode cW_law 517 = .ok (.iconst 0, 1) := by decide +kernel
theorem dW_law_518 : decode cW_law 518 = .ok (.ireturn, 1) := by decide +kernel
theorem dW_law_519 : decode cW_law 519 = .ok (.iload 5, 2) := by decide +kernel
theorem dW_law_521 : decode cW_law 521 = .ok (.ifCond .ne 15, 3) := by decide +kernel
theorem dW_law_524 : decode cW_law 524 = .ok (.aload_n 3, 1) := by decide +kernel
theorem dW_law_525 : decode cW_law 525 = .ok (.iconst 0, 1) := by decide +kernel
theorem dW_law_526 : decode cW_law 526 = .ok (.laload, 1) := by decide +kernel
theorem dW_law_527 : decode cW_law 527 = .ok (.iload 6, 2) := by decide +kernel
theorem dW_law_529 : decode cW_law 529 = .ok (.i2l, 1) := by decide +kernel
theorem dW_law_530 : decode cW_law 530 = .ok (.lcmp, 1) := by decide +kernel
theorem dW_law_531 : decode cW_law 531 = .ok (.ifCond .eq 5, 3) := by decide +kernel
theorem dW_law_534 : decode cW_law 534 = .ok (.iconst 0, 1) := by decide +kernel
theorem dW_law_535 : decode cW_law 535 = .ok (.ireturn, 1) := by decide +kernel
theorem dW_law_536 : decode cW_law 536 = .ok (.goto 733, 3) := by decide +kernel
theorem dW_law_539 : decode cW_law 539 = .ok (.aload_n 1, 1) := by decide +kernel
theorem dW_law_540 : decode cW_law 540 = .ok (.aload_n 0, 1) := by decide +kernel
theorem dW_law_541 : decode cW_law 541 = .ok (.iload 4, 2) := by decide +kernel
theorem dW_law_543 : decode cW_law 543 = .ok (.iconst 1, 1) := by decide +kernel
theorem dW_law_544 : decode cW_law 544 = .ok (.iadd, 1) := by decide +kernel
theorem dW_law_545 : decode cW_law 545 = .ok (.iaload, 1) := by decide +kernel
theorem dW_law_546 : decode cW_law 546 = .ok (.aload_n 3, 1) := by decide +kernel
theorem dW_law_547 : decode cW_law 547 = .ok (.invokestatic 104, 3) := by decide +kernel
theorem dW_law_550 : decode cW_law 550 = .ok (.istore 5, 2) := by decide +kernel
theorem dW_law_552 : decode cW_law 552 = .ok (.aload_n 2, 1) := by decide +kernel
theorem dW_law_553 : decode cW_law 553 = .ok (.aload_n 0, 1) := by decide +kernel
theorem dW_law_554 : decode cW_law 554 = .ok (.iload 4, 2) := by decide +kernel
theorem dW_law_556 : decode cW_law 556 = .ok (.iconst 1, 1) := by decide +kernel
theorem dW_law_557 : decode cW_law 557 = .ok (.iadd, 1) := by decide +kernel
theorem dW_law_558 : decode cW_law 558 = .ok (.iaload, 1) := by decide +kernel
theorem dW_law_559 : decode cW_law 559 = .ok (.invokevirtual 106, 3) := by decide +kernel
theorem dW_law_562 : decode cW_law 562 = .ok (.istore 6, 2) := by decide +kernel
theorem dW_law_564 : decode cW_law 564 = .ok (.aload_n 2, 1) := by decide +kernel
theorem dW_law_565 : decode cW_law 565 = .ok (.invokevirtual 83, 3) := by decide +kernel
theorem dW_law_568 : decode cW_law 568 = .ok (.iload 5, 2) := by decide +kernel
theorem dW_law_570 : decode cW_law 570 = .ok (.if_icmp .eq 5, 3) := by decide +kernel
theorem dW_law_573 : decode cW_law 573 = .ok (.iconst 0, 1) := by decide +kernel
theorem dW_law_574 : decode cW_law 574 = .ok (.ireturn, 1) := by decide +kernel
theorem dW_law_575 : decode cW_law 575 = .ok (.iload 5, 2) := by decide +kernel
theorem dW_law_577 : decode cW_law 577 = .ok (.ifCond .ne 15, 3) := by decide +kernel
theorem dW_law_580 : decode cW_law 580 = .ok (.aload_n 3, 1) := by decide +kernel
theorem dW_law_581 : decode cW_law 581 = .ok (.iconst 0, 1) := by decide +kernel
theorem dW_law_582 : decode cW_law 582 = .ok (.laload, 1) := by decide +kernel
theorem dW_law_583 : decode cW_law 583 = .ok (.iload 6, 2) := by decide +kernel
theorem dW_law_585 : decode cW_law 585 = .ok (.i2l, 1) := by decide +kernel
theorem dW_law_586 : decode cW_law 586 = .ok (.lcmp, 1) := by decide +kernel
theorem dW_law_587 : decode cW_law 587 = .ok (.ifCond .eq 5, 3) := by decide +kernel
theorem dW_law_590 : decode cW_law 590 = .ok (.iconst 0, 1) := by decide +kernel
theorem dW_law_591 : decode cW_law 591 = .ok (.ireturn, 1) := by decide +kernel
theorem dW_law_592 : decode cW_law 592 = .ok (.goto 677, 3) := by decide +kernel
theorem dW_law_595 : decode cW_law 595 = .ok (.aload_n 1, 1) := by decide +kernel
theorem dW_law_596 : decode cW_law 596 = .ok (.invokevirtual 107, 3) := by decide +kernel
theorem dW_law_599 : decode cW_law 599 = .ok (.aload_n 2, 1) := by decide +kernel
theorem dW_law_600 : decode cW_law 600 = .ok (.invokevirtual 110, 3) := by decide +kernel
theorem dW_law_603 : decode cW_law 603 = .ok (.if_icmp .eq 666, 3) := by decide +kernel
theorem dW_law_606 : decode cW_law 606 = .ok (.iconst 0, 1) := by decide +kernel
theorem dW_law_607 : decode cW_law 607 = .ok (.ireturn, 1) := by decide +kernel
theorem dW_law_608 : decode cW_law 608 = .ok (.aload_n 1, 1) := by decide +kernel
theorem dW_law_609 : decode cW_law 609 = .ok (.aload_n 0, 1) := by decide +kernel
theorem dW_law_610 : decode cW_law 610 = .ok (.iload 4, 2) := by decide +kernel
theorem dW_law_612 : decode cW_law 612 = .ok (.iconst 1, 1) := by decide +kernel
theorem dW_law_613 : decode cW_law 613 = .ok (.iadd, 1) := by decide +kernel
theorem dW_law_614 : decode cW_law 614 = .ok (.iaload, 1) := by decide +kernel
theorem dW_law_615 : decode cW_law 615 = .ok (.aload_n 3, 1) := by decide +kernel
theorem dW_law_616 : decode cW_law 616 = .ok (.invokestatic 111, 3) := by decide +kernel
theorem dW_law_619 : decode cW_law 619 = .ok (.istore 5, 2) := by decide +kernel
theorem dW_law_621 : decode cW_law 621 = .ok (.aload_n 2, 1) := by decide +kernel
theorem dW_law_622 : decode cW_law 622 = .ok (.aload_n 0, 1) := by decide +kernel
theorem dW_law_623 : decode cW_law 623 = .ok (.iload 4, 2) := by decide +kernel
theorem dW_law_625 : decode cW_law 625 = .ok (.iconst 1, 1) := by decide +kernel
theorem dW_law_626 : decode cW_law 626 = .ok (.iadd, 1) := by decide +kernel
theorem dW_law_627 : decode cW_law 627 = .ok (.iaload, 1) := by decide +kernel
theorem dW_law_628 : decode cW_law 628 = .ok (.invokevirtual 113, 3) := by decide +kernel
theorem dW_law_631 : decode cW_law 631 = .ok (.istore 6, 2) := by decide +kernel
theorem dW_law_633 : decode cW_law 633 = .ok (.aload_n 2, 1) := by decide +kernel
theorem dW_law_634 : decode cW_law 634 = .ok (.invokevirtual 83, 3) := by decide +kernel
theorem dW_law_637 : decode cW_law 637 = .ok (.iload 5, 2) := by decide +kernel
theorem dW_law_639 : decode cW_law 639 = .ok (.if_icmp .eq 5, 3) := by decide +kernel
theorem dW_law_642 : decode cW_law 642 = .ok (.iconst 0, 1) := by decide +kernel
theorem dW_law_643 : decode cW_law 643 = .ok (.ireturn, 1) := by decide +kernel
theorem dW_law_644 : decode cW_law 644 = .ok (.iload 5, 2) := by decide +kernel
theorem dW_law_646 : decode cW_law 646 = .ok (.ifCond .ne 15, 3) := by decide +kernel
theorem dW_law_649 : decode cW_law 649 = .ok (.aload_n 3, 1) := by decide +kernel
theorem dW_law_650 : decode cW_law 650 = .ok (.iconst 0, 1) := by decide +kernel
theorem dW_law_651 : decode cW_law 651 = .ok (.laload, 1) := by decide +kernel
theorem dW_law_652 : decode cW_law 652 = .ok (.iload 6, 2) := by decide +kernel
theorem dW_law_654 : decode cW_law 654 = .ok (.i2l, 1) := by decide +kernel
theorem dW_law_655 : decode cW_law 655 = .ok (.lcmp, 1) := by decide +kernel
theorem dW_law_656 : decode cW_law 656 = .ok (.ifCond .eq 5, 3) := by decide +kernel
theorem dW_law_659 : decode cW_law 659 = .ok (.iconst 0, 1) := by decide +kernel
theorem dW_law_660 : decode cW_law 660 = .ok (.ireturn, 1) := by decide +kernel
theorem dW_law_661 : decode cW_law 661 = .ok (.goto 608, 3) := by decide +kernel
theorem dW_law_664 : decode cW_law 664 = .ok (.aload_n 1, 1) := by decide +kernel
theorem dW_law_665 : decode cW_law 665 = .ok (.aload_n 0, 1) := by decide +kernel
theorem dW_law_666 : decode cW_law 666 = .ok (.iload 4, 2) := by decide +kernel
theorem dW_law_668 : decode cW_law 668 = .ok (.iconst 1, 1) := by decide +kernel
theorem dW_law_669 : decode cW_law 669 = .ok (.iadd, 1) := by decide +kernel
theorem dW_law_670 : decode cW_law 670 = .ok (.iaload, 1) := by decide +kernel
theorem dW_law_671 : decode cW_law 671 = .ok (.aload_n 0, 1) := by decide +kernel
theorem dW_law_672 : decode cW_law 672 = .ok (.iload 4, 2) := by decide +kernel
theorem dW_law_674 : decode cW_law 674 = .ok (.iconst 2, 1) := by decide +kernel
theorem dW_law_675 : decode cW_law 675 = .ok (.iadd, 1) := by decide +kernel
theorem dW_law_676 : decode cW_law 676 = .ok (.iaload, 1) := by decide +kernel
theorem dW_law_677 : decode cW_law 677 = .ok (.aload_n 0, 1) := by decide +kernel
theorem dW_law_678 : decode cW_law 678 = .ok (.iload 4, 2) := by decide +kernel
theorem dW_law_680 : decode cW_law 680 = .ok (.iconst 3, 1) := by decide +kernel
theorem dW_law_681 : decode cW_law 681 = .ok (.iadd, 1) := by decide +kernel
theorem dW_law_682 : decode cW_law 682 = .ok (.iaload, 1) := by decide +kernel
theorem dW_law_683 : decode cW_law 683 = .ok (.aload_n 3, 1) := by decide +kernel
theorem dW_law_684 : decode cW_law 684 = .ok (.invokestatic 114, 3) := by decide +kernel
theorem dW_law_687 : decode cW_law 687 = .ok (.istore 5, 2) := by decide +kernel
theorem dW_law_689 : decode cW_law 689 = .ok (.aload_n 2, 1) := by decide +kernel
theorem dW_law_690 : decode cW_law 690 = .ok (.aload_n 0, 1) := by decide +kernel
theorem dW_law_691 : decode cW_law 691 = .ok (.iload 4, 2) := by decide +kernel
theorem dW_law_693 : decode cW_law 693 = .ok (.iconst 1, 1) := by decide +kernel
theorem dW_law_694 : decode cW_law 694 = .ok (.iadd, 1) := by decide +kernel
theorem dW_law_695 : decode cW_law 695 = .ok (.iaload, 1) := by decide +kernel
theorem dW_law_696 : decode cW_law 696 = .ok (.aload_n 0, 1) := by decide +kernel
theorem dW_law_697 : decode cW_law 697 = .ok (.iload 4, 2) := by decide +kernel
theorem dW_law_699 : decode cW_law 699 = .ok (.iconst 2, 1) := by decide +kernel
theorem dW_law_700 : decode cW_law 700 = .ok (.iadd, 1) := by decide +kernel
theorem dW_law_701 : decode cW_law 701 = .ok (.iaload, 1) := by decide +kernel
theorem dW_law_702 : decode cW_law 702 = .ok (.aload_n 0, 1) := by decide +kernel
theorem dW_law_703 : decode cW_law 703 = .ok (.iload 4, 2) := by decide +kernel
theorem dW_law_705 : decode cW_law 705 = .ok (.iconst 3, 1) := by decide +kernel
theorem dW_law_706 : decode cW_law 706 = .ok (.iadd, 1) := by decide +kernel
theorem dW_law_707 : decode cW_law 707 = .ok (.iaload, 1) := by decide +kernel
theorem dW_law_708 : decode cW_law 708 = .ok (.invokevirtual 117, 3) := by decide +kernel
theorem dW_law_711 : decode cW_law 711 = .ok (.istore 6, 2) := by decide +kernel
theorem dW_law_713 : decode cW_law 713 = .ok (.aload_n 2, 1) := by decide +kernel
theorem dW_law_714 : decode cW_law 714 = .ok (.invokevirtual 83, 3) := by decide +kernel
theorem dW_law_717 : decode cW_law 717 = .ok (.iload 5, 2) := by decide +kernel
theorem dW_law_719 : decode cW_law 719 = .ok (.if_icmp .eq 5, 3) := by decide +kernel
theorem dW_law_722 : decode cW_law 722 = .ok (.iconst 0, 1) := by decide +kernel
theorem dW_law_723 : decode cW_law 723 = .ok (.ireturn, 1) := by decide +kernel
theorem dW_law_724 : decode cW_law 724 = .ok (.iload 5, 2) := by decide +kernel
theorem dW_law_726 : decode cW_law 726 = .ok (.ifCond .ne 15, 3) := by decide +kernel
theorem dW_law_729 : decode cW_law 729 = .ok (.aload_n 3, 1) := by decide +kernel
theorem dW_law_730 : decode cW_law 730 = .ok (.iconst 0, 1) := by decide +kernel
theorem dW_law_731 : decode cW_law 731 = .ok (.laload, 1) := by decide +kernel
theorem dW_law_732 : decode cW_law 732 = .ok (.iload 6, 2) := by decide +kernel
theorem dW_law_734 : decode cW_law 734 = .ok (.i2l, 1) := by decide +kernel
theorem dW_law_735 : decode cW_law 735 = .ok (.lcmp, 1) := by decide +kernel
theorem dW_law_736 : decode cW_law 736 = .ok (.ifCond .eq 5, 3) := by decide +kernel
theorem dW_law_739 : decode cW_law 739 = .ok (.iconst 0, 1) := by decide +kernel
theorem dW_law_740 : decode cW_law 740 = .ok (.ireturn, 1) := by decide +kernel
theorem dW_law_741 : decode cW_law 741 = .ok (.goto 528, 3) := by decide +kernel
theorem dW_law_744 : decode cW_law 744 = .ok (.aload_n 1, 1) := by decide +kernel
theorem dW_law_745 : decode cW_law 745 = .ok (.aload_n 0, 1) := by decide +kernel
theorem dW_law_746 : decode cW_law 746 = .ok (.iload 4, 2) := by decide +kernel
theorem dW_law_748 : decode cW_law 748 = .ok (.iconst 1, 1) := by decide +kernel
theorem dW_law_749 : decode cW_law 749 = .ok (.iadd, 1) := by decide +kernel
theorem dW_law_750 : decode cW_law 750 = .ok (.iaload, 1) := by decide +kernel
theorem dW_law_751 : decode cW_law 751 = .ok (.aload_n 0, 1) := by decide +kernel
theorem dW_law_752 : decode cW_law 752 = .ok (.iload 4, 2) := by decide +kernel
theorem dW_law_754 : decode cW_law 754 = .ok (.iconst 2, 1) := by decide +kernel
theorem dW_law_755 : decode cW_law 755 = .ok (.iadd, 1) := by decide +kernel
theorem dW_law_756 : decode cW_law 756 = .ok (.iaload, 1) := by decide +kernel
theorem dW_law_757 : decode cW_law 757 = .ok (.aload_n 0, 1) := by decide +kernel
theorem dW_law_758 : decode cW_law 758 = .ok (.iload 4, 2) := by decide +kernel
theorem dW_law_760 : decode cW_law 760 = .ok (.iconst 3, 1) := by decide +kernel
theorem dW_law_761 : decode cW_law 761 = .ok (.iadd, 1) := by decide +kernel
theorem dW_law_762 : decode cW_law 762 = .ok (.iaload, 1) := by decide +kernel
theorem dW_law_763 : decode cW_law 763 = .ok (.aload_n 3, 1) := by decide +kernel
theorem dW_law_764 : decode cW_law 764 = .ok (.invokestatic 118, 3) := by decide +kernel
theorem dW_law_767 : decode cW_law 767 = .ok (.istore 5, 2) := by decide +kernel
theorem dW_law_769 : decode cW_law 769 = .ok (.aload_n 2, 1) := by decide +kernel
theorem dW_law_770 : decode cW_law 770 = .ok (.aload_n 0, 1) := by decide +kernel
theorem dW_law_771 : decode cW_law 771 = .ok (.iload 4, 2) := by decide +kernel
theorem dW_law_773 : decode cW_law 773 = .ok (.iconst 1, 1) := by decide +kernel
theorem dW_law_774 : decode cW_law 774 = .ok (.iadd, 1) := by decide +kernel
theorem dW_law_775 : decode cW_law 775 = .ok (.iaload, 1) := by decide +kernel
theorem dW_law_776 : decode cW_law 776 = .ok (.aload_n 0, 1) := by decide +kernel
theorem dW_law_777 : decode cW_law 777 = .ok (.iload 4, 2) := by decide +kernel
theorem dW_law_779 : decode cW_law 779 = .ok (.iconst 2, 1) := by decide +kernel
theorem dW_law_780 : decode cW_law 780 = .ok (.iadd, 1) := by decide +kernel
theorem dW_law_781 : decode cW_law 781 = .ok (.iaload, 1) := by decide +kernel
theorem dW_law_782 : decode cW_law 782 = .ok (.aload_n 0, 1) := by decide +kernel
theorem dW_law_783 : decode cW_law 783 = .ok (.iload 4, 2) := by decide +kernel
theorem dW_law_785 : decode cW_law 785 = .ok (.iconst 3, 1) := by decide +kernel
theorem dW_law_786 : decode cW_law 786 = .ok (.iadd, 1) := by decide +kernel
theorem dW_law_787 : decode cW_law 787 = .ok (.iaload, 1) := by decide +kernel
theorem dW_law_788 : decode cW_law 788 = .ok (.invokevirtual 120, 3) := by decide +kernel
theorem dW_law_791 : decode cW_law 791 = .ok (.istore 6, 2) := by decide +kernel
theorem dW_law_793 : decode cW_law 793 = .ok (.aload_n 2, 1) := by decide +kernel
theorem dW_law_794 : decode cW_law 794 = .ok (.invokevirtual 83, 3) := by decide +kernel
theorem dW_law_797 : decode cW_law 797 = .ok (.iload 5, 2) := by decide +kernel
theorem dW_law_799 : decode cW_law 799 = .ok (.if_icmp .eq 5, 3) := by decide +kernel
theorem dW_law_802 : decode cW_law 802 = .ok (.iconst 0, 1) := by decide +kernel
theorem dW_law_803 : decode cW_law 803 = .ok (.ireturn, 1) := by decide +kernel
theorem dW_law_804 : decode cW_law 804 = .ok (.iload 5, 2) := by decide +kernel
theorem dW_law_806 : decode cW_law 806 = .ok (.ifCond .ne 15, 3) := by decide +kernel
theorem dW_law_809 : decode cW_law 809 = .ok (.aload_n 3, 1) := by decide +kernel
theorem dW_law_810 : decode cW_law 810 = .ok (.iconst 0, 1) := by decide +kernel
theorem dW_law_811 : decode cW_law 811 = .ok (.laload, 1) := by decide +kernel
theorem dW_law_812 : decode cW_law 812 = .ok (.iload 6, 2) := by decide +kernel
theorem dW_law_814 : decode cW_law 814 = .ok (.i2l, 1) := by decide +kernel
theorem dW_law_815 : decode cW_law 815 = .ok (.lcmp, 1) := by decide +kernel
theorem dW_law_816 : decode cW_law 816 = .ok (.ifCond .eq 5, 3) := by decide +kernel
theorem dW_law_819 : decode cW_law 819 = .ok (.iconst 0, 1) := by decide +kernel
theorem dW_law_820 : decode cW_law 820 = .ok (.ireturn, 1) := by decide +kernel
theorem dW_law_821 : decode cW_law 821 = .ok (.goto 448, 3) := by decide +kernel
theorem dW_law_824 : decode cW_law 824 = .ok (.aload_n 1, 1) := by decide +kernel
theorem dW_law_825 : decode cW_law 825 = .ok (.aload_n 0, 1) := by decide +kernel
theorem dW_law_826 : decode cW_law 826 = .ok (.iload 4, 2) := by decide +kernel
theorem dW_law_828 : decode cW_law 828 = .ok (.iconst 1, 1) := by decide +kernel
theorem dW_law_829 : decode cW_law 829 = .ok (.iadd, 1) := by decide +kernel
theorem dW_law_830 : decode cW_law 830 = .ok (.iaload, 1) := by decide +kernel
theorem dW_law_831 : decode cW_law 831 = .ok (.aload_n 0, 1) := by decide +kernel
theorem dW_law_832 : decode cW_law 832 = .ok (.iload 4, 2) := by decide +kernel
theorem dW_law_834 : decode cW_law 834 = .ok (.iconst 2, 1) := by decide +kernel
theorem dW_law_835 : decode cW_law 835 = .ok (.iadd, 1) := by decide +kernel
theorem dW_law_836 : decode cW_law 836 = .ok (.iaload, 1) := by decide +kernel
theorem dW_law_837 : decode cW_law 837 = .ok (.aload_n 3, 1) := by decide +kernel
theorem dW_law_838 : decode cW_law 838 = .ok (.invokestatic 121, 3) := by decide +kernel
theorem dW_law_841 : decode cW_law 841 = .ok (.istore 5, 2) := by decide +kernel
theorem dW_law_843 : decode cW_law 843 = .ok (.aload_n 2, 1) := by decide +kernel
theorem dW_law_844 : decode cW_law 844 = .ok (.aload_n 0, 1) := by decide +kernel
theorem dW_law_845 : decode cW_law 845 = .ok (.iload 4, 2) := by decide +kernel
theorem dW_law_847 : decode cW_law 847 = .ok (.iconst 1, 1) := by decide +kernel
theorem dW_law_848 : decode cW_law 848 = .ok (.iadd, 1) := by decide +kernel
theorem dW_law_849 : decode cW_law 849 = .ok (.iaload, 1) := by decide +kernel
theorem dW_law_850 : decode cW_law 850 = .ok (.aload_n 0, 1) := by decide +kernel
theorem dW_law_851 : decode cW_law 851 = .ok (.iload 4, 2) := by decide +kernel
theorem dW_law_853 : decode cW_law 853 = .ok (.iconst 2, 1) := by decide +kernel
theorem dW_law_854 : decode cW_law 854 = .ok (.iadd, 1) := by decide +kernel
theorem dW_law_855 : decode cW_law 855 = .ok (.iaload, 1) := by decide +kernel
theorem dW_law_856 : decode cW_law 856 = .ok (.invokevirtual 123, 3) := by decide +kernel
theorem dW_law_859 : decode cW_law 859 = .ok (.istore 6, 2) := by decide +kernel
theorem dW_law_861 : decode cW_law 861 = .ok (.aload_n 2, 1) := by decide +kernel
theorem dW_law_862 : decode cW_law 862 = .ok (.invokevirtual 83, 3) := by decide +kernel
theorem dW_law_865 : decode cW_law 865 = .ok (.iload 5, 2) := by decide +kernel
theorem dW_law_867 : decode cW_law 867 = .ok (.if_icmp .eq 5, 3) := by decide +kernel
theorem dW_law_870 : decode cW_law 870 = .ok (.iconst 0, 1) := by decide +kernel
theorem dW_law_871 : decode cW_law 871 = .ok (.ireturn, 1) := by decide +kernel
theorem dW_law_872 : decode cW_law 872 = .ok (.iload 5, 2) := by decide +kernel
theorem dW_law_874 : decode cW_law 874 = .ok (.ifCond .ne 15, 3) := by decide +kernel
theorem dW_law_877 : decode cW_law 877 = .ok (.aload_n 3, 1) := by decide +kernel
theorem dW_law_878 : decode cW_law 878 = .ok (.iconst 0, 1) := by decide +kernel
theorem dW_law_879 : decode cW_law 879 = .ok (.laload, 1) := by decide +kernel
theorem dW_law_880 : decode cW_law 880 = .ok (.iload 6, 2) := by decide +kernel
theorem dW_law_882 : decode cW_law 882 = .ok (.i2l, 1) := by decide +kernel
theorem dW_law_883 : decode cW_law 883 = .ok (.lcmp, 1) := by decide +kernel
theorem dW_law_884 : decode cW_law 884 = .ok (.ifCond .eq 5, 3) := by decide +kernel
theorem dW_law_887 : decode cW_law 887 = .ok (.iconst 0, 1) := by decide +kernel
theorem dW_law_888 : decode cW_law 888 = .ok (.ireturn, 1) := by decide +kernel
theorem dW_law_889 : decode cW_law 889 = .ok (.goto 380, 3) := by decide +kernel
theorem dW_law_892 : decode cW_law 892 = .ok (.aload_n 1, 1) := by decide +kernel
theorem dW_law_893 : decode cW_law 893 = .ok (.aload_n 0, 1) := by decide +kernel
theorem dW_law_894 : decode cW_law 894 = .ok (.iload 4, 2) := by decide +kernel
theorem dW_law_896 : decode cW_law 896 = .ok (.iconst 1, 1) := by decide +kernel
theorem dW_law_897 : decode cW_law 897 = .ok (.iadd, 1) := by decide +kernel
theorem dW_law_898 : decode cW_law 898 = .ok (.iaload, 1) := by decide +kernel
theorem dW_law_899 : decode cW_law 899 = .ok (.aload_n 0, 1) := by decide +kernel
theorem dW_law_900 : decode cW_law 900 = .ok (.iload 4, 2) := by decide +kernel
theorem dW_law_902 : decode cW_law 902 = .ok (.iconst 2, 1) := by decide +kernel
theorem dW_law_903 : decode cW_law 903 = .ok (.iadd, 1) := by decide +kernel
theorem dW_law_904 : decode cW_law 904 = .ok (.iaload, 1) := by decide +kernel
theorem dW_law_905 : decode cW_law 905 = .ok (.aload_n 0, 1) := by decide +kernel
theorem dW_law_906 : decode cW_law 906 = .ok (.iload 4, 2) := by decide +kernel
theorem dW_law_908 : decode cW_law 908 = .ok (.iconst 3, 1) := by decide +kernel
theorem dW_law_909 : decode cW_law 909 = .ok (.iadd, 1) := by decide +kernel
theorem dW_law_910 : decode cW_law 910 = .ok (.iaload, 1) := by decide +kernel
theorem dW_law_911 : decode cW_law 911 = .ok (.aload_n 3, 1) := by decide +kernel
theorem dW_law_912 : decode cW_law 912 = .ok (.invokestatic 124, 3) := by decide +kernel
theorem dW_law_915 : decode cW_law 915 = .ok (.istore 5, 2) := by decide +kernel
theorem dW_law_917 : decode cW_law 917 = .ok (.aload_n 2, 1) := by decide +kernel
theorem dW_law_918 : decode cW_law 918 = .ok (.aload_n 0, 1) := by decide +kernel
theorem dW_law_919 : decode cW_law 919 = .ok (.iload 4, 2) := by decide +kernel
theorem dW_law_921 : decode cW_law 921 = .ok (.iconst 1, 1) := by decide +kernel
theorem dW_law_922 : decode cW_law 922 = .ok (.iadd, 1) := by decide +kernel
theorem dW_law_923 : decode cW_law 923 = .ok (.iaload, 1) := by decide +kernel
theorem dW_law_924 : decode cW_law 924 = .ok (.aload_n 0, 1) := by decide +kernel
theorem dW_law_925 : decode cW_law 925 = .ok (.iload 4, 2) := by decide +kernel
theorem dW_law_927 : decode cW_law 927 = .ok (.iconst 2, 1) := by decide +kernel
theorem dW_law_928 : decode cW_law 928 = .ok (.iadd, 1) := by decide +kernel
theorem dW_law_929 : decode cW_law 929 = .ok (.iaload, 1) := by decide +kernel
theorem dW_law_930 : decode cW_law 930 = .ok (.aload_n 0, 1) := by decide +kernel
theorem dW_law_931 : decode cW_law 931 = .ok (.iload 4, 2) := by decide +kernel
theorem dW_law_933 : decode cW_law 933 = .ok (.iconst 3, 1) := by decide +kernel
theorem dW_law_934 : decode cW_law 934 = .ok (.iadd, 1) := by decide +kernel
theorem dW_law_935 : decode cW_law 935 = .ok (.iaload, 1) := by decide +kernel
theorem dW_law_936 : decode cW_law 936 = .ok (.invokevirtual 126, 3) := by decide +kernel
theorem dW_law_939 : decode cW_law 939 = .ok (.istore 6, 2) := by decide +kernel
theorem dW_law_941 : decode cW_law 941 = .ok (.aload_n 2, 1) := by decide +kernel
theorem dW_law_942 : decode cW_law 942 = .ok (.invokevirtual 83, 3) := by decide +kernel
theorem dW_law_945 : decode cW_law 945 = .ok (.iload 5, 2) := by decide +kernel
theorem dW_law_947 : decode cW_law 947 = .ok (.if_icmp .eq 5, 3) := by decide +kernel
theorem dW_law_950 : decode cW_law 950 = .ok (.iconst 0, 1) := by decide +kernel
theorem dW_law_951 : decode cW_law 951 = .ok (.ireturn, 1) := by decide +kernel
theorem dW_law_952 : decode cW_law 952 = .ok (.iload 5, 2) := by decide +kernel
theorem dW_law_954 : decode cW_law 954 = .ok (.ifCond .ne 15, 3) := by decide +kernel
theorem dW_law_957 : decode cW_law 957 = .ok (.aload_n 3, 1) := by decide +kernel
theorem dW_law_958 : decode cW_law 958 = .ok (.iconst 0, 1) := by decide +kernel
theorem dW_law_959 : decode cW_law 959 = .ok (.laload, 1) := by decide +kernel
theorem dW_law_960 : decode cW_law 960 = .ok (.iload 6, 2) := by decide +kernel
theorem dW_law_962 : decode cW_law 962 = .ok (.i2l, 1) := by decide +kernel
theorem dW_law_963 : decode cW_law 963 = .ok (.lcmp, 1) := by decide +kernel
theorem dW_law_964 : decode cW_law 964 = .ok (.ifCond .eq 5, 3) := by decide +kernel
theorem dW_law_967 : decode cW_law 967 = .ok (.iconst 0, 1) := by decide +kernel
theorem dW_law_968 : decode cW_law 968 = .ok (.ireturn, 1) := by decide +kernel
theorem dW_law_969 : decode cW_law 969 = .ok (.goto 300, 3) := by decide +kernel
theorem dW_law_972 : decode cW_law 972 = .ok (.aload_n 1, 1) := by decide +kernel
theorem dW_law_973 : decode cW_law 973 = .ok (.aload_n 0, 1) := by decide +kernel
theorem dW_law_974 : decode cW_law 974 = .ok (.iload 4, 2) := by decide +kernel
theorem dW_law_976 : decode cW_law 976 = .ok (.iconst 1, 1) := by decide +kernel
theorem dW_law_977 : decode cW_law 977 = .ok (.iadd, 1) := by decide +kernel
theorem dW_law_978 : decode cW_law 978 = .ok (.iaload, 1) := by decide +kernel
theorem dW_law_979 : decode cW_law 979 = .ok (.aload_n 0, 1) := by decide +kernel
theorem dW_law_980 : decode cW_law 980 = .ok (.iload 4, 2) := by decide +kernel
theorem dW_law_982 : decode cW_law 982 = .ok (.iconst 2, 1) := by decide +kernel
theorem dW_law_983 : decode cW_law 983 = .ok (.iadd, 1) := by decide +kernel
theorem dW_law_984 : decode cW_law 984 = .ok (.iaload, 1) := by decide +kernel
theorem dW_law_985 : decode cW_law 985 = .ok (.aload_n 3, 1) := by decide +kernel
theorem dW_law_986 : decode cW_law 986 = .ok (.invokestatic 127, 3) := by decide +kernel
theorem dW_law_989 : decode cW_law 989 = .ok (.istore 5, 2) := by decide +kernel
theorem dW_law_991 : decode cW_law 991 = .ok (.aload_n 2, 1) := by decide +kernel
theorem dW_law_992 : decode cW_law 992 = .ok (.aload_n 0, 1) := by decide +kernel
theorem dW_law_993 : decode cW_law 993 = .ok (.iload 4, 2) := by decide +kernel
theorem dW_law_995 : decode cW_law 995 = .ok (.iconst 1, 1) := by decide +kernel
theorem dW_law_996 : decode cW_law 996 = .ok (.iadd, 1) := by decide +kernel
theorem dW_law_997 : decode cW_law 997 = .ok (.iaload, 1) := by decide +kernel
theorem dW_law_998 : decode cW_law 998 = .ok (.aload_n 0, 1) := by decide +kernel
theorem dW_law_999 : decode cW_law 999 = .ok (.iload 4, 2) := by decide +kernel
theorem dW_law_1001 : decode cW_law 1001 = .ok (.iconst 2, 1) := by decide +kernel
theorem dW_law_1002 : decode cW_law 1002 = .ok (.iadd, 1) := by decide +kernel
theorem dW_law_1003 : decode cW_law 1003 = .ok (.iaload, 1) := by decide +kernel
theorem dW_law_1004 : decode cW_law 1004 = .ok (.invokevirtual 129, 3) := by decide +kernel
theorem dW_law_1007 : decode cW_law 1007 = .ok (.istore 6, 2) := by decide +kernel
theorem dW_law_1009 : decode cW_law 1009 = .ok (.aload_n 2, 1) := by decide +kernel
theorem dW_law_1010 : decode cW_law 1010 = .ok (.invokevirtual 83, 3) := by decide +kernel
theorem dW_law_1013 : decode cW_law 1013 = .ok (.iload 5, 2) := by decide +kernel
theorem dW_law_1015 : decode cW_law 1015 = .ok (.if_icmp .eq 5, 3) := by decide +kernel
theorem dW_law_1018 : decode cW_law 1018 = .ok (.iconst 0, 1) := by decide +kernel
theorem dW_law_1019 : decode cW_law 1019 = .ok (.ireturn, 1) := by decide +kernel
theorem dW_law_1020 : decode cW_law 1020 = .ok (.iload 5, 2) := by decide +kernel
theorem dW_law_1022 : decode cW_law 1022 = .ok (.ifCond .ne 15, 3) := by decide +kernel
theorem dW_law_1025 : decode cW_law 1025 = .ok (.aload_n 3, 1) := by decide +kernel
theorem dW_law_1026 : decode cW_law 1026 = .ok (.iconst 0, 1) := by decide +kernel
theorem dW_law_1027 : decode cW_law 1027 = .ok (.laload, 1) := by decide +kernel
theorem dW_law_1028 : decode cW_law 1028 = .ok (.iload 6, 2) := by decide +kernel
theorem dW_law_1030 : decode cW_law 1030 = .ok (.i2l, 1) := by decide +kernel
theorem dW_law_1031 : decode cW_law 1031 = .ok (.lcmp, 1) := by decide +kernel
theorem dW_law_1032 : decode cW_law 1032 = .ok (.ifCond .eq 5, 3) := by decide +kernel
theorem dW_law_1035 : decode cW_law 1035 = .ok (.iconst 0, 1) := by decide +kernel
theorem dW_law_1036 : decode cW_law 1036 = .ok (.ireturn, 1) := by decide +kernel
theorem dW_law_1037 : decode cW_law 1037 = .ok (.goto 232, 3) := by decide +kernel
theorem dW_law_1040 : decode cW_law 1040 = .ok (.aload_n 1, 1) := by decide +kernel
theorem dW_law_1041 : decode cW_law 1041 = .ok (.aload_n 0, 1) := by decide +kernel
theorem dW_law_1042 : decode cW_law 1042 = .ok (.iload 4, 2) := by decide +kernel
theorem dW_law_1044 : decode cW_law 1044 = .ok (.iconst 1, 1) := by decide +kernel
theorem dW_law_1045 : decode cW_law 1045 = .ok (.iadd, 1) := by decide +kernel
theorem dW_law_1046 : decode cW_law 1046 = .ok (.iaload, 1) := by decide +kernel
theorem dW_law_1047 : decode cW_law 1047 = .ok (.aload_n 0, 1) := by decide +kernel
theorem dW_law_1048 : decode cW_law 1048 = .ok (.iload 4, 2) := by decide +kernel
theorem dW_law_1050 : decode cW_law 1050 = .ok (.iconst 2, 1) := by decide +kernel
theorem dW_law_1051 : decode cW_law 1051 = .ok (.iadd, 1) := by decide +kernel
theorem dW_law_1052 : decode cW_law 1052 = .ok (.iaload, 1) := by decide +kernel
theorem dW_law_1053 : decode cW_law 1053 = .ok (.aload_n 3, 1) := by decide +kernel
theorem dW_law_1054 : decode cW_law 1054 = .ok (.invokestatic 130, 3) := by decide +kernel
theorem dW_law_1057 : decode cW_law 1057 = .ok (.istore 5, 2) := by decide +kernel
theorem dW_law_1059 : decode cW_law 1059 = .ok (.aload_n 2, 1) := by decide +kernel
theorem dW_law_1060 : decode cW_law 1060 = .ok (.aload_n 0, 1) := by decide +kernel
theorem dW_law_1061 : decode cW_law 1061 = .ok (.iload 4, 2) := by decide +kernel
theorem dW_law_1063 : decode cW_law 1063 = .ok (.iconst 1, 1) := by decide +kernel
theorem dW_law_1064 : decode cW_law 1064 = .ok (.iadd, 1) := by decide +kernel
theorem dW_law_1065 : decode cW_law 1065 = .ok (.iaload, 1) := by decide +kernel
theorem dW_law_1066 : decode cW_law 1066 = .ok (.aload_n 0, 1) := by decide +kernel
theorem dW_law_1067 : decode cW_law 1067 = .ok (.iload 4, 2) := by decide +kernel
theorem dW_law_1069 : decode cW_law 1069 = .ok (.iconst 2, 1) := by decide +kernel
theorem dW_law_1070 : decode cW_law 1070 = .ok (.iadd, 1) := by decide +kernel
theorem dW_law_1071 : decode cW_law 1071 = .ok (.iaload, 1) := by decide +kernel
theorem dW_law_1072 : decode cW_law 1072 = .ok (.invokevirtual 132, 3) := by decide +kernel
theorem dW_law_1075 : decode cW_law 1075 = .ok (.istore 6, 2) := by decide +kernel
theorem dW_law_1077 : decode cW_law 1077 = .ok (.aload_n 2, 1) := by decide +kernel
theorem dW_law_1078 : decode cW_law 1078 = .ok (.invokevirtual 83, 3) := by decide +kernel
theorem dW_law_1081 : decode cW_law 1081 = .ok (.iload 5, 2) := by decide +kernel
theorem dW_law_1083 : decode cW_law 1083 = .ok (.if_icmp .eq 5, 3) := by decide +kernel
theorem dW_law_1086 : decode cW_law 1086 = .ok (.iconst 0, 1) := by decide +kernel
theorem dW_law_1087 : decode cW_law 1087 = .ok (.ireturn, 1) := by decide +kernel
theorem dW_law_1088 : decode cW_law 1088 = .ok (.iload 5, 2) := by decide +kernel
theorem dW_law_1090 : decode cW_law 1090 = .ok (.ifCond .ne 15, 3) := by decide +kernel
theorem dW_law_1093 : decode cW_law 1093 = .ok (.aload_n 3, 1) := by decide +kernel
theorem dW_law_1094 : decode cW_law 1094 = .ok (.iconst 0, 1) := by decide +kernel
theorem dW_law_1095 : decode cW_law 1095 = .ok (.laload, 1) := by decide +kernel
theorem dW_law_1096 : decode cW_law 1096 = .ok (.iload 6, 2) := by decide +kernel
theorem dW_law_1098 : decode cW_law 1098 = .ok (.i2l, 1) := by decide +kernel
theorem dW_law_1099 : decode cW_law 1099 = .ok (.lcmp, 1) := by decide +kernel
theorem dW_law_1100 : decode cW_law 1100 = .ok (.ifCond .eq 5, 3) := by decide +kernel
theorem dW_law_1103 : decode cW_law 1103 = .ok (.iconst 0, 1) := by decide +kernel
theorem dW_law_1104 : decode cW_law 1104 = .ok (.ireturn, 1) := by decide +kernel
theorem dW_law_1105 : decode cW_law 1105 = .ok (.goto 164, 3) := by decide +kernel
theorem dW_law_1108 : decode cW_law 1108 = .ok (.aload_n 1, 1) := by decide +kernel
theorem dW_law_1109 : decode cW_law 1109 = .ok (.aload_n 0, 1) := by decide +kernel
theorem dW_law_1110 : decode cW_law 1110 = .ok (.iload 4, 2) := by decide +kernel
theorem dW_law_1112 : decode cW_law 1112 = .ok (.iconst 1, 1) := by decide +kernel
theorem dW_law_1113 : decode cW_law 1113 = .ok (.iadd, 1) := by decide +kernel
theorem dW_law_1114 : decode cW_law 1114 = .ok (.iaload, 1) := by decide +kernel
theorem dW_law_1115 : decode cW_law 1115 = .ok (.aload_n 0, 1) := by decide +kernel
theorem dW_law_1116 : decode cW_law 1116 = .ok (.iload 4, 2) := by decide +kernel
theorem dW_law_1118 : decode cW_law 1118 = .ok (.iconst 2, 1) := by decide +kernel
theorem dW_law_1119 : decode cW_law 1119 = .ok (.iadd, 1) := by decide +kernel
theorem dW_law_1120 : decode cW_law 1120 = .ok (.iaload, 1) := by decide +kernel
theorem dW_law_1121 : decode cW_law 1121 = .ok (.aload_n 3, 1) := by decide +kernel
theorem dW_law_1122 : decode cW_law 1122 = .ok (.invokestatic 133, 3) := by decide +kernel
theorem dW_law_1125 : decode cW_law 1125 = .ok (.istore 5, 2) := by decide +kernel
theorem dW_law_1127 : decode cW_law 1127 = .ok (.aload_n 2, 1) := by decide +kernel
theorem dW_law_1128 : decode cW_law 1128 = .ok (.aload_n 0, 1) := by decide +kernel
theorem dW_law_1129 : decode cW_law 1129 = .ok (.iload 4, 2) := by decide +kernel
theorem dW_law_1131 : decode cW_law 1131 = .ok (.iconst 1, 1) := by decide +kernel
theorem dW_law_1132 : decode cW_law 1132 = .ok (.iadd, 1) := by decide +kernel
theorem dW_law_1133 : decode cW_law 1133 = .ok (.iaload, 1) := by decide +kernel
theorem dW_law_1134 : decode cW_law 1134 = .ok (.aload_n 0, 1) := by decide +kernel
theorem dW_law_1135 : decode cW_law 1135 = .ok (.iload 4, 2) := by decide +kernel
theorem dW_law_1137 : decode cW_law 1137 = .ok (.iconst 2, 1) := by decide +kernel
theorem dW_law_1138 : decode cW_law 1138 = .ok (.iadd, 1) := by decide +kernel
theorem dW_law_1139 : decode cW_law 1139 = .ok (.iaload, 1) := by decide +kernel
theorem dW_law_1140 : decode cW_law 1140 = .ok (.invokevirtual 135, 3) := by decide +kernel
theorem dW_law_1143 : decode cW_law 1143 = .ok (.istore 6, 2) := by decide +kernel
theorem dW_law_1145 : decode cW_law 1145 = .ok (.aload_n 2, 1) := by decide +kernel
theorem dW_law_1146 : decode cW_law 1146 = .ok (.invokevirtual 83, 3) := by decide +kernel
theorem dW_law_1149 : decode cW_law 1149 = .ok (.iload 5, 2) := by decide +kernel
theorem dW_law_1151 : decode cW_law 1151 = .ok (.if_icmp .eq 5, 3) := by decide +kernel
theorem dW_law_1154 : decode cW_law 1154 = .ok (.iconst 0, 1) := by decide +kernel
theorem dW_law_1155 : decode cW_law 1155 = .ok (.ireturn, 1) := by decide +kernel
theorem dW_law_1156 : decode cW_law 1156 = .ok (.iload 5, 2) := by decide +kernel
theorem dW_law_1158 : decode cW_law 1158 = .ok (.ifCond .ne 15, 3) := by decide +kernel
theorem dW_law_1161 : decode cW_law 1161 = .ok (.aload_n 3, 1) := by decide +kernel
theorem dW_law_1162 : decode cW_law 1162 = .ok (.iconst 0, 1) := by decide +kernel
theorem dW_law_1163 : decode cW_law 1163 = .ok (.laload, 1) := by decide +kernel
theorem dW_law_1164 : decode cW_law 1164 = .ok (.iload 6, 2) := by decide +kernel
theorem dW_law_1166 : decode cW_law 1166 = .ok (.i2l, 1) := by decide +kernel
theorem dW_law_1167 : decode cW_law 1167 = .ok (.lcmp, 1) := by decide +kernel
theorem dW_law_1168 : decode cW_law 1168 = .ok (.ifCond .eq 5, 3) := by decide +kernel
theorem dW_law_1171 : decode cW_law 1171 = .ok (.iconst 0, 1) := by decide +kernel
theorem dW_law_1172 : decode cW_law 1172 = .ok (.ireturn, 1) := by decide +kernel
theorem dW_law_1173 : decode cW_law 1173 = .ok (.goto 96, 3) := by decide +kernel
theorem dW_law_1176 : decode cW_law 1176 = .ok (.aload_n 1, 1) := by decide +kernel
theorem dW_law_1177 : decode cW_law 1177 = .ok (.aload_n 0, 1) := by decide +kernel
theorem dW_law_1178 : decode cW_law 1178 = .ok (.iload 4, 2) := by decide +kernel
theorem dW_law_1180 : decode cW_law 1180 = .ok (.iconst 1, 1) := by decide +kernel
theorem dW_law_1181 : decode cW_law 1181 = .ok (.iadd, 1) := by decide +kernel
theorem dW_law_1182 : decode cW_law 1182 = .ok (.iaload, 1) := by decide +kernel
theorem dW_law_1183 : decode cW_law 1183 = .ok (.aload_n 0, 1) := by decide +kernel
theorem dW_law_1184 : decode cW_law 1184 = .ok (.iload 4, 2) := by decide +kernel
theorem dW_law_1186 : decode cW_law 1186 = .ok (.iconst 2, 1) := by decide +kernel
theorem dW_law_1187 : decode cW_law 1187 = .ok (.iadd, 1) := by decide +kernel
theorem dW_law_1188 : decode cW_law 1188 = .ok (.iaload, 1) := by decide +kernel
theorem dW_law_1189 : decode cW_law 1189 = .ok (.aload_n 3, 1) := by decide +kernel
theorem dW_law_1190 : decode cW_law 1190 = .ok (.invokestatic 136, 3) := by decide +kernel
theorem dW_law_1193 : decode cW_law 1193 = .ok (.istore 5, 2) := by decide +kernel
theorem dW_law_1195 : decode cW_law 1195 = .ok (.aload_n 2, 1) := by decide +kernel
theorem dW_law_1196 : decode cW_law 1196 = .ok (.aload_n 0, 1) := by decide +kernel
theorem dW_law_1197 : decode cW_law 1197 = .ok (.iload 4, 2) := by decide +kernel
theorem dW_law_1199 : decode cW_law 1199 = .ok (.iconst 1, 1) := by decide +kernel
theorem dW_law_1200 : decode cW_law 1200 = .ok (.iadd, 1) := by decide +kernel
theorem dW_law_1201 : decode cW_law 1201 = .ok (.iaload, 1) := by decide +kernel
theorem dW_law_1202 : decode cW_law 1202 = .ok (.aload_n 0, 1) := by decide +kernel
theorem dW_law_1203 : decode cW_law 1203 = .ok (.iload 4, 2) := by decide +kernel
theorem dW_law_1205 : decode cW_law 1205 = .ok (.iconst 2, 1) := by decide +kernel
theorem dW_law_1206 : decode cW_law 1206 = .ok (.iadd, 1) := by decide +kernel
theorem dW_law_1207 : decode cW_law 1207 = .ok (.iaload, 1) := by decide +kernel
theorem dW_law_1208 : decode cW_law 1208 = .ok (.invokevirtual 138, 3) := by decide +kernel
theorem dW_law_1211 : decode cW_law 1211 = .ok (.istore 6, 2) := by decide +kernel
theorem dW_law_1213 : decode cW_law 1213 = .ok (.aload_n 2, 1) := by decide +kernel
theorem dW_law_1214 : decode cW_law 1214 = .ok (.invokevirtual 83, 3) := by decide +kernel
theorem dW_law_1217 : decode cW_law 1217 = .ok (.iload 5, 2) := by decide +kernel
theorem dW_law_1219 : decode cW_law 1219 = .ok (.if_icmp .eq 5, 3) := by decide +kernel
theorem dW_law_1222 : decode cW_law 1222 = .ok (.iconst 0, 1) := by decide +kernel
theorem dW_law_1223 : decode cW_law 1223 = .ok (.ireturn, 1) := by decide +kernel
theorem dW_law_1224 : decode cW_law 1224 = .ok (.iload 5, 2) := by decide +kernel
theorem dW_law_1226 : decode cW_law 1226 = .ok (.ifCond .ne 15, 3) := by decide +kernel
theorem dW_law_1229 : decode cW_law 1229 = .ok (.aload_n 3, 1) := by decide +kernel
theorem dW_law_1230 : decode cW_law 1230 = .ok (.iconst 0, 1) := by decide +kernel
theorem dW_law_1231 : decode cW_law 1231 = .ok (.laload, 1) := by decide +kernel
theorem dW_law_1232 : decode cW_law 1232 = .ok (.iload 6, 2) := by decide +kernel
theorem dW_law_1234 : decode cW_law 1234 = .ok (.i2l, 1) := by decide +kernel
theorem dW_law_1235 : decode cW_law 1235 = .ok (.lcmp, 1) := by decide +kernel
theorem dW_law_1236 : decode cW_law 1236 = .ok (.ifCond .eq 5, 3) := by decide +kernel
theorem dW_law_1239 : decode cW_law 1239 = .ok (.iconst 0, 1) := by decide +kernel
theorem dW_law_1240 : decode cW_law 1240 = .ok (.ireturn, 1) := by decide +kernel
theorem dW_law_1241 : decode cW_law 1241 = .ok (.goto 28, 3) := by decide +kernel
theorem dW_law_1244 : decode cW_law 1244 = .ok (.aload_n 1, 1) := by decide +kernel
theorem dW_law_1245 : decode cW_law 1245 = .ok (.aload_n 0, 1) := by decide +kernel
theorem dW_law_1246 : decode cW_law 1246 = .ok (.iload 4, 2) := by decide +kernel
theorem dW_law_1248 : decode cW_law 1248 = .ok (.iconst 1, 1) := by decide +kernel
theorem dW_law_1249 : decode cW_law 1249 = .ok (.iadd, 1) := by decide +kernel
theorem dW_law_1250 : decode cW_law 1250 = .ok (.iaload, 1) := by decide +kernel
theorem dW_law_1251 : decode cW_law 1251 = .ok (.invokevirtual 139, 3) := by decide +kernel
theorem dW_law_1254 : decode cW_law 1254 = .ok (.aload_n 2, 1) := by decide +kernel
theorem dW_law_1255 : decode cW_law 1255 = .ok (.aload_n 0, 1) := by decide +kernel
theorem dW_law_1256 : decode cW_law 1256 = .ok (.iload 4, 2) := by decide +kernel
theorem dW_law_1258 : decode cW_law 1258 = .ok (.iconst 1, 1) := by decide +kernel
theorem dW_law_1259 : decode cW_law 1259 = .ok (.iadd, 1) := by decide +kernel
theorem dW_law_1260 : decode cW_law 1260 = .ok (.iaload, 1) := by decide +kernel
theorem dW_law_1261 : decode cW_law 1261 = .ok (.invokevirtual 142, 3) := by decide +kernel
theorem dW_law_1264 : decode cW_law 1264 = .ok (.if_icmp .eq 5, 3) := by decide +kernel
theorem dW_law_1267 : decode cW_law 1267 = .ok (.iconst 0, 1) := by decide +kernel
theorem dW_law_1268 : decode cW_law 1268 = .ok (.ireturn, 1) := by decide +kernel
theorem dW_law_1269 : decode cW_law 1269 = .ok (.iinc 4 4, 3) := by decide +kernel
theorem dW_law_1272 : decode cW_law 1272 = .ok (.goto (-1229), 3) := by decide +kernel
theorem dW_law_1275 : decode cW_law 1275 = .ok (.iconst 1, 1) := by decide +kernel
theorem dW_law_1276 : decode cW_law 1276 = .ok (.ireturn, 1) := by decide +kernel
