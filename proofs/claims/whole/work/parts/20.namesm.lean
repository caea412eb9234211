abbrev cM_init : ByteArray := prog_5_method_1_code
def yM_init : MethodName := ⟨"ThreadSlotsModel", "<init>", "(II)V"⟩
theorem dM_init_0 : decode cM_init 0 = .ok (.aload_n 0, 1) := by decide +kernel
theorem dM_init_1 : decode cM_init 1 = .ok (.invokespecial 1, 3) := by decide +kernel
theorem dM_init_4 : decode cM_init 4 = .ok (.aload_n 0, 1) := by decide +kernel
theorem dM_init_5 : decode cM_init 5 = .ok (.iconst (-1), 1) := by decide +kernel
theorem dM_init_6 : decode cM_init 6 = .ok (.putfield 7, 3) := by decide +kernel
theorem dM_init_9 : decode cM_init 9 = .ok (.aload_n 0, 1) := by decide +kernel
theorem dM_init_10 : decode cM_init 10 = .ok (.iconst (-1), 1) := by decide +kernel
theorem dM_init_11 : decode cM_init 11 = .ok (.putfield 13, 3) := by decide +kernel
theorem dM_init_14 : decode cM_init 14 = .ok (.aload_n 0, 1) := by decide +kernel
theorem dM_init_15 : decode cM_init 15 = .ok (.bipush 16, 2) := by decide +kernel
theorem dM_init_17 : decode cM_init 17 = .ok (.newarray .boolean, 2) := by decide +kernel
theorem dM_init_19 : decode cM_init 19 = .ok (.putfield 16, 3) := by decide +kernel
theorem dM_init_22 : decode cM_init 22 = .ok (.aload_n 0, 1) := by decide +kernel
theorem dM_init_23 : decode cM_init 23 = .ok (.bipush 16, 2) := by decide +kernel
theorem dM_init_25 : decode cM_init 25 = .ok (.newarray .int, 2) := by decide +kernel
theorem dM_init_27 : decode cM_init 27 = .ok (.putfield 20, 3) := by decide +kernel
theorem dM_init_30 : decode cM_init 30 = .ok (.aload_n 0, 1) := by decide +kernel
theorem dM_init_31 : decode cM_init 31 = .ok (.bipush 16, 2) := by decide +kernel
theorem dM_init_33 : decode cM_init 33 = .ok (.newarray .int, 2) := by decide +kernel
theorem dM_init_35 : decode cM_init 35 = .ok (.putfield 24, 3) := by decide +kernel
theorem dM_init_38 : decode cM_init 38 = .ok (.aload_n 0, 1) := by decide +kernel
theorem dM_init_39 : decode cM_init 39 = .ok (.bipush 16, 2) := by decide +kernel
theorem dM_init_41 : decode cM_init 41 = .ok (.newarray .int, 2) := by decide +kernel
theorem dM_init_43 : decode cM_init 43 = .ok (.putfield 27, 3) := by decide +kernel
theorem dM_init_46 : decode cM_init 46 = .ok (.aload_n 0, 1) := by decide +kernel
theorem dM_init_47 : decode cM_init 47 = .ok (.bipush 16, 2) := by decide +kernel
theorem dM_init_49 : decode cM_init 49 = .ok (.newarray .int, 2) := by decide +kernel
theorem dM_init_51 : decode cM_init 51 = .ok (.putfield 30, 3) := by decide +kernel
theorem dM_init_54 : decode cM_init 54 = .ok (.aload_n 0, 1) := by decide +kernel
theorem dM_init_55 : decode cM_init 55 = .ok (.bipush 16, 2) := by decide +kernel
theorem dM_init_57 : decode cM_init 57 = .ok (.newarray .int, 2) := by decide +kernel
theorem dM_init_59 : decode cM_init 59 = .ok (.putfield 33, 3) := by decide +kernel
theorem dM_init_62 : decode cM_init 62 = .ok (.aload_n 0, 1) := by decide +kernel
theorem dM_init_63 : decode cM_init 63 = .ok (.bipush 16, 2) := by decide +kernel
theorem dM_init_65 : decode cM_init 65 = .ok (.newarray .int, 2) := by decide +kernel
theorem dM_init_67 : decode cM_init 67 = .ok (.putfield 36, 3) := by decide +kernel
theorem dM_init_70 : decode cM_init 70 = .ok (.aload_n 0, 1) := by decide +kernel
theorem dM_init_71 : decode cM_init 71 = .ok (.bipush 16, 2) := by decide +kernel
theorem dM_init_73 : decode cM_init 73 = .ok (.newarray .int, 2) := by decide +kernel
theorem dM_init_75 : decode cM_init 75 = .ok (.putfield 39, 3) := by decide +kernel
theorem dM_init_78 : decode cM_init 78 = .ok (.aload_n 0, 1) := by decide +kernel
theorem dM_init_79 : decode cM_init 79 = .ok (.sipush 256, 3) := by decide +kernel
theorem dM_init_82 : decode cM_init 82 = .ok (.newarray .int, 2) := by decide +kernel
theorem dM_init_84 : decode cM_init 84 = .ok (.putfield 42, 3) := by decide +kernel
theorem dM_init_87 : decode cM_init 87 = .ok (.aload_n 0, 1) := by decide +kernel
theorem dM_init_88 : decode cM_init 88 = .ok (.bipush 8, 2) := by decide +kernel
theorem dM_init_90 : decode cM_init 90 = .ok (.newarray .int, 2) := by decide +kernel
theorem dM_init_92 : decode cM_init 92 = .ok (.putfield 45, 3) := by decide +kernel
theorem dM_init_95 : decode cM_init 95 = .ok (.aload_n 0, 1) := by decide +kernel
theorem dM_init_96 : decode cM_init 96 = .ok (.sipush 256, 3) := by decide +kernel
theorem dM_init_99 : decode cM_init 99 = .ok (.newarray .int, 2) := by decide +kernel
theorem dM_init_101 : decode cM_init 101 = .ok (.putfield 48, 3) := by decide +kernel
theorem dM_init_104 : decode cM_init 104 = .ok (.aload_n 0, 1) := by decide +kernel
theorem dM_init_105 : decode cM_init 105 = .ok (.sipush 256, 3) := by decide +kernel
theorem dM_init_108 : decode cM_init 108 = .ok (.newarray .int, 2) := by decide +kernel
theorem dM_init_110 : decode cM_init 110 = .ok (.putfield 51, 3) := by decide +kernel
theorem dM_init_113 : decode cM_init 113 = .ok (.aload_n 0, 1) := by decide +kernel
theorem dM_init_114 : decode cM_init 114 = .ok (.sipush 128, 3) := by decide +kernel
theorem dM_init_117 : decode cM_init 117 = .ok (.newarray .int, 2) := by decide +kernel
theorem dM_init_119 : decode cM_init 119 = .ok (.putfield 54, 3) := by decide +kernel
theorem dM_init_122 : decode cM_init 122 = .ok (.aload_n 0, 1) := by decide +kernel
theorem dM_init_123 : decode cM_init 123 = .ok (.iconst 1, 1) := by decide +kernel
theorem dM_init_124 : decode cM_init 124 = .ok (.iload_n 1, 1) := by decide +kernel
theorem dM_init_125 : decode cM_init 125 = .ok (.iconst 1, 1) := by decide +kernel
theorem dM_init_126 : decode cM_init 126 = .ok (.isub, 1) := by decide +kernel
theorem dM_init_127 : decode cM_init 127 = .ok (.bipush 16, 2) := by decide +kernel
theorem dM_init_129 : decode cM_init 129 = .ok (.irem, 1) := by decide +kernel
theorem dM_init_130 : decode cM_init 130 = .ok (.bipush 16, 2) := by decide +kernel
theorem dM_init_132 : decode cM_init 132 = .ok (.iadd, 1) := by decide +kernel
theorem dM_init_133 : decode cM_init 133 = .ok (.bipush 16, 2) := by decide +kernel
theorem dM_init_135 : decode cM_init 135 = .ok (.irem, 1) := by decide +kernel
theorem dM_init_136 : decode cM_init 136 = .ok (.iadd, 1) := by decide +kernel
theorem dM_init_137 : decode cM_init 137 = .ok (.putfield 57, 3) := by decide +kernel
theorem dM_init_140 : decode cM_init 140 = .ok (.aload_n 0, 1) := by decide +kernel
theorem dM_init_141 : decode cM_init 141 = .ok (.iload_n 2, 1) := by decide +kernel
theorem dM_init_142 : decode cM_init 142 = .ok (.ldc 60, 2) := by decide +kernel
theorem dM_init_144 : decode cM_init 144 = .ok (.iand, 1) := by decide +kernel
theorem dM_init_145 : decode cM_init 145 = .ok (.putfield 61, 3) := by decide +kernel
theorem dM_init_148 : decode cM_init 148 = .ok (.iconst 0, 1) := by decide +kernel
theorem dM_init_149 : decode cM_init 149 = .ok (.istore_n 3, 1) := by decide +kernel
theorem dM_init_150 : decode cM_init 150 = .ok (.iload_n 3, 1) := by decide +kernel
theorem dM_init_151 : decode cM_init 151 = .ok (.sipush 128, 3) := by decide +kernel
theorem dM_init_154 : decode cM_init 154 = .ok (.if_icmp .ge 17, 3) := by decide +kernel
theorem dM_init_157 : decode cM_init 157 = .ok (.aload_n 0, 1) := by decide +kernel
theorem dM_init_158 : decode cM_init 158 = .ok (.getfield 54, 3) := by decide +kernel
theorem dM_init_161 : decode cM_init 161 = .ok (.iload_n 3, 1) := by decide +kernel
theorem dM_init_162 : decode cM_init 162 = .ok (.bipush 32, 2) := by decide +kernel
theorem dM_init_164 : decode cM_init 164 = .ok (.iastore, 1) := by decide +kernel
theorem dM_init_165 : decode cM_init 165 = .ok (.iinc 3 1, 3) := by decide +kernel
theorem dM_init_168 : decode cM_init 168 = .ok (.goto (-18), 3) := by decide +kernel
theorem dM_init_171 : decode cM_init 171 = .ok (.return_, 1) := by decide +kernel
abbrev cM_thrown : ByteArray := prog_5_method_2_code
def yM_thrown : MethodName := ⟨"ThreadSlotsModel", "thrown", "()I"⟩
theorem dM_thrown_0 : decode cM_thrown 0 = .ok (.aload_n 0, 1) := by decide +kernel
theorem dM_thrown_1 : decode cM_thrown 1 = .ok (.getfield 64, 3) := by decide +kernel
theorem dM_thrown_4 : decode cM_thrown 4 = .ok (.ireturn, 1) := by decide +kernel
abbrev cM_fail : ByteArray := prog_5_method_3_code
def yM_fail : MethodName := ⟨"ThreadSlotsModel", "fail", "(I)I"⟩
theorem dM_fail_0 : decode cM_fail 0 = .ok (.aload_n 0, 1) := by decide +kernel
theorem dM_fail_1 : decode cM_fail 1 = .ok (.iload_n 1, 1) := by decide +kernel
theorem dM_fail_2 : decode cM_fail 2 = .ok (.putfield 64, 3) := by decide +kernel
theorem dM_fail_5 : decode cM_fail 5 = .ok (.iconst 0, 1) := by decide +kernel
theorem dM_fail_6 : decode cM_fail 6 = .ok (.ireturn, 1) := by decide +kernel
abbrev cM_within : ByteArray := prog_5_method_4_code
def yM_within : MethodName := ⟨"ThreadSlotsModel", "within", "(III)Z"⟩
theorem dM_within_0 : decode cM_within 0 = .ok (.iload_n 0, 1) := by decide +kernel
theorem dM_within_1 : decode cM_within 1 = .ok (.iload_n 1, 1) := by decide +kernel
theorem dM_within_2 : decode cM_within 2 = .ok (.if_icmp .lt 12, 3) := by decide +kernel
theorem dM_within_5 : decode cM_within 5 = .ok (.iload_n 0, 1) := by decide +kernel
theorem dM_within_6 : decode cM_within 6 = .ok (.iload_n 2, 1) := by decide +kernel
theorem dM_within_7 : decode cM_within 7 = .ok (.if_icmp .gt 7, 3) := by decide +kernel
theorem dM_within_10 : decode cM_within 10 = .ok (.iconst 1, 1) := by decide +kernel
theorem dM_within_11 : decode cM_within 11 = .ok (.goto 4, 3) := by decide +kernel
theorem dM_within_14 : decode cM_within 14 = .ok (.iconst 0, 1) := by decide +kernel
theorem dM_within_15 : decode cM_within 15 = .ok (.ireturn, 1) := by decide +kernel
abbrev cM_isThread : ByteArray := prog_5_method_5_code
def yM_isThread : MethodName := ⟨"ThreadSlotsModel", "isThread", "(I)Z"⟩
theorem dM_isThread_0 : decode cM_isThread 0 = .ok (.aload_n 0, 1) := by decide +kernel
theorem dM_isThread_1 : decode cM_isThread 1 = .ok (.iload_n 1, 1) := by decide +kernel
theorem dM_isThread_2 : decode cM_isThread 2 = .ok (.iconst 0, 1) := by decide +kernel
theorem dM_isThread_3 : decode cM_isThread 3 = .ok (.aload_n 0, 1) := by decide +kernel
theorem dM_isThread_4 : decode cM_isThread 4 = .ok (.getfield 57, 3) := by decide +kernel
theorem dM_isThread_7 : decode cM_isThread 7 = .ok (.iconst 1, 1) := by decide +kernel
theorem dM_isThread_8 : decode cM_isThread 8 = .ok (.isub, 1) := by decide +kernel
theorem dM_isThread_9 : decode cM_isThread 9 = .ok (.invokestatic 67, 3) := by decide +kernel
theorem dM_isThread_12 : decode cM_isThread 12 = .ok (.ifCond .eq 7, 3) := by decide +kernel
theorem dM_isThread_15 : decode cM_isThread 15 = .ok (.iconst 0, 1) := by decide +kernel
theorem dM_isThread_16 : decode cM_isThread 16 = .ok (.goto 4, 3) := by decide +kernel
theorem dM_isThread_19 : decode cM_isThread 19 = .ok (.iconst 1, 1) := by decide +kernel
theorem dM_isThread_20 : decode cM_isThread 20 = .ok (.putfield 64, 3) := by decide +kernel
theorem dM_isThread_23 : decode cM_isThread 23 = .ok (.aload_n 0, 1) := by decide +kernel
theorem dM_isThread_24 : decode cM_isThread 24 = .ok (.getfield 64, 3) := by decide +kernel
theorem dM_isThread_27 : decode cM_isThread 27 = .ok (.ifCond .ne 7, 3) := by decide +kernel
theorem dM_isThread_30 : decode cM_isThread 30 = .ok (.iconst 1, 1) := by decide +kernel
theorem dM_isThread_31 : decode cM_isThread 31 = .ok (.goto 4, 3) := by decide +kernel
theorem dM_isThread_34 : decode cM_isThread 34 = .ok (.iconst 0, 1) := by decide +kernel
theorem dM_isThread_35 : decode cM_isThread 35 = .ok (.ireturn, 1) := by decide +kernel
abbrev cM_rule : ByteArray := prog_5_method_6_code
def yM_rule : MethodName := ⟨"ThreadSlotsModel", "rule", "(I)I"⟩
theorem dM_rule_0 : decode cM_rule 0 = .ok (.aload_n 0, 1) := by decide +kernel
theorem dM_rule_1 : decode cM_rule 1 = .ok (.iconst 0, 1) := by decide +kernel
theorem dM_rule_2 : decode cM_rule 2 = .ok (.putfield 64, 3) := by decide +kernel
theorem dM_rule_5 : decode cM_rule 5 = .ok (.iload_n 1, 1) := by decide +kernel
theorem dM_rule_6 : decode cM_rule 6 = .ok (.iconst 0, 1) := by decide +kernel
theorem dM_rule_7 : decode cM_rule 7 = .ok (.iconst 3, 1) := by decide +kernel
theorem dM_rule_8 : decode cM_rule 8 = .ok (.invokestatic 67, 3) := by decide +kernel
theorem dM_rule_11 : decode cM_rule 11 = .ok (.ifCond .ne 9, 3) := by decide +kernel
theorem dM_rule_14 : decode cM_rule 14 = .ok (.aload_n 0, 1) := by decide +kernel
theorem dM_rule_15 : decode cM_rule 15 = .ok (.iconst 1, 1) := by decide +kernel
theorem dM_rule_16 : decode cM_rule 16 = .ok (.invokevirtual 71, 3) := by decide +kernel
theorem dM_rule_19 : decode cM_rule 19 = .ok (.ireturn, 1) := by decide +kernel
theorem dM_rule_20 : decode cM_rule 20 = .ok (.aload_n 0, 1) := by decide +kernel
theorem dM_rule_21 : decode cM_rule 21 = .ok (.getfield 75, 3) := by decide +kernel
theorem dM_rule_24 : decode cM_rule 24 = .ok (.istore_n 2, 1) := by decide +kernel
theorem dM_rule_25 : decode cM_rule 25 = .ok (.aload_n 0, 1) := by decide +kernel
theorem dM_rule_26 : decode cM_rule 26 = .ok (.iload_n 1, 1) := by decide +kernel
theorem dM_rule_27 : decode cM_rule 27 = .ok (.putfield 75, 3) := by decide +kernel
theorem dM_rule_30 : decode cM_rule 30 = .ok (.iload_n 2, 1) := by decide +kernel
theorem dM_rule_31 : decode cM_rule 31 = .ok (.ireturn, 1) := by decide +kernel
abbrev cM_bound : ByteArray := prog_5_method_7_code
def yM_bound : MethodName := ⟨"ThreadSlotsModel", "bound", "(I)I"⟩
theorem dM_bound_0 : decode cM_bound 0 = .ok (.aload_n 0, 1) := by decide +kernel
theorem dM_bound_1 : decode cM_bound 1 = .ok (.iconst 0, 1) := by decide +kernel
theorem dM_bound_2 : decode cM_bound 2 = .ok (.putfield 64, 3) := by decide +kernel
theorem dM_bound_5 : decode cM_bound 5 = .ok (.iload_n 1, 1) := by decide +kernel
theorem dM_bound_6 : decode cM_bound 6 = .ok (.iconst 0, 1) := by decide +kernel
theorem dM_bound_7 : decode cM_bound 7 = .ok (.sipush 1000, 3) := by decide +kernel
theorem dM_bound_10 : decode cM_bound 10 = .ok (.invokestatic 67, 3) := by decide +kernel
theorem dM_bound_13 : decode cM_bound 13 = .ok (.ifCond .ne 9, 3) := by decide +kernel
theorem dM_bound_16 : decode cM_bound 16 = .ok (.aload_n 0, 1) := by decide +kernel
theorem dM_bound_17 : decode cM_bound 17 = .ok (.iconst 1, 1) := by decide +kernel
theorem dM_bound_18 : decode cM_bound 18 = .ok (.invokevirtual 71, 3) := by decide +kernel
theorem dM_bound_21 : decode cM_bound 21 = .ok (.ireturn, 1) := by decide +kernel
theorem dM_bound_22 : decode cM_bound 22 = .ok (.aload_n 0, 1) := by decide +kernel
theorem dM_bound_23 : decode cM_bound 23 = .ok (.getfield 78, 3) := by decide +kernel
theorem dM_bound_26 : decode cM_bound 26 = .ok (.istore_n 2, 1) := by decide +kernel
theorem dM_bound_27 : decode cM_bound 27 = .ok (.aload_n 0, 1) := by decide +kernel
theorem dM_bound_28 : decode cM_bound 28 = .ok (.iload_n 1, 1) := by decide +kernel
theorem dM_bound_29 : decode cM_bound 29 = .ok (.putfield 78, 3) := by decide +kernel
theorem dM_bound_32 : decode cM_bound 32 = .ok (.iload_n 2, 1) := by decide +kernel
theorem dM_bound_33 : decode cM_bound 33 = .ok (.ireturn, 1) := by decide +kernel
abbrev cM_cost : ByteArray := prog_5_method_8_code
def yM_cost : MethodName := ⟨"ThreadSlotsModel", "cost", "(I)I"⟩
theorem dM_cost_0 : decode cM_cost 0 = .ok (.aload_n 0, 1) := by decide +kernel
theorem dM_cost_1 : decode cM_cost 1 = .ok (.iconst 0, 1) := by decide +kernel
theorem dM_cost_2 : decode cM_cost 2 = .ok (.putfield 64, 3) := by decide +kernel
theorem dM_cost_5 : decode cM_cost 5 = .ok (.iload_n 1, 1) := by decide +kernel
theorem dM_cost_6 : decode cM_cost 6 = .ok (.iconst 0, 1) := by decide +kernel
theorem dM_cost_7 : decode cM_cost 7 = .ok (.bipush 20, 2) := by decide +kernel
theorem dM_cost_9 : decode cM_cost 9 = .ok (.invokestatic 67, 3) := by decide +kernel
theorem dM_cost_12 : decode cM_cost 12 = .ok (.ifCond .ne 9, 3) := by decide +kernel
theorem dM_cost_15 : decode cM_cost 15 = .ok (.aload_n 0, 1) := by decide +kernel
theorem dM_cost_16 : decode cM_cost 16 = .ok (.iconst 1, 1) := by decide +kernel
theorem dM_cost_17 : decode cM_cost 17 = .ok (.invokevirtual 71, 3) := by decide +kernel
theorem dM_cost_20 : decode cM_cost 20 = .ok (.ireturn, 1) := by decide +kernel
theorem dM_cost_21 : decode cM_cost 21 = .ok (.aload_n 0, 1) := by decide +kernel
theorem dM_cost_22 : decode cM_cost 22 = .ok (.getfield 81, 3) := by decide +kernel
theorem dM_cost_25 : decode cM_cost 25 = .ok (.istore_n 2, 1) := by decide +kernel
theorem dM_cost_26 : decode cM_cost 26 = .ok (.aload_n 0, 1) := by decide +kernel
theorem dM_cost_27 : decode cM_cost 27 = .ok (.iload_n 1, 1) := by decide +kernel
theorem dM_cost_28 : decode cM_cost 28 = .ok (.putfield 81, 3) := by decide +kernel
theorem dM_cost_31 : decode cM_cost 31 = .ok (.iload_n 2, 1) := by decide +kernel
theorem dM_cost_32 : decode cM_cost 32 = .ok (.ireturn, 1) := by decide +kernel
abbrev cM_ready : ByteArray := prog_5_method_9_code
def yM_ready : MethodName := ⟨"ThreadSlotsModel", "ready", "(IZ)Z"⟩
theorem dM_ready_0 : decode cM_ready 0 = .ok (.aload_n 0, 1) := by decide +kernel
theorem dM_ready_1 : decode cM_ready 1 = .ok (.iload_n 1, 1) := by decide +kernel
theorem dM_ready_2 : decode cM_ready 2 = .ok (.invokevirtual 84, 3) := by decide +kernel
theorem dM_ready_5 : decode cM_ready 5 = .ok (.ifCond .ne 5, 3) := by decide +kernel
theorem dM_ready_8 : decode cM_ready 8 = .ok (.iconst 0, 1) := by decide +kernel
theorem dM_ready_9 : decode cM_ready 9 = .ok (.ireturn, 1) := by decide +kernel
theorem dM_ready_10 : decode cM_ready 10 = .ok (.aload_n 0, 1) := by decide +kernel
theorem dM_ready_11 : decode cM_ready 11 = .ok (.getfield 16, 3) := by decide +kernel
theorem dM_ready_14 : decode cM_ready 14 = .ok (.iload_n 1, 1) := by decide +kernel
theorem dM_ready_15 : decode cM_ready 15 = .ok (.baload, 1) := by decide +kernel
theorem dM_ready_16 : decode cM_ready 16 = .ok (.istore_n 3, 1) := by decide +kernel
theorem dM_ready_17 : decode cM_ready 17 = .ok (.aload_n 0, 1) := by decide +kernel
theorem dM_ready_18 : decode cM_ready 18 = .ok (.getfield 16, 3) := by decide +kernel
theorem dM_ready_21 : decode cM_ready 21 = .ok (.iload_n 1, 1) := by decide +kernel
theorem dM_ready_22 : decode cM_ready 22 = .ok (.iload_n 2, 1) := by decide +kernel
theorem dM_ready_23 : decode cM_ready 23 = .ok (.bastore, 1) := by decide +kernel
theorem dM_ready_24 : decode cM_ready 24 = .ok (.iload_n 3, 1) := by decide +kernel
theorem dM_ready_25 : decode cM_ready 25 = .ok (.ireturn, 1) := by decide +kernel
abbrev cM_rank : ByteArray := prog_5_method_10_code
def yM_rank : MethodName := ⟨"ThreadSlotsModel", "rank", "(II)I"⟩
theorem dM_rank_0 : decode cM_rank 0 = .ok (.aload_n 0, 1) := by decide +kernel
theorem dM_rank_1 : decode cM_rank 1 = .ok (.iload_n 1, 1) := by decide +kernel
theorem dM_rank_2 : decode cM_rank 2 = .ok (.invokevirtual 84, 3) := by decide +kernel
theorem dM_rank_5 : decode cM_rank 5 = .ok (.ifCond .ne 5, 3) := by decide +kernel
theorem dM_rank_8 : decode cM_rank 8 = .ok (.iconst 0, 1) := by decide +kernel
theorem dM_rank_9 : decode cM_rank 9 = .ok (.ireturn, 1) := by decide +kernel
theorem dM_rank_10 : decode cM_rank 10 = .ok (.iload_n 2, 1) := by decide +kernel
theorem dM_rank_11 : decode cM_rank 11 = .ok (.iconst 0, 1) := by decide +kernel
theorem dM_rank_12 : decode cM_rank 12 = .ok (.bipush 15, 2) := by decide +kernel
theorem dM_rank_14 : decode cM_rank 14 = .ok (.invokestatic 67, 3) := by decide +kernel
theorem dM_rank_17 : decode cM_rank 17 = .ok (.ifCond .ne 9, 3) := by decide +kernel
theorem dM_rank_20 : decode cM_rank 20 = .ok (.aload_n 0, 1) := by decide +kernel
theorem dM_rank_21 : decode cM_rank 21 = .ok (.iconst 2, 1) := by decide +kernel
theorem dM_rank_22 : decode cM_rank 22 = .ok (.invokevirtual 71, 3) := by decide +kernel
theorem dM_rank_25 : decode cM_rank 25 = .ok (.ireturn, 1) := by decide +kernel
theorem dM_rank_26 : decode cM_rank 26 = .ok (.aload_n 0, 1) := by decide +kernel
theorem dM_rank_27 : decode cM_rank 27 = .ok (.getfield 20, 3) := by decide +kernel
theorem dM_rank_30 : decode cM_rank 30 = .ok (.iload_n 1, 1) := by decide +kernel
theorem dM_rank_31 : decode cM_rank 31 = .ok (.iaload, 1) := by decide +kernel
theorem dM_rank_32 : decode cM_rank 32 = .ok (.istore_n 3, 1) := by decide +kernel
theorem dM_rank_33 : decode cM_rank 33 = .ok (.aload_n 0, 1) := by decide +kernel
theorem dM_rank_34 : decode cM_rank 34 = .ok (.getfield 20, 3) := by decide +kernel
theorem dM_rank_37 : decode cM_rank 37 = .ok (.iload_n 1, 1) := by decide +kernel
theorem dM_rank_38 : decode cM_rank 38 = .ok (.iload_n 2, 1) := by decide +kernel
theorem dM_rank_39 : decode cM_rank 39 = .ok (.iastore, 1) := by decide +kernel
theorem dM_rank_40 : decode cM_rank 40 = .ok (.iload_n 3, 1) := by decide +kernel
theorem dM_rank_41 : decode cM_rank 41 = .ok (.ireturn, 1) := by decide +kernel
abbrev cM_sleep : ByteArray := prog_5_method_11_code
def yM_sleep : MethodName := ⟨"ThreadSlotsModel", "sleep", "(II)I"⟩
theorem dM_sleep_0 : decode cM_sleep 0 = .ok (.aload_n 0, 1) := by decide +kernel
theorem dM_sleep_1 : decode cM_sleep 1 = .ok (.iload_n 1, 1) := by decide +kernel
theorem dM_sleep_2 : decode cM_sleep 2 = .ok (.invokevirtual 84, 3) := by decide +kernel
theorem dM_sleep_5 : decode cM_sleep 5 = .ok (.ifCond .ne 5, 3) := by decide +kernel
theorem dM_sleep_8 : decode cM_sleep 8 = .ok (.iconst 0, 1) := by decide +kernel
theorem dM_sleep_9 : decode cM_sleep 9 = .ok (.ireturn, 1) := by decide +kernel
theorem dM_sleep_10 : decode cM_sleep 10 = .ok (.iload_n 2, 1) := by decide +kernel
theorem dM_sleep_11 : decode cM_sleep 11 = .ok (.iconst 0, 1) := by decide +kernel
theorem dM_sleep_12 : decode cM_sleep 12 = .ok (.ldc 88, 2) := by decide +kernel
theorem dM_sleep_14 : decode cM_sleep 14 = .ok (.invokestatic 67, 3) := by decide +kernel
theorem dM_sleep_17 : decode cM_sleep 17 = .ok (.ifCond .ne 9, 3) := by decide +kernel
theorem dM_sleep_20 : decode cM_sleep 20 = .ok (.aload_n 0, 1) := by decide +kernel
theorem dM_sleep_21 : decode cM_sleep 21 = .ok (.iconst 2, 1) := by decide +kernel
theorem dM_sleep_22 : decode cM_sleep 22 = .ok (.invokevirtual 71, 3) := by decide +kernel
theorem dM_sleep_25 : decode cM_sleep 25 = .ok (.ireturn, 1) := by decide +kernel
theorem dM_sleep_26 : decode cM_sleep 26 = .ok (.aload_n 0, 1) := by decide +kernel
theorem dM_sleep_27 : decode cM_sleep 27 = .ok (.getfield 24, 3) := by decide +kernel
theorem dM_sleep_30 : decode cM_sleep 30 = .ok (.iload_n 1, 1) := by decide +kernel
theorem dM_sleep_31 : decode cM_sleep 31 = .ok (.iaload, 1) := by decide +kernel
theorem dM_sleep_32 : decode cM_sleep 32 = .ok (.istore_n 3, 1) := by decide +kernel
theorem dM_sleep_33 : decode cM_sleep 33 = .ok (.aload_n 0, 1) := by decide +kernel
theorem dM_sleep_34 : decode cM_sleep 34 = .ok (.getfield 24, 3) := by decide +kernel
theorem dM_sleep_37 : decode cM_sleep 37 = .ok (.iload_n 1, 1) := by decide +kernel
theorem dM_sleep_38 : decode cM_sleep 38 = .ok (.iload_n 2, 1) := by decide +kernel
theorem dM_sleep_39 : decode cM_sleep 39 = .ok (.iastore, 1) := by decide +kernel
theorem dM_sleep_40 : decode cM_sleep 40 = .ok (.iload_n 3, 1) := by decide +kernel
theorem dM_sleep_41 : decode cM_sleep 41 = .ok (.ireturn, 1) := by decide +kernel
abbrev cM_miss : ByteArray := prog_5_method_12_code
def yM_miss : MethodName := ⟨"ThreadSlotsModel", "miss", "(I)I"⟩
theorem dM_miss_0 : decode cM_miss 0 = .ok (.aload_n 0, 1) := by decide +kernel
theorem dM_miss_1 : decode cM_miss 1 = .ok (.iload_n 1, 1) := by decide +kernel
theorem dM_miss_2 : decode cM_miss 2 = .ok (.invokevirtual 84, 3) := by decide +kernel
theorem dM_miss_5 : decode cM_miss 5 = .ok (.ifCond .ne 5, 3) := by decide +kernel
theorem dM_miss_8 : decode cM_miss 8 = .ok (.iconst 0, 1) := by decide +kernel
theorem dM_miss_9 : decode cM_miss 9 = .ok (.ireturn, 1) := by decide +kernel
theorem dM_miss_10 : decode cM_miss 10 = .ok (.aload_n 0, 1) := by decide +kernel
theorem dM_miss_11 : decode cM_miss 11 = .ok (.getfield 27, 3) := by decide +kernel
theorem dM_miss_14 : decode cM_miss 14 = .ok (.iload_n 1, 1) := by decide +kernel
theorem dM_miss_15 : decode cM_miss 15 = .ok (.dup2, 1) := by decide +kernel
theorem dM_miss_16 : decode cM_miss 16 = .ok (.iaload, 1) := by decide +kernel
theorem dM_miss_17 : decode cM_miss 17 = .ok (.iconst 1, 1) := by decide +kernel
theorem dM_miss_18 : decode cM_miss 18 = .ok (.iadd, 1) := by decide +kernel
theorem dM_miss_19 : decode cM_miss 19 = .ok (.iastore, 1) := by decide +kernel
theorem dM_miss_20 : decode cM_miss 20 = .ok (.aload_n 0, 1) := by decide +kernel
theorem dM_miss_21 : decode cM_miss 21 = .ok (.getfield 27, 3) := by decide +kernel
theorem dM_miss_24 : decode cM_miss 24 = .ok (.iload_n 1, 1) := by decide +kernel
theorem dM_miss_25 : decode cM_miss 25 = .ok (.iaload, 1) := by decide +kernel
theorem dM_miss_26 : decode cM_miss 26 = .ok (.ireturn, 1) := by decide +kernel
abbrev cM_canGo : ByteArray := prog_5_method_13_code
def yM_canGo : MethodName := ⟨"ThreadSlotsModel", "canGo", "(I)Z"⟩
theorem dM_canGo_0 : decode cM_canGo 0 = .ok (.aload_n 0, 1) := by decide +kernel
theorem dM_canGo_1 : decode cM_canGo 1 = .ok (.getfield 16, 3) := by decide +kernel
theorem dM_canGo_4 : decode cM_canGo 4 = .ok (.iload_n 1, 1) := by decide +kernel
theorem dM_canGo_5 : decode cM_canGo 5 = .ok (.baload, 1) := by decide +kernel
theorem dM_canGo_6 : decode cM_canGo 6 = .ok (.ifCond .eq 16, 3) := by decide +kernel
theorem dM_canGo_9 : decode cM_canGo 9 = .ok (.aload_n 0, 1) := by decide +kernel
theorem dM_canGo_10 : decode cM_canGo 10 = .ok (.getfield 24, 3) := by decide +kernel
theorem dM_canGo_13 : decode cM_canGo 13 = .ok (.iload_n 1, 1) := by decide +kernel
theorem dM_canGo_14 : decode cM_canGo 14 = .ok (.iaload, 1) := by decide +kernel
theorem dM_canGo_15 : decode cM_canGo 15 = .ok (.ifCond .ne 7, 3) := by decide +kernel
theorem dM_canGo_18 : decode cM_canGo 18 = .ok (.iconst 1, 1) := by decide +kernel
theorem dM_canGo_19 : decode cM_canGo 19 = .ok (.goto 4, 3) := by decide +kernel
theorem dM_canGo_22 : decode cM_canGo 22 = .ok (.iconst 0, 1) := by decide +kernel
theorem dM_canGo_23 : decode cM_canGo 23 = .ok (.ireturn, 1) := by decide +kernel
abbrev cM_overdue : ByteArray := prog_5_method_14_code
def yM_overdue : MethodName := ⟨"ThreadSlotsModel", "overdue", "()I"⟩
theorem dM_overdue_0 : decode cM_overdue 0 = .ok (.iconst (-1), 1) := by decide +kernel
theorem dM_overdue_1 : decode cM_overdue 1 = .ok (.istore_n 1, 1) := by decide +kernel
theorem dM_overdue_2 : decode cM_overdue 2 = .ok (.iconst 0, 1) := by decide +kernel
theorem dM_overdue_3 : decode cM_overdue 3 = .ok (.istore_n 2, 1) := by decide +kernel
theorem dM_overdue_4 : decode cM_overdue 4 = .ok (.iload_n 2, 1) := by decide +kernel
theorem dM_overdue_5 : decode cM_overdue 5 = .ok (.aload_n 0, 1) := by decide +kernel
theorem dM_overdue_6 : decode cM_overdue 6 = .ok (.getfield 57, 3) := by decide +kernel
theorem dM_overdue_9 : decode cM_overdue 9 = .ok (.if_icmp .ge 38, 3) := by decide +kernel
theorem dM_overdue_12 : decode cM_overdue 12 = .ok (.aload_n 0, 1) := by decide +kernel
theorem dM_overdue_13 : decode cM_overdue 13 = .ok (.iload_n 2, 1) := by decide +kernel
theorem dM_overdue_14 : decode cM_overdue 14 = .ok (.invokevirtual 89, 3) := by decide +kernel
theorem dM_overdue_17 : decode cM_overdue 17 = .ok (.ifCond .eq 24, 3) := by decide +kernel
theorem dM_overdue_20 : decode cM_overdue 20 = .ok (.iload_n 1, 1) := by decide +kernel
theorem dM_overdue_21 : decode cM_overdue 21 = .ok (.ifCond .lt 18, 3) := by decide +kernel
theorem dM_overdue_24 : decode cM_overdue 24 = .ok (.aload_n 0, 1) := by decide +kernel
theorem dM_overdue_25 : decode cM_overdue 25 = .ok (.getfield 30, 3) := by decide +kernel
theorem dM_overdue_28 : decode cM_overdue 28 = .ok (.iload_n 2, 1) := by decide +kernel
theorem dM_overdue_29 : decode cM_overdue 29 = .ok (.iaload, 1) := by decide +kernel
theorem dM_overdue_30 : decode cM_overdue 30 = .ok (.aload_n 0, 1) := by decide +kernel
theorem dM_overdue_31 : decode cM_overdue 31 = .ok (.getfield 30, 3) := by decide +kernel
theorem dM_overdue_34 : decode cM_overdue 34 = .ok (.iload_n 1, 1) := by decide +kernel
theorem dM_overdue_35 : decode cM_overdue 35 = .ok (.iaload, 1) := by decide +kernel
theorem dM_overdue_36 : decode cM_overdue 36 = .ok (.if_icmp .le 5, 3) := by decide +kernel
theorem dM_overdue_39 : decode cM_overdue 39 = .ok (.iload_n 2, 1) := by decide +kernel
theorem dM_overdue_40 : decode cM_overdue 40 = .ok (.istore_n 1, 1) := by decide +kernel
theorem dM_overdue_41 : decode cM_overdue 41 = .ok (.iinc 2 1, 3) := by decide +kernel
theorem dM_overdue_44 : decode cM_overdue 44 = .ok (.goto (-40), 3) := by decide +kernel
theorem dM_overdue_47 : decode cM_overdue 47 = .ok (.aload_n 0, 1) := by decide +kernel
theorem dM_overdue_48 : decode cM_overdue 48 = .ok (.getfield 78, 3) := by decide +kernel
theorem dM_overdue_51 : decode cM_overdue 51 = .ok (.ifCond .le 24, 3) := by decide +kernel
theorem dM_overdue_54 : decode cM_overdue 54 = .ok (.iload_n 1, 1) := by decide +kernel
theorem dM_overdue_55 : decode cM_overdue 55 = .ok (.ifCond .lt 20, 3) := by decide +kernel
theorem dM_overdue_58 : decode cM_overdue 58 = .ok (.aload_n 0, 1) := by decide +kernel
theorem dM_overdue_59 : decode cM_overdue 59 = .ok (.getfield 30, 3) := by decide +kernel
theorem dM_overdue_62 : decode cM_overdue 62 = .ok (.iload_n 1, 1) := by decide +kernel
theorem dM_overdue_63 : decode cM_overdue 63 = .ok (.iaload, 1) := by decide +kernel
theorem dM_overdue_64 : decode cM_overdue 64 = .ok (.aload_n 0, 1) := by decide +kernel
theorem dM_overdue_65 : decode cM_overdue 65 = .ok (.getfield 78, 3) := by decide +kernel
theorem dM_overdue_68 : decode cM_overdue 68 = .ok (.if_icmp .lt 7, 3) := by decide +kernel
theorem dM_overdue_71 : decode cM_overdue 71 = .ok (.iload_n 1, 1) := by decide +kernel
theorem dM_overdue_72 : decode cM_overdue 72 = .ok (.goto 4, 3) := by decide +kernel
theorem dM_overdue_75 : decode cM_overdue 75 = .ok (.iconst (-1), 1) := by decide +kernel
theorem dM_overdue_76 : decode cM_overdue 76 = .ok (.ireturn, 1) := by decide +kernel
abbrev cM_topRank : ByteArray := prog_5_method_15_code
def yM_topRank : MethodName := ⟨"ThreadSlotsModel", "topRank", "()I"⟩
theorem dM_topRank_0 : decode cM_topRank 0 = .ok (.iconst (-1), 1) := by decide +kernel
theorem dM_topRank_1 : decode cM_topRank 1 = .ok (.istore_n 1, 1) := by decide +kernel
theorem dM_topRank_2 : decode cM_topRank 2 = .ok (.iconst 0, 1) := by decide +kernel
theorem dM_topRank_3 : decode cM_topRank 3 = .ok (.istore_n 2, 1) := by decide +kernel
theorem dM_topRank_4 : decode cM_topRank 4 = .ok (.iload_n 2, 1) := by decide +kernel
theorem dM_topRank_5 : decode cM_topRank 5 = .ok (.aload_n 0, 1) := by decide +kernel
theorem dM_topRank_6 : decode cM_topRank 6 = .ok (.getfield 57, 3) := by decide +kernel
theorem dM_topRank_9 : decode cM_topRank 9 = .ok (.if_icmp .ge 38, 3) := by decide +kernel
theorem dM_topRank_12 : decode cM_topRank 12 = .ok (.aload_n 0, 1) := by decide +kernel
theorem dM_topRank_13 : decode cM_topRank 13 = .ok (.iload_n 2, 1) := by decide +kernel
theorem dM_topRank_14 : decode cM_topRank 14 = .ok (.invokevirtual 89, 3) := by decide +kernel
theorem dM_topRank_17 : decode cM_topRank 17 = .ok (.ifCond .eq 22, 3) := by decide +kernel
theorem dM_topRank_20 : decode cM_topRank 20 = .ok (.aload_n 0, 1) := by decide +kernel
theorem dM_topRank_21 : decode cM_topRank 21 = .ok (.getfield 20, 3) := by decide +kernel
theorem dM_topRank_24 : decode cM_topRank 24 = .ok (.iload_n 2, 1) := by decide +kernel
theorem dM_topRank_25 : decode cM_topRank 25 = .ok (.iaload, 1) := by decide +kernel
theorem dM_topRank_26 : decode cM_topRank 26 = .ok (.iload_n 1, 1) := by decide +kernel
theorem dM_topRank_27 : decode cM_topRank 27 = .ok (.if_icmp .le 12, 3) := by decide +kernel
theorem dM_topRank_30 : decode cM_topRank 30 = .ok (.aload_n 0, 1) := by decide +kernel
theorem dM_topRank_31 : decode cM_topRank 31 = .ok (.getfield 20, 3) := by decide +kernel
theorem dM_topRank_34 : decode cM_topRank 34 = .ok (.iload_n 2, 1) := by decide +kernel
theorem dM_topRank_35 : decode cM_topRank 35 = .ok (.iaload, 1) := by decide +kernel
theorem dM_topRank_36 : decode cM_topRank 36 = .ok (.goto 4, 3) := by decide +kernel
theorem dM_topRank_39 : decode cM_topRank 39 = .ok (.iload_n 1, 1) := by decide +kernel
theorem dM_topRank_40 : decode cM_topRank 40 = .ok (.istore_n 1, 1) := by decide +kernel
theorem dM_topRank_41 : decode cM_topRank 41 = .ok (.iinc 2 1, 3) := by decide +kernel
theorem dM_topRank_44 : decode cM_topRank 44 = .ok (.goto (-40), 3) := by decide +kernel
theorem dM_topRank_47 : decode cM_topRank 47 = .ok (.iload_n 1, 1) := by decide +kernel
theorem dM_topRank_48 : decode cM_topRank 48 = .ok (.ireturn, 1) := by decide +kernel
abbrev cM_turn : ByteArray := prog_5_method_16_code
def yM_turn : MethodName := ⟨"ThreadSlotsModel", "turn", "(I)I"⟩
theorem dM_turn_0 : decode cM_turn 0 = .ok (.iconst 1, 1) := by decide +kernel
theorem dM_turn_1 : decode cM_turn 1 = .ok (.istore_n 2, 1) := by decide +kernel
theorem dM_turn_2 : decode cM_turn 2 = .ok (.iload_n 2, 1) := by decide +kernel
theorem dM_turn_3 : decode cM_turn 3 = .ok (.aload_n 0, 1) := by decide +kernel
theorem dM_turn_4 : decode cM_turn 4 = .ok (.getfield 57, 3) := by decide +kernel
theorem dM_turn_7 : decode cM_turn 7 = .ok (.if_icmp .gt 41, 3) := by decide +kernel
theorem dM_turn_10 : decode cM_turn 10 = .ok (.aload_n 0, 1) := by decide +kernel
theorem dM_turn_11 : decode cM_turn 11 = .ok (.getfield 7, 3) := by decide +kernel
theorem dM_turn_14 : decode cM_turn 14 = .ok (.iload_n 2, 1) := by decide +kernel
theorem dM_turn_15 : decode cM_turn 15 = .ok (.iadd, 1) := by decide +kernel
theorem dM_turn_16 : decode cM_turn 16 = .ok (.aload_n 0, 1) := by decide +kernel
theorem dM_turn_17 : decode cM_turn 17 = .ok (.getfield 57, 3) := by decide +kernel
theorem dM_turn_20 : decode cM_turn 20 = .ok (.irem, 1) := by decide +kernel
theorem dM_turn_21 : decode cM_turn 21 = .ok (.istore_n 3, 1) := by decide +kernel
theorem dM_turn_22 : decode cM_turn 22 = .ok (.aload_n 0, 1) := by decide +kernel
theorem dM_turn_23 : decode cM_turn 23 = .ok (.iload_n 3, 1) := by decide +kernel
theorem dM_turn_24 : decode cM_turn 24 = .ok (.invokevirtual 89, 3) := by decide +kernel
theorem dM_turn_27 : decode cM_turn 27 = .ok (.ifCond .eq 15, 3) := by decide +kernel
theorem dM_turn_30 : decode cM_turn 30 = .ok (.aload_n 0, 1) := by decide +kernel
theorem dM_turn_31 : decode cM_turn 31 = .ok (.getfield 20, 3) := by decide +kernel
theorem dM_turn_34 : decode cM_turn 34 = .ok (.iload_n 3, 1) := by decide +kernel
theorem dM_turn_35 : decode cM_turn 35 = .ok (.iaload, 1) := by decide +kernel
theorem dM_turn_36 : decode cM_turn 36 = .ok (.iload_n 1, 1) := by decide +kernel
theorem dM_turn_37 : decode cM_turn 37 = .ok (.if_icmp .ne 5, 3) := by decide +kernel
theorem dM_turn_40 : decode cM_turn 40 = .ok (.iload_n 3, 1) := by decide +kernel
theorem dM_turn_41 : decode cM_turn 41 = .ok (.ireturn, 1) := by decide +kernel
theorem dM_turn_42 : decode cM_turn 42 = .ok (.iinc 2 1, 3) := by decide +kernel
theorem dM_turn_45 : decode cM_turn 45 = .ok (.goto (-43), 3) := by decide +kernel
theorem dM_turn_48 : decode cM_turn 48 = .ok (.iconst (-1), 1) := by decide +kernel
theorem dM_turn_49 : decode cM_turn 49 = .ok (.ireturn, 1) := by decide +kernel
abbrev cM_fewest : ByteArray := prog_5_method_17_code
def yM_fewest : MethodName := ⟨"ThreadSlotsModel", "fewest", "(IZ)I"⟩
theorem dM_fewest_0 : decode cM_fewest 0 = .ok (.iconst (-1), 1) := by decide +kernel
theorem dM_fewest_1 : decode cM_fewest 1 = .ok (.istore_n 3, 1) := by decide +kernel
theorem dM_fewest_2 : decode cM_fewest 2 = .ok (.aload_n 0, 1) := by decide +kernel
theorem dM_fewest_3 : decode cM_fewest 3 = .ok (.getfield 57, 3) := by decide +kernel
theorem dM_fewest_6 : decode cM_fewest 6 = .ok (.iconst 1, 1) := by decide +kernel
theorem dM_fewest_7 : decode cM_fewest 7 = .ok (.isub, 1) := by decide +kernel
theorem dM_fewest_8 : decode cM_fewest 8 = .ok (.istore 4, 2) := by decide +kernel
theorem dM_fewest_10 : decode cM_fewest 10 = .ok (.iload 4, 2) := by decide +kernel
theorem dM_fewest_12 : decode cM_fewest 12 = .ok (.ifCond .lt 92, 3) := by decide +kernel
theorem dM_fewest_15 : decode cM_fewest 15 = .ok (.iload_n 2, 1) := by decide +kernel
theorem dM_fewest_16 : decode cM_fewest 16 = .ok (.ifCond .eq 13, 3) := by decide +kernel
theorem dM_fewest_19 : decode cM_fewest 19 = .ok (.aload_n 0, 1) := by decide +kernel
theorem dM_fewest_20 : decode cM_fewest 20 = .ok (.getfield 27, 3) := by decide +kernel
theorem dM_fewest_23 : decode cM_fewest 23 = .ok (.iload 4, 2) := by decide +kernel
theorem dM_fewest_25 : decode cM_fewest 25 = .ok (.iaload, 1) := by decide +kernel
theorem dM_fewest_26 : decode cM_fewest 26 = .ok (.goto 10, 3) := by decide +kernel
theorem dM_fewest_29 : decode cM_fewest 29 = .ok (.aload_n 0, 1) := by decide +kernel
theorem dM_fewest_30 : decode cM_fewest 30 = .ok (.getfield 36, 3) := by decide +kernel
theorem dM_fewest_33 : decode cM_fewest 33 = .ok (.iload 4, 2) := by decide +kernel
theorem dM_fewest_35 : decode cM_fewest 35 = .ok (.iaload, 1) := by decide +kernel
theorem dM_fewest_36 : decode cM_fewest 36 = .ok (.istore 5, 2) := by decide +kernel
theorem dM_fewest_38 : decode cM_fewest 38 = .ok (.iload_n 3, 1) := by decide +kernel
theorem dM_fewest_39 : decode cM_fewest 39 = .ok (.ifCond .ge 8, 3) := by decide +kernel
theorem dM_fewest_42 : decode cM_fewest 42 = .ok (.iload 5, 2) := by decide +kernel
theorem dM_fewest_44 : decode cM_fewest 44 = .ok (.goto 22, 3) := by decide +kernel
theorem dM_fewest_47 : decode cM_fewest 47 = .ok (.iload_n 2, 1) := by decide +kernel
theorem dM_fewest_48 : decode cM_fewest 48 = .ok (.ifCond .eq 12, 3) := by decide +kernel
theorem dM_fewest_51 : decode cM_fewest 51 = .ok (.aload_n 0, 1) := by decide +kernel
theorem dM_fewest_52 : decode cM_fewest 52 = .ok (.getfield 27, 3) := by decide +kernel
theorem dM_fewest_55 : decode cM_fewest 55 = .ok (.iload_n 3, 1) := by decide +kernel
theorem dM_fewest_56 : decode cM_fewest 56 = .ok (.iaload, 1) := by decide +kernel
theorem dM_fewest_57 : decode cM_fewest 57 = .ok (.goto 9, 3) := by decide +kernel
theorem dM_fewest_60 : decode cM_fewest 60 = .ok (.aload_n 0, 1) := by decide +kernel
theorem dM_fewest_61 : decode cM_fewest 61 = .ok (.getfield 36, 3) := by decide +kernel
theorem dM_fewest_64 : decode cM_fewest 64 = .ok (.iload_n 3, 1) := by decide +kernel
theorem dM_fewest_65 : decode cM_fewest 65 = .ok (.iaload, 1) := by decide +kernel
theorem dM_fewest_66 : decode cM_fewest 66 = .ok (.istore 6, 2) := by decide +kernel
theorem dM_fewest_68 : decode cM_fewest 68 = .ok (.aload_n 0, 1) := by decide +kernel
theorem dM_fewest_69 : decode cM_fewest 69 = .ok (.iload 4, 2) := by decide +kernel
theorem dM_fewest_71 : decode cM_fewest 71 = .ok (.invokevirtual 89, 3) := by decide +kernel
theorem dM_fewest_74 : decode cM_fewest 74 = .ok (.ifCond .eq 24, 3) := by decide +kernel
theorem dM_fewest_77 : decode cM_fewest 77 = .ok (.aload_n 0, 1) := by decide +kernel
theorem dM_fewest_78 : decode cM_fewest 78 = .ok (.getfield 20, 3) := by decide +kernel
theorem dM_fewest_81 : decode cM_fewest 81 = .ok (.iload 4, 2) := by decide +kernel
theorem dM_fewest_83 : decode cM_fewest 83 = .ok (.iaload, 1) := by decide +kernel
theorem dM_fewest_84 : decode cM_fewest 84 = .ok (.iload_n 1, 1) := by decide +kernel
theorem dM_fewest_85 : decode cM_fewest 85 = .ok (.if_icmp .ne 13, 3) := by decide +kernel
theorem dM_fewest_88 : decode cM_fewest 88 = .ok (.iload 5, 2) := by decide +kernel
theorem dM_fewest_90 : decode cM_fewest 90 = .ok (.iload 6, 2) := by decide +kernel
theorem dM_fewest_92 : decode cM_fewest 92 = .ok (.if_icmp .gt 6, 3) := by decide +kernel
theorem dM_fewest_95 : decode cM_fewest 95 = .ok (.iload 4, 2) := by decide +kernel
theorem dM_fewest_97 : decode cM_fewest 97 = .ok (.istore_n 3, 1) := by decide +kernel
theorem dM_fewest_98 : decode cM_fewest 98 = .ok (.iinc 4 (-1), 3) := by decide +kernel
theorem dM_fewest_101 : decode cM_fewest 101 = .ok (.goto (-91), 3) := by decide +kernel
theorem dM_fewest_104 : decode cM_fewest 104 = .ok (.iload_n 3, 1) := by decide +kernel
theorem dM_fewest_105 : decode cM_fewest 105 = .ok (.ireturn, 1) := by decide +kernel
abbrev cM_drawn : ByteArray := prog_5_method_18_code
def yM_drawn : MethodName := ⟨"ThreadSlotsModel", "drawn", "(I)I"⟩
theorem dM_drawn_0 : decode cM_drawn 0 = .ok (.iconst 0, 1) := by decide +kernel
theorem dM_drawn_1 : decode cM_drawn 1 = .ok (.istore_n 2, 1) := by decide +kernel
theorem dM_drawn_2 : decode cM_drawn 2 = .ok (.iconst 0, 1) := by decide +kernel
theorem dM_drawn_3 : decode cM_drawn 3 = .ok (.istore_n 3, 1) := by decide +kernel
theorem dM_drawn_4 : decode cM_drawn 4 = .ok (.iload_n 3, 1) := by decide +kernel
theorem dM_drawn_5 : decode cM_drawn 5 = .ok (.aload_n 0, 1) := by decide +kernel
theorem dM_drawn_6 : decode cM_drawn 6 = .ok (.getfield 57, 3) := by decide +kernel
theorem dM_drawn_9 : decode cM_drawn 9 = .ok (.if_icmp .ge 35, 3) := by decide +kernel
theorem dM_drawn_12 : decode cM_drawn 12 = .ok (.iload_n 2, 1) := by decide +kernel
theorem dM_drawn_13 : decode cM_drawn 13 = .ok (.aload_n 0, 1) := by decide +kernel
theorem dM_drawn_14 : decode cM_drawn 14 = .ok (.iload_n 3, 1) := by decide +kernel
theorem dM_drawn_15 : decode cM_drawn 15 = .ok (.invokevirtual 89, 3) := by decide +kernel
theorem dM_drawn_18 : decode cM_drawn 18 = .ok (.ifCond .eq 17, 3) := by decide +kernel
theorem dM_drawn_21 : decode cM_drawn 21 = .ok (.aload_n 0, 1) := by decide +kernel
theorem dM_drawn_22 : decode cM_drawn 22 = .ok (.getfield 20, 3) := by decide +kernel
theorem dM_drawn_25 : decode cM_drawn 25 = .ok (.iload_n 3, 1) := by decide +kernel
theorem dM_drawn_26 : decode cM_drawn 26 = .ok (.iaload, 1) := by decide +kernel
theorem dM_drawn_27 : decode cM_drawn 27 = .ok (.iload_n 1, 1) := by decide +kernel
theorem dM_drawn_28 : decode cM_drawn 28 = .ok (.if_icmp .ne 7, 3) := by decide +kernel
theorem dM_drawn_31 : decode cM_drawn 31 = .ok (.iconst 1, 1) := by decide +kernel
theorem dM_drawn_32 : decode cM_drawn 32 = .ok (.goto 4, 3) := by decide +kernel
theorem dM_drawn_35 : decode cM_drawn 35 = .ok (.iconst 0, 1) := by decide +kernel
theorem dM_drawn_36 : decode cM_drawn 36 = .ok (.iadd, 1) := by decide +kernel
theorem dM_drawn_37 : decode cM_drawn 37 = .ok (.istore_n 2, 1) := by decide +kernel
theorem dM_drawn_38 : decode cM_drawn 38 = .ok (.iinc 3 1, 3) := by decide +kernel
theorem dM_drawn_41 : decode cM_drawn 41 = .ok (.goto (-37), 3) := by decide +kernel
theorem dM_drawn_44 : decode cM_drawn 44 = .ok (.aload_n 0, 1) := by decide +kernel
theorem dM_drawn_45 : decode cM_drawn 45 = .ok (.ldc 92, 2) := by decide +kernel
theorem dM_drawn_47 : decode cM_drawn 47 = .ok (.aload_n 0, 1) := by decide +kernel
theorem dM_drawn_48 : decode cM_drawn 48 = .ok (.getfield 61, 3) := by decide +kernel
theorem dM_drawn_51 : decode cM_drawn 51 = .ok (.imul, 1) := by decide +kernel
theorem dM_drawn_52 : decode cM_drawn 52 = .ok (.sipush 12345, 3) := by decide +kernel
theorem dM_drawn_55 : decode cM_drawn 55 = .ok (.iadd, 1) := by decide +kernel
theorem dM_drawn_56 : decode cM_drawn 56 = .ok (.ldc 60, 2) := by decide +kernel
theorem dM_drawn_58 : decode cM_drawn 58 = .ok (.iand, 1) := by decide +kernel
theorem dM_drawn_59 : decode cM_drawn 59 = .ok (.putfield 61, 3) := by decide +kernel
theorem dM_drawn_62 : decode cM_drawn 62 = .ok (.aload_n 0, 1) := by decide +kernel
theorem dM_drawn_63 : decode cM_drawn 63 = .ok (.getfield 61, 3) := by decide +kernel
theorem dM_drawn_66 : decode cM_drawn 66 = .ok (.ldc 93, 2) := by decide +kernel
theorem dM_drawn_68 : decode cM_drawn 68 = .ok (.idiv, 1) := by decide +kernel
theorem dM_drawn_69 : decode cM_drawn 69 = .ok (.iload_n 2, 1) := by decide +kernel
theorem dM_drawn_70 : decode cM_drawn 70 = .ok (.irem, 1) := by decide +kernel
theorem dM_drawn_71 : decode cM_drawn 71 = .ok (.istore_n 3, 1) := by decide +kernel
theorem dM_drawn_72 : decode cM_drawn 72 = .ok (.iconst 0, 1) := by decide +kernel
theorem dM_drawn_73 : decode cM_drawn 73 = .ok (.istore 4, 2) := by decide +kernel
theorem dM_drawn_75 : decode cM_drawn 75 = .ok (.iload 4, 2) := by decide +kernel
theorem dM_drawn_77 : decode cM_drawn 77 = .ok (.aload_n 0, 1) := by decide +kernel
theorem dM_drawn_78 : decode cM_drawn 78 = .ok (.getfield 57, 3) := by decide +kernel
theorem dM_drawn_81 : decode cM_drawn 81 = .ok (.if_icmp .ge 39, 3) := by decide +kernel
theorem dM_drawn_84 : decode cM_drawn 84 = .ok (.aload_n 0, 1) := by decide +kernel
theorem dM_drawn_85 : decode cM_drawn 85 = .ok (.iload 4, 2) := by decide +kernel
theorem dM_drawn_87 : decode cM_drawn 87 = .ok (.invokevirtual 89, 3) := by decide +kernel
theorem dM_drawn_90 : decode cM_drawn 90 = .ok (.ifCond .eq 24, 3) := by decide +kernel
theorem dM_drawn_93 : decode cM_drawn 93 = .ok (.aload_n 0, 1) := by decide +kernel
theorem dM_drawn_94 : decode cM_drawn 94 = .ok (.getfield 20, 3) := by decide +kernel
theorem dM_drawn_97 : decode cM_drawn 97 = .ok (.iload 4, 2) := by decide +kernel
theorem dM_drawn_99 : decode cM_drawn 99 = .ok (.iaload, 1) := by decide +kernel
theorem dM_drawn_100 : decode cM_drawn 100 = .ok (.iload_n 1, 1) := by decide +kernel
theorem dM_drawn_101 : decode cM_drawn 101 = .ok (.if_icmp .ne 13, 3) := by decide +kernel
theorem dM_drawn_104 : decode cM_drawn 104 = .ok (.iload_n 3, 1) := by decide +kernel
theorem dM_drawn_105 : decode cM_drawn 105 = .ok (.ifCond .ne 6, 3) := by decide +kernel
theorem dM_drawn_108 : decode cM_drawn 108 = .ok (.iload 4, 2) := by decide +kernel
theorem dM_drawn_110 : decode cM_drawn 110 = .ok (.ireturn, 1) := by decide +kernel
theorem dM_drawn_111 : decode cM_drawn 111 = .ok (.iinc 3 (-1), 3) := by decide +kernel
theorem dM_drawn_114 : decode cM_drawn 114 = .ok (.iinc 4 1, 3) := by decide +kernel
theorem dM_drawn_117 : decode cM_drawn 117 = .ok (.goto (-42), 3) := by decide +kernel
theorem dM_drawn_120 : decode cM_drawn 120 = .ok (.iconst (-1), 1) := by decide +kernel
theorem dM_drawn_121 : decode cM_drawn 121 = .ok (.ireturn, 1) := by decide +kernel
abbrev cM_choose : ByteArray := prog_5_method_19_code
def yM_choose : MethodName := ⟨"ThreadSlotsModel", "choose", "()I"⟩
theorem dM_choose_0 : decode cM_choose 0 = .ok (.aload_n 0, 1) := by decide +kernel
theorem dM_choose_1 : decode cM_choose 1 = .ok (.invokevirtual 94, 3) := by decide +kernel
theorem dM_choose_4 : decode cM_choose 4 = .ok (.istore_n 1, 1) := by decide +kernel
theorem dM_choose_5 : decode cM_choose 5 = .ok (.iload_n 1, 1) := by decide +kernel
theorem dM_choose_6 : decode cM_choose 6 = .ok (.ifCond .ge 5, 3) := by decide +kernel
theorem dM_choose_9 : decode cM_choose 9 = .ok (.iconst (-1), 1) := by decide +kernel
theorem dM_choose_10 : decode cM_choose 10 = .ok (.ireturn, 1) := by decide +kernel
theorem dM_choose_11 : decode cM_choose 11 = .ok (.aload_n 0, 1) := by decide +kernel
theorem dM_choose_12 : decode cM_choose 12 = .ok (.invokevirtual 98, 3) := by decide +kernel
theorem dM_choose_15 : decode cM_choose 15 = .ok (.istore_n 2, 1) := by decide +kernel
theorem dM_choose_16 : decode cM_choose 16 = .ok (.iload_n 2, 1) := by decide +kernel
theorem dM_choose_17 : decode cM_choose 17 = .ok (.ifCond .lt 5, 3) := by decide +kernel
theorem dM_choose_20 : decode cM_choose 20 = .ok (.iload_n 2, 1) := by decide +kernel
theorem dM_choose_21 : decode cM_choose 21 = .ok (.ireturn, 1) := by decide +kernel
theorem dM_choose_22 : decode cM_choose 22 = .ok (.aload_n 0, 1) := by decide +kernel
theorem dM_choose_23 : decode cM_choose 23 = .ok (.getfield 75, 3) := by decide +kernel
theorem dM_choose_26 : decode cM_choose 26 = .ok (.ifCond .ne 11, 3) := by decide +kernel
theorem dM_choose_29 : decode cM_choose 29 = .ok (.aload_n 0, 1) := by decide +kernel
theorem dM_choose_30 : decode cM_choose 30 = .ok (.iload_n 1, 1) := by decide +kernel
theorem dM_choose_31 : decode cM_choose 31 = .ok (.invokevirtual 101, 3) := by decide +kernel
theorem dM_choose_34 : decode cM_choose 34 = .ok (.goto 37, 3) := by decide +kernel
theorem dM_choose_37 : decode cM_choose 37 = .ok (.aload_n 0, 1) := by decide +kernel
theorem dM_choose_38 : decode cM_choose 38 = .ok (.getfield 75, 3) := by decide +kernel
theorem dM_choose_41 : decode cM_choose 41 = .ok (.iconst 3, 1) := by decide +kernel
theorem dM_choose_42 : decode cM_choose 42 = .ok (.if_icmp .ne 11, 3) := by decide +kernel
theorem dM_choose_45 : decode cM_choose 45 = .ok (.aload_n 0, 1) := by decide +kernel
theorem dM_choose_46 : decode cM_choose 46 = .ok (.iload_n 1, 1) := by decide +kernel
theorem dM_choose_47 : decode cM_choose 47 = .ok (.invokevirtual 104, 3) := by decide +kernel
theorem dM_choose_50 : decode cM_choose 50 = .ok (.goto 21, 3) := by decide +kernel
theorem dM_choose_53 : decode cM_choose 53 = .ok (.aload_n 0, 1) := by decide +kernel
theorem dM_choose_54 : decode cM_choose 54 = .ok (.iload_n 1, 1) := by decide +kernel
theorem dM_choose_55 : decode cM_choose 55 = .ok (.aload_n 0, 1) := by decide +kernel
theorem dM_choose_56 : decode cM_choose 56 = .ok (.getfield 75, 3) := by decide +kernel
theorem dM_choose_59 : decode cM_choose 59 = .ok (.iconst 2, 1) := by decide +kernel
theorem dM_choose_60 : decode cM_choose 60 = .ok (.if_icmp .ne 7, 3) := by decide +kernel
theorem dM_choose_63 : decode cM_choose 63 = .ok (.iconst 1, 1) := by decide +kernel
theorem dM_choose_64 : decode cM_choose 64 = .ok (.goto 4, 3) := by decide +kernel
theorem dM_choose_67 : decode cM_choose 67 = .ok (.iconst 0, 1) := by decide +kernel
theorem dM_choose_68 : decode cM_choose 68 = .ok (.invokevirtual 107, 3) := by decide +kernel
theorem dM_choose_71 : decode cM_choose 71 = .ok (.ireturn, 1) := by decide +kernel
abbrev cM_goes : ByteArray := prog_5_method_20_code
def yM_goes : MethodName := ⟨"ThreadSlotsModel", "goes", "()I"⟩
theorem dM_goes_0 : decode cM_goes 0 = .ok (.aload_n 0, 1) := by decide +kernel
theorem dM_goes_1 : decode cM_goes 1 = .ok (.getfield 111, 3) := by decide +kernel
theorem dM_goes_4 : decode cM_goes 4 = .ok (.ifCond .le 25, 3) := by decide +kernel
theorem dM_goes_7 : decode cM_goes 7 = .ok (.aload_n 0, 1) := by decide +kernel
theorem dM_goes_8 : decode cM_goes 8 = .ok (.dup, 1) := by decide +kernel
theorem dM_goes_9 : decode cM_goes 9 = .ok (.getfield 111, 3) := by decide +kernel
theorem dM_goes_12 : decode cM_goes 12 = .ok (.iconst 1, 1) := by decide +kernel
theorem dM_goes_13 : decode cM_goes 13 = .ok (.isub, 1) := by decide +kernel
theorem dM_goes_14 : decode cM_goes 14 = .ok (.putfield 111, 3) := by decide +kernel
theorem dM_goes_17 : decode cM_goes 17 = .ok (.aload_n 0, 1) := by decide +kernel
theorem dM_goes_18 : decode cM_goes 18 = .ok (.dup, 1) := by decide +kernel
theorem dM_goes_19 : decode cM_goes 19 = .ok (.getfield 114, 3) := by decide +kernel
theorem dM_goes_22 : decode cM_goes 22 = .ok (.iconst 1, 1) := by decide +kernel
theorem dM_goes_23 : decode cM_goes 23 = .ok (.iadd, 1) := by decide +kernel
theorem dM_goes_24 : decode cM_goes 24 = .ok (.putfield 114, 3) := by decide +kernel
theorem dM_goes_27 : decode cM_goes 27 = .ok (.iconst (-1), 1) := by decide +kernel
theorem dM_goes_28 : decode cM_goes 28 = .ok (.ireturn, 1) := by decide +kernel
theorem dM_goes_29 : decode cM_goes 29 = .ok (.aload_n 0, 1) := by decide +kernel
theorem dM_goes_30 : decode cM_goes 30 = .ok (.getfield 13, 3) := by decide +kernel
theorem dM_goes_33 : decode cM_goes 33 = .ok (.ifCond .lt 21, 3) := by decide +kernel
theorem dM_goes_36 : decode cM_goes 36 = .ok (.aload_n 0, 1) := by decide +kernel
theorem dM_goes_37 : decode cM_goes 37 = .ok (.aload_n 0, 1) := by decide +kernel
theorem dM_goes_38 : decode cM_goes 38 = .ok (.getfield 13, 3) := by decide +kernel
theorem dM_goes_41 : decode cM_goes 41 = .ok (.invokevirtual 89, 3) := by decide +kernel
theorem dM_goes_44 : decode cM_goes 44 = .ok (.ifCond .eq 10, 3) := by decide +kernel
theorem dM_goes_47 : decode cM_goes 47 = .ok (.aload_n 0, 1) := by decide +kernel
theorem dM_goes_48 : decode cM_goes 48 = .ok (.getfield 13, 3) := by decide +kernel
theorem dM_goes_51 : decode cM_goes 51 = .ok (.goto 4, 3) := by decide +kernel
theorem dM_goes_54 : decode cM_goes 54 = .ok (.iconst (-1), 1) := by decide +kernel
theorem dM_goes_55 : decode cM_goes 55 = .ok (.istore_n 1, 1) := by decide +kernel
theorem dM_goes_56 : decode cM_goes 56 = .ok (.iload_n 1, 1) := by decide +kernel
theorem dM_goes_57 : decode cM_goes 57 = .ok (.ifCond .lt 10, 3) := by decide +kernel
theorem dM_goes_60 : decode cM_goes 60 = .ok (.aload_n 0, 1) := by decide +kernel
theorem dM_goes_61 : decode cM_goes 61 = .ok (.iconst (-1), 1) := by decide +kernel
theorem dM_goes_62 : decode cM_goes 62 = .ok (.putfield 13, 3) := by decide +kernel
theorem dM_goes_65 : decode cM_goes 65 = .ok (.iload_n 1, 1) := by decide +kernel
theorem dM_goes_66 : decode cM_goes 66 = .ok (.ireturn, 1) := by decide +kernel
theorem dM_goes_67 : decode cM_goes 67 = .ok (.aload_n 0, 1) := by decide +kernel
theorem dM_goes_68 : decode cM_goes 68 = .ok (.invokevirtual 117, 3) := by decide +kernel
theorem dM_goes_71 : decode cM_goes 71 = .ok (.istore_n 1, 1) := by decide +kernel
theorem dM_goes_72 : decode cM_goes 72 = .ok (.iload_n 1, 1) := by decide +kernel
theorem dM_goes_73 : decode cM_goes 73 = .ok (.ifCond .ge 15, 3) := by decide +kernel
theorem dM_goes_76 : decode cM_goes 76 = .ok (.aload_n 0, 1) := by decide +kernel
theorem dM_goes_77 : decode cM_goes 77 = .ok (.dup, 1) := by decide +kernel
theorem dM_goes_78 : decode cM_goes 78 = .ok (.getfield 120, 3) := by decide +kernel
theorem dM_goes_81 : decode cM_goes 81 = .ok (.iconst 1, 1) := by decide +kernel
theorem dM_goes_82 : decode cM_goes 82 = .ok (.iadd, 1) := by decide +kernel
theorem dM_goes_83 : decode cM_goes 83 = .ok (.putfield 120, 3) := by decide +kernel
theorem dM_goes_86 : decode cM_goes 86 = .ok (.iconst (-1), 1) := by decide +kernel
theorem dM_goes_87 : decode cM_goes 87 = .ok (.ireturn, 1) := by decide +kernel
theorem dM_goes_88 : decode cM_goes 88 = .ok (.aload_n 0, 1) := by decide +kernel
theorem dM_goes_89 : decode cM_goes 89 = .ok (.iconst (-1), 1) := by decide +kernel
theorem dM_goes_90 : decode cM_goes 90 = .ok (.putfield 13, 3) := by decide +kernel
theorem dM_goes_93 : decode cM_goes 93 = .ok (.iload_n 1, 1) := by decide +kernel
theorem dM_goes_94 : decode cM_goes 94 = .ok (.aload_n 0, 1) := by decide +kernel
theorem dM_goes_95 : decode cM_goes 95 = .ok (.getfield 7, 3) := by decide +kernel
theorem dM_goes_98 : decode cM_goes 98 = .ok (.if_icmp .eq 17, 3) := by decide +kernel
theorem dM_goes_101 : decode cM_goes 101 = .ok (.aload_n 0, 1) := by decide +kernel
theorem dM_goes_102 : decode cM_goes 102 = .ok (.getfield 7, 3) := by decide +kernel
theorem dM_goes_105 : decode cM_goes 105 = .ok (.ifCond .lt 10, 3) := by decide +kernel
theorem dM_goes_108 : decode cM_goes 108 = .ok (.aload_n 0, 1) := by decide +kernel
theorem dM_goes_109 : decode cM_goes 109 = .ok (.getfield 81, 3) := by decide +kernel
theorem dM_goes_112 : decode cM_goes 112 = .ok (.ifCond .ne 5, 3) := by decide +kernel
theorem dM_goes_115 : decode cM_goes 115 = .ok (.iload_n 1, 1) := by decide +kernel
theorem dM_goes_116 : decode cM_goes 116 = .ok (.ireturn, 1) := by decide +kernel
theorem dM_goes_117 : decode cM_goes 117 = .ok (.aload_n 0, 1) := by decide +kernel
theorem dM_goes_118 : decode cM_goes 118 = .ok (.iload_n 1, 1) := by decide +kernel
theorem dM_goes_119 : decode cM_goes 119 = .ok (.putfield 13, 3) := by decide +kernel
theorem dM_goes_122 : decode cM_goes 122 = .ok (.aload_n 0, 1) := by decide +kernel
theorem dM_goes_123 : decode cM_goes 123 = .ok (.aload_n 0, 1) := by decide +kernel
theorem dM_goes_124 : decode cM_goes 124 = .ok (.getfield 81, 3) := by decide +kernel
theorem dM_goes_127 : decode cM_goes 127 = .ok (.iconst 1, 1) := by decide +kernel
theorem dM_goes_128 : decode cM_goes 128 = .ok (.isub, 1) := by decide +kernel
theorem dM_goes_129 : decode cM_goes 129 = .ok (.putfield 111, 3) := by decide +kernel
theorem dM_goes_132 : decode cM_goes 132 = .ok (.aload_n 0, 1) := by decide +kernel
theorem dM_goes_133 : decode cM_goes 133 = .ok (.getfield 39, 3) := by decide +kernel
theorem dM_goes_136 : decode cM_goes 136 = .ok (.iload_n 1, 1) := by decide +kernel
theorem dM_goes_137 : decode cM_goes 137 = .ok (.dup2, 1) := by decide +kernel
theorem dM_goes_138 : decode cM_goes 138 = .ok (.iaload, 1) := by decide +kernel
theorem dM_goes_139 : decode cM_goes 139 = .ok (.iconst 1, 1) := by decide +kernel
theorem dM_goes_140 : decode cM_goes 140 = .ok (.iadd, 1) := by decide +kernel
theorem dM_goes_141 : decode cM_goes 141 = .ok (.iastore, 1) := by decide +kernel
theorem dM_goes_142 : decode cM_goes 142 = .ok (.aload_n 0, 1) := by decide +kernel
theorem dM_goes_143 : decode cM_goes 143 = .ok (.dup, 1) := by decide +kernel
theorem dM_goes_144 : decode cM_goes 144 = .ok (.getfield 114, 3) := by decide +kernel
theorem dM_goes_147 : decode cM_goes 147 = .ok (.iconst 1, 1) := by decide +kernel
theorem dM_goes_148 : decode cM_goes 148 = .ok (.iadd, 1) := by decide +kernel
theorem dM_goes_149 : decode cM_goes 149 = .ok (.putfield 114, 3) := by decide +kernel
theorem dM_goes_152 : decode cM_goes 152 = .ok (.iconst (-1), 1) := by decide +kernel
theorem dM_goes_153 : decode cM_goes 153 = .ok (.ireturn, 1) := by decide +kernel
abbrev cM_step : ByteArray := prog_5_method_21_code
def yM_step : MethodName := ⟨"ThreadSlotsModel", "step", "()I"⟩
theorem dM_step_0 : decode cM_step 0 = .ok (.aload_n 0, 1) := by decide +kernel
theorem dM_step_1 : decode cM_step 1 = .ok (.dup, 1) := by decide +kernel
theorem dM_step_2 : decode cM_step 2 = .ok (.getfield 123, 3) := by decide +kernel
theorem dM_step_5 : decode cM_step 5 = .ok (.iconst 1, 1) := by decide +kernel
theorem dM_step_6 : decode cM_step 6 = .ok (.iadd, 1) := by decide +kernel
theorem dM_step_7 : decode cM_step 7 = .ok (.putfield 123, 3) := by decide +kernel
theorem dM_step_10 : decode cM_step 10 = .ok (.iconst 0, 1) := by decide +kernel
theorem dM_step_11 : decode cM_step 11 = .ok (.istore_n 1, 1) := by decide +kernel
theorem dM_step_12 : decode cM_step 12 = .ok (.iload_n 1, 1) := by decide +kernel
theorem dM_step_13 : decode cM_step 13 = .ok (.aload_n 0, 1) := by decide +kernel
theorem dM_step_14 : decode cM_step 14 = .ok (.getfield 57, 3) := by decide +kernel
theorem dM_step_17 : decode cM_step 17 = .ok (.if_icmp .ge 38, 3) := by decide +kernel
theorem dM_step_20 : decode cM_step 20 = .ok (.aload_n 0, 1) := by decide +kernel
theorem dM_step_21 : decode cM_step 21 = .ok (.getfield 24, 3) := by decide +kernel
theorem dM_step_24 : decode cM_step 24 = .ok (.iload_n 1, 1) := by decide +kernel
theorem dM_step_25 : decode cM_step 25 = .ok (.aload_n 0, 1) := by decide +kernel
theorem dM_step_26 : decode cM_step 26 = .ok (.getfield 24, 3) := by decide +kernel
theorem dM_step_29 : decode cM_step 29 = .ok (.iload_n 1, 1) := by decide +kernel
theorem dM_step_30 : decode cM_step 30 = .ok (.iaload, 1) := by decide +kernel
theorem dM_step_31 : decode cM_step 31 = .ok (.aload_n 0, 1) := by decide +kernel
theorem dM_step_32 : decode cM_step 32 = .ok (.getfield 123, 3) := by decide +kernel
theorem dM_step_35 : decode cM_step 35 = .ok (.if_icmp .gt 7, 3) := by decide +kernel
theorem dM_step_38 : decode cM_step 38 = .ok (.iconst 0, 1) := by decide +kernel
theorem dM_step_39 : decode cM_step 39 = .ok (.goto 9, 3) := by decide +kernel
theorem dM_step_42 : decode cM_step 42 = .ok (.aload_n 0, 1) := by decide +kernel
theorem dM_step_43 : decode cM_step 43 = .ok (.getfield 24, 3) := by decide +kernel
theorem dM_step_46 : decode cM_step 46 = .ok (.iload_n 1, 1) := by decide +kernel
theorem dM_step_47 : decode cM_step 47 = .ok (.iaload, 1) := by decide +kernel
theorem dM_step_48 : decode cM_step 48 = .ok (.iastore, 1) := by decide +kernel
theorem dM_step_49 : decode cM_step 49 = .ok (.iinc 1 1, 3) := by decide +kernel
theorem dM_step_52 : decode cM_step 52 = .ok (.goto (-40), 3) := by decide +kernel
theorem dM_step_55 : decode cM_step 55 = .ok (.aload_n 0, 1) := by decide +kernel
theorem dM_step_56 : decode cM_step 56 = .ok (.invokevirtual 126, 3) := by decide +kernel
theorem dM_step_59 : decode cM_step 59 = .ok (.istore_n 1, 1) := by decide +kernel
theorem dM_step_60 : decode cM_step 60 = .ok (.iconst 0, 1) := by decide +kernel
theorem dM_step_61 : decode cM_step 61 = .ok (.istore_n 2, 1) := by decide +kernel
theorem dM_step_62 : decode cM_step 62 = .ok (.iload_n 2, 1) := by decide +kernel
theorem dM_step_63 : decode cM_step 63 = .ok (.aload_n 0, 1) := by decide +kernel
theorem dM_step_64 : decode cM_step 64 = .ok (.getfield 57, 3) := by decide +kernel
theorem dM_step_67 : decode cM_step 67 = .ok (.if_icmp .ge 88, 3) := by decide +kernel
theorem dM_step_70 : decode cM_step 70 = .ok (.iload_n 2, 1) := by decide +kernel
theorem dM_step_71 : decode cM_step 71 = .ok (.iload_n 1, 1) := by decide +kernel
theorem dM_step_72 : decode cM_step 72 = .ok (.if_icmp .ne 23, 3) := by decide +kernel
theorem dM_step_75 : decode cM_step 75 = .ok (.aload_n 0, 1) := by decide +kernel
theorem dM_step_76 : decode cM_step 76 = .ok (.getfield 30, 3) := by decide +kernel
theorem dM_step_79 : decode cM_step 79 = .ok (.iload_n 2, 1) := by decide +kernel
theorem dM_step_80 : decode cM_step 80 = .ok (.iconst 0, 1) := by decide +kernel
theorem dM_step_81 : decode cM_step 81 = .ok (.iastore, 1) := by decide +kernel
theorem dM_step_82 : decode cM_step 82 = .ok (.aload_n 0, 1) := by decide +kernel
theorem dM_step_83 : decode cM_step 83 = .ok (.getfield 36, 3) := by decide +kernel
theorem dM_step_86 : decode cM_step 86 = .ok (.iload_n 2, 1) := by decide +kernel
theorem dM_step_87 : decode cM_step 87 = .ok (.dup2, 1) := by decide +kernel
theorem dM_step_88 : decode cM_step 88 = .ok (.iaload, 1) := by decide +kernel
theorem dM_step_89 : decode cM_step 89 = .ok (.iconst 1, 1) := by decide +kernel
theorem dM_step_90 : decode cM_step 90 = .ok (.iadd, 1) := by decide +kernel
theorem dM_step_91 : decode cM_step 91 = .ok (.iastore, 1) := by decide +kernel
theorem dM_step_92 : decode cM_step 92 = .ok (.goto 57, 3) := by decide +kernel
theorem dM_step_95 : decode cM_step 95 = .ok (.aload_n 0, 1) := by decide +kernel
theorem dM_step_96 : decode cM_step 96 = .ok (.iload_n 2, 1) := by decide +kernel
theorem dM_step_97 : decode cM_step 97 = .ok (.invokevirtual 89, 3) := by decide +kernel
theorem dM_step_100 : decode cM_step 100 = .ok (.ifCond .eq 49, 3) := by decide +kernel
theorem dM_step_103 : decode cM_step 103 = .ok (.aload_n 0, 1) := by decide +kernel
theorem dM_step_104 : decode cM_step 104 = .ok (.getfield 30, 3) := by decide +kernel
theorem dM_step_107 : decode cM_step 107 = .ok (.iload_n 2, 1) := by decide +kernel
theorem dM_step_108 : decode cM_step 108 = .ok (.dup2, 1) := by decide +kernel
theorem dM_step_109 : decode cM_step 109 = .ok (.iaload, 1) := by decide +kernel
theorem dM_step_110 : decode cM_step 110 = .ok (.iconst 1, 1) := by decide +kernel
theorem dM_step_111 : decode cM_step 111 = .ok (.iadd, 1) := by decide +kernel
theorem dM_step_112 : decode cM_step 112 = .ok (.iastore, 1) := by decide +kernel
theorem dM_step_113 : decode cM_step 113 = .ok (.aload_n 0, 1) := by decide +kernel
theorem dM_step_114 : decode cM_step 114 = .ok (.getfield 33, 3) := by decide +kernel
theorem dM_step_117 : decode cM_step 117 = .ok (.iload_n 2, 1) := by decide +kernel
theorem dM_step_118 : decode cM_step 118 = .ok (.aload_n 0, 1) := by decide +kernel
theorem dM_step_119 : decode cM_step 119 = .ok (.getfield 30, 3) := by decide +kernel
theorem dM_step_122 : decode cM_step 122 = .ok (.iload_n 2, 1) := by decide +kernel
theorem dM_step_123 : decode cM_step 123 = .ok (.iaload, 1) := by decide +kernel
theorem dM_step_124 : decode cM_step 124 = .ok (.aload_n 0, 1) := by decide +kernel
theorem dM_step_125 : decode cM_step 125 = .ok (.getfield 33, 3) := by decide +kernel
theorem dM_step_128 : decode cM_step 128 = .ok (.iload_n 2, 1) := by decide +kernel
theorem dM_step_129 : decode cM_step 129 = .ok (.iaload, 1) := by decide +kernel
theorem dM_step_130 : decode cM_step 130 = .ok (.if_icmp .le 12, 3) := by decide +kernel
theorem dM_step_133 : decode cM_step 133 = .ok (.aload_n 0, 1) := by decide +kernel
theorem dM_step_134 : decode cM_step 134 = .ok (.getfield 30, 3) := by decide +kernel
theorem dM_step_137 : decode cM_step 137 = .ok (.iload_n 2, 1) := by decide +kernel
theorem dM_step_138 : decode cM_step 138 = .ok (.iaload, 1) := by decide +kernel
theorem dM_step_139 : decode cM_step 139 = .ok (.goto 9, 3) := by decide +kernel
theorem dM_step_142 : decode cM_step 142 = .ok (.aload_n 0, 1) := by decide +kernel
theorem dM_step_143 : decode cM_step 143 = .ok (.getfield 33, 3) := by decide +kernel
theorem dM_step_146 : decode cM_step 146 = .ok (.iload_n 2, 1) := by decide +kernel
theorem dM_step_147 : decode cM_step 147 = .ok (.iaload, 1) := by decide +kernel
theorem dM_step_148 : decode cM_step 148 = .ok (.iastore, 1) := by decide +kernel
theorem dM_step_149 : decode cM_step 149 = .ok (.iinc 2 1, 3) := by decide +kernel
theorem dM_step_152 : decode cM_step 152 = .ok (.goto (-90), 3) := by decide +kernel
theorem dM_step_155 : decode cM_step 155 = .ok (.aload_n 0, 1) := by decide +kernel
theorem dM_step_156 : decode cM_step 156 = .ok (.iload_n 1, 1) := by decide +kernel
theorem dM_step_157 : decode cM_step 157 = .ok (.ifCond .lt 7, 3) := by decide +kernel
theorem dM_step_160 : decode cM_step 160 = .ok (.iload_n 1, 1) := by decide +kernel
theorem dM_step_161 : decode cM_step 161 = .ok (.goto 7, 3) := by decide +kernel
theorem dM_step_164 : decode cM_step 164 = .ok (.aload_n 0, 1) := by decide +kernel
theorem dM_step_165 : decode cM_step 165 = .ok (.getfield 7, 3) := by decide +kernel
theorem dM_step_168 : decode cM_step 168 = .ok (.putfield 7, 3) := by decide +kernel
theorem dM_step_171 : decode cM_step 171 = .ok (.aload_n 0, 1) := by decide +kernel
theorem dM_step_172 : decode cM_step 172 = .ok (.dup, 1) := by decide +kernel
theorem dM_step_173 : decode cM_step 173 = .ok (.getfield 129, 3) := by decide +kernel
theorem dM_step_176 : decode cM_step 176 = .ok (.iload_n 1, 1) := by decide +kernel
theorem dM_step_177 : decode cM_step 177 = .ok (.ifCond .lt 7, 3) := by decide +kernel
theorem dM_step_180 : decode cM_step 180 = .ok (.iconst 1, 1) := by decide +kernel
theorem dM_step_181 : decode cM_step 181 = .ok (.goto 4, 3) := by decide +kernel
theorem dM_step_184 : decode cM_step 184 = .ok (.iconst 0, 1) := by decide +kernel
theorem dM_step_185 : decode cM_step 185 = .ok (.iadd, 1) := by decide +kernel
theorem dM_step_186 : decode cM_step 186 = .ok (.putfield 129, 3) := by decide +kernel
theorem dM_step_189 : decode cM_step 189 = .ok (.iload_n 1, 1) := by decide +kernel
theorem dM_step_190 : decode cM_step 190 = .ok (.ireturn, 1) := by decide +kernel
abbrev cM_cycle : ByteArray := prog_5_method_22_code
def yM_cycle : MethodName := ⟨"ThreadSlotsModel", "cycle", "()I"⟩
theorem dM_cycle_0 : decode cM_cycle 0 = .ok (.aload_n 0, 1) := by decide +kernel
theorem dM_cycle_1 : decode cM_cycle 1 = .ok (.iconst 0, 1) := by decide +kernel
theorem dM_cycle_2 : decode cM_cycle 2 = .ok (.putfield 64, 3) := by decide +kernel
theorem dM_cycle_5 : decode cM_cycle 5 = .ok (.aload_n 0, 1) := by decide +kernel
theorem dM_cycle_6 : decode cM_cycle 6 = .ok (.invokevirtual 132, 3) := by decide +kernel
theorem dM_cycle_9 : decode cM_cycle 9 = .ok (.ireturn, 1) := by decide +kernel
abbrev cM_run : ByteArray := prog_5_method_23_code
def yM_run : MethodName := ⟨"ThreadSlotsModel", "run", "(I)I"⟩
theorem dM_run_0 : decode cM_run 0 = .ok (.aload_n 0, 1) := by decide +kernel
theorem dM_run_1 : decode cM_run 1 = .ok (.iconst 0, 1) := by decide +kernel
theorem dM_run_2 : decode cM_run 2 = .ok (.putfield 64, 3) := by decide +kernel
theorem dM_run_5 : decode cM_run 5 = .ok (.iload_n 1, 1) := by decide +kernel
theorem dM_run_6 : decode cM_run 6 = .ok (.iconst 1, 1) := by decide +kernel
theorem dM_run_7 : decode cM_run 7 = .ok (.sipush 2000, 3) := by decide +kernel
theorem dM_run_10 : decode cM_run 10 = .ok (.invokestatic 67, 3) := by decide +kernel
theorem dM_run_13 : decode cM_run 13 = .ok (.ifCond .ne 9, 3) := by decide +kernel
theorem dM_run_16 : decode cM_run 16 = .ok (.aload_n 0, 1) := by decide +kernel
theorem dM_run_17 : decode cM_run 17 = .ok (.iconst 1, 1) := by decide +kernel
theorem dM_run_18 : decode cM_run 18 = .ok (.invokevirtual 71, 3) := by decide +kernel
theorem dM_run_21 : decode cM_run 21 = .ok (.ireturn, 1) := by decide +kernel
theorem dM_run_22 : decode cM_run 22 = .ok (.aload_n 0, 1) := by decide +kernel
theorem dM_run_23 : decode cM_run 23 = .ok (.getfield 129, 3) := by decide +kernel
theorem dM_run_26 : decode cM_run 26 = .ok (.istore_n 2, 1) := by decide +kernel
theorem dM_run_27 : decode cM_run 27 = .ok (.iconst 0, 1) := by decide +kernel
theorem dM_run_28 : decode cM_run 28 = .ok (.istore_n 3, 1) := by decide +kernel
theorem dM_run_29 : decode cM_run 29 = .ok (.iload_n 3, 1) := by decide +kernel
theorem dM_run_30 : decode cM_run 30 = .ok (.iload_n 1, 1) := by decide +kernel
theorem dM_run_31 : decode cM_run 31 = .ok (.if_icmp .ge 14, 3) := by decide +kernel
theorem dM_run_34 : decode cM_run 34 = .ok (.aload_n 0, 1) := by decide +kernel
theorem dM_run_35 : decode cM_run 35 = .ok (.invokevirtual 132, 3) := by decide +kernel
theorem dM_run_38 : decode cM_run 38 = .ok (.pop, 1) := by decide +kernel
theorem dM_run_39 : decode cM_run 39 = .ok (.iinc 3 1, 3) := by decide +kernel
theorem dM_run_42 : decode cM_run 42 = .ok (.goto (-13), 3) := by decide +kernel
theorem dM_run_45 : decode cM_run 45 = .ok (.aload_n 0, 1) := by decide +kernel
theorem dM_run_46 : decode cM_run 46 = .ok (.getfield 129, 3) := by decide +kernel
theorem dM_run_49 : decode cM_run 49 = .ok (.iload_n 2, 1) := by decide +kernel
theorem dM_run_50 : decode cM_run 50 = .ok (.isub, 1) := by decide +kernel
theorem dM_run_51 : decode cM_run 51 = .ok (.ireturn, 1) := by decide +kernel
abbrev cM_isQueue : ByteArray := prog_5_method_24_code
def yM_isQueue : MethodName := ⟨"ThreadSlotsModel", "isQueue", "(I)Z"⟩
theorem dM_isQueue_0 : decode cM_isQueue 0 = .ok (.aload_n 0, 1) := by decide +kernel
theorem dM_isQueue_1 : decode cM_isQueue 1 = .ok (.iload_n 1, 1) := by decide +kernel
theorem dM_isQueue_2 : decode cM_isQueue 2 = .ok (.iconst 0, 1) := by decide +kernel
theorem dM_isQueue_3 : decode cM_isQueue 3 = .ok (.bipush 7, 2) := by decide +kernel
theorem dM_isQueue_5 : decode cM_isQueue 5 = .ok (.invokestatic 67, 3) := by decide +kernel
theorem dM_isQueue_8 : decode cM_isQueue 8 = .ok (.ifCond .eq 7, 3) := by decide +kernel
theorem dM_isQueue_11 : decode cM_isQueue 11 = .ok (.iconst 0, 1) := by decide +kernel
theorem dM_isQueue_12 : decode cM_isQueue 12 = .ok (.goto 4, 3) := by decide +kernel
theorem dM_isQueue_15 : decode cM_isQueue 15 = .ok (.iconst 1, 1) := by decide +kernel
theorem dM_isQueue_16 : decode cM_isQueue 16 = .ok (.putfield 64, 3) := by decide +kernel
theorem dM_isQueue_19 : decode cM_isQueue 19 = .ok (.aload_n 0, 1) := by decide +kernel
theorem dM_isQueue_20 : decode cM_isQueue 20 = .ok (.getfield 64, 3) := by decide +kernel
theorem dM_isQueue_23 : decode cM_isQueue 23 = .ok (.ifCond .ne 7, 3) := by decide +kernel
theorem dM_isQueue_26 : decode cM_isQueue 26 = .ok (.iconst 1, 1) := by decide +kernel
theorem dM_isQueue_27 : decode cM_isQueue 27 = .ok (.goto 4, 3) := by decide +kernel
theorem dM_isQueue_30 : decode cM_isQueue 30 = .ok (.iconst 0, 1) := by decide +kernel
theorem dM_isQueue_31 : decode cM_isQueue 31 = .ok (.ireturn, 1) := by decide +kernel
abbrev cM_part : ByteArray := prog_5_method_25_code
def yM_part : MethodName := ⟨"ThreadSlotsModel", "part", "(III)I"⟩
theorem dM_part_0 : decode cM_part 0 = .ok (.aload_n 0, 1) := by decide +kernel
theorem dM_part_1 : decode cM_part 1 = .ok (.iload_n 1, 1) := by decide +kernel
theorem dM_part_2 : decode cM_part 2 = .ok (.invokevirtual 135, 3) := by decide +kernel
theorem dM_part_5 : decode cM_part 5 = .ok (.ifCond .eq 11, 3) := by decide +kernel
theorem dM_part_8 : decode cM_part 8 = .ok (.aload_n 0, 1) := by decide +kernel
theorem dM_part_9 : decode cM_part 9 = .ok (.iload_n 2, 1) := by decide +kernel
theorem dM_part_10 : decode cM_part 10 = .ok (.invokevirtual 84, 3) := by decide +kernel
theorem dM_part_13 : decode cM_part 13 = .ok (.ifCond .ne 5, 3) := by decide +kernel
theorem dM_part_16 : decode cM_part 16 = .ok (.iconst 0, 1) := by decide +kernel
theorem dM_part_17 : decode cM_part 17 = .ok (.ireturn, 1) := by decide +kernel
theorem dM_part_18 : decode cM_part 18 = .ok (.iload_n 3, 1) := by decide +kernel
theorem dM_part_19 : decode cM_part 19 = .ok (.iconst 0, 1) := by decide +kernel
theorem dM_part_20 : decode cM_part 20 = .ok (.bipush 32, 2) := by decide +kernel
theorem dM_part_22 : decode cM_part 22 = .ok (.invokestatic 67, 3) := by decide +kernel
theorem dM_part_25 : decode cM_part 25 = .ok (.ifCond .ne 9, 3) := by decide +kernel
theorem dM_part_28 : decode cM_part 28 = .ok (.aload_n 0, 1) := by decide +kernel
theorem dM_part_29 : decode cM_part 29 = .ok (.iconst 2, 1) := by decide +kernel
theorem dM_part_30 : decode cM_part 30 = .ok (.invokevirtual 71, 3) := by decide +kernel
theorem dM_part_33 : decode cM_part 33 = .ok (.ireturn, 1) := by decide +kernel
theorem dM_part_34 : decode cM_part 34 = .ok (.aload_n 0, 1) := by decide +kernel
theorem dM_part_35 : decode cM_part 35 = .ok (.getfield 54, 3) := by decide +kernel
theorem dM_part_38 : decode cM_part 38 = .ok (.bipush 16, 2) := by decide +kernel
theorem dM_part_40 : decode cM_part 40 = .ok (.iload_n 1, 1) := by decide +kernel
theorem dM_part_41 : decode cM_part 41 = .ok (.imul, 1) := by decide +kernel
theorem dM_part_42 : decode cM_part 42 = .ok (.iload_n 2, 1) := by decide +kernel
theorem dM_part_43 : decode cM_part 43 = .ok (.iadd, 1) := by decide +kernel
theorem dM_part_44 : decode cM_part 44 = .ok (.iaload, 1) := by decide +kernel
theorem dM_part_45 : decode cM_part 45 = .ok (.istore 4, 2) := by decide +kernel
theorem dM_part_47 : decode cM_part 47 = .ok (.aload_n 0, 1) := by decide +kernel
theorem dM_part_48 : decode cM_part 48 = .ok (.getfield 54, 3) := by decide +kernel
theorem dM_part_51 : decode cM_part 51 = .ok (.bipush 16, 2) := by decide +kernel
theorem dM_part_53 : decode cM_part 53 = .ok (.iload_n 1, 1) := by decide +kernel
theorem dM_part_54 : decode cM_part 54 = .ok (.imul, 1) := by decide +kernel
theorem dM_part_55 : decode cM_part 55 = .ok (.iload_n 2, 1) := by decide +kernel
theorem dM_part_56 : decode cM_part 56 = .ok (.iadd, 1) := by decide +kernel
theorem dM_part_57 : decode cM_part 57 = .ok (.iload_n 3, 1) := by decide +kernel
theorem dM_part_58 : decode cM_part 58 = .ok (.iastore, 1) := by decide +kernel
theorem dM_part_59 : decode cM_part 59 = .ok (.iload 4, 2) := by decide +kernel
theorem dM_part_61 : decode cM_part 61 = .ok (.ireturn, 1) := by decide +kernel
abbrev cM_has : ByteArray := prog_5_method_26_code
def yM_has : MethodName := ⟨"ThreadSlotsModel", "has", "(II)I"⟩
theorem dM_has_0 : decode cM_has 0 = .ok (.iconst 0, 1) := by decide +kernel
theorem dM_has_1 : decode cM_has 1 = .ok (.istore_n 3, 1) := by decide +kernel
theorem dM_has_2 : decode cM_has 2 = .ok (.iconst 0, 1) := by decide +kernel
theorem dM_has_3 : decode cM_has 3 = .ok (.istore 4, 2) := by decide +kernel
theorem dM_has_5 : decode cM_has 5 = .ok (.iload 4, 2) := by decide +kernel
theorem dM_has_7 : decode cM_has 7 = .ok (.aload_n 0, 1) := by decide +kernel
theorem dM_has_8 : decode cM_has 8 = .ok (.getfield 45, 3) := by decide +kernel
theorem dM_has_11 : decode cM_has 11 = .ok (.iload_n 1, 1) := by decide +kernel
theorem dM_has_12 : decode cM_has 12 = .ok (.iaload, 1) := by decide +kernel
theorem dM_has_13 : decode cM_has 13 = .ok (.if_icmp .ge 33, 3) := by decide +kernel
theorem dM_has_16 : decode cM_has 16 = .ok (.iload_n 3, 1) := by decide +kernel
theorem dM_has_17 : decode cM_has 17 = .ok (.aload_n 0, 1) := by decide +kernel
theorem dM_has_18 : decode cM_has 18 = .ok (.getfield 48, 3) := by decide +kernel
theorem dM_has_21 : decode cM_has 21 = .ok (.bipush 32, 2) := by decide +kernel
theorem dM_has_23 : decode cM_has 23 = .ok (.iload_n 1, 1) := by decide +kernel
theorem dM_has_24 : decode cM_has 24 = .ok (.imul, 1) := by decide +kernel
theorem dM_has_25 : decode cM_has 25 = .ok (.iload 4, 2) := by decide +kernel
theorem dM_has_27 : decode cM_has 27 = .ok (.iadd, 1) := by decide +kernel
theorem dM_has_28 : decode cM_has 28 = .ok (.iaload, 1) := by decide +kernel
theorem dM_has_29 : decode cM_has 29 = .ok (.iload_n 2, 1) := by decide +kernel
theorem dM_has_30 : decode cM_has 30 = .ok (.if_icmp .ne 7, 3) := by decide +kernel
theorem dM_has_33 : decode cM_has 33 = .ok (.iconst 1, 1) := by decide +kernel
theorem dM_has_34 : decode cM_has 34 = .ok (.goto 4, 3) := by decide +kernel
theorem dM_has_37 : decode cM_has 37 = .ok (.iconst 0, 1) := by decide +kernel
theorem dM_has_38 : decode cM_has 38 = .ok (.iadd, 1) := by decide +kernel
theorem dM_has_39 : decode cM_has 39 = .ok (.istore_n 3, 1) := by decide +kernel
theorem dM_has_40 : decode cM_has 40 = .ok (.iinc 4 1, 3) := by decide +kernel
theorem dM_has_43 : decode cM_has 43 = .ok (.goto (-38), 3) := by decide +kernel
theorem dM_has_46 : decode cM_has 46 = .ok (.iload_n 3, 1) := by decide +kernel
theorem dM_has_47 : decode cM_has 47 = .ok (.ireturn, 1) := by decide +kernel
abbrev cM_put : ByteArray := prog_5_method_27_code
def yM_put : MethodName := ⟨"ThreadSlotsModel", "put", "(III)I"⟩
theorem dM_put_0 : decode cM_put 0 = .ok (.aload_n 0, 1) := by decide +kernel
theorem dM_put_1 : decode cM_put 1 = .ok (.iload_n 1, 1) := by decide +kernel
theorem dM_put_2 : decode cM_put 2 = .ok (.invokevirtual 135, 3) := by decide +kernel
theorem dM_put_5 : decode cM_put 5 = .ok (.ifCond .eq 11, 3) := by decide +kernel
theorem dM_put_8 : decode cM_put 8 = .ok (.aload_n 0, 1) := by decide +kernel
theorem dM_put_9 : decode cM_put 9 = .ok (.iload_n 2, 1) := by decide +kernel
theorem dM_put_10 : decode cM_put 10 = .ok (.invokevirtual 84, 3) := by decide +kernel
theorem dM_put_13 : decode cM_put 13 = .ok (.ifCond .ne 5, 3) := by decide +kernel
theorem dM_put_16 : decode cM_put 16 = .ok (.iconst 0, 1) := by decide +kernel
theorem dM_put_17 : decode cM_put 17 = .ok (.ireturn, 1) := by decide +kernel
theorem dM_put_18 : decode cM_put 18 = .ok (.aload_n 0, 1) := by decide +kernel
theorem dM_put_19 : decode cM_put 19 = .ok (.iload_n 1, 1) := by decide +kernel
theorem dM_put_20 : decode cM_put 20 = .ok (.iload_n 2, 1) := by decide +kernel
theorem dM_put_21 : decode cM_put 21 = .ok (.invokevirtual 138, 3) := by decide +kernel
theorem dM_put_24 : decode cM_put 24 = .ok (.aload_n 0, 1) := by decide +kernel
theorem dM_put_25 : decode cM_put 25 = .ok (.getfield 54, 3) := by decide +kernel
theorem dM_put_28 : decode cM_put 28 = .ok (.bipush 16, 2) := by decide +kernel
theorem dM_put_30 : decode cM_put 30 = .ok (.iload_n 1, 1) := by decide +kernel
theorem dM_put_31 : decode cM_put 31 = .ok (.imul, 1) := by decide +kernel
theorem dM_put_32 : decode cM_put 32 = .ok (.iload_n 2, 1) := by decide +kernel
theorem dM_put_33 : decode cM_put 33 = .ok (.iadd, 1) := by decide +kernel
theorem dM_put_34 : decode cM_put 34 = .ok (.iaload, 1) := by decide +kernel
theorem dM_put_35 : decode cM_put 35 = .ok (.if_icmp .ge 14, 3) := by decide +kernel
theorem dM_put_38 : decode cM_put 38 = .ok (.aload_n 0, 1) := by decide +kernel
theorem dM_put_39 : decode cM_put 39 = .ok (.getfield 45, 3) := by decide +kernel
theorem dM_put_42 : decode cM_put 42 = .ok (.iload_n 1, 1) := by decide +kernel
theorem dM_put_43 : decode cM_put 43 = .ok (.iaload, 1) := by decide +kernel
theorem dM_put_44 : decode cM_put 44 = .ok (.bipush 32, 2) := by decide +kernel
theorem dM_put_46 : decode cM_put 46 = .ok (.if_icmp .ne 5, 3) := by decide +kernel
theorem dM_put_49 : decode cM_put 49 = .ok (.iconst (-1), 1) := by decide +kernel
theorem dM_put_50 : decode cM_put 50 = .ok (.ireturn, 1) := by decide +kernel
theorem dM_put_51 : decode cM_put 51 = .ok (.aload_n 0, 1) := by decide +kernel
theorem dM_put_52 : decode cM_put 52 = .ok (.getfield 48, 3) := by decide +kernel
theorem dM_put_55 : decode cM_put 55 = .ok (.bipush 32, 2) := by decide +kernel
theorem dM_put_57 : decode cM_put 57 = .ok (.iload_n 1, 1) := by decide +kernel
theorem dM_put_58 : decode cM_put 58 = .ok (.imul, 1) := by decide +kernel
theorem dM_put_59 : decode cM_put 59 = .ok (.aload_n 0, 1) := by decide +kernel
theorem dM_put_60 : decode cM_put 60 = .ok (.getfield 45, 3) := by decide +kernel
theorem dM_put_63 : decode cM_put 63 = .ok (.iload_n 1, 1) := by decide +kernel
theorem dM_put_64 : decode cM_put 64 = .ok (.iaload, 1) := by decide +kernel
theorem dM_put_65 : decode cM_put 65 = .ok (.iadd, 1) := by decide +kernel
theorem dM_put_66 : decode cM_put 66 = .ok (.iload_n 2, 1) := by decide +kernel
theorem dM_put_67 : decode cM_put 67 = .ok (.iastore, 1) := by decide +kernel
theorem dM_put_68 : decode cM_put 68 = .ok (.aload_n 0, 1) := by decide +kernel
theorem dM_put_69 : decode cM_put 69 = .ok (.getfield 51, 3) := by decide +kernel
theorem dM_put_72 : decode cM_put 72 = .ok (.bipush 32, 2) := by decide +kernel
theorem dM_put_74 : decode cM_put 74 = .ok (.iload_n 1, 1) := by decide +kernel
theorem dM_put_75 : decode cM_put 75 = .ok (.imul, 1) := by decide +kernel
theorem dM_put_76 : decode cM_put 76 = .ok (.aload_n 0, 1) := by decide +kernel
theorem dM_put_77 : decode cM_put 77 = .ok (.getfield 45, 3) := by decide +kernel
theorem dM_put_80 : decode cM_put 80 = .ok (.iload_n 1, 1) := by decide +kernel
theorem dM_put_81 : decode cM_put 81 = .ok (.iaload, 1) := by decide +kernel
theorem dM_put_82 : decode cM_put 82 = .ok (.iadd, 1) := by decide +kernel
theorem dM_put_83 : decode cM_put 83 = .ok (.iload_n 3, 1) := by decide +kernel
theorem dM_put_84 : decode cM_put 84 = .ok (.iastore, 1) := by decide +kernel
theorem dM_put_85 : decode cM_put 85 = .ok (.aload_n 0, 1) := by decide +kernel
theorem dM_put_86 : decode cM_put 86 = .ok (.getfield 45, 3) := by decide +kernel
theorem dM_put_89 : decode cM_put 89 = .ok (.iload_n 1, 1) := by decide +kernel
theorem dM_put_90 : decode cM_put 90 = .ok (.dup2, 1) := by decide +kernel
theorem dM_put_91 : decode cM_put 91 = .ok (.iaload, 1) := by decide +kernel
theorem dM_put_92 : decode cM_put 92 = .ok (.iconst 1, 1) := by decide +kernel
theorem dM_put_93 : decode cM_put 93 = .ok (.iadd, 1) := by decide +kernel
theorem dM_put_94 : decode cM_put 94 = .ok (.iastore, 1) := by decide +kernel
theorem dM_put_95 : decode cM_put 95 = .ok (.aload_n 0, 1) := by decide +kernel
theorem dM_put_96 : decode cM_put 96 = .ok (.iload_n 1, 1) := by decide +kernel
theorem dM_put_97 : decode cM_put 97 = .ok (.iload_n 2, 1) := by decide +kernel
theorem dM_put_98 : decode cM_put 98 = .ok (.invokevirtual 138, 3) := by decide +kernel
theorem dM_put_101 : decode cM_put 101 = .ok (.ireturn, 1) := by decide +kernel
abbrev cM_take : ByteArray := prog_5_method_28_code
def yM_take : MethodName := ⟨"ThreadSlotsModel", "take", "(II)I"⟩
theorem dM_take_0 : decode cM_take 0 = .ok (.aload_n 0, 1) := by decide +kernel
theorem dM_take_1 : decode cM_take 1 = .ok (.iload_n 1, 1) := by decide +kernel
theorem dM_take_2 : decode cM_take 2 = .ok (.invokevirtual 135, 3) := by decide +kernel
theorem dM_take_5 : decode cM_take 5 = .ok (.ifCond .eq 16, 3) := by decide +kernel
theorem dM_take_8 : decode cM_take 8 = .ok (.iload_n 2, 1) := by decide +kernel
theorem dM_take_9 : decode cM_take 9 = .ok (.iconst (-1), 1) := by decide +kernel
theorem dM_take_10 : decode cM_take 10 = .ok (.if_icmp .eq 13, 3) := by decide +kernel
theorem dM_take_13 : decode cM_take 13 = .ok (.aload_n 0, 1) := by decide +kernel
theorem dM_take_14 : decode cM_take 14 = .ok (.iload_n 2, 1) := by decide +kernel
theorem dM_take_15 : decode cM_take 15 = .ok (.invokevirtual 84, 3) := by decide +kernel
theorem dM_take_18 : decode cM_take 18 = .ok (.ifCond .ne 5, 3) := by decide +kernel
theorem dM_take_21 : decode cM_take 21 = .ok (.iconst 0, 1) := by decide +kernel
theorem dM_take_22 : decode cM_take 22 = .ok (.ireturn, 1) := by decide +kernel
theorem dM_take_23 : decode cM_take 23 = .ok (.iconst 0, 1) := by decide +kernel
theorem dM_take_24 : decode cM_take 24 = .ok (.istore_n 3, 1) := by decide +kernel
theorem dM_take_25 : decode cM_take 25 = .ok (.iload_n 3, 1) := by decide +kernel
theorem dM_take_26 : decode cM_take 26 = .ok (.aload_n 0, 1) := by decide +kernel
theorem dM_take_27 : decode cM_take 27 = .ok (.getfield 45, 3) := by decide +kernel
theorem dM_take_30 : decode cM_take 30 = .ok (.iload_n 1, 1) := by decide +kernel
theorem dM_take_31 : decode cM_take 31 = .ok (.iaload, 1) := by decide +kernel
theorem dM_take_32 : decode cM_take 32 = .ok (.if_icmp .ge 29, 3) := by decide +kernel
theorem dM_take_35 : decode cM_take 35 = .ok (.iload_n 2, 1) := by decide +kernel
theorem dM_take_36 : decode cM_take 36 = .ok (.iconst (-1), 1) := by decide +kernel
theorem dM_take_37 : decode cM_take 37 = .ok (.if_icmp .eq 24, 3) := by decide +kernel
theorem dM_take_40 : decode cM_take 40 = .ok (.aload_n 0, 1) := by decide +kernel
theorem dM_take_41 : decode cM_take 41 = .ok (.getfield 48, 3) := by decide +kernel
theorem dM_take_44 : decode cM_take 44 = .ok (.bipush 32, 2) := by decide +kernel
theorem dM_take_46 : decode cM_take 46 = .ok (.iload_n 1, 1) := by decide +kernel
theorem dM_take_47 : decode cM_take 47 = .ok (.imul, 1) := by decide +kernel
theorem dM_take_48 : decode cM_take 48 = .ok (.iload_n 3, 1) := by decide +kernel
theorem dM_take_49 : decode cM_take 49 = .ok (.iadd, 1) := by decide +kernel
theorem dM_take_50 : decode cM_take 50 = .ok (.iaload, 1) := by decide +kernel
theorem dM_take_51 : decode cM_take 51 = .ok (.iload_n 2, 1) := by decide +kernel
theorem dM_take_52 : decode cM_take 52 = .ok (.if_icmp .eq 9, 3) := by decide +kernel
theorem dM_take_55 : decode cM_take 55 = .ok (.iinc 3 1, 3) := by decide +kernel
theorem dM_take_58 : decode cM_take 58 = .ok (.goto (-33), 3) := by decide +kernel
theorem dM_take_61 : decode cM_take 61 = .ok (.iload_n 3, 1) := by decide +kernel
theorem dM_take_62 : decode cM_take 62 = .ok (.aload_n 0, 1) := by decide +kernel
theorem dM_take_63 : decode cM_take 63 = .ok (.getfield 45, 3) := by decide +kernel
theorem dM_take_66 : decode cM_take 66 = .ok (.iload_n 1, 1) := by decide +kernel
theorem dM_take_67 : decode cM_take 67 = .ok (.iaload, 1) := by decide +kernel
theorem dM_take_68 : decode cM_take 68 = .ok (.if_icmp .ne 9, 3) := by decide +kernel
theorem dM_take_71 : decode cM_take 71 = .ok (.aload_n 0, 1) := by decide +kernel
theorem dM_take_72 : decode cM_take 72 = .ok (.iconst 2, 1) := by decide +kernel
theorem dM_take_73 : decode cM_take 73 = .ok (.invokevirtual 71, 3) := by decide +kernel
theorem dM_take_76 : decode cM_take 76 = .ok (.ireturn, 1) := by decide +kernel
theorem dM_take_77 : decode cM_take 77 = .ok (.aload_n 0, 1) := by decide +kernel
theorem dM_take_78 : decode cM_take 78 = .ok (.getfield 51, 3) := by decide +kernel
theorem dM_take_81 : decode cM_take 81 = .ok (.bipush 32, 2) := by decide +kernel
theorem dM_take_83 : decode cM_take 83 = .ok (.iload_n 1, 1) := by decide +kernel
theorem dM_take_84 : decode cM_take 84 = .ok (.imul, 1) := by decide +kernel
theorem dM_take_85 : decode cM_take 85 = .ok (.iload_n 3, 1) := by decide +kernel
theorem dM_take_86 : decode cM_take 86 = .ok (.iadd, 1) := by decide +kernel
theorem dM_take_87 : decode cM_take 87 = .ok (.iaload, 1) := by decide +kernel
theorem dM_take_88 : decode cM_take 88 = .ok (.istore 4, 2) := by decide +kernel
theorem dM_take_90 : decode cM_take 90 = .ok (.aload_n 0, 1) := by decide +kernel
theorem dM_take_91 : decode cM_take 91 = .ok (.getfield 45, 3) := by decide +kernel
theorem dM_take_94 : decode cM_take 94 = .ok (.iload_n 1, 1) := by decide +kernel
theorem dM_take_95 : decode cM_take 95 = .ok (.dup2, 1) := by decide +kernel
theorem dM_take_96 : decode cM_take 96 = .ok (.iaload, 1) := by decide +kernel
theorem dM_take_97 : decode cM_take 97 = .ok (.iconst 1, 1) := by decide +kernel
theorem dM_take_98 : decode cM_take 98 = .ok (.isub, 1) := by decide +kernel
theorem dM_take_99 : decode cM_take 99 = .ok (.iastore, 1) := by decide +kernel
theorem dM_take_100 : decode cM_take 100 = .ok (.iload_n 3, 1) := by decide +kernel
theorem dM_take_101 : decode cM_take 101 = .ok (.istore 5, 2) := by decide +kernel
theorem dM_take_103 : decode cM_take 103 = .ok (.iload 5, 2) := by decide +kernel
theorem dM_take_105 : decode cM_take 105 = .ok (.aload_n 0, 1) := by decide +kernel
theorem dM_take_106 : decode cM_take 106 = .ok (.getfield 45, 3) := by decide +kernel
theorem dM_take_109 : decode cM_take 109 = .ok (.iload_n 1, 1) := by decide +kernel
theorem dM_take_110 : decode cM_take 110 = .ok (.iaload, 1) := by decide +kernel
theorem dM_take_111 : decode cM_take 111 = .ok (.if_icmp .ge 61, 3) := by decide +kernel
theorem dM_take_114 : decode cM_take 114 = .ok (.aload_n 0, 1) := by decide +kernel
theorem dM_take_115 : decode cM_take 115 = .ok (.getfield 48, 3) := by decide +kernel
theorem dM_take_118 : decode cM_take 118 = .ok (.bipush 32, 2) := by decide +kernel
theorem dM_take_120 : decode cM_take 120 = .ok (.iload_n 1, 1) := by decide +kernel
theorem dM_take_121 : decode cM_take 121 = .ok (.imul, 1) := by decide +kernel
theorem dM_take_122 : decode cM_take 122 = .ok (.iload 5, 2) := by decide +kernel
theorem dM_take_124 : decode cM_take 124 = .ok (.iadd, 1) := by decide +kernel
theorem dM_take_125 : decode cM_take 125 = .ok (.aload_n 0, 1) := by decide +kernel
theorem dM_take_126 : decode cM_take 126 = .ok (.getfield 48, 3) := by decide +kernel
theorem dM_take_129 : decode cM_take 129 = .ok (.bipush 32, 2) := by decide +kernel
theorem dM_take_131 : decode cM_take 131 = .ok (.iload_n 1, 1) := by decide +kernel
theorem dM_take_132 : decode cM_take 132 = .ok (.imul, 1) := by decide +kernel
theorem dM_take_133 : decode cM_take 133 = .ok (.iload 5, 2) := by decide +kernel
theorem dM_take_135 : decode cM_take 135 = .ok (.iadd, 1) := by decide +kernel
theorem dM_take_136 : decode cM_take 136 = .ok (.iconst 1, 1) := by decide +kernel
theorem dM_take_137 : decode cM_take 137 = .ok (.iadd, 1) := by decide +kernel
theorem dM_take_138 : decode cM_take 138 = .ok (.iaload, 1) := by decide +kernel
theorem dM_take_139 : decode cM_take 139 = .ok (.iastore, 1) := by decide +kernel
theorem dM_take_140 : decode cM_take 140 = .ok (.aload_n 0, 1) := by decide +kernel
theorem dM_take_141 : decode cM_take 141 = .ok (.getfield 51, 3) := by decide +kernel
theorem dM_take_144 : decode cM_take 144 = .ok (.bipush 32, 2) := by decide +kernel
theorem dM_take_146 : decode cM_take 146 = .ok (.iload_n 1, 1) := by decide +kernel
theorem dM_take_147 : decode cM_take 147 = .ok (.imul, 1) := by decide +kernel
theorem dM_take_148 : decode cM_take 148 = .ok (.iload 5, 2) := by decide +kernel
theorem dM_take_150 : decode cM_take 150 = .ok (.iadd, 1) := by decide +kernel
theorem dM_take_151 : decode cM_take 151 = .ok (.aload_n 0, 1) := by decide +kernel
theorem dM_take_152 : decode cM_take 152 = .ok (.getfield 51, 3) := by decide +kernel
theorem dM_take_155 : decode cM_take 155 = .ok (.bipush 32, 2) := by decide +kernel
theorem dM_take_157 : decode cM_take 157 = .ok (.iload_n 1, 1) := by decide +kernel
theorem dM_take_158 : decode cM_take 158 = .ok (.imul, 1) := by decide +kernel
theorem dM_take_159 : decode cM_take 159 = .ok (.iload 5, 2) := by decide +kernel
theorem dM_take_161 : decode cM_take 161 = .ok (.iadd, 1) := by decide +kernel
theorem dM_take_162 : decode cM_take 162 = .ok (.iconst 1, 1) := by decide +kernel
theorem dM_take_163 : decode cM_take 163 = .ok (.iadd, 1) := by decide +kernel
theorem dM_take_164 : decode cM_take 164 = .ok (.iaload, 1) := by decide +kernel
theorem dM_take_165 : decode cM_take 165 = .ok (.iastore, 1) := by decide +kernel
theorem dM_take_166 : decode cM_take 166 = .ok (.iinc 5 1, 3) := by decide +kernel
theorem dM_take_169 : decode cM_take 169 = .ok (.goto (-66), 3) := by decide +kernel
theorem dM_take_172 : decode cM_take 172 = .ok (.iload 4, 2) := by decide +kernel
theorem dM_take_174 : decode cM_take 174 = .ok (.ireturn, 1) := by decide +kernel
abbrev cM_entry : ByteArray := prog_5_method_29_code
def yM_entry : MethodName := ⟨"ThreadSlotsModel", "entry", "(III)I"⟩
theorem dM_entry_0 : decode cM_entry 0 = .ok (.aload_n 0, 1) := by decide +kernel
theorem dM_entry_1 : decode cM_entry 1 = .ok (.iload_n 1, 1) := by decide +kernel
theorem dM_entry_2 : decode cM_entry 2 = .ok (.invokevirtual 135, 3) := by decide +kernel
theorem dM_entry_5 : decode cM_entry 5 = .ok (.ifCond .ne 5, 3) := by decide +kernel
theorem dM_entry_8 : decode cM_entry 8 = .ok (.iconst 0, 1) := by decide +kernel
theorem dM_entry_9 : decode cM_entry 9 = .ok (.ireturn, 1) := by decide +kernel
theorem dM_entry_10 : decode cM_entry 10 = .ok (.iload_n 2, 1) := by decide +kernel
theorem dM_entry_11 : decode cM_entry 11 = .ok (.iconst 0, 1) := by decide +kernel
theorem dM_entry_12 : decode cM_entry 12 = .ok (.aload_n 0, 1) := by decide +kernel
theorem dM_entry_13 : decode cM_entry 13 = .ok (.getfield 45, 3) := by decide +kernel
theorem dM_entry_16 : decode cM_entry 16 = .ok (.iload_n 1, 1) := by decide +kernel
theorem dM_entry_17 : decode cM_entry 17 = .ok (.iaload, 1) := by decide +kernel
theorem dM_entry_18 : decode cM_entry 18 = .ok (.iconst 1, 1) := by decide +kernel
theorem dM_entry_19 : decode cM_entry 19 = .ok (.isub, 1) := by decide +kernel
theorem dM_entry_20 : decode cM_entry 20 = .ok (.invokestatic 67, 3) := by decide +kernel
theorem dM_entry_23 : decode cM_entry 23 = .ok (.ifCond .eq 12, 3) := by decide +kernel
theorem dM_entry_26 : decode cM_entry 26 = .ok (.iload_n 3, 1) := by decide +kernel
theorem dM_entry_27 : decode cM_entry 27 = .ok (.iconst 0, 1) := by decide +kernel
theorem dM_entry_28 : decode cM_entry 28 = .ok (.iconst 1, 1) := by decide +kernel
theorem dM_entry_29 : decode cM_entry 29 = .ok (.invokestatic 67, 3) := by decide +kernel
theorem dM_entry_32 : decode cM_entry 32 = .ok (.ifCond .ne 9, 3) := by decide +kernel
theorem dM_entry_35 : decode cM_entry 35 = .ok (.aload_n 0, 1) := by decide +kernel
theorem dM_entry_36 : decode cM_entry 36 = .ok (.iconst 1, 1) := by decide +kernel
theorem dM_entry_37 : decode cM_entry 37 = .ok (.invokevirtual 71, 3) := by decide +kernel
theorem dM_entry_40 : decode cM_entry 40 = .ok (.ireturn, 1) := by decide +kernel
theorem dM_entry_41 : decode cM_entry 41 = .ok (.iload_n 3, 1) := by decide +kernel
theorem dM_entry_42 : decode cM_entry 42 = .ok (.ifCond .ne 17, 3) := by decide +kernel
theorem dM_entry_45 : decode cM_entry 45 = .ok (.aload_n 0, 1) := by decide +kernel
theorem dM_entry_46 : decode cM_entry 46 = .ok (.getfield 48, 3) := by decide +kernel
theorem dM_entry_49 : decode cM_entry 49 = .ok (.bipush 32, 2) := by decide +kernel
theorem dM_entry_51 : decode cM_entry 51 = .ok (.iload_n 1, 1) := by decide +kernel
theorem dM_entry_52 : decode cM_entry 52 = .ok (.imul, 1) := by decide +kernel
theorem dM_entry_53 : decode cM_entry 53 = .ok (.iload_n 2, 1) := by decide +kernel
theorem dM_entry_54 : decode cM_entry 54 = .ok (.iadd, 1) := by decide +kernel
theorem dM_entry_55 : decode cM_entry 55 = .ok (.iaload, 1) := by decide +kernel
theorem dM_entry_56 : decode cM_entry 56 = .ok (.goto 14, 3) := by decide +kernel
theorem dM_entry_59 : decode cM_entry 59 = .ok (.aload_n 0, 1) := by decide +kernel
theorem dM_entry_60 : decode cM_entry 60 = .ok (.getfield 51, 3) := by decide +kernel
theorem dM_entry_63 : decode cM_entry 63 = .ok (.bipush 32, 2) := by decide +kernel
theorem dM_entry_65 : decode cM_entry 65 = .ok (.iload_n 1, 1) := by decide +kernel
theorem dM_entry_66 : decode cM_entry 66 = .ok (.imul, 1) := by decide +kernel
theorem dM_entry_67 : decode cM_entry 67 = .ok (.iload_n 2, 1) := by decide +kernel
theorem dM_entry_68 : decode cM_entry 68 = .ok (.iadd, 1) := by decide +kernel
theorem dM_entry_69 : decode cM_entry 69 = .ok (.iaload, 1) := by decide +kernel
theorem dM_entry_70 : decode cM_entry 70 = .ok (.ireturn, 1) := by decide +kernel
abbrev cM_set : ByteArray := prog_5_method_30_code
def yM_set : MethodName := ⟨"ThreadSlotsModel", "set", "(II)I"⟩
theorem dM_set_0 : decode cM_set 0 = .ok (.aload_n 0, 1) := by decide +kernel
theorem dM_set_1 : decode cM_set 1 = .ok (.iconst 0, 1) := by decide +kernel
theorem dM_set_2 : decode cM_set 2 = .ok (.putfield 64, 3) := by decide +kernel
theorem dM_set_5 : decode cM_set 5 = .ok (.iload_n 1, 1) := by decide +kernel
theorem dM_set_6 : decode cM_set 6 = .ok (.iconst 0, 1) := by decide +kernel
theorem dM_set_7 : decode cM_set 7 = .ok (.bipush 15, 2) := by decide +kernel
theorem dM_set_9 : decode cM_set 9 = .ok (.invokestatic 67, 3) := by decide +kernel
theorem dM_set_12 : decode cM_set 12 = .ok (.ifCond .ne 9, 3) := by decide +kernel
theorem dM_set_15 : decode cM_set 15 = .ok (.aload_n 0, 1) := by decide +kernel
theorem dM_set_16 : decode cM_set 16 = .ok (.iconst 1, 1) := by decide +kernel
theorem dM_set_17 : decode cM_set 17 = .ok (.invokevirtual 71, 3) := by decide +kernel
theorem dM_set_20 : decode cM_set 20 = .ok (.ireturn, 1) := by decide +kernel
theorem dM_set_21 : decode cM_set 21 = .ok (.bipush 16, 2) := by decide +kernel
theorem dM_set_23 : decode cM_set 23 = .ok (.aload_n 0, 1) := by decide +kernel
theorem dM_set_24 : decode cM_set 24 = .ok (.getfield 7, 3) := by decide +kernel
theorem dM_set_27 : decode cM_set 27 = .ok (.ifCond .ge 7, 3) := by decide +kernel
theorem dM_set_30 : decode cM_set 30 = .ok (.iconst 0, 1) := by decide +kernel
theorem dM_set_31 : decode cM_set 31 = .ok (.goto 7, 3) := by decide +kernel
theorem dM_set_34 : decode cM_set 34 = .ok (.aload_n 0, 1) := by decide +kernel
theorem dM_set_35 : decode cM_set 35 = .ok (.getfield 7, 3) := by decide +kernel
theorem dM_set_38 : decode cM_set 38 = .ok (.imul, 1) := by decide +kernel
theorem dM_set_39 : decode cM_set 39 = .ok (.iload_n 1, 1) := by decide +kernel
theorem dM_set_40 : decode cM_set 40 = .ok (.iadd, 1) := by decide +kernel
theorem dM_set_41 : decode cM_set 41 = .ok (.istore_n 3, 1) := by decide +kernel
theorem dM_set_42 : decode cM_set 42 = .ok (.aload_n 0, 1) := by decide +kernel
theorem dM_set_43 : decode cM_set 43 = .ok (.getfield 42, 3) := by decide +kernel
theorem dM_set_46 : decode cM_set 46 = .ok (.iload_n 3, 1) := by decide +kernel
theorem dM_set_47 : decode cM_set 47 = .ok (.iaload, 1) := by decide +kernel
theorem dM_set_48 : decode cM_set 48 = .ok (.istore 4, 2) := by decide +kernel
theorem dM_set_50 : decode cM_set 50 = .ok (.aload_n 0, 1) := by decide +kernel
theorem dM_set_51 : decode cM_set 51 = .ok (.getfield 42, 3) := by decide +kernel
theorem dM_set_54 : decode cM_set 54 = .ok (.iload_n 3, 1) := by decide +kernel
theorem dM_set_55 : decode cM_set 55 = .ok (.iload_n 2, 1) := by decide +kernel
theorem dM_set_56 : decode cM_set 56 = .ok (.iastore, 1) := by decide +kernel
theorem dM_set_57 : decode cM_set 57 = .ok (.iload 4, 2) := by decide +kernel
theorem dM_set_59 : decode cM_set 59 = .ok (.ireturn, 1) := by decide +kernel
abbrev cM_register : ByteArray := prog_5_method_31_code
def yM_register : MethodName := ⟨"ThreadSlotsModel", "register", "(II)I"⟩
theorem dM_register_0 : decode cM_register 0 = .ok (.aload_n 0, 1) := by decide +kernel
theorem dM_register_1 : decode cM_register 1 = .ok (.iload_n 1, 1) := by decide +kernel
theorem dM_register_2 : decode cM_register 2 = .ok (.invokevirtual 84, 3) := by decide +kernel
theorem dM_register_5 : decode cM_register 5 = .ok (.ifCond .ne 5, 3) := by decide +kernel
theorem dM_register_8 : decode cM_register 8 = .ok (.iconst 0, 1) := by decide +kernel
theorem dM_register_9 : decode cM_register 9 = .ok (.ireturn, 1) := by decide +kernel
theorem dM_register_10 : decode cM_register 10 = .ok (.iload_n 2, 1) := by decide +kernel
theorem dM_register_11 : decode cM_register 11 = .ok (.iconst 0, 1) := by decide +kernel
theorem dM_register_12 : decode cM_register 12 = .ok (.bipush 15, 2) := by decide +kernel
theorem dM_register_14 : decode cM_register 14 = .ok (.invokestatic 67, 3) := by decide +kernel
theorem dM_register_17 : decode cM_register 17 = .ok (.ifCond .eq 17, 3) := by decide +kernel
theorem dM_register_20 : decode cM_register 20 = .ok (.aload_n 0, 1) := by decide +kernel
theorem dM_register_21 : decode cM_register 21 = .ok (.getfield 42, 3) := by decide +kernel
theorem dM_register_24 : decode cM_register 24 = .ok (.bipush 16, 2) := by decide +kernel
theorem dM_register_26 : decode cM_register 26 = .ok (.iload_n 1, 1) := by decide +kernel
theorem dM_register_27 : decode cM_register 27 = .ok (.imul, 1) := by decide +kernel
theorem dM_register_28 : decode cM_register 28 = .ok (.iload_n 2, 1) := by decide +kernel
theorem dM_register_29 : decode cM_register 29 = .ok (.iadd, 1) := by decide +kernel
theorem dM_register_30 : decode cM_register 30 = .ok (.iaload, 1) := by decide +kernel
theorem dM_register_31 : decode cM_register 31 = .ok (.goto 8, 3) := by decide +kernel
theorem dM_register_34 : decode cM_register 34 = .ok (.aload_n 0, 1) := by decide +kernel
theorem dM_register_35 : decode cM_register 35 = .ok (.iconst 1, 1) := by decide +kernel
theorem dM_register_36 : decode cM_register 36 = .ok (.invokevirtual 71, 3) := by decide +kernel
theorem dM_register_39 : decode cM_register 39 = .ok (.ireturn, 1) := by decide +kernel
abbrev cM_thread : ByteArray := prog_5_method_32_code
def yM_thread : MethodName := ⟨"ThreadSlotsModel", "thread", "(II)I"⟩
theorem dM_thread_0 : decode cM_thread 0 = .ok (.aload_n 0, 1) := by decide +kernel
theorem dM_thread_1 : decode cM_thread 1 = .ok (.iload_n 1, 1) := by decide +kernel
theorem dM_thread_2 : decode cM_thread 2 = .ok (.invokevirtual 84, 3) := by decide +kernel
theorem dM_thread_5 : decode cM_thread 5 = .ok (.ifCond .ne 5, 3) := by decide +kernel
theorem dM_thread_8 : decode cM_thread 8 = .ok (.iconst 0, 1) := by decide +kernel
theorem dM_thread_9 : decode cM_thread 9 = .ok (.ireturn, 1) := by decide +kernel
theorem dM_thread_10 : decode cM_thread 10 = .ok (.iload_n 2, 1) := by decide +kernel
theorem dM_thread_11 : decode cM_thread 11 = .ok (.tableswitch 79 0 5 #[37, 44, 51, 58, 65, 72], 37) := by decide +kernel
theorem dM_thread_48 : decode cM_thread 48 = .ok (.aload_n 0, 1) := by decide +kernel
theorem dM_thread_49 : decode cM_thread 49 = .ok (.getfield 30, 3) := by decide +kernel
theorem dM_thread_52 : decode cM_thread 52 = .ok (.iload_n 1, 1) := by decide +kernel
theorem dM_thread_53 : decode cM_thread 53 = .ok (.iaload, 1) := by decide +kernel
theorem dM_thread_54 : decode cM_thread 54 = .ok (.ireturn, 1) := by decide +kernel
theorem dM_thread_55 : decode cM_thread 55 = .ok (.aload_n 0, 1) := by decide +kernel
theorem dM_thread_56 : decode cM_thread 56 = .ok (.getfield 33, 3) := by decide +kernel
theorem dM_thread_59 : decode cM_thread 59 = .ok (.iload_n 1, 1) := by decide +kernel
theorem dM_thread_60 : decode cM_thread 60 = .ok (.iaload, 1) := by decide +kernel
theorem dM_thread_61 : decode cM_thread 61 = .ok (.ireturn, 1) := by decide +kernel
theorem dM_thread_62 : decode cM_thread 62 = .ok (.aload_n 0, 1) := by decide +kernel
theorem dM_thread_63 : decode cM_thread 63 = .ok (.getfield 36, 3) := by decide +kernel
theorem dM_thread_66 : decode cM_thread 66 = .ok (.iload_n 1, 1) := by decide +kernel
theorem dM_thread_67 : decode cM_thread 67 = .ok (.iaload, 1) := by decide +kernel
theorem dM_thread_68 : decode cM_thread 68 = .ok (.ireturn, 1) := by decide +kernel
theorem dM_thread_69 : decode cM_thread 69 = .ok (.aload_n 0, 1) := by decide +kernel
theorem dM_thread_70 : decode cM_thread 70 = .ok (.getfield 27, 3) := by decide +kernel
theorem dM_thread_73 : decode cM_thread 73 = .ok (.iload_n 1, 1) := by decide +kernel
theorem dM_thread_74 : decode cM_thread 74 = .ok (.iaload, 1) := by decide +kernel
theorem dM_thread_75 : decode cM_thread 75 = .ok (.ireturn, 1) := by decide +kernel
theorem dM_thread_76 : decode cM_thread 76 = .ok (.aload_n 0, 1) := by decide +kernel
theorem dM_thread_77 : decode cM_thread 77 = .ok (.getfield 24, 3) := by decide +kernel
theorem dM_thread_80 : decode cM_thread 80 = .ok (.iload_n 1, 1) := by decide +kernel
theorem dM_thread_81 : decode cM_thread 81 = .ok (.iaload, 1) := by decide +kernel
theorem dM_thread_82 : decode cM_thread 82 = .ok (.ireturn, 1) := by decide +kernel
theorem dM_thread_83 : decode cM_thread 83 = .ok (.aload_n 0, 1) := by decide +kernel
theorem dM_thread_84 : decode cM_thread 84 = .ok (.getfield 39, 3) := by decide +kernel
theorem dM_thread_87 : decode cM_thread 87 = .ok (.iload_n 1, 1) := by decide +kernel
theorem dM_thread_88 : decode cM_thread 88 = .ok (.iaload, 1) := by decide +kernel
theorem dM_thread_89 : decode cM_thread 89 = .ok (.ireturn, 1) := by decide +kernel
theorem dM_thread_90 : decode cM_thread 90 = .ok (.aload_n 0, 1) := by decide +kernel
theorem dM_thread_91 : decode cM_thread 91 = .ok (.iconst 1, 1) := by decide +kernel
theorem dM_thread_92 : decode cM_thread 92 = .ok (.invokevirtual 71, 3) := by decide +kernel
theorem dM_thread_95 : decode cM_thread 95 = .ok (.ireturn, 1) := by decide +kernel
abbrev cM_share : ByteArray := prog_5_method_33_code
def yM_share : MethodName := ⟨"ThreadSlotsModel", "share", "(II)I"⟩
theorem dM_share_0 : decode cM_share 0 = .ok (.aload_n 0, 1) := by decide +kernel
theorem dM_share_1 : decode cM_share 1 = .ok (.iload_n 1, 1) := by decide +kernel
theorem dM_share_2 : decode cM_share 2 = .ok (.invokevirtual 84, 3) := by decide +kernel
theorem dM_share_5 : decode cM_share 5 = .ok (.ifCond .ne 5, 3) := by decide +kernel
theorem dM_share_8 : decode cM_share 8 = .ok (.iconst 0, 1) := by decide +kernel
theorem dM_share_9 : decode cM_share 9 = .ok (.ireturn, 1) := by decide +kernel
theorem dM_share_10 : decode cM_share 10 = .ok (.iload_n 2, 1) := by decide +kernel
theorem dM_share_11 : decode cM_share 11 = .ok (.iconst 0, 1) := by decide +kernel
theorem dM_share_12 : decode cM_share 12 = .ok (.iconst 1, 1) := by decide +kernel
theorem dM_share_13 : decode cM_share 13 = .ok (.invokestatic 67, 3) := by decide +kernel
theorem dM_share_16 : decode cM_share 16 = .ok (.ifCond .ne 9, 3) := by decide +kernel
theorem dM_share_19 : decode cM_share 19 = .ok (.aload_n 0, 1) := by decide +kernel
theorem dM_share_20 : decode cM_share 20 = .ok (.iconst 1, 1) := by decide +kernel
theorem dM_share_21 : decode cM_share 21 = .ok (.invokevirtual 71, 3) := by decide +kernel
theorem dM_share_24 : decode cM_share 24 = .ok (.ireturn, 1) := by decide +kernel
theorem dM_share_25 : decode cM_share 25 = .ok (.aload_n 0, 1) := by decide +kernel
theorem dM_share_26 : decode cM_share 26 = .ok (.getfield 36, 3) := by decide +kernel
theorem dM_share_29 : decode cM_share 29 = .ok (.iload_n 1, 1) := by decide +kernel
theorem dM_share_30 : decode cM_share 30 = .ok (.iaload, 1) := by decide +kernel
theorem dM_share_31 : decode cM_share 31 = .ok (.istore_n 3, 1) := by decide +kernel
theorem dM_share_32 : decode cM_share 32 = .ok (.aload_n 0, 1) := by decide +kernel
theorem dM_share_33 : decode cM_share 33 = .ok (.getfield 129, 3) := by decide +kernel
theorem dM_share_36 : decode cM_share 36 = .ok (.istore 4, 2) := by decide +kernel
theorem dM_share_38 : decode cM_share 38 = .ok (.iload 4, 2) := by decide +kernel
theorem dM_share_40 : decode cM_share 40 = .ok (.ifCond .eq 19, 3) := by decide +kernel
theorem dM_share_43 : decode cM_share 43 = .ok (.iload_n 3, 1) := by decide +kernel
theorem dM_share_44 : decode cM_share 44 = .ok (.iload 4, 2) := by decide +kernel
theorem dM_share_46 : decode cM_share 46 = .ok (.irem, 1) := by decide +kernel
theorem dM_share_47 : decode cM_share 47 = .ok (.istore 5, 2) := by decide +kernel
theorem dM_share_49 : decode cM_share 49 = .ok (.iload 4, 2) := by decide +kernel
theorem dM_share_51 : decode cM_share 51 = .ok (.istore_n 3, 1) := by decide +kernel
theorem dM_share_52 : decode cM_share 52 = .ok (.iload 5, 2) := by decide +kernel
theorem dM_share_54 : decode cM_share 54 = .ok (.istore 4, 2) := by decide +kernel
theorem dM_share_56 : decode cM_share 56 = .ok (.goto (-18), 3) := by decide +kernel
theorem dM_share_59 : decode cM_share 59 = .ok (.aload_n 0, 1) := by decide +kernel
theorem dM_share_60 : decode cM_share 60 = .ok (.getfield 129, 3) := by decide +kernel
theorem dM_share_63 : decode cM_share 63 = .ok (.ifCond .ne 5, 3) := by decide +kernel
theorem dM_share_66 : decode cM_share 66 = .ok (.iload_n 2, 1) := by decide +kernel
theorem dM_share_67 : decode cM_share 67 = .ok (.ireturn, 1) := by decide +kernel
theorem dM_share_68 : decode cM_share 68 = .ok (.iload_n 2, 1) := by decide +kernel
theorem dM_share_69 : decode cM_share 69 = .ok (.ifCond .ne 14, 3) := by decide +kernel
theorem dM_share_72 : decode cM_share 72 = .ok (.aload_n 0, 1) := by decide +kernel
theorem dM_share_73 : decode cM_share 73 = .ok (.getfield 36, 3) := by decide +kernel
theorem dM_share_76 : decode cM_share 76 = .ok (.iload_n 1, 1) := by decide +kernel
theorem dM_share_77 : decode cM_share 77 = .ok (.iaload, 1) := by decide +kernel
theorem dM_share_78 : decode cM_share 78 = .ok (.iload_n 3, 1) := by decide +kernel
theorem dM_share_79 : decode cM_share 79 = .ok (.idiv, 1) := by decide +kernel
theorem dM_share_80 : decode cM_share 80 = .ok (.goto 9, 3) := by decide +kernel
theorem dM_share_83 : decode cM_share 83 = .ok (.aload_n 0, 1) := by decide +kernel
theorem dM_share_84 : decode cM_share 84 = .ok (.getfield 129, 3) := by decide +kernel
theorem dM_share_87 : decode cM_share 87 = .ok (.iload_n 3, 1) := by decide +kernel
theorem dM_share_88 : decode cM_share 88 = .ok (.idiv, 1) := by decide +kernel
theorem dM_share_89 : decode cM_share 89 = .ok (.ireturn, 1) := by decide +kernel
abbrev cM_count : ByteArray := prog_5_method_34_code
def yM_count : MethodName := ⟨"ThreadSlotsModel", "count", "(I)I"⟩
theorem dM_count_0 : decode cM_count 0 = .ok (.aload_n 0, 1) := by decide +kernel
theorem dM_count_1 : decode cM_count 1 = .ok (.iconst 0, 1) := by decide +kernel
theorem dM_count_2 : decode cM_count 2 = .ok (.putfield 64, 3) := by decide +kernel
theorem dM_count_5 : decode cM_count 5 = .ok (.iload_n 1, 1) := by decide +kernel
theorem dM_count_6 : decode cM_count 6 = .ok (.iconst 0, 1) := by decide +kernel
theorem dM_count_7 : decode cM_count 7 = .ok (.bipush 7, 2) := by decide +kernel
theorem dM_count_9 : decode cM_count 9 = .ok (.invokestatic 67, 3) := by decide +kernel
theorem dM_count_12 : decode cM_count 12 = .ok (.ifCond .ne 5, 3) := by decide +kernel
theorem dM_count_15 : decode cM_count 15 = .ok (.iconst (-1), 1) := by decide +kernel
theorem dM_count_16 : decode cM_count 16 = .ok (.ireturn, 1) := by decide +kernel
theorem dM_count_17 : decode cM_count 17 = .ok (.iload_n 1, 1) := by decide +kernel
theorem dM_count_18 : decode cM_count 18 = .ok (.iconst 4, 1) := by decide +kernel
theorem dM_count_19 : decode cM_count 19 = .ok (.if_icmp .ge 43, 3) := by decide +kernel
theorem dM_count_22 : decode cM_count 22 = .ok (.iload_n 1, 1) := by decide +kernel
theorem dM_count_23 : decode cM_count 23 = .ok (.ifCond .ne 10, 3) := by decide +kernel
theorem dM_count_26 : decode cM_count 26 = .ok (.aload_n 0, 1) := by decide +kernel
theorem dM_count_27 : decode cM_count 27 = .ok (.getfield 123, 3) := by decide +kernel
theorem dM_count_30 : decode cM_count 30 = .ok (.goto 31, 3) := by decide +kernel
theorem dM_count_33 : decode cM_count 33 = .ok (.iload_n 1, 1) := by decide +kernel
theorem dM_count_34 : decode cM_count 34 = .ok (.iconst 1, 1) := by decide +kernel
theorem dM_count_35 : decode cM_count 35 = .ok (.if_icmp .ne 10, 3) := by decide +kernel
theorem dM_count_38 : decode cM_count 38 = .ok (.aload_n 0, 1) := by decide +kernel
theorem dM_count_39 : decode cM_count 39 = .ok (.getfield 129, 3) := by decide +kernel
theorem dM_count_42 : decode cM_count 42 = .ok (.goto 19, 3) := by decide +kernel
theorem dM_count_45 : decode cM_count 45 = .ok (.iload_n 1, 1) := by decide +kernel
theorem dM_count_46 : decode cM_count 46 = .ok (.iconst 2, 1) := by decide +kernel
theorem dM_count_47 : decode cM_count 47 = .ok (.if_icmp .ne 10, 3) := by decide +kernel
theorem dM_count_50 : decode cM_count 50 = .ok (.aload_n 0, 1) := by decide +kernel
theorem dM_count_51 : decode cM_count 51 = .ok (.getfield 120, 3) := by decide +kernel
theorem dM_count_54 : decode cM_count 54 = .ok (.goto 7, 3) := by decide +kernel
theorem dM_count_57 : decode cM_count 57 = .ok (.aload_n 0, 1) := by decide +kernel
theorem dM_count_58 : decode cM_count 58 = .ok (.getfield 114, 3) := by decide +kernel
theorem dM_count_61 : decode cM_count 61 = .ok (.ireturn, 1) := by decide +kernel
theorem dM_count_62 : decode cM_count 62 = .ok (.iload_n 1, 1) := by decide +kernel
theorem dM_count_63 : decode cM_count 63 = .ok (.bipush 7, 2) := by decide +kernel
theorem dM_count_65 : decode cM_count 65 = .ok (.if_icmp .ge 32, 3) := by decide +kernel
theorem dM_count_68 : decode cM_count 68 = .ok (.iload_n 1, 1) := by decide +kernel
theorem dM_count_69 : decode cM_count 69 = .ok (.iconst 4, 1) := by decide +kernel
theorem dM_count_70 : decode cM_count 70 = .ok (.if_icmp .ne 10, 3) := by decide +kernel
theorem dM_count_73 : decode cM_count 73 = .ok (.aload_n 0, 1) := by decide +kernel
theorem dM_count_74 : decode cM_count 74 = .ok (.getfield 57, 3) := by decide +kernel
theorem dM_count_77 : decode cM_count 77 = .ok (.goto 19, 3) := by decide +kernel
theorem dM_count_80 : decode cM_count 80 = .ok (.iload_n 1, 1) := by decide +kernel
theorem dM_count_81 : decode cM_count 81 = .ok (.iconst 5, 1) := by decide +kernel
theorem dM_count_82 : decode cM_count 82 = .ok (.if_icmp .ne 10, 3) := by decide +kernel
theorem dM_count_85 : decode cM_count 85 = .ok (.aload_n 0, 1) := by decide +kernel
theorem dM_count_86 : decode cM_count 86 = .ok (.getfield 7, 3) := by decide +kernel
theorem dM_count_89 : decode cM_count 89 = .ok (.goto 7, 3) := by decide +kernel
theorem dM_count_92 : decode cM_count 92 = .ok (.aload_n 0, 1) := by decide +kernel
theorem dM_count_93 : decode cM_count 93 = .ok (.getfield 13, 3) := by decide +kernel
theorem dM_count_96 : decode cM_count 96 = .ok (.ireturn, 1) := by decide +kernel
theorem dM_count_97 : decode cM_count 97 = .ok (.iconst 0, 1) := by decide +kernel
theorem dM_count_98 : decode cM_count 98 = .ok (.istore_n 2, 1) := by decide +kernel
theorem dM_count_99 : decode cM_count 99 = .ok (.iconst 0, 1) := by decide +kernel
theorem dM_count_100 : decode cM_count 100 = .ok (.istore_n 3, 1) := by decide +kernel
theorem dM_count_101 : decode cM_count 101 = .ok (.iload_n 3, 1) := by decide +kernel
theorem dM_count_102 : decode cM_count 102 = .ok (.bipush 8, 2) := by decide +kernel
theorem dM_count_104 : decode cM_count 104 = .ok (.if_icmp .ge 18, 3) := by decide +kernel
theorem dM_count_107 : decode cM_count 107 = .ok (.iload_n 2, 1) := by decide +kernel
theorem dM_count_108 : decode cM_count 108 = .ok (.aload_n 0, 1) := by decide +kernel
theorem dM_count_109 : decode cM_count 109 = .ok (.getfield 45, 3) := by decide +kernel
theorem dM_count_112 : decode cM_count 112 = .ok (.iload_n 3, 1) := by decide +kernel
theorem dM_count_113 : decode cM_count 113 = .ok (.iaload, 1) := by decide +kernel
theorem dM_count_114 : decode cM_count 114 = .ok (.iadd, 1) := by decide +kernel
theorem dM_count_115 : decode cM_count 115 = .ok (.istore_n 2, 1) := by decide +kernel
theorem dM_count_116 : decode cM_count 116 = .ok (.iinc 3 1, 3) := by decide +kernel
theorem dM_count_119 : decode cM_count 119 = .ok (.goto (-18), 3) := by decide +kernel
theorem dM_count_122 : decode cM_count 122 = .ok (.iload_n 2, 1) := by decide +kernel
theorem dM_count_123 : decode cM_count 123 = .ok (.ireturn, 1) := by decide +kernel
