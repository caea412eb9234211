abbrev cL_init : ByteArray := prog_2_method_1_code
def yL_init : MethodName := ⟨"ThreadSlots$Line", "<init>", "()V"⟩
theorem dL_init_0 : decode cL_init 0 = .ok (.aload_n 0, 1) := by decide +kernel
theorem dL_init_1 : decode cL_init 1 = .ok (.invokespecial 3, 3) := by decide +kernel
theorem dL_init_4 : decode cL_init 4 = .ok (.aload_n 0, 1) := by decide +kernel
theorem dL_init_5 : decode cL_init 5 = .ok (.bipush 32, 2) := by decide +kernel
theorem dL_init_7 : decode cL_init 7 = .ok (.newarray .int, 2) := by decide +kernel
theorem dL_init_9 : decode cL_init 9 = .ok (.putfield 9, 3) := by decide +kernel
theorem dL_init_12 : decode cL_init 12 = .ok (.aload_n 0, 1) := by decide +kernel
theorem dL_init_13 : decode cL_init 13 = .ok (.bipush 32, 2) := by decide +kernel
theorem dL_init_15 : decode cL_init 15 = .ok (.newarray .int, 2) := by decide +kernel
theorem dL_init_17 : decode cL_init 17 = .ok (.putfield 15, 3) := by decide +kernel
theorem dL_init_20 : decode cL_init 20 = .ok (.aload_n 0, 1) := by decide +kernel
theorem dL_init_21 : decode cL_init 21 = .ok (.bipush 16, 2) := by decide +kernel
theorem dL_init_23 : decode cL_init 23 = .ok (.newarray .int, 2) := by decide +kernel
theorem dL_init_25 : decode cL_init 25 = .ok (.putfield 18, 3) := by decide +kernel
theorem dL_init_28 : decode cL_init 28 = .ok (.iconst 0, 1) := by decide +kernel
theorem dL_init_29 : decode cL_init 29 = .ok (.istore_n 1, 1) := by decide +kernel
theorem dL_init_30 : decode cL_init 30 = .ok (.iload_n 1, 1) := by decide +kernel
theorem dL_init_31 : decode cL_init 31 = .ok (.aload_n 0, 1) := by decide +kernel
theorem dL_init_32 : decode cL_init 32 = .ok (.getfield 18, 3) := by decide +kernel
theorem dL_init_35 : decode cL_init 35 = .ok (.arraylength, 1) := by decide +kernel
theorem dL_init_36 : decode cL_init 36 = .ok (.if_icmp .ge 17, 3) := by decide +kernel
theorem dL_init_39 : decode cL_init 39 = .ok (.aload_n 0, 1) := by decide +kernel
theorem dL_init_40 : decode cL_init 40 = .ok (.getfield 18, 3) := by decide +kernel
theorem dL_init_43 : decode cL_init 43 = .ok (.iload_n 1, 1) := by decide +kernel
theorem dL_init_44 : decode cL_init 44 = .ok (.bipush 32, 2) := by decide +kernel
theorem dL_init_46 : decode cL_init 46 = .ok (.iastore, 1) := by decide +kernel
theorem dL_init_47 : decode cL_init 47 = .ok (.iinc 1 1, 3) := by decide +kernel
theorem dL_init_50 : decode cL_init 50 = .ok (.goto (-20), 3) := by decide +kernel
theorem dL_init_53 : decode cL_init 53 = .ok (.return_, 1) := by decide +kernel
abbrev cL_entriesOf : ByteArray := prog_2_method_2_code
def yL_entriesOf : MethodName := ⟨"ThreadSlots$Line", "entriesOf", "(I)I"⟩
theorem dL_entriesOf_0 : decode cL_entriesOf 0 = .ok (.iconst 0, 1) := by decide +kernel
theorem dL_entriesOf_1 : decode cL_entriesOf 1 = .ok (.istore_n 2, 1) := by decide +kernel
theorem dL_entriesOf_2 : decode cL_entriesOf 2 = .ok (.iconst 0, 1) := by decide +kernel
theorem dL_entriesOf_3 : decode cL_entriesOf 3 = .ok (.istore_n 3, 1) := by decide +kernel
theorem dL_entriesOf_4 : decode cL_entriesOf 4 = .ok (.iload_n 3, 1) := by decide +kernel
theorem dL_entriesOf_5 : decode cL_entriesOf 5 = .ok (.aload_n 0, 1) := by decide +kernel
theorem dL_entriesOf_6 : decode cL_entriesOf 6 = .ok (.getfield 21, 3) := by decide +kernel
theorem dL_entriesOf_9 : decode cL_entriesOf 9 = .ok (.if_icmp .ge 22, 3) := by decide +kernel
theorem dL_entriesOf_12 : decode cL_entriesOf 12 = .ok (.aload_n 0, 1) := by decide +kernel
theorem dL_entriesOf_13 : decode cL_entriesOf 13 = .ok (.getfield 9, 3) := by decide +kernel
theorem dL_entriesOf_16 : decode cL_entriesOf 16 = .ok (.iload_n 3, 1) := by decide +kernel
theorem dL_entriesOf_17 : decode cL_entriesOf 17 = .ok (.iaload, 1) := by decide +kernel
theorem dL_entriesOf_18 : decode cL_entriesOf 18 = .ok (.iload_n 1, 1) := by decide +kernel
theorem dL_entriesOf_19 : decode cL_entriesOf 19 = .ok (.if_icmp .ne 6, 3) := by decide +kernel
theorem dL_entriesOf_22 : decode cL_entriesOf 22 = .ok (.iinc 2 1, 3) := by decide +kernel
theorem dL_entriesOf_25 : decode cL_entriesOf 25 = .ok (.iinc 3 1, 3) := by decide +kernel
theorem dL_entriesOf_28 : decode cL_entriesOf 28 = .ok (.goto (-24), 3) := by decide +kernel
theorem dL_entriesOf_31 : decode cL_entriesOf 31 = .ok (.iload_n 2, 1) := by decide +kernel
theorem dL_entriesOf_32 : decode cL_entriesOf 32 = .ok (.ireturn, 1) := by decide +kernel
abbrev cL_firstOf : ByteArray := prog_2_method_3_code
def yL_firstOf : MethodName := ⟨"ThreadSlots$Line", "firstOf", "(I)I"⟩
theorem dL_firstOf_0 : decode cL_firstOf 0 = .ok (.iconst 0, 1) := by decide +kernel
theorem dL_firstOf_1 : decode cL_firstOf 1 = .ok (.istore_n 2, 1) := by decide +kernel
theorem dL_firstOf_2 : decode cL_firstOf 2 = .ok (.iload_n 2, 1) := by decide +kernel
theorem dL_firstOf_3 : decode cL_firstOf 3 = .ok (.aload_n 0, 1) := by decide +kernel
theorem dL_firstOf_4 : decode cL_firstOf 4 = .ok (.getfield 21, 3) := by decide +kernel
theorem dL_firstOf_7 : decode cL_firstOf 7 = .ok (.if_icmp .ge 26, 3) := by decide +kernel
theorem dL_firstOf_10 : decode cL_firstOf 10 = .ok (.iload_n 1, 1) := by decide +kernel
theorem dL_firstOf_11 : decode cL_firstOf 11 = .ok (.iconst (-1), 1) := by decide +kernel
theorem dL_firstOf_12 : decode cL_firstOf 12 = .ok (.if_icmp .eq 13, 3) := by decide +kernel
theorem dL_firstOf_15 : decode cL_firstOf 15 = .ok (.aload_n 0, 1) := by decide +kernel
theorem dL_firstOf_16 : decode cL_firstOf 16 = .ok (.getfield 9, 3) := by decide +kernel
theorem dL_firstOf_19 : decode cL_firstOf 19 = .ok (.iload_n 2, 1) := by decide +kernel
theorem dL_firstOf_20 : decode cL_firstOf 20 = .ok (.iaload, 1) := by decide +kernel
theorem dL_firstOf_21 : decode cL_firstOf 21 = .ok (.iload_n 1, 1) := by decide +kernel
theorem dL_firstOf_22 : decode cL_firstOf 22 = .ok (.if_icmp .ne 5, 3) := by decide +kernel
theorem dL_firstOf_25 : decode cL_firstOf 25 = .ok (.iload_n 2, 1) := by decide +kernel
theorem dL_firstOf_26 : decode cL_firstOf 26 = .ok (.ireturn, 1) := by decide +kernel
theorem dL_firstOf_27 : decode cL_firstOf 27 = .ok (.iinc 2 1, 3) := by decide +kernel
theorem dL_firstOf_30 : decode cL_firstOf 30 = .ok (.goto (-28), 3) := by decide +kernel
theorem dL_firstOf_33 : decode cL_firstOf 33 = .ok (.iconst (-1), 1) := by decide +kernel
theorem dL_firstOf_34 : decode cL_firstOf 34 = .ok (.ireturn, 1) := by decide +kernel
abbrev cL_append : ByteArray := prog_2_method_4_code
def yL_append : MethodName := ⟨"ThreadSlots$Line", "append", "(II)V"⟩
theorem dL_append_0 : decode cL_append 0 = .ok (.aload_n 0, 1) := by decide +kernel
theorem dL_append_1 : decode cL_append 1 = .ok (.getfield 21, 3) := by decide +kernel
theorem dL_append_4 : decode cL_append 4 = .ok (.bipush 32, 2) := by decide +kernel
theorem dL_append_6 : decode cL_append 6 = .ok (.if_icmp .ge 33, 3) := by decide +kernel
theorem dL_append_9 : decode cL_append 9 = .ok (.aload_n 0, 1) := by decide +kernel
theorem dL_append_10 : decode cL_append 10 = .ok (.getfield 9, 3) := by decide +kernel
theorem dL_append_13 : decode cL_append 13 = .ok (.aload_n 0, 1) := by decide +kernel
theorem dL_append_14 : decode cL_append 14 = .ok (.getfield 21, 3) := by decide +kernel
theorem dL_append_17 : decode cL_append 17 = .ok (.iload_n 1, 1) := by decide +kernel
theorem dL_append_18 : decode cL_append 18 = .ok (.iastore, 1) := by decide +kernel
theorem dL_append_19 : decode cL_append 19 = .ok (.aload_n 0, 1) := by decide +kernel
theorem dL_append_20 : decode cL_append 20 = .ok (.getfield 15, 3) := by decide +kernel
theorem dL_append_23 : decode cL_append 23 = .ok (.aload_n 0, 1) := by decide +kernel
theorem dL_append_24 : decode cL_append 24 = .ok (.getfield 21, 3) := by decide +kernel
theorem dL_append_27 : decode cL_append 27 = .ok (.iload_n 2, 1) := by decide +kernel
theorem dL_append_28 : decode cL_append 28 = .ok (.iastore, 1) := by decide +kernel
theorem dL_append_29 : decode cL_append 29 = .ok (.aload_n 0, 1) := by decide +kernel
theorem dL_append_30 : decode cL_append 30 = .ok (.dup, 1) := by decide +kernel
theorem dL_append_31 : decode cL_append 31 = .ok (.getfield 21, 3) := by decide +kernel
theorem dL_append_34 : decode cL_append 34 = .ok (.iconst 1, 1) := by decide +kernel
theorem dL_append_35 : decode cL_append 35 = .ok (.iadd, 1) := by decide +kernel
theorem dL_append_36 : decode cL_append 36 = .ok (.putfield 21, 3) := by decide +kernel
theorem dL_append_39 : decode cL_append 39 = .ok (.return_, 1) := by decide +kernel
abbrev cL_close : ByteArray := prog_2_method_5_code
def yL_close : MethodName := ⟨"ThreadSlots$Line", "close", "(I)V"⟩
theorem dL_close_0 : decode cL_close 0 = .ok (.iload_n 1, 1) := by decide +kernel
theorem dL_close_1 : decode cL_close 1 = .ok (.istore_n 2, 1) := by decide +kernel
theorem dL_close_2 : decode cL_close 2 = .ok (.iload_n 2, 1) := by decide +kernel
theorem dL_close_3 : decode cL_close 3 = .ok (.aload_n 0, 1) := by decide +kernel
theorem dL_close_4 : decode cL_close 4 = .ok (.getfield 21, 3) := by decide +kernel
theorem dL_close_7 : decode cL_close 7 = .ok (.iconst 1, 1) := by decide +kernel
theorem dL_close_8 : decode cL_close 8 = .ok (.isub, 1) := by decide +kernel
theorem dL_close_9 : decode cL_close 9 = .ok (.if_icmp .ge 37, 3) := by decide +kernel
theorem dL_close_12 : decode cL_close 12 = .ok (.aload_n 0, 1) := by decide +kernel
theorem dL_close_13 : decode cL_close 13 = .ok (.getfield 9, 3) := by decide +kernel
theorem dL_close_16 : decode cL_close 16 = .ok (.iload_n 2, 1) := by decide +kernel
theorem dL_close_17 : decode cL_close 17 = .ok (.aload_n 0, 1) := by decide +kernel
theorem dL_close_18 : decode cL_close 18 = .ok (.getfield 9, 3) := by decide +kernel
theorem dL_close_21 : decode cL_close 21 = .ok (.iload_n 2, 1) := by decide +kernel
theorem dL_close_22 : decode cL_close 22 = .ok (.iconst 1, 1) := by decide +kernel
theorem dL_close_23 : decode cL_close 23 = .ok (.iadd, 1) := by decide +kernel
theorem dL_close_24 : decode cL_close 24 = .ok (.iaload, 1) := by decide +kernel
theorem dL_close_25 : decode cL_close 25 = .ok (.iastore, 1) := by decide +kernel
theorem dL_close_26 : decode cL_close 26 = .ok (.aload_n 0, 1) := by decide +kernel
theorem dL_close_27 : decode cL_close 27 = .ok (.getfield 15, 3) := by decide +kernel
theorem dL_close_30 : decode cL_close 30 = .ok (.iload_n 2, 1) := by decide +kernel
theorem dL_close_31 : decode cL_close 31 = .ok (.aload_n 0, 1) := by decide +kernel
theorem dL_close_32 : decode cL_close 32 = .ok (.getfield 15, 3) := by decide +kernel
theorem dL_close_35 : decode cL_close 35 = .ok (.iload_n 2, 1) := by decide +kernel
theorem dL_close_36 : decode cL_close 36 = .ok (.iconst 1, 1) := by decide +kernel
theorem dL_close_37 : decode cL_close 37 = .ok (.iadd, 1) := by decide +kernel
theorem dL_close_38 : decode cL_close 38 = .ok (.iaload, 1) := by decide +kernel
theorem dL_close_39 : decode cL_close 39 = .ok (.iastore, 1) := by decide +kernel
theorem dL_close_40 : decode cL_close 40 = .ok (.iinc 2 1, 3) := by decide +kernel
theorem dL_close_43 : decode cL_close 43 = .ok (.goto (-41), 3) := by decide +kernel
theorem dL_close_46 : decode cL_close 46 = .ok (.aload_n 0, 1) := by decide +kernel
theorem dL_close_47 : decode cL_close 47 = .ok (.dup, 1) := by decide +kernel
theorem dL_close_48 : decode cL_close 48 = .ok (.getfield 21, 3) := by decide +kernel
theorem dL_close_51 : decode cL_close 51 = .ok (.iconst 1, 1) := by decide +kernel
theorem dL_close_52 : decode cL_close 52 = .ok (.isub, 1) := by decide +kernel
theorem dL_close_53 : decode cL_close 53 = .ok (.putfield 21, 3) := by decide +kernel
theorem dL_close_56 : decode cL_close 56 = .ok (.return_, 1) := by decide +kernel
abbrev cS_init : ByteArray := prog_3_method_1_code
def yS_init : MethodName := ⟨"ThreadSlots$Strand", "<init>", "()V"⟩
theorem dS_init_0 : decode cS_init 0 = .ok (.aload_n 0, 1) := by decide +kernel
theorem dS_init_1 : decode cS_init 1 = .ok (.invokespecial 3, 3) := by decide +kernel
theorem dS_init_4 : decode cS_init 4 = .ok (.aload_n 0, 1) := by decide +kernel
theorem dS_init_5 : decode cS_init 5 = .ok (.bipush 16, 2) := by decide +kernel
theorem dS_init_7 : decode cS_init 7 = .ok (.newarray .int, 2) := by decide +kernel
theorem dS_init_9 : decode cS_init 9 = .ok (.putfield 9, 3) := by decide +kernel
theorem dS_init_12 : decode cS_init 12 = .ok (.return_, 1) := by decide +kernel
abbrev cT_init : ByteArray := prog_1_method_1_code
def yT_init : MethodName := ⟨"ThreadSlots", "<init>", "(II)V"⟩
theorem dT_init_0 : decode cT_init 0 = .ok (.aload_n 0, 1) := by decide +kernel
theorem dT_init_1 : decode cT_init 1 = .ok (.invokespecial 1, 3) := by decide +kernel
theorem dT_init_4 : decode cT_init 4 = .ok (.aload_n 0, 1) := by decide +kernel
theorem dT_init_5 : decode cT_init 5 = .ok (.iconst (-1), 1) := by decide +kernel
theorem dT_init_6 : decode cT_init 6 = .ok (.putfield 9, 3) := by decide +kernel
theorem dT_init_9 : decode cT_init 9 = .ok (.aload_n 0, 1) := by decide +kernel
theorem dT_init_10 : decode cT_init 10 = .ok (.iconst (-1), 1) := by decide +kernel
theorem dT_init_11 : decode cT_init 11 = .ok (.putfield 13, 3) := by decide +kernel
theorem dT_init_14 : decode cT_init 14 = .ok (.aload_n 0, 1) := by decide +kernel
theorem dT_init_15 : decode cT_init 15 = .ok (.iconst 1, 1) := by decide +kernel
theorem dT_init_16 : decode cT_init 16 = .ok (.iload_n 1, 1) := by decide +kernel
theorem dT_init_17 : decode cT_init 17 = .ok (.iconst 1, 1) := by decide +kernel
theorem dT_init_18 : decode cT_init 18 = .ok (.isub, 1) := by decide +kernel
theorem dT_init_19 : decode cT_init 19 = .ok (.bipush 16, 2) := by decide +kernel
theorem dT_init_21 : decode cT_init 21 = .ok (.invokestatic 16, 3) := by decide +kernel
theorem dT_init_24 : decode cT_init 24 = .ok (.iadd, 1) := by decide +kernel
theorem dT_init_25 : decode cT_init 25 = .ok (.anewarray 22, 3) := by decide +kernel
theorem dT_init_28 : decode cT_init 28 = .ok (.putfield 24, 3) := by decide +kernel
theorem dT_init_31 : decode cT_init 31 = .ok (.iconst 0, 1) := by decide +kernel
theorem dT_init_32 : decode cT_init 32 = .ok (.istore_n 3, 1) := by decide +kernel
theorem dT_init_33 : decode cT_init 33 = .ok (.iload_n 3, 1) := by decide +kernel
theorem dT_init_34 : decode cT_init 34 = .ok (.aload_n 0, 1) := by decide +kernel
theorem dT_init_35 : decode cT_init 35 = .ok (.getfield 24, 3) := by decide +kernel
theorem dT_init_38 : decode cT_init 38 = .ok (.arraylength, 1) := by decide +kernel
theorem dT_init_39 : decode cT_init 39 = .ok (.if_icmp .ge 22, 3) := by decide +kernel
theorem dT_init_42 : decode cT_init 42 = .ok (.aload_n 0, 1) := by decide +kernel
theorem dT_init_43 : decode cT_init 43 = .ok (.getfield 24, 3) := by decide +kernel
theorem dT_init_46 : decode cT_init 46 = .ok (.iload_n 3, 1) := by decide +kernel
theorem dT_init_47 : decode cT_init 47 = .ok (.new 22, 3) := by decide +kernel
theorem dT_init_50 : decode cT_init 50 = .ok (.dup, 1) := by decide +kernel
theorem dT_init_51 : decode cT_init 51 = .ok (.invokespecial 28, 3) := by decide +kernel
theorem dT_init_54 : decode cT_init 54 = .ok (.aastore, 1) := by decide +kernel
theorem dT_init_55 : decode cT_init 55 = .ok (.iinc 3 1, 3) := by decide +kernel
theorem dT_init_58 : decode cT_init 58 = .ok (.goto (-25), 3) := by decide +kernel
theorem dT_init_61 : decode cT_init 61 = .ok (.aload_n 0, 1) := by decide +kernel
theorem dT_init_62 : decode cT_init 62 = .ok (.bipush 8, 2) := by decide +kernel
theorem dT_init_64 : decode cT_init 64 = .ok (.anewarray 29, 3) := by decide +kernel
theorem dT_init_67 : decode cT_init 67 = .ok (.putfield 31, 3) := by decide +kernel
theorem dT_init_70 : decode cT_init 70 = .ok (.iconst 0, 1) := by decide +kernel
theorem dT_init_71 : decode cT_init 71 = .ok (.istore_n 3, 1) := by decide +kernel
theorem dT_init_72 : decode cT_init 72 = .ok (.iload_n 3, 1) := by decide +kernel
theorem dT_init_73 : decode cT_init 73 = .ok (.aload_n 0, 1) := by decide +kernel
theorem dT_init_74 : decode cT_init 74 = .ok (.getfield 31, 3) := by decide +kernel
theorem dT_init_77 : decode cT_init 77 = .ok (.arraylength, 1) := by decide +kernel
theorem dT_init_78 : decode cT_init 78 = .ok (.if_icmp .ge 22, 3) := by decide +kernel
theorem dT_init_81 : decode cT_init 81 = .ok (.aload_n 0, 1) := by decide +kernel
theorem dT_init_82 : decode cT_init 82 = .ok (.getfield 31, 3) := by decide +kernel
theorem dT_init_85 : decode cT_init 85 = .ok (.iload_n 3, 1) := by decide +kernel
theorem dT_init_86 : decode cT_init 86 = .ok (.new 29, 3) := by decide +kernel
theorem dT_init_89 : decode cT_init 89 = .ok (.dup, 1) := by decide +kernel
theorem dT_init_90 : decode cT_init 90 = .ok (.invokespecial 35, 3) := by decide +kernel
theorem dT_init_93 : decode cT_init 93 = .ok (.aastore, 1) := by decide +kernel
theorem dT_init_94 : decode cT_init 94 = .ok (.iinc 3 1, 3) := by decide +kernel
theorem dT_init_97 : decode cT_init 97 = .ok (.goto (-25), 3) := by decide +kernel
theorem dT_init_100 : decode cT_init 100 = .ok (.aload_n 0, 1) := by decide +kernel
theorem dT_init_101 : decode cT_init 101 = .ok (.iload_n 2, 1) := by decide +kernel
theorem dT_init_102 : decode cT_init 102 = .ok (.ldc 36, 2) := by decide +kernel
theorem dT_init_104 : decode cT_init 104 = .ok (.iand, 1) := by decide +kernel
theorem dT_init_105 : decode cT_init 105 = .ok (.putfield 37, 3) := by decide +kernel
theorem dT_init_108 : decode cT_init 108 = .ok (.return_, 1) := by decide +kernel
abbrev cT_rule : ByteArray := prog_1_method_2_code
def yT_rule : MethodName := ⟨"ThreadSlots", "rule", "(I)I"⟩
theorem dT_rule_0 : decode cT_rule 0 = .ok (.iload_n 1, 1) := by decide +kernel
theorem dT_rule_1 : decode cT_rule 1 = .ok (.iconst 0, 1) := by decide +kernel
theorem dT_rule_2 : decode cT_rule 2 = .ok (.iconst 3, 1) := by decide +kernel
theorem dT_rule_3 : decode cT_rule 3 = .ok (.invokestatic 40, 3) := by decide +kernel
theorem dT_rule_6 : decode cT_rule 6 = .ok (.aload_n 0, 1) := by decide +kernel
theorem dT_rule_7 : decode cT_rule 7 = .ok (.getfield 44, 3) := by decide +kernel
theorem dT_rule_10 : decode cT_rule 10 = .ok (.istore_n 2, 1) := by decide +kernel
theorem dT_rule_11 : decode cT_rule 11 = .ok (.aload_n 0, 1) := by decide +kernel
theorem dT_rule_12 : decode cT_rule 12 = .ok (.iload_n 1, 1) := by decide +kernel
theorem dT_rule_13 : decode cT_rule 13 = .ok (.putfield 44, 3) := by decide +kernel
theorem dT_rule_16 : decode cT_rule 16 = .ok (.iload_n 2, 1) := by decide +kernel
theorem dT_rule_17 : decode cT_rule 17 = .ok (.ireturn, 1) := by decide +kernel
abbrev cT_bound : ByteArray := prog_1_method_3_code
def yT_bound : MethodName := ⟨"ThreadSlots", "bound", "(I)I"⟩
theorem dT_bound_0 : decode cT_bound 0 = .ok (.iload_n 1, 1) := by decide +kernel
theorem dT_bound_1 : decode cT_bound 1 = .ok (.iconst 0, 1) := by decide +kernel
theorem dT_bound_2 : decode cT_bound 2 = .ok (.sipush 1000, 3) := by decide +kernel
theorem dT_bound_5 : decode cT_bound 5 = .ok (.invokestatic 40, 3) := by decide +kernel
theorem dT_bound_8 : decode cT_bound 8 = .ok (.aload_n 0, 1) := by decide +kernel
theorem dT_bound_9 : decode cT_bound 9 = .ok (.getfield 47, 3) := by decide +kernel
theorem dT_bound_12 : decode cT_bound 12 = .ok (.istore_n 2, 1) := by decide +kernel
theorem dT_bound_13 : decode cT_bound 13 = .ok (.aload_n 0, 1) := by decide +kernel
theorem dT_bound_14 : decode cT_bound 14 = .ok (.iload_n 1, 1) := by decide +kernel
theorem dT_bound_15 : decode cT_bound 15 = .ok (.putfield 47, 3) := by decide +kernel
theorem dT_bound_18 : decode cT_bound 18 = .ok (.iload_n 2, 1) := by decide +kernel
theorem dT_bound_19 : decode cT_bound 19 = .ok (.ireturn, 1) := by decide +kernel
abbrev cT_cost : ByteArray := prog_1_method_4_code
def yT_cost : MethodName := ⟨"ThreadSlots", "cost", "(I)I"⟩
theorem dT_cost_0 : decode cT_cost 0 = .ok (.iload_n 1, 1) := by decide +kernel
theorem dT_cost_1 : decode cT_cost 1 = .ok (.iconst 0, 1) := by decide +kernel
theorem dT_cost_2 : decode cT_cost 2 = .ok (.bipush 20, 2) := by decide +kernel
theorem dT_cost_4 : decode cT_cost 4 = .ok (.invokestatic 40, 3) := by decide +kernel
theorem dT_cost_7 : decode cT_cost 7 = .ok (.aload_n 0, 1) := by decide +kernel
theorem dT_cost_8 : decode cT_cost 8 = .ok (.getfield 50, 3) := by decide +kernel
theorem dT_cost_11 : decode cT_cost 11 = .ok (.istore_n 2, 1) := by decide +kernel
theorem dT_cost_12 : decode cT_cost 12 = .ok (.aload_n 0, 1) := by decide +kernel
theorem dT_cost_13 : decode cT_cost 13 = .ok (.iload_n 1, 1) := by decide +kernel
theorem dT_cost_14 : decode cT_cost 14 = .ok (.putfield 50, 3) := by decide +kernel
theorem dT_cost_17 : decode cT_cost 17 = .ok (.iload_n 2, 1) := by decide +kernel
theorem dT_cost_18 : decode cT_cost 18 = .ok (.ireturn, 1) := by decide +kernel
abbrev cT_ready : ByteArray := prog_1_method_5_code
def yT_ready : MethodName := ⟨"ThreadSlots", "ready", "(IZ)Z"⟩
theorem dT_ready_0 : decode cT_ready 0 = .ok (.aload_n 0, 1) := by decide +kernel
theorem dT_ready_1 : decode cT_ready 1 = .ok (.iload_n 1, 1) := by decide +kernel
theorem dT_ready_2 : decode cT_ready 2 = .ok (.invokevirtual 53, 3) := by decide +kernel
theorem dT_ready_5 : decode cT_ready 5 = .ok (.astore_n 3, 1) := by decide +kernel
theorem dT_ready_6 : decode cT_ready 6 = .ok (.aload_n 3, 1) := by decide +kernel
theorem dT_ready_7 : decode cT_ready 7 = .ok (.getfield 57, 3) := by decide +kernel
theorem dT_ready_10 : decode cT_ready 10 = .ok (.istore 4, 2) := by decide +kernel
theorem dT_ready_12 : decode cT_ready 12 = .ok (.aload_n 3, 1) := by decide +kernel
theorem dT_ready_13 : decode cT_ready 13 = .ok (.iload_n 2, 1) := by decide +kernel
theorem dT_ready_14 : decode cT_ready 14 = .ok (.putfield 57, 3) := by decide +kernel
theorem dT_ready_17 : decode cT_ready 17 = .ok (.iload 4, 2) := by decide +kernel
theorem dT_ready_19 : decode cT_ready 19 = .ok (.ireturn, 1) := by decide +kernel
abbrev cT_rank : ByteArray := prog_1_method_6_code
def yT_rank : MethodName := ⟨"ThreadSlots", "rank", "(II)I"⟩
theorem dT_rank_0 : decode cT_rank 0 = .ok (.aload_n 0, 1) := by decide +kernel
theorem dT_rank_1 : decode cT_rank 1 = .ok (.iload_n 1, 1) := by decide +kernel
theorem dT_rank_2 : decode cT_rank 2 = .ok (.invokevirtual 53, 3) := by decide +kernel
theorem dT_rank_5 : decode cT_rank 5 = .ok (.astore_n 3, 1) := by decide +kernel
theorem dT_rank_6 : decode cT_rank 6 = .ok (.iload_n 2, 1) := by decide +kernel
theorem dT_rank_7 : decode cT_rank 7 = .ok (.iconst 0, 1) := by decide +kernel
theorem dT_rank_8 : decode cT_rank 8 = .ok (.bipush 15, 2) := by decide +kernel
theorem dT_rank_10 : decode cT_rank 10 = .ok (.invokestatic 40, 3) := by decide +kernel
theorem dT_rank_13 : decode cT_rank 13 = .ok (.aload_n 3, 1) := by decide +kernel
theorem dT_rank_14 : decode cT_rank 14 = .ok (.getfield 61, 3) := by decide +kernel
theorem dT_rank_17 : decode cT_rank 17 = .ok (.istore 4, 2) := by decide +kernel
theorem dT_rank_19 : decode cT_rank 19 = .ok (.aload_n 3, 1) := by decide +kernel
theorem dT_rank_20 : decode cT_rank 20 = .ok (.iload_n 2, 1) := by decide +kernel
theorem dT_rank_21 : decode cT_rank 21 = .ok (.putfield 61, 3) := by decide +kernel
theorem dT_rank_24 : decode cT_rank 24 = .ok (.iload 4, 2) := by decide +kernel
theorem dT_rank_26 : decode cT_rank 26 = .ok (.ireturn, 1) := by decide +kernel
abbrev cT_sleep : ByteArray := prog_1_method_7_code
def yT_sleep : MethodName := ⟨"ThreadSlots", "sleep", "(II)I"⟩
theorem dT_sleep_0 : decode cT_sleep 0 = .ok (.aload_n 0, 1) := by decide +kernel
theorem dT_sleep_1 : decode cT_sleep 1 = .ok (.iload_n 1, 1) := by decide +kernel
theorem dT_sleep_2 : decode cT_sleep 2 = .ok (.invokevirtual 53, 3) := by decide +kernel
theorem dT_sleep_5 : decode cT_sleep 5 = .ok (.astore_n 3, 1) := by decide +kernel
theorem dT_sleep_6 : decode cT_sleep 6 = .ok (.iload_n 2, 1) := by decide +kernel
theorem dT_sleep_7 : decode cT_sleep 7 = .ok (.iconst 0, 1) := by decide +kernel
theorem dT_sleep_8 : decode cT_sleep 8 = .ok (.ldc 64, 2) := by decide +kernel
theorem dT_sleep_10 : decode cT_sleep 10 = .ok (.invokestatic 40, 3) := by decide +kernel
theorem dT_sleep_13 : decode cT_sleep 13 = .ok (.aload_n 3, 1) := by decide +kernel
theorem dT_sleep_14 : decode cT_sleep 14 = .ok (.getfield 65, 3) := by decide +kernel
theorem dT_sleep_17 : decode cT_sleep 17 = .ok (.istore 4, 2) := by decide +kernel
theorem dT_sleep_19 : decode cT_sleep 19 = .ok (.aload_n 3, 1) := by decide +kernel
theorem dT_sleep_20 : decode cT_sleep 20 = .ok (.iload_n 2, 1) := by decide +kernel
theorem dT_sleep_21 : decode cT_sleep 21 = .ok (.putfield 65, 3) := by decide +kernel
theorem dT_sleep_24 : decode cT_sleep 24 = .ok (.iload 4, 2) := by decide +kernel
theorem dT_sleep_26 : decode cT_sleep 26 = .ok (.ireturn, 1) := by decide +kernel
abbrev cT_miss : ByteArray := prog_1_method_8_code
def yT_miss : MethodName := ⟨"ThreadSlots", "miss", "(I)I"⟩
theorem dT_miss_0 : decode cT_miss 0 = .ok (.aload_n 0, 1) := by decide +kernel
theorem dT_miss_1 : decode cT_miss 1 = .ok (.iload_n 1, 1) := by decide +kernel
theorem dT_miss_2 : decode cT_miss 2 = .ok (.invokevirtual 53, 3) := by decide +kernel
theorem dT_miss_5 : decode cT_miss 5 = .ok (.astore_n 2, 1) := by decide +kernel
theorem dT_miss_6 : decode cT_miss 6 = .ok (.aload_n 2, 1) := by decide +kernel
theorem dT_miss_7 : decode cT_miss 7 = .ok (.dup, 1) := by decide +kernel
theorem dT_miss_8 : decode cT_miss 8 = .ok (.getfield 68, 3) := by decide +kernel
theorem dT_miss_11 : decode cT_miss 11 = .ok (.iconst 1, 1) := by decide +kernel
theorem dT_miss_12 : decode cT_miss 12 = .ok (.iadd, 1) := by decide +kernel
theorem dT_miss_13 : decode cT_miss 13 = .ok (.putfield 68, 3) := by decide +kernel
theorem dT_miss_16 : decode cT_miss 16 = .ok (.aload_n 2, 1) := by decide +kernel
theorem dT_miss_17 : decode cT_miss 17 = .ok (.getfield 68, 3) := by decide +kernel
theorem dT_miss_20 : decode cT_miss 20 = .ok (.ireturn, 1) := by decide +kernel
abbrev cT_cycle : ByteArray := prog_1_method_9_code
def yT_cycle : MethodName := ⟨"ThreadSlots", "cycle", "()I"⟩
theorem dT_cycle_0 : decode cT_cycle 0 = .ok (.aload_n 0, 1) := by decide +kernel
theorem dT_cycle_1 : decode cT_cycle 1 = .ok (.invokevirtual 71, 3) := by decide +kernel
theorem dT_cycle_4 : decode cT_cycle 4 = .ok (.ireturn, 1) := by decide +kernel
abbrev cT_run : ByteArray := prog_1_method_10_code
def yT_run : MethodName := ⟨"ThreadSlots", "run", "(I)I"⟩
theorem dT_run_0 : decode cT_run 0 = .ok (.iload_n 1, 1) := by decide +kernel
theorem dT_run_1 : decode cT_run 1 = .ok (.iconst 1, 1) := by decide +kernel
theorem dT_run_2 : decode cT_run 2 = .ok (.sipush 2000, 3) := by decide +kernel
theorem dT_run_5 : decode cT_run 5 = .ok (.invokestatic 40, 3) := by decide +kernel
theorem dT_run_8 : decode cT_run 8 = .ok (.iconst 0, 1) := by decide +kernel
theorem dT_run_9 : decode cT_run 9 = .ok (.istore_n 2, 1) := by decide +kernel
theorem dT_run_10 : decode cT_run 10 = .ok (.iconst 0, 1) := by decide +kernel
theorem dT_run_11 : decode cT_run 11 = .ok (.istore_n 3, 1) := by decide +kernel
theorem dT_run_12 : decode cT_run 12 = .ok (.iload_n 3, 1) := by decide +kernel
theorem dT_run_13 : decode cT_run 13 = .ok (.iload_n 1, 1) := by decide +kernel
theorem dT_run_14 : decode cT_run 14 = .ok (.if_icmp .ge 20, 3) := by decide +kernel
theorem dT_run_17 : decode cT_run 17 = .ok (.aload_n 0, 1) := by decide +kernel
theorem dT_run_18 : decode cT_run 18 = .ok (.invokevirtual 71, 3) := by decide +kernel
theorem dT_run_21 : decode cT_run 21 = .ok (.iconst (-1), 1) := by decide +kernel
theorem dT_run_22 : decode cT_run 22 = .ok (.if_icmp .eq 6, 3) := by decide +kernel
theorem dT_run_25 : decode cT_run 25 = .ok (.iinc 2 1, 3) := by decide +kernel
theorem dT_run_28 : decode cT_run 28 = .ok (.iinc 3 1, 3) := by decide +kernel
theorem dT_run_31 : decode cT_run 31 = .ok (.goto (-19), 3) := by decide +kernel
theorem dT_run_34 : decode cT_run 34 = .ok (.iload_n 2, 1) := by decide +kernel
theorem dT_run_35 : decode cT_run 35 = .ok (.ireturn, 1) := by decide +kernel
abbrev cT_part : ByteArray := prog_1_method_11_code
def yT_part : MethodName := ⟨"ThreadSlots", "part", "(III)I"⟩
theorem dT_part_0 : decode cT_part 0 = .ok (.aload_n 0, 1) := by decide +kernel
theorem dT_part_1 : decode cT_part 1 = .ok (.iload_n 1, 1) := by decide +kernel
theorem dT_part_2 : decode cT_part 2 = .ok (.invokevirtual 75, 3) := by decide +kernel
theorem dT_part_5 : decode cT_part 5 = .ok (.astore 4, 2) := by decide +kernel
theorem dT_part_7 : decode cT_part 7 = .ok (.iload_n 2, 1) := by decide +kernel
theorem dT_part_8 : decode cT_part 8 = .ok (.aload_n 0, 1) := by decide +kernel
theorem dT_part_9 : decode cT_part 9 = .ok (.getfield 24, 3) := by decide +kernel
theorem dT_part_12 : decode cT_part 12 = .ok (.arraylength, 1) := by decide +kernel
theorem dT_part_13 : decode cT_part 13 = .ok (.invokestatic 79, 3) := by decide +kernel
theorem dT_part_16 : decode cT_part 16 = .ok (.iload_n 3, 1) := by decide +kernel
theorem dT_part_17 : decode cT_part 17 = .ok (.iconst 0, 1) := by decide +kernel
theorem dT_part_18 : decode cT_part 18 = .ok (.bipush 32, 2) := by decide +kernel
theorem dT_part_20 : decode cT_part 20 = .ok (.invokestatic 40, 3) := by decide +kernel
theorem dT_part_23 : decode cT_part 23 = .ok (.aload 4, 2) := by decide +kernel
theorem dT_part_25 : decode cT_part 25 = .ok (.getfield 83, 3) := by decide +kernel
theorem dT_part_28 : decode cT_part 28 = .ok (.iload_n 2, 1) := by decide +kernel
theorem dT_part_29 : decode cT_part 29 = .ok (.iaload, 1) := by decide +kernel
theorem dT_part_30 : decode cT_part 30 = .ok (.istore 5, 2) := by decide +kernel
theorem dT_part_32 : decode cT_part 32 = .ok (.aload 4, 2) := by decide +kernel
theorem dT_part_34 : decode cT_part 34 = .ok (.getfield 83, 3) := by decide +kernel
theorem dT_part_37 : decode cT_part 37 = .ok (.iload_n 2, 1) := by decide +kernel
theorem dT_part_38 : decode cT_part 38 = .ok (.iload_n 3, 1) := by decide +kernel
theorem dT_part_39 : decode cT_part 39 = .ok (.iastore, 1) := by decide +kernel
theorem dT_part_40 : decode cT_part 40 = .ok (.iload 5, 2) := by decide +kernel
theorem dT_part_42 : decode cT_part 42 = .ok (.ireturn, 1) := by decide +kernel
abbrev cT_put : ByteArray := prog_1_method_12_code
def yT_put : MethodName := ⟨"ThreadSlots", "put", "(III)I"⟩
theorem dT_put_0 : decode cT_put 0 = .ok (.aload_n 0, 1) := by decide +kernel
theorem dT_put_1 : decode cT_put 1 = .ok (.iload_n 1, 1) := by decide +kernel
theorem dT_put_2 : decode cT_put 2 = .ok (.invokevirtual 75, 3) := by decide +kernel
theorem dT_put_5 : decode cT_put 5 = .ok (.astore 4, 2) := by decide +kernel
theorem dT_put_7 : decode cT_put 7 = .ok (.iload_n 2, 1) := by decide +kernel
theorem dT_put_8 : decode cT_put 8 = .ok (.aload_n 0, 1) := by decide +kernel
theorem dT_put_9 : decode cT_put 9 = .ok (.getfield 24, 3) := by decide +kernel
theorem dT_put_12 : decode cT_put 12 = .ok (.arraylength, 1) := by decide +kernel
theorem dT_put_13 : decode cT_put 13 = .ok (.invokestatic 79, 3) := by decide +kernel
theorem dT_put_16 : decode cT_put 16 = .ok (.aload 4, 2) := by decide +kernel
theorem dT_put_18 : decode cT_put 18 = .ok (.iload_n 2, 1) := by decide +kernel
theorem dT_put_19 : decode cT_put 19 = .ok (.invokevirtual 87, 3) := by decide +kernel
theorem dT_put_22 : decode cT_put 22 = .ok (.istore 5, 2) := by decide +kernel
theorem dT_put_24 : decode cT_put 24 = .ok (.iload 5, 2) := by decide +kernel
theorem dT_put_26 : decode cT_put 26 = .ok (.aload 4, 2) := by decide +kernel
theorem dT_put_28 : decode cT_put 28 = .ok (.getfield 83, 3) := by decide +kernel
theorem dT_put_31 : decode cT_put 31 = .ok (.iload_n 2, 1) := by decide +kernel
theorem dT_put_32 : decode cT_put 32 = .ok (.iaload, 1) := by decide +kernel
theorem dT_put_33 : decode cT_put 33 = .ok (.if_icmp .ge 13, 3) := by decide +kernel
theorem dT_put_36 : decode cT_put 36 = .ok (.aload 4, 2) := by decide +kernel
theorem dT_put_38 : decode cT_put 38 = .ok (.getfield 91, 3) := by decide +kernel
theorem dT_put_41 : decode cT_put 41 = .ok (.bipush 32, 2) := by decide +kernel
theorem dT_put_43 : decode cT_put 43 = .ok (.if_icmp .lt 5, 3) := by decide +kernel
theorem dT_put_46 : decode cT_put 46 = .ok (.iconst (-1), 1) := by decide +kernel
theorem dT_put_47 : decode cT_put 47 = .ok (.ireturn, 1) := by decide +kernel
theorem dT_put_48 : decode cT_put 48 = .ok (.aload 4, 2) := by decide +kernel
theorem dT_put_50 : decode cT_put 50 = .ok (.iload_n 2, 1) := by decide +kernel
theorem dT_put_51 : decode cT_put 51 = .ok (.iload_n 3, 1) := by decide +kernel
theorem dT_put_52 : decode cT_put 52 = .ok (.invokevirtual 94, 3) := by decide +kernel
theorem dT_put_55 : decode cT_put 55 = .ok (.iload 5, 2) := by decide +kernel
theorem dT_put_57 : decode cT_put 57 = .ok (.iconst 1, 1) := by decide +kernel
theorem dT_put_58 : decode cT_put 58 = .ok (.iadd, 1) := by decide +kernel
theorem dT_put_59 : decode cT_put 59 = .ok (.ireturn, 1) := by decide +kernel
abbrev cT_take : ByteArray := prog_1_method_13_code
def yT_take : MethodName := ⟨"ThreadSlots", "take", "(II)I"⟩
theorem dT_take_0 : decode cT_take 0 = .ok (.aload_n 0, 1) := by decide +kernel
theorem dT_take_1 : decode cT_take 1 = .ok (.iload_n 1, 1) := by decide +kernel
theorem dT_take_2 : decode cT_take 2 = .ok (.invokevirtual 75, 3) := by decide +kernel
theorem dT_take_5 : decode cT_take 5 = .ok (.astore_n 3, 1) := by decide +kernel
theorem dT_take_6 : decode cT_take 6 = .ok (.iload_n 2, 1) := by decide +kernel
theorem dT_take_7 : decode cT_take 7 = .ok (.iconst (-1), 1) := by decide +kernel
theorem dT_take_8 : decode cT_take 8 = .ok (.if_icmp .eq 12, 3) := by decide +kernel
theorem dT_take_11 : decode cT_take 11 = .ok (.iload_n 2, 1) := by decide +kernel
theorem dT_take_12 : decode cT_take 12 = .ok (.aload_n 0, 1) := by decide +kernel
theorem dT_take_13 : decode cT_take 13 = .ok (.getfield 24, 3) := by decide +kernel
theorem dT_take_16 : decode cT_take 16 = .ok (.arraylength, 1) := by decide +kernel
theorem dT_take_17 : decode cT_take 17 = .ok (.invokestatic 79, 3) := by decide +kernel
theorem dT_take_20 : decode cT_take 20 = .ok (.aload_n 3, 1) := by decide +kernel
theorem dT_take_21 : decode cT_take 21 = .ok (.iload_n 2, 1) := by decide +kernel
theorem dT_take_22 : decode cT_take 22 = .ok (.invokevirtual 97, 3) := by decide +kernel
theorem dT_take_25 : decode cT_take 25 = .ok (.istore 4, 2) := by decide +kernel
theorem dT_take_27 : decode cT_take 27 = .ok (.iload 4, 2) := by decide +kernel
theorem dT_take_29 : decode cT_take 29 = .ok (.ifCond .lt 12, 3) := by decide +kernel
theorem dT_take_32 : decode cT_take 32 = .ok (.iload 4, 2) := by decide +kernel
theorem dT_take_34 : decode cT_take 34 = .ok (.aload_n 3, 1) := by decide +kernel
theorem dT_take_35 : decode cT_take 35 = .ok (.getfield 91, 3) := by decide +kernel
theorem dT_take_38 : decode cT_take 38 = .ok (.if_icmp .lt 13, 3) := by decide +kernel
theorem dT_take_41 : decode cT_take 41 = .ok (.new 100, 3) := by decide +kernel
theorem dT_take_44 : decode cT_take 44 = .ok (.dup, 1) := by decide +kernel
theorem dT_take_45 : decode cT_take 45 = .ok (.ldc 102, 2) := by decide +kernel
theorem dT_take_47 : decode cT_take 47 = .ok (.invokespecial 104, 3) := by decide +kernel
theorem dT_take_50 : decode cT_take 50 = .ok (.athrow, 1) := by decide +kernel
theorem dT_take_51 : decode cT_take 51 = .ok (.aload_n 3, 1) := by decide +kernel
theorem dT_take_52 : decode cT_take 52 = .ok (.getfield 107, 3) := by decide +kernel
theorem dT_take_55 : decode cT_take 55 = .ok (.iload 4, 2) := by decide +kernel
theorem dT_take_57 : decode cT_take 57 = .ok (.iaload, 1) := by decide +kernel
theorem dT_take_58 : decode cT_take 58 = .ok (.istore 5, 2) := by decide +kernel
theorem dT_take_60 : decode cT_take 60 = .ok (.aload_n 3, 1) := by decide +kernel
theorem dT_take_61 : decode cT_take 61 = .ok (.iload 4, 2) := by decide +kernel
theorem dT_take_63 : decode cT_take 63 = .ok (.invokevirtual 110, 3) := by decide +kernel
theorem dT_take_66 : decode cT_take 66 = .ok (.iload 5, 2) := by decide +kernel
theorem dT_take_68 : decode cT_take 68 = .ok (.ireturn, 1) := by decide +kernel
abbrev cT_entry : ByteArray := prog_1_method_14_code
def yT_entry : MethodName := ⟨"ThreadSlots", "entry", "(III)I"⟩
theorem dT_entry_0 : decode cT_entry 0 = .ok (.aload_n 0, 1) := by decide +kernel
theorem dT_entry_1 : decode cT_entry 1 = .ok (.iload_n 1, 1) := by decide +kernel
theorem dT_entry_2 : decode cT_entry 2 = .ok (.invokevirtual 75, 3) := by decide +kernel
theorem dT_entry_5 : decode cT_entry 5 = .ok (.astore 4, 2) := by decide +kernel
theorem dT_entry_7 : decode cT_entry 7 = .ok (.iload_n 2, 1) := by decide +kernel
theorem dT_entry_8 : decode cT_entry 8 = .ok (.aload 4, 2) := by decide +kernel
theorem dT_entry_10 : decode cT_entry 10 = .ok (.getfield 91, 3) := by decide +kernel
theorem dT_entry_13 : decode cT_entry 13 = .ok (.invokestatic 79, 3) := by decide +kernel
theorem dT_entry_16 : decode cT_entry 16 = .ok (.iload_n 3, 1) := by decide +kernel
theorem dT_entry_17 : decode cT_entry 17 = .ok (.iconst 2, 1) := by decide +kernel
theorem dT_entry_18 : decode cT_entry 18 = .ok (.invokestatic 79, 3) := by decide +kernel
theorem dT_entry_21 : decode cT_entry 21 = .ok (.iload_n 3, 1) := by decide +kernel
theorem dT_entry_22 : decode cT_entry 22 = .ok (.ifCond .ne 13, 3) := by decide +kernel
theorem dT_entry_25 : decode cT_entry 25 = .ok (.aload 4, 2) := by decide +kernel
theorem dT_entry_27 : decode cT_entry 27 = .ok (.getfield 114, 3) := by decide +kernel
theorem dT_entry_30 : decode cT_entry 30 = .ok (.iload_n 2, 1) := by decide +kernel
theorem dT_entry_31 : decode cT_entry 31 = .ok (.iaload, 1) := by decide +kernel
theorem dT_entry_32 : decode cT_entry 32 = .ok (.goto 10, 3) := by decide +kernel
theorem dT_entry_35 : decode cT_entry 35 = .ok (.aload 4, 2) := by decide +kernel
theorem dT_entry_37 : decode cT_entry 37 = .ok (.getfield 107, 3) := by decide +kernel
theorem dT_entry_40 : decode cT_entry 40 = .ok (.iload_n 2, 1) := by decide +kernel
theorem dT_entry_41 : decode cT_entry 41 = .ok (.iaload, 1) := by decide +kernel
theorem dT_entry_42 : decode cT_entry 42 = .ok (.ireturn, 1) := by decide +kernel
abbrev cT_set : ByteArray := prog_1_method_15_code
def yT_set : MethodName := ⟨"ThreadSlots", "set", "(II)I"⟩
theorem dT_set_0 : decode cT_set 0 = .ok (.iload_n 1, 1) := by decide +kernel
theorem dT_set_1 : decode cT_set 1 = .ok (.bipush 16, 2) := by decide +kernel
theorem dT_set_3 : decode cT_set 3 = .ok (.invokestatic 79, 3) := by decide +kernel
theorem dT_set_6 : decode cT_set 6 = .ok (.aload_n 0, 1) := by decide +kernel
theorem dT_set_7 : decode cT_set 7 = .ok (.aload_n 0, 1) := by decide +kernel
theorem dT_set_8 : decode cT_set 8 = .ok (.getfield 9, 3) := by decide +kernel
theorem dT_set_11 : decode cT_set 11 = .ok (.iconst (-1), 1) := by decide +kernel
theorem dT_set_12 : decode cT_set 12 = .ok (.if_icmp .ne 7, 3) := by decide +kernel
theorem dT_set_15 : decode cT_set 15 = .ok (.iconst 0, 1) := by decide +kernel
theorem dT_set_16 : decode cT_set 16 = .ok (.goto 7, 3) := by decide +kernel
theorem dT_set_19 : decode cT_set 19 = .ok (.aload_n 0, 1) := by decide +kernel
theorem dT_set_20 : decode cT_set 20 = .ok (.getfield 9, 3) := by decide +kernel
theorem dT_set_23 : decode cT_set 23 = .ok (.invokevirtual 53, 3) := by decide +kernel
theorem dT_set_26 : decode cT_set 26 = .ok (.astore_n 3, 1) := by decide +kernel
theorem dT_set_27 : decode cT_set 27 = .ok (.aload_n 3, 1) := by decide +kernel
theorem dT_set_28 : decode cT_set 28 = .ok (.getfield 117, 3) := by decide +kernel
theorem dT_set_31 : decode cT_set 31 = .ok (.iload_n 1, 1) := by decide +kernel
theorem dT_set_32 : decode cT_set 32 = .ok (.iaload, 1) := by decide +kernel
theorem dT_set_33 : decode cT_set 33 = .ok (.istore 4, 2) := by decide +kernel
theorem dT_set_35 : decode cT_set 35 = .ok (.aload_n 3, 1) := by decide +kernel
theorem dT_set_36 : decode cT_set 36 = .ok (.getfield 117, 3) := by decide +kernel
theorem dT_set_39 : decode cT_set 39 = .ok (.iload_n 1, 1) := by decide +kernel
theorem dT_set_40 : decode cT_set 40 = .ok (.iload_n 2, 1) := by decide +kernel
theorem dT_set_41 : decode cT_set 41 = .ok (.iastore, 1) := by decide +kernel
theorem dT_set_42 : decode cT_set 42 = .ok (.iload 4, 2) := by decide +kernel
theorem dT_set_44 : decode cT_set 44 = .ok (.ireturn, 1) := by decide +kernel
abbrev cT_register : ByteArray := prog_1_method_16_code
def yT_register : MethodName := ⟨"ThreadSlots", "register", "(II)I"⟩
theorem dT_register_0 : decode cT_register 0 = .ok (.aload_n 0, 1) := by decide +kernel
theorem dT_register_1 : decode cT_register 1 = .ok (.iload_n 1, 1) := by decide +kernel
theorem dT_register_2 : decode cT_register 2 = .ok (.invokevirtual 53, 3) := by decide +kernel
theorem dT_register_5 : decode cT_register 5 = .ok (.astore_n 3, 1) := by decide +kernel
theorem dT_register_6 : decode cT_register 6 = .ok (.iload_n 2, 1) := by decide +kernel
theorem dT_register_7 : decode cT_register 7 = .ok (.bipush 16, 2) := by decide +kernel
theorem dT_register_9 : decode cT_register 9 = .ok (.invokestatic 79, 3) := by decide +kernel
theorem dT_register_12 : decode cT_register 12 = .ok (.aload_n 3, 1) := by decide +kernel
theorem dT_register_13 : decode cT_register 13 = .ok (.getfield 117, 3) := by decide +kernel
theorem dT_register_16 : decode cT_register 16 = .ok (.iload_n 2, 1) := by decide +kernel
theorem dT_register_17 : decode cT_register 17 = .ok (.iaload, 1) := by decide +kernel
theorem dT_register_18 : decode cT_register 18 = .ok (.ireturn, 1) := by decide +kernel
abbrev cT_thread : ByteArray := prog_1_method_17_code
def yT_thread : MethodName := ⟨"ThreadSlots", "thread", "(II)I"⟩
theorem dT_thread_0 : decode cT_thread 0 = .ok (.aload_n 0, 1) := by decide +kernel
theorem dT_thread_1 : decode cT_thread 1 = .ok (.iload_n 1, 1) := by decide +kernel
theorem dT_thread_2 : decode cT_thread 2 = .ok (.invokevirtual 53, 3) := by decide +kernel
theorem dT_thread_5 : decode cT_thread 5 = .ok (.astore_n 3, 1) := by decide +kernel
theorem dT_thread_6 : decode cT_thread 6 = .ok (.iload_n 2, 1) := by decide +kernel
theorem dT_thread_7 : decode cT_thread 7 = .ok (.tableswitch 67 0 5 #[37, 42, 47, 52, 57, 62], 37) := by decide +kernel
theorem dT_thread_44 : decode cT_thread 44 = .ok (.aload_n 3, 1) := by decide +kernel
theorem dT_thread_45 : decode cT_thread 45 = .ok (.getfield 120, 3) := by decide +kernel
theorem dT_thread_48 : decode cT_thread 48 = .ok (.ireturn, 1) := by decide +kernel
theorem dT_thread_49 : decode cT_thread 49 = .ok (.aload_n 3, 1) := by decide +kernel
theorem dT_thread_50 : decode cT_thread 50 = .ok (.getfield 123, 3) := by decide +kernel
theorem dT_thread_53 : decode cT_thread 53 = .ok (.ireturn, 1) := by decide +kernel
theorem dT_thread_54 : decode cT_thread 54 = .ok (.aload_n 3, 1) := by decide +kernel
theorem dT_thread_55 : decode cT_thread 55 = .ok (.getfield 126, 3) := by decide +kernel
theorem dT_thread_58 : decode cT_thread 58 = .ok (.ireturn, 1) := by decide +kernel
theorem dT_thread_59 : decode cT_thread 59 = .ok (.aload_n 3, 1) := by decide +kernel
theorem dT_thread_60 : decode cT_thread 60 = .ok (.getfield 68, 3) := by decide +kernel
theorem dT_thread_63 : decode cT_thread 63 = .ok (.ireturn, 1) := by decide +kernel
theorem dT_thread_64 : decode cT_thread 64 = .ok (.aload_n 3, 1) := by decide +kernel
theorem dT_thread_65 : decode cT_thread 65 = .ok (.getfield 65, 3) := by decide +kernel
theorem dT_thread_68 : decode cT_thread 68 = .ok (.ireturn, 1) := by decide +kernel
theorem dT_thread_69 : decode cT_thread 69 = .ok (.aload_n 3, 1) := by decide +kernel
theorem dT_thread_70 : decode cT_thread 70 = .ok (.getfield 129, 3) := by decide +kernel
theorem dT_thread_73 : decode cT_thread 73 = .ok (.ireturn, 1) := by decide +kernel
theorem dT_thread_74 : decode cT_thread 74 = .ok (.new 132, 3) := by decide +kernel
theorem dT_thread_77 : decode cT_thread 77 = .ok (.dup, 1) := by decide +kernel
theorem dT_thread_78 : decode cT_thread 78 = .ok (.ldc 134, 2) := by decide +kernel
theorem dT_thread_80 : decode cT_thread 80 = .ok (.invokespecial 136, 3) := by decide +kernel
theorem dT_thread_83 : decode cT_thread 83 = .ok (.athrow, 1) := by decide +kernel
abbrev cT_share : ByteArray := prog_1_method_18_code
def yT_share : MethodName := ⟨"ThreadSlots", "share", "(II)I"⟩
theorem dT_share_0 : decode cT_share 0 = .ok (.aload_n 0, 1) := by decide +kernel
theorem dT_share_1 : decode cT_share 1 = .ok (.iload_n 1, 1) := by decide +kernel
theorem dT_share_2 : decode cT_share 2 = .ok (.invokevirtual 53, 3) := by decide +kernel
theorem dT_share_5 : decode cT_share 5 = .ok (.astore_n 3, 1) := by decide +kernel
theorem dT_share_6 : decode cT_share 6 = .ok (.iload_n 2, 1) := by decide +kernel
theorem dT_share_7 : decode cT_share 7 = .ok (.iconst 2, 1) := by decide +kernel
theorem dT_share_8 : decode cT_share 8 = .ok (.invokestatic 79, 3) := by decide +kernel
theorem dT_share_11 : decode cT_share 11 = .ok (.aload_n 3, 1) := by decide +kernel
theorem dT_share_12 : decode cT_share 12 = .ok (.getfield 126, 3) := by decide +kernel
theorem dT_share_15 : decode cT_share 15 = .ok (.aload_n 0, 1) := by decide +kernel
theorem dT_share_16 : decode cT_share 16 = .ok (.getfield 137, 3) := by decide +kernel
theorem dT_share_19 : decode cT_share 19 = .ok (.invokestatic 138, 3) := by decide +kernel
theorem dT_share_22 : decode cT_share 22 = .ok (.istore 4, 2) := by decide +kernel
theorem dT_share_24 : decode cT_share 24 = .ok (.iload 4, 2) := by decide +kernel
theorem dT_share_26 : decode cT_share 26 = .ok (.ifCond .ne 13, 3) := by decide +kernel
theorem dT_share_29 : decode cT_share 29 = .ok (.iload_n 2, 1) := by decide +kernel
theorem dT_share_30 : decode cT_share 30 = .ok (.ifCond .ne 7, 3) := by decide +kernel
theorem dT_share_33 : decode cT_share 33 = .ok (.iconst 0, 1) := by decide +kernel
theorem dT_share_34 : decode cT_share 34 = .ok (.goto 4, 3) := by decide +kernel
theorem dT_share_37 : decode cT_share 37 = .ok (.iconst 1, 1) := by decide +kernel
theorem dT_share_38 : decode cT_share 38 = .ok (.ireturn, 1) := by decide +kernel
theorem dT_share_39 : decode cT_share 39 = .ok (.iload_n 2, 1) := by decide +kernel
theorem dT_share_40 : decode cT_share 40 = .ok (.ifCond .ne 10, 3) := by decide +kernel
theorem dT_share_43 : decode cT_share 43 = .ok (.aload_n 3, 1) := by decide +kernel
theorem dT_share_44 : decode cT_share 44 = .ok (.getfield 126, 3) := by decide +kernel
theorem dT_share_47 : decode cT_share 47 = .ok (.goto 7, 3) := by decide +kernel
theorem dT_share_50 : decode cT_share 50 = .ok (.aload_n 0, 1) := by decide +kernel
theorem dT_share_51 : decode cT_share 51 = .ok (.getfield 137, 3) := by decide +kernel
theorem dT_share_54 : decode cT_share 54 = .ok (.iload 4, 2) := by decide +kernel
theorem dT_share_56 : decode cT_share 56 = .ok (.idiv, 1) := by decide +kernel
theorem dT_share_57 : decode cT_share 57 = .ok (.ireturn, 1) := by decide +kernel
abbrev cT_count : ByteArray := prog_1_method_19_code
def yT_count : MethodName := ⟨"ThreadSlots", "count", "(I)I"⟩
theorem dT_count_0 : decode cT_count 0 = .ok (.iload_n 1, 1) := by decide +kernel
theorem dT_count_1 : decode cT_count 1 = .ok (.tableswitch 88 0 7 #[47, 52, 57, 62, 67, 73, 78, 83], 47) := by decide +kernel
theorem dT_count_48 : decode cT_count 48 = .ok (.aload_n 0, 1) := by decide +kernel
theorem dT_count_49 : decode cT_count 49 = .ok (.getfield 141, 3) := by decide +kernel
theorem dT_count_52 : decode cT_count 52 = .ok (.ireturn, 1) := by decide +kernel
theorem dT_count_53 : decode cT_count 53 = .ok (.aload_n 0, 1) := by decide +kernel
theorem dT_count_54 : decode cT_count 54 = .ok (.getfield 137, 3) := by decide +kernel
theorem dT_count_57 : decode cT_count 57 = .ok (.ireturn, 1) := by decide +kernel
theorem dT_count_58 : decode cT_count 58 = .ok (.aload_n 0, 1) := by decide +kernel
theorem dT_count_59 : decode cT_count 59 = .ok (.getfield 144, 3) := by decide +kernel
theorem dT_count_62 : decode cT_count 62 = .ok (.ireturn, 1) := by decide +kernel
theorem dT_count_63 : decode cT_count 63 = .ok (.aload_n 0, 1) := by decide +kernel
theorem dT_count_64 : decode cT_count 64 = .ok (.getfield 147, 3) := by decide +kernel
theorem dT_count_67 : decode cT_count 67 = .ok (.ireturn, 1) := by decide +kernel
theorem dT_count_68 : decode cT_count 68 = .ok (.aload_n 0, 1) := by decide +kernel
theorem dT_count_69 : decode cT_count 69 = .ok (.getfield 24, 3) := by decide +kernel
theorem dT_count_72 : decode cT_count 72 = .ok (.arraylength, 1) := by decide +kernel
theorem dT_count_73 : decode cT_count 73 = .ok (.ireturn, 1) := by decide +kernel
theorem dT_count_74 : decode cT_count 74 = .ok (.aload_n 0, 1) := by decide +kernel
theorem dT_count_75 : decode cT_count 75 = .ok (.getfield 9, 3) := by decide +kernel
theorem dT_count_78 : decode cT_count 78 = .ok (.ireturn, 1) := by decide +kernel
theorem dT_count_79 : decode cT_count 79 = .ok (.aload_n 0, 1) := by decide +kernel
theorem dT_count_80 : decode cT_count 80 = .ok (.getfield 13, 3) := by decide +kernel
theorem dT_count_83 : decode cT_count 83 = .ok (.ireturn, 1) := by decide +kernel
theorem dT_count_84 : decode cT_count 84 = .ok (.aload_n 0, 1) := by decide +kernel
theorem dT_count_85 : decode cT_count 85 = .ok (.invokevirtual 150, 3) := by decide +kernel
theorem dT_count_88 : decode cT_count 88 = .ok (.ireturn, 1) := by decide +kernel
theorem dT_count_89 : decode cT_count 89 = .ok (.iconst (-1), 1) := by decide +kernel
theorem dT_count_90 : decode cT_count 90 = .ok (.ireturn, 1) := by decide +kernel
abbrev cT_playCycle : ByteArray := prog_1_method_20_code
def yT_playCycle : MethodName := ⟨"ThreadSlots", "playCycle", "()I"⟩
theorem dT_playCycle_0 : decode cT_playCycle 0 = .ok (.aload_n 0, 1) := by decide +kernel
theorem dT_playCycle_1 : decode cT_playCycle 1 = .ok (.dup, 1) := by decide +kernel
theorem dT_playCycle_2 : decode cT_playCycle 2 = .ok (.getfield 141, 3) := by decide +kernel
theorem dT_playCycle_5 : decode cT_playCycle 5 = .ok (.iconst 1, 1) := by decide +kernel
theorem dT_playCycle_6 : decode cT_playCycle 6 = .ok (.iadd, 1) := by decide +kernel
theorem dT_playCycle_7 : decode cT_playCycle 7 = .ok (.putfield 141, 3) := by decide +kernel
theorem dT_playCycle_10 : decode cT_playCycle 10 = .ok (.aload_n 0, 1) := by decide +kernel
theorem dT_playCycle_11 : decode cT_playCycle 11 = .ok (.invokevirtual 153, 3) := by decide +kernel
theorem dT_playCycle_14 : decode cT_playCycle 14 = .ok (.aload_n 0, 1) := by decide +kernel
theorem dT_playCycle_15 : decode cT_playCycle 15 = .ok (.invokevirtual 156, 3) := by decide +kernel
theorem dT_playCycle_18 : decode cT_playCycle 18 = .ok (.istore_n 1, 1) := by decide +kernel
theorem dT_playCycle_19 : decode cT_playCycle 19 = .ok (.aload_n 0, 1) := by decide +kernel
theorem dT_playCycle_20 : decode cT_playCycle 20 = .ok (.iload_n 1, 1) := by decide +kernel
theorem dT_playCycle_21 : decode cT_playCycle 21 = .ok (.invokevirtual 159, 3) := by decide +kernel
theorem dT_playCycle_24 : decode cT_playCycle 24 = .ok (.iload_n 1, 1) := by decide +kernel
theorem dT_playCycle_25 : decode cT_playCycle 25 = .ok (.iconst (-1), 1) := by decide +kernel
theorem dT_playCycle_26 : decode cT_playCycle 26 = .ok (.if_icmp .eq 8, 3) := by decide +kernel
theorem dT_playCycle_29 : decode cT_playCycle 29 = .ok (.aload_n 0, 1) := by decide +kernel
theorem dT_playCycle_30 : decode cT_playCycle 30 = .ok (.iload_n 1, 1) := by decide +kernel
theorem dT_playCycle_31 : decode cT_playCycle 31 = .ok (.invokevirtual 162, 3) := by decide +kernel
theorem dT_playCycle_34 : decode cT_playCycle 34 = .ok (.iload_n 1, 1) := by decide +kernel
theorem dT_playCycle_35 : decode cT_playCycle 35 = .ok (.ireturn, 1) := by decide +kernel
abbrev cT_seeWhoCanGo : ByteArray := prog_1_method_21_code
def yT_seeWhoCanGo : MethodName := ⟨"ThreadSlots", "seeWhoCanGo", "()V"⟩
theorem dT_seeWhoCanGo_0 : decode cT_seeWhoCanGo 0 = .ok (.iconst 0, 1) := by decide +kernel
theorem dT_seeWhoCanGo_1 : decode cT_seeWhoCanGo 1 = .ok (.istore_n 1, 1) := by decide +kernel
theorem dT_seeWhoCanGo_2 : decode cT_seeWhoCanGo 2 = .ok (.iload_n 1, 1) := by decide +kernel
theorem dT_seeWhoCanGo_3 : decode cT_seeWhoCanGo 3 = .ok (.aload_n 0, 1) := by decide +kernel
theorem dT_seeWhoCanGo_4 : decode cT_seeWhoCanGo 4 = .ok (.getfield 24, 3) := by decide +kernel
theorem dT_seeWhoCanGo_7 : decode cT_seeWhoCanGo 7 = .ok (.arraylength, 1) := by decide +kernel
theorem dT_seeWhoCanGo_8 : decode cT_seeWhoCanGo 8 = .ok (.if_icmp .ge 55, 3) := by decide +kernel
theorem dT_seeWhoCanGo_11 : decode cT_seeWhoCanGo 11 = .ok (.aload_n 0, 1) := by decide +kernel
theorem dT_seeWhoCanGo_12 : decode cT_seeWhoCanGo 12 = .ok (.getfield 24, 3) := by decide +kernel
theorem dT_seeWhoCanGo_15 : decode cT_seeWhoCanGo 15 = .ok (.iload_n 1, 1) := by decide +kernel
theorem dT_seeWhoCanGo_16 : decode cT_seeWhoCanGo 16 = .ok (.aaload, 1) := by decide +kernel
theorem dT_seeWhoCanGo_17 : decode cT_seeWhoCanGo 17 = .ok (.astore_n 2, 1) := by decide +kernel
theorem dT_seeWhoCanGo_18 : decode cT_seeWhoCanGo 18 = .ok (.aload_n 2, 1) := by decide +kernel
theorem dT_seeWhoCanGo_19 : decode cT_seeWhoCanGo 19 = .ok (.getfield 65, 3) := by decide +kernel
theorem dT_seeWhoCanGo_22 : decode cT_seeWhoCanGo 22 = .ok (.aload_n 0, 1) := by decide +kernel
theorem dT_seeWhoCanGo_23 : decode cT_seeWhoCanGo 23 = .ok (.getfield 141, 3) := by decide +kernel
theorem dT_seeWhoCanGo_26 : decode cT_seeWhoCanGo 26 = .ok (.if_icmp .gt 8, 3) := by decide +kernel
theorem dT_seeWhoCanGo_29 : decode cT_seeWhoCanGo 29 = .ok (.aload_n 2, 1) := by decide +kernel
theorem dT_seeWhoCanGo_30 : decode cT_seeWhoCanGo 30 = .ok (.iconst 0, 1) := by decide +kernel
theorem dT_seeWhoCanGo_31 : decode cT_seeWhoCanGo 31 = .ok (.putfield 65, 3) := by decide +kernel
theorem dT_seeWhoCanGo_34 : decode cT_seeWhoCanGo 34 = .ok (.aload_n 2, 1) := by decide +kernel
theorem dT_seeWhoCanGo_35 : decode cT_seeWhoCanGo 35 = .ok (.aload_n 2, 1) := by decide +kernel
theorem dT_seeWhoCanGo_36 : decode cT_seeWhoCanGo 36 = .ok (.getfield 57, 3) := by decide +kernel
theorem dT_seeWhoCanGo_39 : decode cT_seeWhoCanGo 39 = .ok (.ifCond .eq 14, 3) := by decide +kernel
theorem dT_seeWhoCanGo_42 : decode cT_seeWhoCanGo 42 = .ok (.aload_n 2, 1) := by decide +kernel
theorem dT_seeWhoCanGo_43 : decode cT_seeWhoCanGo 43 = .ok (.getfield 65, 3) := by decide +kernel
theorem dT_seeWhoCanGo_46 : decode cT_seeWhoCanGo 46 = .ok (.ifCond .ne 7, 3) := by decide +kernel
theorem dT_seeWhoCanGo_49 : decode cT_seeWhoCanGo 49 = .ok (.iconst 1, 1) := by decide +kernel
theorem dT_seeWhoCanGo_50 : decode cT_seeWhoCanGo 50 = .ok (.goto 4, 3) := by decide +kernel
theorem dT_seeWhoCanGo_53 : decode cT_seeWhoCanGo 53 = .ok (.iconst 0, 1) := by decide +kernel
theorem dT_seeWhoCanGo_54 : decode cT_seeWhoCanGo 54 = .ok (.putfield 165, 3) := by decide +kernel
theorem dT_seeWhoCanGo_57 : decode cT_seeWhoCanGo 57 = .ok (.iinc 1 1, 3) := by decide +kernel
theorem dT_seeWhoCanGo_60 : decode cT_seeWhoCanGo 60 = .ok (.goto (-58), 3) := by decide +kernel
theorem dT_seeWhoCanGo_63 : decode cT_seeWhoCanGo 63 = .ok (.return_, 1) := by decide +kernel
abbrev cT_findGoer : ByteArray := prog_1_method_22_code
def yT_findGoer : MethodName := ⟨"ThreadSlots", "findGoer", "()I"⟩
theorem dT_findGoer_0 : decode cT_findGoer 0 = .ok (.aload_n 0, 1) := by decide +kernel
theorem dT_findGoer_1 : decode cT_findGoer 1 = .ok (.getfield 168, 3) := by decide +kernel
theorem dT_findGoer_4 : decode cT_findGoer 4 = .ok (.ifCond .le 25, 3) := by decide +kernel
theorem dT_findGoer_7 : decode cT_findGoer 7 = .ok (.aload_n 0, 1) := by decide +kernel
theorem dT_findGoer_8 : decode cT_findGoer 8 = .ok (.dup, 1) := by decide +kernel
theorem dT_findGoer_9 : decode cT_findGoer 9 = .ok (.getfield 168, 3) := by decide +kernel
theorem dT_findGoer_12 : decode cT_findGoer 12 = .ok (.iconst 1, 1) := by decide +kernel
theorem dT_findGoer_13 : decode cT_findGoer 13 = .ok (.isub, 1) := by decide +kernel
theorem dT_findGoer_14 : decode cT_findGoer 14 = .ok (.putfield 168, 3) := by decide +kernel
theorem dT_findGoer_17 : decode cT_findGoer 17 = .ok (.aload_n 0, 1) := by decide +kernel
theorem dT_findGoer_18 : decode cT_findGoer 18 = .ok (.dup, 1) := by decide +kernel
theorem dT_findGoer_19 : decode cT_findGoer 19 = .ok (.getfield 147, 3) := by decide +kernel
theorem dT_findGoer_22 : decode cT_findGoer 22 = .ok (.iconst 1, 1) := by decide +kernel
theorem dT_findGoer_23 : decode cT_findGoer 23 = .ok (.iadd, 1) := by decide +kernel
theorem dT_findGoer_24 : decode cT_findGoer 24 = .ok (.putfield 147, 3) := by decide +kernel
theorem dT_findGoer_27 : decode cT_findGoer 27 = .ok (.iconst (-1), 1) := by decide +kernel
theorem dT_findGoer_28 : decode cT_findGoer 28 = .ok (.ireturn, 1) := by decide +kernel
theorem dT_findGoer_29 : decode cT_findGoer 29 = .ok (.aload_n 0, 1) := by decide +kernel
theorem dT_findGoer_30 : decode cT_findGoer 30 = .ok (.getfield 13, 3) := by decide +kernel
theorem dT_findGoer_33 : decode cT_findGoer 33 = .ok (.iconst (-1), 1) := by decide +kernel
theorem dT_findGoer_34 : decode cT_findGoer 34 = .ok (.if_icmp .eq 23, 3) := by decide +kernel
theorem dT_findGoer_37 : decode cT_findGoer 37 = .ok (.aload_n 0, 1) := by decide +kernel
theorem dT_findGoer_38 : decode cT_findGoer 38 = .ok (.getfield 24, 3) := by decide +kernel
theorem dT_findGoer_41 : decode cT_findGoer 41 = .ok (.aload_n 0, 1) := by decide +kernel
theorem dT_findGoer_42 : decode cT_findGoer 42 = .ok (.getfield 13, 3) := by decide +kernel
theorem dT_findGoer_45 : decode cT_findGoer 45 = .ok (.aaload, 1) := by decide +kernel
theorem dT_findGoer_46 : decode cT_findGoer 46 = .ok (.getfield 165, 3) := by decide +kernel
theorem dT_findGoer_49 : decode cT_findGoer 49 = .ok (.ifCond .eq 8, 3) := by decide +kernel
theorem dT_findGoer_52 : decode cT_findGoer 52 = .ok (.aload_n 0, 1) := by decide +kernel
theorem dT_findGoer_53 : decode cT_findGoer 53 = .ok (.getfield 13, 3) := by decide +kernel
theorem dT_findGoer_56 : decode cT_findGoer 56 = .ok (.ireturn, 1) := by decide +kernel
theorem dT_findGoer_57 : decode cT_findGoer 57 = .ok (.aload_n 0, 1) := by decide +kernel
theorem dT_findGoer_58 : decode cT_findGoer 58 = .ok (.invokevirtual 171, 3) := by decide +kernel
theorem dT_findGoer_61 : decode cT_findGoer 61 = .ok (.istore_n 1, 1) := by decide +kernel
theorem dT_findGoer_62 : decode cT_findGoer 62 = .ok (.iload_n 1, 1) := by decide +kernel
theorem dT_findGoer_63 : decode cT_findGoer 63 = .ok (.iconst (-1), 1) := by decide +kernel
theorem dT_findGoer_64 : decode cT_findGoer 64 = .ok (.if_icmp .ne 15, 3) := by decide +kernel
theorem dT_findGoer_67 : decode cT_findGoer 67 = .ok (.aload_n 0, 1) := by decide +kernel
theorem dT_findGoer_68 : decode cT_findGoer 68 = .ok (.dup, 1) := by decide +kernel
theorem dT_findGoer_69 : decode cT_findGoer 69 = .ok (.getfield 144, 3) := by decide +kernel
theorem dT_findGoer_72 : decode cT_findGoer 72 = .ok (.iconst 1, 1) := by decide +kernel
theorem dT_findGoer_73 : decode cT_findGoer 73 = .ok (.iadd, 1) := by decide +kernel
theorem dT_findGoer_74 : decode cT_findGoer 74 = .ok (.putfield 144, 3) := by decide +kernel
theorem dT_findGoer_77 : decode cT_findGoer 77 = .ok (.iconst (-1), 1) := by decide +kernel
theorem dT_findGoer_78 : decode cT_findGoer 78 = .ok (.ireturn, 1) := by decide +kernel
theorem dT_findGoer_79 : decode cT_findGoer 79 = .ok (.iload_n 1, 1) := by decide +kernel
theorem dT_findGoer_80 : decode cT_findGoer 80 = .ok (.aload_n 0, 1) := by decide +kernel
theorem dT_findGoer_81 : decode cT_findGoer 81 = .ok (.getfield 9, 3) := by decide +kernel
theorem dT_findGoer_84 : decode cT_findGoer 84 = .ok (.if_icmp .eq 18, 3) := by decide +kernel
theorem dT_findGoer_87 : decode cT_findGoer 87 = .ok (.aload_n 0, 1) := by decide +kernel
theorem dT_findGoer_88 : decode cT_findGoer 88 = .ok (.getfield 9, 3) := by decide +kernel
theorem dT_findGoer_91 : decode cT_findGoer 91 = .ok (.iconst (-1), 1) := by decide +kernel
theorem dT_findGoer_92 : decode cT_findGoer 92 = .ok (.if_icmp .eq 10, 3) := by decide +kernel
theorem dT_findGoer_95 : decode cT_findGoer 95 = .ok (.aload_n 0, 1) := by decide +kernel
theorem dT_findGoer_96 : decode cT_findGoer 96 = .ok (.getfield 50, 3) := by decide +kernel
theorem dT_findGoer_99 : decode cT_findGoer 99 = .ok (.ifCond .ne 5, 3) := by decide +kernel
theorem dT_findGoer_102 : decode cT_findGoer 102 = .ok (.iload_n 1, 1) := by decide +kernel
theorem dT_findGoer_103 : decode cT_findGoer 103 = .ok (.ireturn, 1) := by decide +kernel
theorem dT_findGoer_104 : decode cT_findGoer 104 = .ok (.aload_n 0, 1) := by decide +kernel
theorem dT_findGoer_105 : decode cT_findGoer 105 = .ok (.iload_n 1, 1) := by decide +kernel
theorem dT_findGoer_106 : decode cT_findGoer 106 = .ok (.invokevirtual 174, 3) := by decide +kernel
theorem dT_findGoer_109 : decode cT_findGoer 109 = .ok (.iconst (-1), 1) := by decide +kernel
theorem dT_findGoer_110 : decode cT_findGoer 110 = .ok (.ireturn, 1) := by decide +kernel
abbrev cT_beginChangeTo : ByteArray := prog_1_method_23_code
def yT_beginChangeTo : MethodName := ⟨"ThreadSlots", "beginChangeTo", "(I)V"⟩
theorem dT_beginChangeTo_0 : decode cT_beginChangeTo 0 = .ok (.aload_n 0, 1) := by decide +kernel
theorem dT_beginChangeTo_1 : decode cT_beginChangeTo 1 = .ok (.iload_n 1, 1) := by decide +kernel
theorem dT_beginChangeTo_2 : decode cT_beginChangeTo 2 = .ok (.putfield 13, 3) := by decide +kernel
theorem dT_beginChangeTo_5 : decode cT_beginChangeTo 5 = .ok (.aload_n 0, 1) := by decide +kernel
theorem dT_beginChangeTo_6 : decode cT_beginChangeTo 6 = .ok (.aload_n 0, 1) := by decide +kernel
theorem dT_beginChangeTo_7 : decode cT_beginChangeTo 7 = .ok (.getfield 50, 3) := by decide +kernel
theorem dT_beginChangeTo_10 : decode cT_beginChangeTo 10 = .ok (.iconst 1, 1) := by decide +kernel
theorem dT_beginChangeTo_11 : decode cT_beginChangeTo 11 = .ok (.isub, 1) := by decide +kernel
theorem dT_beginChangeTo_12 : decode cT_beginChangeTo 12 = .ok (.putfield 168, 3) := by decide +kernel
theorem dT_beginChangeTo_15 : decode cT_beginChangeTo 15 = .ok (.aload_n 0, 1) := by decide +kernel
theorem dT_beginChangeTo_16 : decode cT_beginChangeTo 16 = .ok (.getfield 24, 3) := by decide +kernel
theorem dT_beginChangeTo_19 : decode cT_beginChangeTo 19 = .ok (.iload_n 1, 1) := by decide +kernel
theorem dT_beginChangeTo_20 : decode cT_beginChangeTo 20 = .ok (.aaload, 1) := by decide +kernel
theorem dT_beginChangeTo_21 : decode cT_beginChangeTo 21 = .ok (.dup, 1) := by decide +kernel
theorem dT_beginChangeTo_22 : decode cT_beginChangeTo 22 = .ok (.getfield 129, 3) := by decide +kernel
theorem dT_beginChangeTo_25 : decode cT_beginChangeTo 25 = .ok (.iconst 1, 1) := by decide +kernel
theorem dT_beginChangeTo_26 : decode cT_beginChangeTo 26 = .ok (.iadd, 1) := by decide +kernel
theorem dT_beginChangeTo_27 : decode cT_beginChangeTo 27 = .ok (.putfield 129, 3) := by decide +kernel
theorem dT_beginChangeTo_30 : decode cT_beginChangeTo 30 = .ok (.aload_n 0, 1) := by decide +kernel
theorem dT_beginChangeTo_31 : decode cT_beginChangeTo 31 = .ok (.dup, 1) := by decide +kernel
theorem dT_beginChangeTo_32 : decode cT_beginChangeTo 32 = .ok (.getfield 147, 3) := by decide +kernel
theorem dT_beginChangeTo_35 : decode cT_beginChangeTo 35 = .ok (.iconst 1, 1) := by decide +kernel
theorem dT_beginChangeTo_36 : decode cT_beginChangeTo 36 = .ok (.iadd, 1) := by decide +kernel
theorem dT_beginChangeTo_37 : decode cT_beginChangeTo 37 = .ok (.putfield 147, 3) := by decide +kernel
theorem dT_beginChangeTo_40 : decode cT_beginChangeTo 40 = .ok (.return_, 1) := by decide +kernel
abbrev cT_letOthersWait : ByteArray := prog_1_method_24_code
def yT_letOthersWait : MethodName := ⟨"ThreadSlots", "letOthersWait", "(I)V"⟩
theorem dT_letOthersWait_0 : decode cT_letOthersWait 0 = .ok (.iconst 0, 1) := by decide +kernel
theorem dT_letOthersWait_1 : decode cT_letOthersWait 1 = .ok (.istore_n 2, 1) := by decide +kernel
theorem dT_letOthersWait_2 : decode cT_letOthersWait 2 = .ok (.iload_n 2, 1) := by decide +kernel
theorem dT_letOthersWait_3 : decode cT_letOthersWait 3 = .ok (.aload_n 0, 1) := by decide +kernel
theorem dT_letOthersWait_4 : decode cT_letOthersWait 4 = .ok (.getfield 24, 3) := by decide +kernel
theorem dT_letOthersWait_7 : decode cT_letOthersWait 7 = .ok (.arraylength, 1) := by decide +kernel
theorem dT_letOthersWait_8 : decode cT_letOthersWait 8 = .ok (.if_icmp .ge 53, 3) := by decide +kernel
theorem dT_letOthersWait_11 : decode cT_letOthersWait 11 = .ok (.aload_n 0, 1) := by decide +kernel
theorem dT_letOthersWait_12 : decode cT_letOthersWait 12 = .ok (.getfield 24, 3) := by decide +kernel
theorem dT_letOthersWait_15 : decode cT_letOthersWait 15 = .ok (.iload_n 2, 1) := by decide +kernel
theorem dT_letOthersWait_16 : decode cT_letOthersWait 16 = .ok (.aaload, 1) := by decide +kernel
theorem dT_letOthersWait_17 : decode cT_letOthersWait 17 = .ok (.astore_n 3, 1) := by decide +kernel
theorem dT_letOthersWait_18 : decode cT_letOthersWait 18 = .ok (.aload_n 3, 1) := by decide +kernel
theorem dT_letOthersWait_19 : decode cT_letOthersWait 19 = .ok (.getfield 165, 3) := by decide +kernel
theorem dT_letOthersWait_22 : decode cT_letOthersWait 22 = .ok (.ifCond .eq 33, 3) := by decide +kernel
theorem dT_letOthersWait_25 : decode cT_letOthersWait 25 = .ok (.iload_n 2, 1) := by decide +kernel
theorem dT_letOthersWait_26 : decode cT_letOthersWait 26 = .ok (.iload_n 1, 1) := by decide +kernel
theorem dT_letOthersWait_27 : decode cT_letOthersWait 27 = .ok (.if_icmp .eq 28, 3) := by decide +kernel
theorem dT_letOthersWait_30 : decode cT_letOthersWait 30 = .ok (.aload_n 3, 1) := by decide +kernel
theorem dT_letOthersWait_31 : decode cT_letOthersWait 31 = .ok (.dup, 1) := by decide +kernel
theorem dT_letOthersWait_32 : decode cT_letOthersWait 32 = .ok (.getfield 120, 3) := by decide +kernel
theorem dT_letOthersWait_35 : decode cT_letOthersWait 35 = .ok (.iconst 1, 1) := by decide +kernel
theorem dT_letOthersWait_36 : decode cT_letOthersWait 36 = .ok (.iadd, 1) := by decide +kernel
theorem dT_letOthersWait_37 : decode cT_letOthersWait 37 = .ok (.putfield 120, 3) := by decide +kernel
theorem dT_letOthersWait_40 : decode cT_letOthersWait 40 = .ok (.aload_n 3, 1) := by decide +kernel
theorem dT_letOthersWait_41 : decode cT_letOthersWait 41 = .ok (.aload_n 3, 1) := by decide +kernel
theorem dT_letOthersWait_42 : decode cT_letOthersWait 42 = .ok (.getfield 123, 3) := by decide +kernel
theorem dT_letOthersWait_45 : decode cT_letOthersWait 45 = .ok (.aload_n 3, 1) := by decide +kernel
theorem dT_letOthersWait_46 : decode cT_letOthersWait 46 = .ok (.getfield 120, 3) := by decide +kernel
theorem dT_letOthersWait_49 : decode cT_letOthersWait 49 = .ok (.invokestatic 177, 3) := by decide +kernel
theorem dT_letOthersWait_52 : decode cT_letOthersWait 52 = .ok (.putfield 123, 3) := by decide +kernel
theorem dT_letOthersWait_55 : decode cT_letOthersWait 55 = .ok (.iinc 2 1, 3) := by decide +kernel
theorem dT_letOthersWait_58 : decode cT_letOthersWait 58 = .ok (.goto (-56), 3) := by decide +kernel
theorem dT_letOthersWait_61 : decode cT_letOthersWait 61 = .ok (.return_, 1) := by decide +kernel
abbrev cT_letGo : ByteArray := prog_1_method_25_code
def yT_letGo : MethodName := ⟨"ThreadSlots", "letGo", "(I)V"⟩
theorem dT_letGo_0 : decode cT_letGo 0 = .ok (.aload_n 0, 1) := by decide +kernel
theorem dT_letGo_1 : decode cT_letGo 1 = .ok (.getfield 24, 3) := by decide +kernel
theorem dT_letGo_4 : decode cT_letGo 4 = .ok (.iload_n 1, 1) := by decide +kernel
theorem dT_letGo_5 : decode cT_letGo 5 = .ok (.aaload, 1) := by decide +kernel
theorem dT_letGo_6 : decode cT_letGo 6 = .ok (.astore_n 2, 1) := by decide +kernel
theorem dT_letGo_7 : decode cT_letGo 7 = .ok (.aload_n 2, 1) := by decide +kernel
theorem dT_letGo_8 : decode cT_letGo 8 = .ok (.iconst 0, 1) := by decide +kernel
theorem dT_letGo_9 : decode cT_letGo 9 = .ok (.putfield 120, 3) := by decide +kernel
theorem dT_letGo_12 : decode cT_letGo 12 = .ok (.aload_n 2, 1) := by decide +kernel
theorem dT_letGo_13 : decode cT_letGo 13 = .ok (.dup, 1) := by decide +kernel
theorem dT_letGo_14 : decode cT_letGo 14 = .ok (.getfield 126, 3) := by decide +kernel
theorem dT_letGo_17 : decode cT_letGo 17 = .ok (.iconst 1, 1) := by decide +kernel
theorem dT_letGo_18 : decode cT_letGo 18 = .ok (.iadd, 1) := by decide +kernel
theorem dT_letGo_19 : decode cT_letGo 19 = .ok (.putfield 126, 3) := by decide +kernel
theorem dT_letGo_22 : decode cT_letGo 22 = .ok (.aload_n 0, 1) := by decide +kernel
theorem dT_letGo_23 : decode cT_letGo 23 = .ok (.dup, 1) := by decide +kernel
theorem dT_letGo_24 : decode cT_letGo 24 = .ok (.getfield 137, 3) := by decide +kernel
theorem dT_letGo_27 : decode cT_letGo 27 = .ok (.iconst 1, 1) := by decide +kernel
theorem dT_letGo_28 : decode cT_letGo 28 = .ok (.iadd, 1) := by decide +kernel
theorem dT_letGo_29 : decode cT_letGo 29 = .ok (.putfield 137, 3) := by decide +kernel
theorem dT_letGo_32 : decode cT_letGo 32 = .ok (.aload_n 0, 1) := by decide +kernel
theorem dT_letGo_33 : decode cT_letGo 33 = .ok (.iload_n 1, 1) := by decide +kernel
theorem dT_letGo_34 : decode cT_letGo 34 = .ok (.putfield 9, 3) := by decide +kernel
theorem dT_letGo_37 : decode cT_letGo 37 = .ok (.aload_n 0, 1) := by decide +kernel
theorem dT_letGo_38 : decode cT_letGo 38 = .ok (.iconst (-1), 1) := by decide +kernel
theorem dT_letGo_39 : decode cT_letGo 39 = .ok (.putfield 13, 3) := by decide +kernel
theorem dT_letGo_42 : decode cT_letGo 42 = .ok (.return_, 1) := by decide +kernel
abbrev cT_choose : ByteArray := prog_1_method_26_code
def yT_choose : MethodName := ⟨"ThreadSlots", "choose", "()I"⟩
theorem dT_choose_0 : decode cT_choose 0 = .ok (.aload_n 0, 1) := by decide +kernel
theorem dT_choose_1 : decode cT_choose 1 = .ok (.invokevirtual 180, 3) := by decide +kernel
theorem dT_choose_4 : decode cT_choose 4 = .ok (.istore_n 1, 1) := by decide +kernel
theorem dT_choose_5 : decode cT_choose 5 = .ok (.iload_n 1, 1) := by decide +kernel
theorem dT_choose_6 : decode cT_choose 6 = .ok (.iconst (-1), 1) := by decide +kernel
theorem dT_choose_7 : decode cT_choose 7 = .ok (.if_icmp .eq 5, 3) := by decide +kernel
theorem dT_choose_10 : decode cT_choose 10 = .ok (.iload_n 1, 1) := by decide +kernel
theorem dT_choose_11 : decode cT_choose 11 = .ok (.ireturn, 1) := by decide +kernel
theorem dT_choose_12 : decode cT_choose 12 = .ok (.aload_n 0, 1) := by decide +kernel
theorem dT_choose_13 : decode cT_choose 13 = .ok (.invokevirtual 183, 3) := by decide +kernel
theorem dT_choose_16 : decode cT_choose 16 = .ok (.istore_n 2, 1) := by decide +kernel
theorem dT_choose_17 : decode cT_choose 17 = .ok (.iload_n 2, 1) := by decide +kernel
theorem dT_choose_18 : decode cT_choose 18 = .ok (.iconst (-1), 1) := by decide +kernel
theorem dT_choose_19 : decode cT_choose 19 = .ok (.if_icmp .ne 5, 3) := by decide +kernel
theorem dT_choose_22 : decode cT_choose 22 = .ok (.iconst (-1), 1) := by decide +kernel
theorem dT_choose_23 : decode cT_choose 23 = .ok (.ireturn, 1) := by decide +kernel
theorem dT_choose_24 : decode cT_choose 24 = .ok (.aload_n 0, 1) := by decide +kernel
theorem dT_choose_25 : decode cT_choose 25 = .ok (.getfield 44, 3) := by decide +kernel
theorem dT_choose_28 : decode cT_choose 28 = .ok (.tableswitch 40 1 3 #[28, 28, 34], 28) := by decide +kernel
theorem dT_choose_56 : decode cT_choose 56 = .ok (.aload_n 0, 1) := by decide +kernel
theorem dT_choose_57 : decode cT_choose 57 = .ok (.iload_n 2, 1) := by decide +kernel
theorem dT_choose_58 : decode cT_choose 58 = .ok (.invokevirtual 186, 3) := by decide +kernel
theorem dT_choose_61 : decode cT_choose 61 = .ok (.ireturn, 1) := by decide +kernel
theorem dT_choose_62 : decode cT_choose 62 = .ok (.aload_n 0, 1) := by decide +kernel
theorem dT_choose_63 : decode cT_choose 63 = .ok (.iload_n 2, 1) := by decide +kernel
theorem dT_choose_64 : decode cT_choose 64 = .ok (.invokevirtual 189, 3) := by decide +kernel
theorem dT_choose_67 : decode cT_choose 67 = .ok (.ireturn, 1) := by decide +kernel
theorem dT_choose_68 : decode cT_choose 68 = .ok (.aload_n 0, 1) := by decide +kernel
theorem dT_choose_69 : decode cT_choose 69 = .ok (.iload_n 2, 1) := by decide +kernel
theorem dT_choose_70 : decode cT_choose 70 = .ok (.invokevirtual 192, 3) := by decide +kernel
theorem dT_choose_73 : decode cT_choose 73 = .ok (.ireturn, 1) := by decide +kernel
abbrev cT_findOverdue : ByteArray := prog_1_method_27_code
def yT_findOverdue : MethodName := ⟨"ThreadSlots", "findOverdue", "()I"⟩
theorem dT_findOverdue_0 : decode cT_findOverdue 0 = .ok (.aload_n 0, 1) := by decide +kernel
theorem dT_findOverdue_1 : decode cT_findOverdue 1 = .ok (.getfield 47, 3) := by decide +kernel
theorem dT_findOverdue_4 : decode cT_findOverdue 4 = .ok (.ifCond .ne 5, 3) := by decide +kernel
theorem dT_findOverdue_7 : decode cT_findOverdue 7 = .ok (.iconst (-1), 1) := by decide +kernel
theorem dT_findOverdue_8 : decode cT_findOverdue 8 = .ok (.ireturn, 1) := by decide +kernel
theorem dT_findOverdue_9 : decode cT_findOverdue 9 = .ok (.iconst (-1), 1) := by decide +kernel
theorem dT_findOverdue_10 : decode cT_findOverdue 10 = .ok (.istore_n 1, 1) := by decide +kernel
theorem dT_findOverdue_11 : decode cT_findOverdue 11 = .ok (.aload_n 0, 1) := by decide +kernel
theorem dT_findOverdue_12 : decode cT_findOverdue 12 = .ok (.getfield 47, 3) := by decide +kernel
theorem dT_findOverdue_15 : decode cT_findOverdue 15 = .ok (.iconst 1, 1) := by decide +kernel
theorem dT_findOverdue_16 : decode cT_findOverdue 16 = .ok (.isub, 1) := by decide +kernel
theorem dT_findOverdue_17 : decode cT_findOverdue 17 = .ok (.istore_n 2, 1) := by decide +kernel
theorem dT_findOverdue_18 : decode cT_findOverdue 18 = .ok (.iconst 0, 1) := by decide +kernel
theorem dT_findOverdue_19 : decode cT_findOverdue 19 = .ok (.istore_n 3, 1) := by decide +kernel
theorem dT_findOverdue_20 : decode cT_findOverdue 20 = .ok (.iload_n 3, 1) := by decide +kernel
theorem dT_findOverdue_21 : decode cT_findOverdue 21 = .ok (.aload_n 0, 1) := by decide +kernel
theorem dT_findOverdue_22 : decode cT_findOverdue 22 = .ok (.getfield 24, 3) := by decide +kernel
theorem dT_findOverdue_25 : decode cT_findOverdue 25 = .ok (.arraylength, 1) := by decide +kernel
theorem dT_findOverdue_26 : decode cT_findOverdue 26 = .ok (.if_icmp .ge 42, 3) := by decide +kernel
theorem dT_findOverdue_29 : decode cT_findOverdue 29 = .ok (.aload_n 0, 1) := by decide +kernel
theorem dT_findOverdue_30 : decode cT_findOverdue 30 = .ok (.getfield 24, 3) := by decide +kernel
theorem dT_findOverdue_33 : decode cT_findOverdue 33 = .ok (.iload_n 3, 1) := by decide +kernel
theorem dT_findOverdue_34 : decode cT_findOverdue 34 = .ok (.aaload, 1) := by decide +kernel
theorem dT_findOverdue_35 : decode cT_findOverdue 35 = .ok (.astore 4, 2) := by decide +kernel
theorem dT_findOverdue_37 : decode cT_findOverdue 37 = .ok (.aload 4, 2) := by decide +kernel
theorem dT_findOverdue_39 : decode cT_findOverdue 39 = .ok (.getfield 165, 3) := by decide +kernel
theorem dT_findOverdue_42 : decode cT_findOverdue 42 = .ok (.ifCond .eq 20, 3) := by decide +kernel
theorem dT_findOverdue_45 : decode cT_findOverdue 45 = .ok (.aload 4, 2) := by decide +kernel
theorem dT_findOverdue_47 : decode cT_findOverdue 47 = .ok (.getfield 120, 3) := by decide +kernel
theorem dT_findOverdue_50 : decode cT_findOverdue 50 = .ok (.iload_n 2, 1) := by decide +kernel
theorem dT_findOverdue_51 : decode cT_findOverdue 51 = .ok (.if_icmp .le 11, 3) := by decide +kernel
theorem dT_findOverdue_54 : decode cT_findOverdue 54 = .ok (.iload_n 3, 1) := by decide +kernel
theorem dT_findOverdue_55 : decode cT_findOverdue 55 = .ok (.istore_n 1, 1) := by decide +kernel
theorem dT_findOverdue_56 : decode cT_findOverdue 56 = .ok (.aload 4, 2) := by decide +kernel
theorem dT_findOverdue_58 : decode cT_findOverdue 58 = .ok (.getfield 120, 3) := by decide +kernel
theorem dT_findOverdue_61 : decode cT_findOverdue 61 = .ok (.istore_n 2, 1) := by decide +kernel
theorem dT_findOverdue_62 : decode cT_findOverdue 62 = .ok (.iinc 3 1, 3) := by decide +kernel
theorem dT_findOverdue_65 : decode cT_findOverdue 65 = .ok (.goto (-45), 3) := by decide +kernel
theorem dT_findOverdue_68 : decode cT_findOverdue 68 = .ok (.iload_n 1, 1) := by decide +kernel
theorem dT_findOverdue_69 : decode cT_findOverdue 69 = .ok (.ireturn, 1) := by decide +kernel
abbrev cT_greatestRank : ByteArray := prog_1_method_28_code
def yT_greatestRank : MethodName := ⟨"ThreadSlots", "greatestRank", "()I"⟩
theorem dT_greatestRank_0 : decode cT_greatestRank 0 = .ok (.iconst (-1), 1) := by decide +kernel
theorem dT_greatestRank_1 : decode cT_greatestRank 1 = .ok (.istore_n 1, 1) := by decide +kernel
theorem dT_greatestRank_2 : decode cT_greatestRank 2 = .ok (.iconst 0, 1) := by decide +kernel
theorem dT_greatestRank_3 : decode cT_greatestRank 3 = .ok (.istore_n 2, 1) := by decide +kernel
theorem dT_greatestRank_4 : decode cT_greatestRank 4 = .ok (.iload_n 2, 1) := by decide +kernel
theorem dT_greatestRank_5 : decode cT_greatestRank 5 = .ok (.aload_n 0, 1) := by decide +kernel
theorem dT_greatestRank_6 : decode cT_greatestRank 6 = .ok (.getfield 24, 3) := by decide +kernel
theorem dT_greatestRank_9 : decode cT_greatestRank 9 = .ok (.arraylength, 1) := by decide +kernel
theorem dT_greatestRank_10 : decode cT_greatestRank 10 = .ok (.if_icmp .ge 36, 3) := by decide +kernel
theorem dT_greatestRank_13 : decode cT_greatestRank 13 = .ok (.aload_n 0, 1) := by decide +kernel
theorem dT_greatestRank_14 : decode cT_greatestRank 14 = .ok (.getfield 24, 3) := by decide +kernel
theorem dT_greatestRank_17 : decode cT_greatestRank 17 = .ok (.iload_n 2, 1) := by decide +kernel
theorem dT_greatestRank_18 : decode cT_greatestRank 18 = .ok (.aaload, 1) := by decide +kernel
theorem dT_greatestRank_19 : decode cT_greatestRank 19 = .ok (.astore_n 3, 1) := by decide +kernel
theorem dT_greatestRank_20 : decode cT_greatestRank 20 = .ok (.aload_n 3, 1) := by decide +kernel
theorem dT_greatestRank_21 : decode cT_greatestRank 21 = .ok (.getfield 165, 3) := by decide +kernel
theorem dT_greatestRank_24 : decode cT_greatestRank 24 = .ok (.ifCond .eq 16, 3) := by decide +kernel
theorem dT_greatestRank_27 : decode cT_greatestRank 27 = .ok (.aload_n 3, 1) := by decide +kernel
theorem dT_greatestRank_28 : decode cT_greatestRank 28 = .ok (.getfield 61, 3) := by decide +kernel
theorem dT_greatestRank_31 : decode cT_greatestRank 31 = .ok (.iload_n 1, 1) := by decide +kernel
theorem dT_greatestRank_32 : decode cT_greatestRank 32 = .ok (.if_icmp .le 8, 3) := by decide +kernel
theorem dT_greatestRank_35 : decode cT_greatestRank 35 = .ok (.aload_n 3, 1) := by decide +kernel
theorem dT_greatestRank_36 : decode cT_greatestRank 36 = .ok (.getfield 61, 3) := by decide +kernel
theorem dT_greatestRank_39 : decode cT_greatestRank 39 = .ok (.istore_n 1, 1) := by decide +kernel
theorem dT_greatestRank_40 : decode cT_greatestRank 40 = .ok (.iinc 2 1, 3) := by decide +kernel
theorem dT_greatestRank_43 : decode cT_greatestRank 43 = .ok (.goto (-39), 3) := by decide +kernel
theorem dT_greatestRank_46 : decode cT_greatestRank 46 = .ok (.iload_n 1, 1) := by decide +kernel
theorem dT_greatestRank_47 : decode cT_greatestRank 47 = .ok (.ireturn, 1) := by decide +kernel
abbrev cT_isCandidate : ByteArray := prog_1_method_29_code
def yT_isCandidate : MethodName := ⟨"ThreadSlots", "isCandidate", "(LThreadSlots$Strand;I)Z"⟩
theorem dT_isCandidate_0 : decode cT_isCandidate 0 = .ok (.aload_n 1, 1) := by decide +kernel
theorem dT_isCandidate_1 : decode cT_isCandidate 1 = .ok (.getfield 165, 3) := by decide +kernel
theorem dT_isCandidate_4 : decode cT_isCandidate 4 = .ok (.ifCond .eq 15, 3) := by decide +kernel
theorem dT_isCandidate_7 : decode cT_isCandidate 7 = .ok (.aload_n 1, 1) := by decide +kernel
theorem dT_isCandidate_8 : decode cT_isCandidate 8 = .ok (.getfield 61, 3) := by decide +kernel
theorem dT_isCandidate_11 : decode cT_isCandidate 11 = .ok (.iload_n 2, 1) := by decide +kernel
theorem dT_isCandidate_12 : decode cT_isCandidate 12 = .ok (.if_icmp .ne 7, 3) := by decide +kernel
theorem dT_isCandidate_15 : decode cT_isCandidate 15 = .ok (.iconst 1, 1) := by decide +kernel
theorem dT_isCandidate_16 : decode cT_isCandidate 16 = .ok (.goto 4, 3) := by decide +kernel
theorem dT_isCandidate_19 : decode cT_isCandidate 19 = .ok (.iconst 0, 1) := by decide +kernel
theorem dT_isCandidate_20 : decode cT_isCandidate 20 = .ok (.ireturn, 1) := by decide +kernel
abbrev cT_findNextInTurn : ByteArray := prog_1_method_30_code
def yT_findNextInTurn : MethodName := ⟨"ThreadSlots", "findNextInTurn", "(I)I"⟩
theorem dT_findNextInTurn_0 : decode cT_findNextInTurn 0 = .ok (.iconst (-1), 1) := by decide +kernel
theorem dT_findNextInTurn_1 : decode cT_findNextInTurn 1 = .ok (.istore_n 2, 1) := by decide +kernel
theorem dT_findNextInTurn_2 : decode cT_findNextInTurn 2 = .ok (.iconst 0, 1) := by decide +kernel
theorem dT_findNextInTurn_3 : decode cT_findNextInTurn 3 = .ok (.istore_n 3, 1) := by decide +kernel
theorem dT_findNextInTurn_4 : decode cT_findNextInTurn 4 = .ok (.iload_n 3, 1) := by decide +kernel
theorem dT_findNextInTurn_5 : decode cT_findNextInTurn 5 = .ok (.aload_n 0, 1) := by decide +kernel
theorem dT_findNextInTurn_6 : decode cT_findNextInTurn 6 = .ok (.getfield 24, 3) := by decide +kernel
theorem dT_findNextInTurn_9 : decode cT_findNextInTurn 9 = .ok (.arraylength, 1) := by decide +kernel
theorem dT_findNextInTurn_10 : decode cT_findNextInTurn 10 = .ok (.if_icmp .ge 40, 3) := by decide +kernel
theorem dT_findNextInTurn_13 : decode cT_findNextInTurn 13 = .ok (.aload_n 0, 1) := by decide +kernel
theorem dT_findNextInTurn_14 : decode cT_findNextInTurn 14 = .ok (.aload_n 0, 1) := by decide +kernel
theorem dT_findNextInTurn_15 : decode cT_findNextInTurn 15 = .ok (.getfield 24, 3) := by decide +kernel
theorem dT_findNextInTurn_18 : decode cT_findNextInTurn 18 = .ok (.iload_n 3, 1) := by decide +kernel
theorem dT_findNextInTurn_19 : decode cT_findNextInTurn 19 = .ok (.aaload, 1) := by decide +kernel
theorem dT_findNextInTurn_20 : decode cT_findNextInTurn 20 = .ok (.iload_n 1, 1) := by decide +kernel
theorem dT_findNextInTurn_21 : decode cT_findNextInTurn 21 = .ok (.invokevirtual 195, 3) := by decide +kernel
theorem dT_findNextInTurn_24 : decode cT_findNextInTurn 24 = .ok (.ifCond .eq 20, 3) := by decide +kernel
theorem dT_findNextInTurn_27 : decode cT_findNextInTurn 27 = .ok (.iload_n 3, 1) := by decide +kernel
theorem dT_findNextInTurn_28 : decode cT_findNextInTurn 28 = .ok (.aload_n 0, 1) := by decide +kernel
theorem dT_findNextInTurn_29 : decode cT_findNextInTurn 29 = .ok (.getfield 9, 3) := by decide +kernel
theorem dT_findNextInTurn_32 : decode cT_findNextInTurn 32 = .ok (.if_icmp .le 5, 3) := by decide +kernel
theorem dT_findNextInTurn_35 : decode cT_findNextInTurn 35 = .ok (.iload_n 3, 1) := by decide +kernel
theorem dT_findNextInTurn_36 : decode cT_findNextInTurn 36 = .ok (.ireturn, 1) := by decide +kernel
theorem dT_findNextInTurn_37 : decode cT_findNextInTurn 37 = .ok (.iload_n 2, 1) := by decide +kernel
theorem dT_findNextInTurn_38 : decode cT_findNextInTurn 38 = .ok (.iconst (-1), 1) := by decide +kernel
theorem dT_findNextInTurn_39 : decode cT_findNextInTurn 39 = .ok (.if_icmp .ne 5, 3) := by decide +kernel
theorem dT_findNextInTurn_42 : decode cT_findNextInTurn 42 = .ok (.iload_n 3, 1) := by decide +kernel
theorem dT_findNextInTurn_43 : decode cT_findNextInTurn 43 = .ok (.istore_n 2, 1) := by decide +kernel
theorem dT_findNextInTurn_44 : decode cT_findNextInTurn 44 = .ok (.iinc 3 1, 3) := by decide +kernel
theorem dT_findNextInTurn_47 : decode cT_findNextInTurn 47 = .ok (.goto (-43), 3) := by decide +kernel
theorem dT_findNextInTurn_50 : decode cT_findNextInTurn 50 = .ok (.iload_n 2, 1) := by decide +kernel
theorem dT_findNextInTurn_51 : decode cT_findNextInTurn 51 = .ok (.ireturn, 1) := by decide +kernel
abbrev cT_findFewest : ByteArray := prog_1_method_31_code
def yT_findFewest : MethodName := ⟨"ThreadSlots", "findFewest", "(I)I"⟩
theorem dT_findFewest_0 : decode cT_findFewest 0 = .ok (.iconst (-1), 1) := by decide +kernel
theorem dT_findFewest_1 : decode cT_findFewest 1 = .ok (.istore_n 2, 1) := by decide +kernel
theorem dT_findFewest_2 : decode cT_findFewest 2 = .ok (.iconst 0, 1) := by decide +kernel
theorem dT_findFewest_3 : decode cT_findFewest 3 = .ok (.istore_n 3, 1) := by decide +kernel
theorem dT_findFewest_4 : decode cT_findFewest 4 = .ok (.iconst 0, 1) := by decide +kernel
theorem dT_findFewest_5 : decode cT_findFewest 5 = .ok (.istore 4, 2) := by decide +kernel
theorem dT_findFewest_7 : decode cT_findFewest 7 = .ok (.iload 4, 2) := by decide +kernel
theorem dT_findFewest_9 : decode cT_findFewest 9 = .ok (.aload_n 0, 1) := by decide +kernel
theorem dT_findFewest_10 : decode cT_findFewest 10 = .ok (.getfield 24, 3) := by decide +kernel
theorem dT_findFewest_13 : decode cT_findFewest 13 = .ok (.arraylength, 1) := by decide +kernel
theorem dT_findFewest_14 : decode cT_findFewest 14 = .ok (.if_icmp .ge 68, 3) := by decide +kernel
theorem dT_findFewest_17 : decode cT_findFewest 17 = .ok (.aload_n 0, 1) := by decide +kernel
theorem dT_findFewest_18 : decode cT_findFewest 18 = .ok (.getfield 24, 3) := by decide +kernel
theorem dT_findFewest_21 : decode cT_findFewest 21 = .ok (.iload 4, 2) := by decide +kernel
theorem dT_findFewest_23 : decode cT_findFewest 23 = .ok (.aaload, 1) := by decide +kernel
theorem dT_findFewest_24 : decode cT_findFewest 24 = .ok (.astore 5, 2) := by decide +kernel
theorem dT_findFewest_26 : decode cT_findFewest 26 = .ok (.aload_n 0, 1) := by decide +kernel
theorem dT_findFewest_27 : decode cT_findFewest 27 = .ok (.getfield 44, 3) := by decide +kernel
theorem dT_findFewest_30 : decode cT_findFewest 30 = .ok (.iconst 1, 1) := by decide +kernel
theorem dT_findFewest_31 : decode cT_findFewest 31 = .ok (.if_icmp .ne 11, 3) := by decide +kernel
theorem dT_findFewest_34 : decode cT_findFewest 34 = .ok (.aload 5, 2) := by decide +kernel
theorem dT_findFewest_36 : decode cT_findFewest 36 = .ok (.getfield 126, 3) := by decide +kernel
theorem dT_findFewest_39 : decode cT_findFewest 39 = .ok (.goto 8, 3) := by decide +kernel
theorem dT_findFewest_42 : decode cT_findFewest 42 = .ok (.aload 5, 2) := by decide +kernel
theorem dT_findFewest_44 : decode cT_findFewest 44 = .ok (.getfield 68, 3) := by decide +kernel
theorem dT_findFewest_47 : decode cT_findFewest 47 = .ok (.istore 6, 2) := by decide +kernel
theorem dT_findFewest_49 : decode cT_findFewest 49 = .ok (.aload_n 0, 1) := by decide +kernel
theorem dT_findFewest_50 : decode cT_findFewest 50 = .ok (.aload 5, 2) := by decide +kernel
theorem dT_findFewest_52 : decode cT_findFewest 52 = .ok (.iload_n 1, 1) := by decide +kernel
theorem dT_findFewest_53 : decode cT_findFewest 53 = .ok (.invokevirtual 195, 3) := by decide +kernel
theorem dT_findFewest_56 : decode cT_findFewest 56 = .ok (.ifCond .eq 20, 3) := by decide +kernel
theorem dT_findFewest_59 : decode cT_findFewest 59 = .ok (.iload_n 2, 1) := by decide +kernel
theorem dT_findFewest_60 : decode cT_findFewest 60 = .ok (.iconst (-1), 1) := by decide +kernel
theorem dT_findFewest_61 : decode cT_findFewest 61 = .ok (.if_icmp .eq 9, 3) := by decide +kernel
theorem dT_findFewest_64 : decode cT_findFewest 64 = .ok (.iload 6, 2) := by decide +kernel
theorem dT_findFewest_66 : decode cT_findFewest 66 = .ok (.iload_n 3, 1) := by decide +kernel
theorem dT_findFewest_67 : decode cT_findFewest 67 = .ok (.if_icmp .ge 9, 3) := by decide +kernel
theorem dT_findFewest_70 : decode cT_findFewest 70 = .ok (.iload 4, 2) := by decide +kernel
theorem dT_findFewest_72 : decode cT_findFewest 72 = .ok (.istore_n 2, 1) := by decide +kernel
theorem dT_findFewest_73 : decode cT_findFewest 73 = .ok (.iload 6, 2) := by decide +kernel
theorem dT_findFewest_75 : decode cT_findFewest 75 = .ok (.istore_n 3, 1) := by decide +kernel
theorem dT_findFewest_76 : decode cT_findFewest 76 = .ok (.iinc 4 1, 3) := by decide +kernel
theorem dT_findFewest_79 : decode cT_findFewest 79 = .ok (.goto (-72), 3) := by decide +kernel
theorem dT_findFewest_82 : decode cT_findFewest 82 = .ok (.iload_n 2, 1) := by decide +kernel
theorem dT_findFewest_83 : decode cT_findFewest 83 = .ok (.ireturn, 1) := by decide +kernel
abbrev cT_findBySeed : ByteArray := prog_1_method_32_code
def yT_findBySeed : MethodName := ⟨"ThreadSlots", "findBySeed", "(I)I"⟩
theorem dT_findBySeed_0 : decode cT_findBySeed 0 = .ok (.iconst 0, 1) := by decide +kernel
theorem dT_findBySeed_1 : decode cT_findBySeed 1 = .ok (.istore_n 2, 1) := by decide +kernel
theorem dT_findBySeed_2 : decode cT_findBySeed 2 = .ok (.iconst 0, 1) := by decide +kernel
theorem dT_findBySeed_3 : decode cT_findBySeed 3 = .ok (.istore_n 3, 1) := by decide +kernel
theorem dT_findBySeed_4 : decode cT_findBySeed 4 = .ok (.iload_n 3, 1) := by decide +kernel
theorem dT_findBySeed_5 : decode cT_findBySeed 5 = .ok (.aload_n 0, 1) := by decide +kernel
theorem dT_findBySeed_6 : decode cT_findBySeed 6 = .ok (.getfield 24, 3) := by decide +kernel
theorem dT_findBySeed_9 : decode cT_findBySeed 9 = .ok (.arraylength, 1) := by decide +kernel
theorem dT_findBySeed_10 : decode cT_findBySeed 10 = .ok (.if_icmp .ge 26, 3) := by decide +kernel
theorem dT_findBySeed_13 : decode cT_findBySeed 13 = .ok (.aload_n 0, 1) := by decide +kernel
theorem dT_findBySeed_14 : decode cT_findBySeed 14 = .ok (.aload_n 0, 1) := by decide +kernel
theorem dT_findBySeed_15 : decode cT_findBySeed 15 = .ok (.getfield 24, 3) := by decide +kernel
theorem dT_findBySeed_18 : decode cT_findBySeed 18 = .ok (.iload_n 3, 1) := by decide +kernel
theorem dT_findBySeed_19 : decode cT_findBySeed 19 = .ok (.aaload, 1) := by decide +kernel
theorem dT_findBySeed_20 : decode cT_findBySeed 20 = .ok (.iload_n 1, 1) := by decide +kernel
theorem dT_findBySeed_21 : decode cT_findBySeed 21 = .ok (.invokevirtual 195, 3) := by decide +kernel
theorem dT_findBySeed_24 : decode cT_findBySeed 24 = .ok (.ifCond .eq 6, 3) := by decide +kernel
theorem dT_findBySeed_27 : decode cT_findBySeed 27 = .ok (.iinc 2 1, 3) := by decide +kernel
theorem dT_findBySeed_30 : decode cT_findBySeed 30 = .ok (.iinc 3 1, 3) := by decide +kernel
theorem dT_findBySeed_33 : decode cT_findBySeed 33 = .ok (.goto (-29), 3) := by decide +kernel
theorem dT_findBySeed_36 : decode cT_findBySeed 36 = .ok (.iload_n 2, 1) := by decide +kernel
theorem dT_findBySeed_37 : decode cT_findBySeed 37 = .ok (.ifCond .ne 5, 3) := by decide +kernel
theorem dT_findBySeed_40 : decode cT_findBySeed 40 = .ok (.iconst (-1), 1) := by decide +kernel
theorem dT_findBySeed_41 : decode cT_findBySeed 41 = .ok (.ireturn, 1) := by decide +kernel
theorem dT_findBySeed_42 : decode cT_findBySeed 42 = .ok (.aload_n 0, 1) := by decide +kernel
theorem dT_findBySeed_43 : decode cT_findBySeed 43 = .ok (.ldc 199, 2) := by decide +kernel
theorem dT_findBySeed_45 : decode cT_findBySeed 45 = .ok (.aload_n 0, 1) := by decide +kernel
theorem dT_findBySeed_46 : decode cT_findBySeed 46 = .ok (.getfield 37, 3) := by decide +kernel
theorem dT_findBySeed_49 : decode cT_findBySeed 49 = .ok (.imul, 1) := by decide +kernel
theorem dT_findBySeed_50 : decode cT_findBySeed 50 = .ok (.sipush 12345, 3) := by decide +kernel
theorem dT_findBySeed_53 : decode cT_findBySeed 53 = .ok (.iadd, 1) := by decide +kernel
theorem dT_findBySeed_54 : decode cT_findBySeed 54 = .ok (.ldc 36, 2) := by decide +kernel
theorem dT_findBySeed_56 : decode cT_findBySeed 56 = .ok (.iand, 1) := by decide +kernel
theorem dT_findBySeed_57 : decode cT_findBySeed 57 = .ok (.putfield 37, 3) := by decide +kernel
theorem dT_findBySeed_60 : decode cT_findBySeed 60 = .ok (.aload_n 0, 1) := by decide +kernel
theorem dT_findBySeed_61 : decode cT_findBySeed 61 = .ok (.getfield 37, 3) := by decide +kernel
theorem dT_findBySeed_64 : decode cT_findBySeed 64 = .ok (.ldc 200, 2) := by decide +kernel
theorem dT_findBySeed_66 : decode cT_findBySeed 66 = .ok (.idiv, 1) := by decide +kernel
theorem dT_findBySeed_67 : decode cT_findBySeed 67 = .ok (.iload_n 2, 1) := by decide +kernel
theorem dT_findBySeed_68 : decode cT_findBySeed 68 = .ok (.irem, 1) := by decide +kernel
theorem dT_findBySeed_69 : decode cT_findBySeed 69 = .ok (.istore_n 3, 1) := by decide +kernel
theorem dT_findBySeed_70 : decode cT_findBySeed 70 = .ok (.iconst 0, 1) := by decide +kernel
theorem dT_findBySeed_71 : decode cT_findBySeed 71 = .ok (.istore 4, 2) := by decide +kernel
theorem dT_findBySeed_73 : decode cT_findBySeed 73 = .ok (.iload 4, 2) := by decide +kernel
theorem dT_findBySeed_75 : decode cT_findBySeed 75 = .ok (.aload_n 0, 1) := by decide +kernel
theorem dT_findBySeed_76 : decode cT_findBySeed 76 = .ok (.getfield 24, 3) := by decide +kernel
theorem dT_findBySeed_79 : decode cT_findBySeed 79 = .ok (.arraylength, 1) := by decide +kernel
theorem dT_findBySeed_80 : decode cT_findBySeed 80 = .ok (.if_icmp .ge 34, 3) := by decide +kernel
theorem dT_findBySeed_83 : decode cT_findBySeed 83 = .ok (.aload_n 0, 1) := by decide +kernel
theorem dT_findBySeed_84 : decode cT_findBySeed 84 = .ok (.aload_n 0, 1) := by decide +kernel
theorem dT_findBySeed_85 : decode cT_findBySeed 85 = .ok (.getfield 24, 3) := by decide +kernel
theorem dT_findBySeed_88 : decode cT_findBySeed 88 = .ok (.iload 4, 2) := by decide +kernel
theorem dT_findBySeed_90 : decode cT_findBySeed 90 = .ok (.aaload, 1) := by decide +kernel
theorem dT_findBySeed_91 : decode cT_findBySeed 91 = .ok (.iload_n 1, 1) := by decide +kernel
theorem dT_findBySeed_92 : decode cT_findBySeed 92 = .ok (.invokevirtual 195, 3) := by decide +kernel
theorem dT_findBySeed_95 : decode cT_findBySeed 95 = .ok (.ifCond .eq 13, 3) := by decide +kernel
theorem dT_findBySeed_98 : decode cT_findBySeed 98 = .ok (.iload_n 3, 1) := by decide +kernel
theorem dT_findBySeed_99 : decode cT_findBySeed 99 = .ok (.ifCond .ne 6, 3) := by decide +kernel
theorem dT_findBySeed_102 : decode cT_findBySeed 102 = .ok (.iload 4, 2) := by decide +kernel
theorem dT_findBySeed_104 : decode cT_findBySeed 104 = .ok (.ireturn, 1) := by decide +kernel
theorem dT_findBySeed_105 : decode cT_findBySeed 105 = .ok (.iinc 3 (-1), 3) := by decide +kernel
theorem dT_findBySeed_108 : decode cT_findBySeed 108 = .ok (.iinc 4 1, 3) := by decide +kernel
theorem dT_findBySeed_111 : decode cT_findBySeed 111 = .ok (.goto (-38), 3) := by decide +kernel
theorem dT_findBySeed_114 : decode cT_findBySeed 114 = .ok (.iconst (-1), 1) := by decide +kernel
theorem dT_findBySeed_115 : decode cT_findBySeed 115 = .ok (.ireturn, 1) := by decide +kernel
abbrev cT_entriesInAll : ByteArray := prog_1_method_33_code
def yT_entriesInAll : MethodName := ⟨"ThreadSlots", "entriesInAll", "()I"⟩
theorem dT_entriesInAll_0 : decode cT_entriesInAll 0 = .ok (.iconst 0, 1) := by decide +kernel
theorem dT_entriesInAll_1 : decode cT_entriesInAll 1 = .ok (.istore_n 1, 1) := by decide +kernel
theorem dT_entriesInAll_2 : decode cT_entriesInAll 2 = .ok (.iconst 0, 1) := by decide +kernel
theorem dT_entriesInAll_3 : decode cT_entriesInAll 3 = .ok (.istore_n 2, 1) := by decide +kernel
theorem dT_entriesInAll_4 : decode cT_entriesInAll 4 = .ok (.iload_n 2, 1) := by decide +kernel
theorem dT_entriesInAll_5 : decode cT_entriesInAll 5 = .ok (.aload_n 0, 1) := by decide +kernel
theorem dT_entriesInAll_6 : decode cT_entriesInAll 6 = .ok (.getfield 31, 3) := by decide +kernel
theorem dT_entriesInAll_9 : decode cT_entriesInAll 9 = .ok (.arraylength, 1) := by decide +kernel
theorem dT_entriesInAll_10 : decode cT_entriesInAll 10 = .ok (.if_icmp .ge 21, 3) := by decide +kernel
theorem dT_entriesInAll_13 : decode cT_entriesInAll 13 = .ok (.iload_n 1, 1) := by decide +kernel
theorem dT_entriesInAll_14 : decode cT_entriesInAll 14 = .ok (.aload_n 0, 1) := by decide +kernel
theorem dT_entriesInAll_15 : decode cT_entriesInAll 15 = .ok (.getfield 31, 3) := by decide +kernel
theorem dT_entriesInAll_18 : decode cT_entriesInAll 18 = .ok (.iload_n 2, 1) := by decide +kernel
theorem dT_entriesInAll_19 : decode cT_entriesInAll 19 = .ok (.aaload, 1) := by decide +kernel
theorem dT_entriesInAll_20 : decode cT_entriesInAll 20 = .ok (.getfield 91, 3) := by decide +kernel
theorem dT_entriesInAll_23 : decode cT_entriesInAll 23 = .ok (.iadd, 1) := by decide +kernel
theorem dT_entriesInAll_24 : decode cT_entriesInAll 24 = .ok (.istore_n 1, 1) := by decide +kernel
theorem dT_entriesInAll_25 : decode cT_entriesInAll 25 = .ok (.iinc 2 1, 3) := by decide +kernel
theorem dT_entriesInAll_28 : decode cT_entriesInAll 28 = .ok (.goto (-24), 3) := by decide +kernel
theorem dT_entriesInAll_31 : decode cT_entriesInAll 31 = .ok (.iload_n 1, 1) := by decide +kernel
theorem dT_entriesInAll_32 : decode cT_entriesInAll 32 = .ok (.ireturn, 1) := by decide +kernel
abbrev cT_strandOf : ByteArray := prog_1_method_34_code
def yT_strandOf : MethodName := ⟨"ThreadSlots", "strandOf", "(I)LThreadSlots$Strand;"⟩
theorem dT_strandOf_0 : decode cT_strandOf 0 = .ok (.iload_n 1, 1) := by decide +kernel
theorem dT_strandOf_1 : decode cT_strandOf 1 = .ok (.aload_n 0, 1) := by decide +kernel
theorem dT_strandOf_2 : decode cT_strandOf 2 = .ok (.getfield 24, 3) := by decide +kernel
theorem dT_strandOf_5 : decode cT_strandOf 5 = .ok (.arraylength, 1) := by decide +kernel
theorem dT_strandOf_6 : decode cT_strandOf 6 = .ok (.invokestatic 79, 3) := by decide +kernel
theorem dT_strandOf_9 : decode cT_strandOf 9 = .ok (.aload_n 0, 1) := by decide +kernel
theorem dT_strandOf_10 : decode cT_strandOf 10 = .ok (.getfield 24, 3) := by decide +kernel
theorem dT_strandOf_13 : decode cT_strandOf 13 = .ok (.iload_n 1, 1) := by decide +kernel
theorem dT_strandOf_14 : decode cT_strandOf 14 = .ok (.aaload, 1) := by decide +kernel
theorem dT_strandOf_15 : decode cT_strandOf 15 = .ok (.areturn, 1) := by decide +kernel
abbrev cT_lineOf : ByteArray := prog_1_method_35_code
def yT_lineOf : MethodName := ⟨"ThreadSlots", "lineOf", "(I)LThreadSlots$Line;"⟩
theorem dT_lineOf_0 : decode cT_lineOf 0 = .ok (.iload_n 1, 1) := by decide +kernel
theorem dT_lineOf_1 : decode cT_lineOf 1 = .ok (.aload_n 0, 1) := by decide +kernel
theorem dT_lineOf_2 : decode cT_lineOf 2 = .ok (.getfield 31, 3) := by decide +kernel
theorem dT_lineOf_5 : decode cT_lineOf 5 = .ok (.arraylength, 1) := by decide +kernel
theorem dT_lineOf_6 : decode cT_lineOf 6 = .ok (.invokestatic 79, 3) := by decide +kernel
theorem dT_lineOf_9 : decode cT_lineOf 9 = .ok (.aload_n 0, 1) := by decide +kernel
theorem dT_lineOf_10 : decode cT_lineOf 10 = .ok (.getfield 31, 3) := by decide +kernel
theorem dT_lineOf_13 : decode cT_lineOf 13 = .ok (.iload_n 1, 1) := by decide +kernel
theorem dT_lineOf_14 : decode cT_lineOf 14 = .ok (.aaload, 1) := by decide +kernel
theorem dT_lineOf_15 : decode cT_lineOf 15 = .ok (.areturn, 1) := by decide +kernel
abbrev cT_checkIndex : ByteArray := prog_1_method_36_code
def yT_checkIndex : MethodName := ⟨"ThreadSlots", "checkIndex", "(II)V"⟩
theorem dT_checkIndex_0 : decode cT_checkIndex 0 = .ok (.iload_n 0, 1) := by decide +kernel
theorem dT_checkIndex_1 : decode cT_checkIndex 1 = .ok (.ifCond .lt 8, 3) := by decide +kernel
theorem dT_checkIndex_4 : decode cT_checkIndex 4 = .ok (.iload_n 0, 1) := by decide +kernel
theorem dT_checkIndex_5 : decode cT_checkIndex 5 = .ok (.iload_n 1, 1) := by decide +kernel
theorem dT_checkIndex_6 : decode cT_checkIndex 6 = .ok (.if_icmp .lt 13, 3) := by decide +kernel
theorem dT_checkIndex_9 : decode cT_checkIndex 9 = .ok (.new 132, 3) := by decide +kernel
theorem dT_checkIndex_12 : decode cT_checkIndex 12 = .ok (.dup, 1) := by decide +kernel
theorem dT_checkIndex_13 : decode cT_checkIndex 13 = .ok (.ldc 201, 2) := by decide +kernel
theorem dT_checkIndex_15 : decode cT_checkIndex 15 = .ok (.invokespecial 136, 3) := by decide +kernel
theorem dT_checkIndex_18 : decode cT_checkIndex 18 = .ok (.athrow, 1) := by decide +kernel
theorem dT_checkIndex_19 : decode cT_checkIndex 19 = .ok (.return_, 1) := by decide +kernel
abbrev cT_checkArgument : ByteArray := prog_1_method_37_code
def yT_checkArgument : MethodName := ⟨"ThreadSlots", "checkArgument", "(III)V"⟩
theorem dT_checkArgument_0 : decode cT_checkArgument 0 = .ok (.iload_n 0, 1) := by decide +kernel
theorem dT_checkArgument_1 : decode cT_checkArgument 1 = .ok (.iload_n 1, 1) := by decide +kernel
theorem dT_checkArgument_2 : decode cT_checkArgument 2 = .ok (.if_icmp .lt 8, 3) := by decide +kernel
theorem dT_checkArgument_5 : decode cT_checkArgument 5 = .ok (.iload_n 0, 1) := by decide +kernel
theorem dT_checkArgument_6 : decode cT_checkArgument 6 = .ok (.iload_n 2, 1) := by decide +kernel
theorem dT_checkArgument_7 : decode cT_checkArgument 7 = .ok (.if_icmp .le 13, 3) := by decide +kernel
theorem dT_checkArgument_10 : decode cT_checkArgument 10 = .ok (.new 203, 3) := by decide +kernel
theorem dT_checkArgument_13 : decode cT_checkArgument 13 = .ok (.dup, 1) := by decide +kernel
theorem dT_checkArgument_14 : decode cT_checkArgument 14 = .ok (.ldc 205, 2) := by decide +kernel
theorem dT_checkArgument_16 : decode cT_checkArgument 16 = .ok (.invokespecial 207, 3) := by decide +kernel
theorem dT_checkArgument_19 : decode cT_checkArgument 19 = .ok (.athrow, 1) := by decide +kernel
theorem dT_checkArgument_20 : decode cT_checkArgument 20 = .ok (.return_, 1) := by decide +kernel
abbrev cT_greatestDivisor : ByteArray := prog_1_method_38_code
def yT_greatestDivisor : MethodName := ⟨"ThreadSlots", "greatestDivisor", "(II)I"⟩
theorem dT_greatestDivisor_0 : decode cT_greatestDivisor 0 = .ok (.iload_n 0, 1) := by decide +kernel
theorem dT_greatestDivisor_1 : decode cT_greatestDivisor 1 = .ok (.istore_n 2, 1) := by decide +kernel
theorem dT_greatestDivisor_2 : decode cT_greatestDivisor 2 = .ok (.iload_n 1, 1) := by decide +kernel
theorem dT_greatestDivisor_3 : decode cT_greatestDivisor 3 = .ok (.istore_n 3, 1) := by decide +kernel
theorem dT_greatestDivisor_4 : decode cT_greatestDivisor 4 = .ok (.iconst 0, 1) := by decide +kernel
theorem dT_greatestDivisor_5 : decode cT_greatestDivisor 5 = .ok (.istore 4, 2) := by decide +kernel
theorem dT_greatestDivisor_7 : decode cT_greatestDivisor 7 = .ok (.iload 4, 2) := by decide +kernel
theorem dT_greatestDivisor_9 : decode cT_greatestDivisor 9 = .ok (.bipush 64, 2) := by decide +kernel
theorem dT_greatestDivisor_11 : decode cT_greatestDivisor 11 = .ok (.if_icmp .ge 23, 3) := by decide +kernel
theorem dT_greatestDivisor_14 : decode cT_greatestDivisor 14 = .ok (.iload_n 3, 1) := by decide +kernel
theorem dT_greatestDivisor_15 : decode cT_greatestDivisor 15 = .ok (.ifCond .eq 19, 3) := by decide +kernel
theorem dT_greatestDivisor_18 : decode cT_greatestDivisor 18 = .ok (.iload_n 2, 1) := by decide +kernel
theorem dT_greatestDivisor_19 : decode cT_greatestDivisor 19 = .ok (.iload_n 3, 1) := by decide +kernel
theorem dT_greatestDivisor_20 : decode cT_greatestDivisor 20 = .ok (.irem, 1) := by decide +kernel
theorem dT_greatestDivisor_21 : decode cT_greatestDivisor 21 = .ok (.istore 5, 2) := by decide +kernel
theorem dT_greatestDivisor_23 : decode cT_greatestDivisor 23 = .ok (.iload_n 3, 1) := by decide +kernel
theorem dT_greatestDivisor_24 : decode cT_greatestDivisor 24 = .ok (.istore_n 2, 1) := by decide +kernel
theorem dT_greatestDivisor_25 : decode cT_greatestDivisor 25 = .ok (.iload 5, 2) := by decide +kernel
theorem dT_greatestDivisor_27 : decode cT_greatestDivisor 27 = .ok (.istore_n 3, 1) := by decide +kernel
theorem dT_greatestDivisor_28 : decode cT_greatestDivisor 28 = .ok (.iinc 4 1, 3) := by decide +kernel
theorem dT_greatestDivisor_31 : decode cT_greatestDivisor 31 = .ok (.goto (-24), 3) := by decide +kernel
theorem dT_greatestDivisor_34 : decode cT_greatestDivisor 34 = .ok (.iload_n 2, 1) := by decide +kernel
theorem dT_greatestDivisor_35 : decode cT_greatestDivisor 35 = .ok (.ireturn, 1) := by decide +kernel
abbrev cJ_floorMod : ByteArray := prog_10_method_50_code
def yJ_floorMod : MethodName := ⟨"java/lang/Math", "floorMod", "(II)I"⟩
theorem dJ_floorMod_0 : decode cJ_floorMod 0 = .ok (.iload_n 0, 1) := by decide +kernel
theorem dJ_floorMod_1 : decode cJ_floorMod 1 = .ok (.iload_n 1, 1) := by decide +kernel
theorem dJ_floorMod_2 : decode cJ_floorMod 2 = .ok (.irem, 1) := by decide +kernel
theorem dJ_floorMod_3 : decode cJ_floorMod 3 = .ok (.istore_n 2, 1) := by decide +kernel
theorem dJ_floorMod_4 : decode cJ_floorMod 4 = .ok (.iload_n 0, 1) := by decide +kernel
theorem dJ_floorMod_5 : decode cJ_floorMod 5 = .ok (.iload_n 1, 1) := by decide +kernel
theorem dJ_floorMod_6 : decode cJ_floorMod 6 = .ok (.ixor, 1) := by decide +kernel
theorem dJ_floorMod_7 : decode cJ_floorMod 7 = .ok (.ifCond .ge 11, 3) := by decide +kernel
theorem dJ_floorMod_10 : decode cJ_floorMod 10 = .ok (.iload_n 2, 1) := by decide +kernel
theorem dJ_floorMod_11 : decode cJ_floorMod 11 = .ok (.ifCond .eq 7, 3) := by decide +kernel
theorem dJ_floorMod_14 : decode cJ_floorMod 14 = .ok (.iload_n 2, 1) := by decide +kernel
theorem dJ_floorMod_15 : decode cJ_floorMod 15 = .ok (.iload_n 1, 1) := by decide +kernel
theorem dJ_floorMod_16 : decode cJ_floorMod 16 = .ok (.iadd, 1) := by decide +kernel
theorem dJ_floorMod_17 : decode cJ_floorMod 17 = .ok (.ireturn, 1) := by decide +kernel
theorem dJ_floorMod_18 : decode cJ_floorMod 18 = .ok (.iload_n 2, 1) := by decide +kernel
theorem dJ_floorMod_19 : decode cJ_floorMod 19 = .ok (.ireturn, 1) := by decide +kernel
