set_option maxHeartbeats 4000000 in
set_option maxRecDepth 100000 in
theorem m_goes (l : Launch) (hst : l.stackTraces = false) (D : va_G) (ct : Ct) (am : Nat → Nat) (N : Nat) (hN : N ≤ 16) (h0 : 0 < N) (th : Int32) (σ : St) (sz : Nat) (h4 : ix N (σ 0 0 4)) (h5 : ix N (σ 0 0 5)) (hm : 0 ≤ mf_top σ N 0 (-1) → ¬ mf_cnt σ (mf_top σ N 0 (-1)) N 0 0 = 0) : Kt l yM_goes cM_goes 2 (some .int) (r0 3) 0 0 D ct [.ref (am 0)] sz (wM ct am N th σ) (fun v w => v = some (.int (mf_goA N σ)) ∧ w = wM ct am N th (mf_goS N σ)) (fun E w => False) := by
  refine kt_of hst (by decide) (Nat.le_of_ble_eq_true rfl) (by simp [Value.category]) ?_
  intro p e s m args below meth c A ls C hne hr hw hl Q hQ
  have hx := C.1
  have hb := C.2.1
  refine q_aload_n hx hb hl dM_goes_0 rfl ?_
  refine mg C hw 12 l_M_111 (by decide) rfl dM_goes_1 ?_
  refine lv_if_le (tgt := 29) hx hb dM_goes_4 (by decide) (fun c_4 => ?_) (fun c_4 => ?_)
  · refine q_aload_n hx hb hl dM_goes_29 rfl ?_
    refine mg C hw 11 l_M_13 (by decide) rfl dM_goes_30 ?_
    refine lv_if_lt (tgt := 54) hx hb dM_goes_33 (by decide) (fun c_33 => ?_) (fun c_33 => ?_)
    · refine lv_iconst (v := -1) hx hb dM_goes_54 (by decide) ?_
      refine q_istore_n hx hb hl dM_goes_55 (by decide) (fun ls hl => ?_)
      refine q_iload_n hx hb hl dM_goes_56 rfl ?_
      refine lv_if_lt (tgt := 67) hx hb dM_goes_57 (by decide) (fun c_57 => ?_) (fun q9 => absurd (by decide) q9)
      refine q_aload_n hx hb hl dM_goes_67 rfl ?_
      refine tc_E (tc_V C hl (m_ch l hst D ct am N hN h0 th σ _ h4 hm) hw.1 hw.2.1 hw.2.2 g_M_117 (re_M C hw) hv_M_choose rfl rfl ⟨(Nat.le_of_ble_eq_true rfl), (Nat.le_of_ble_eq_true rfl)⟩ (Nat.le_of_ble_eq_true rfl) ⟨(Nat.le_of_ble_eq_true rfl), (Nat.le_of_ble_eq_true rfl)⟩ dM_goes_68 rfl) C hw (fun E ce q9 w1 H locs hp hw h1 h2 h3 => ?_) (fun v w1 H locs hp hw => ?_)
      · exact hp.elim
      obtain ⟨rfl, rfl⟩ := hp
      dsimp only [Option.toList_some, Option.toList_none, List.cons_append, List.nil_append]
      refine q_istore_n hx hb hl dM_goes_71 (by decide) (fun ls hl => ?_)
      refine q_iload_n hx hb hl dM_goes_72 rfl ?_
      refine lv_if_ge (tgt := 88) hx hb dM_goes_73 (by decide) (fun c_73 => ?_) (fun c_73 => ?_)
      · refine q_aload_n hx hb hl dM_goes_88 rfl ?_
        refine lv_iconst (v := -1) hx hb dM_goes_89 (by decide) ?_
        refine mp_11 C hw l_M_13 dM_goes_90 (fun H locs hw => ?_)
        refine q_iload_n hx hb hl dM_goes_93 rfl ?_
        refine q_aload_n hx hb hl dM_goes_94 rfl ?_
        refine mg C hw 10 l_M_7 (by decide) rfl dM_goes_95 ?_
        refine lv_icmp_eq (tgt := 115) hx hb dM_goes_98 (by decide) (fun c_98 => ?_) (fun c_98 => ?_)
        · refine q_iload_n hx hb hl dM_goes_115 rfl ?_
          exact tr_i hQ C hw hr (Nat.le_of_ble_eq_true rfl) (Nat.le_of_ble_eq_true rfl) dM_goes_116 ⟨by simp only [mf_goA, mf_tA, if_pos c_4, if_pos c_33, if_pos c_73, if_pos c_98], by simp only [mf_goS, mf_tS, mf_beg, if_pos c_4, if_pos c_33, if_pos c_73, if_pos c_98]⟩
        refine q_aload_n hx hb hl dM_goes_101 rfl ?_
        refine mg C hw 10 l_M_7 (by decide) rfl dM_goes_102 ?_
        refine lv_if_lt (tgt := 115) hx hb dM_goes_105 (by decide) (fun c_105 => ?_) (fun c_105 => ?_)
        · refine q_iload_n hx hb hl dM_goes_115 rfl ?_
          exact tr_i hQ C hw hr (Nat.le_of_ble_eq_true rfl) (Nat.le_of_ble_eq_true rfl) dM_goes_116 ⟨by simp only [mf_goA, mf_tA, if_pos c_4, if_pos c_33, if_pos c_73, if_neg c_98, if_pos c_105], by simp only [mf_goS, mf_tS, mf_beg, if_pos c_4, if_pos c_33, if_pos c_73, if_neg c_98, if_pos c_105]⟩
        refine q_aload_n hx hb hl dM_goes_108 rfl ?_
        refine mg C hw 5 l_M_81 (by decide) rfl dM_goes_109 ?_
        refine lv_if_ne (tgt := 117) hx hb dM_goes_112 (by decide) (fun c_112 => ?_) (fun c_112 => ?_)
        · obtain ⟨h8, h9⟩ := ix_nn hN (mf_chA_ix N σ h0) (i32_nlt c_73)
          refine q_aload_n hx hb hl dM_goes_117 rfl ?_
          refine q_iload_n hx hb hl dM_goes_118 rfl ?_
          refine mp_11 C hw l_M_13 dM_goes_119 (fun H locs hw => ?_)
          refine q_aload_n hx hb hl dM_goes_122 rfl ?_
          refine q_aload_n hx hb hl dM_goes_123 rfl ?_
          refine mg C hw 5 l_M_81 (by decide) rfl dM_goes_124 ?_
          refine lv_iconst (v := 1) hx hb dM_goes_127 (by decide) ?_
          refine lv_isub hx hb dM_goes_128 ?_
          refine mp_12 C hw l_M_111 dM_goes_129 (fun H locs hw => ?_)
          refine q_aload_n hx hb hl dM_goes_132 rfl ?_
          refine mg C hw 20 l_M_39 (by decide) rfl dM_goes_133 ?_
          refine q_iload_n hx hb hl dM_goes_136 rfl ?_
          refine lv_dup2_11 hx hb dM_goes_137 rfl rfl ?_
          refine mr_8 C hw (t := (mf_chA N σ).toNatClampNeg) (by omega) h9 dM_goes_138 ?_
          refine lv_iconst (v := 1) hx hb dM_goes_139 (by decide) ?_
          refine lv_iadd hx hb dM_goes_140 ?_
          refine mw_8 C hw (t := (mf_chA N σ).toNatClampNeg) (by omega) h9 dM_goes_141 (fun H locs hw => ?_)
          refine q_aload_n hx hb hl dM_goes_142 rfl ?_
          refine lv_dup hx hb dM_goes_143 rfl ?_
          refine mg C hw 9 l_M_114 (by decide) rfl dM_goes_144 ?_
          refine lv_iconst (v := 1) hx hb dM_goes_147 (by decide) ?_
          refine lv_iadd hx hb dM_goes_148 ?_
          refine mp_9 C hw l_M_114 dM_goes_149 (fun H locs hw => ?_)
          refine lv_iconst (v := -1) hx hb dM_goes_152 (by decide) ?_
          exact tr_i hQ C hw hr (Nat.le_of_ble_eq_true rfl) (Nat.le_of_ble_eq_true rfl) dM_goes_153 ⟨by simp only [mf_goA, mf_tA, if_pos c_4, if_pos c_33, if_pos c_73, if_neg c_98, if_neg c_105, if_neg c_112], by simp only [mf_goS, mf_tS, mf_beg, if_pos c_4, if_pos c_33, if_pos c_73, if_neg c_98, if_neg c_105, if_neg c_112]⟩
        refine q_iload_n hx hb hl dM_goes_115 rfl ?_
        exact tr_i hQ C hw hr (Nat.le_of_ble_eq_true rfl) (Nat.le_of_ble_eq_true rfl) dM_goes_116 ⟨by simp only [mf_goA, mf_tA, if_pos c_4, if_pos c_33, if_pos c_73, if_neg c_98, if_neg c_105, if_pos c_112], by simp only [mf_goS, mf_tS, mf_beg, if_pos c_4, if_pos c_33, if_pos c_73, if_neg c_98, if_neg c_105, if_pos c_112]⟩
      refine q_aload_n hx hb hl dM_goes_76 rfl ?_
      refine lv_dup hx hb dM_goes_77 rfl ?_
      refine mg C hw 8 l_M_120 (by decide) rfl dM_goes_78 ?_
      refine lv_iconst (v := 1) hx hb dM_goes_81 (by decide) ?_
      refine lv_iadd hx hb dM_goes_82 ?_
      refine mp_8 C hw l_M_120 dM_goes_83 (fun H locs hw => ?_)
      refine lv_iconst (v := -1) hx hb dM_goes_86 (by decide) ?_
      exact tr_i hQ C hw hr (Nat.le_of_ble_eq_true rfl) (Nat.le_of_ble_eq_true rfl) dM_goes_87 ⟨by simp only [mf_goA, mf_tA, if_pos c_4, if_pos c_33, if_neg c_73], by simp only [mf_goS, mf_tS, mf_beg, if_pos c_4, if_pos c_33, if_neg c_73]⟩
    obtain ⟨h6, h7⟩ := ix_nn hN h5 c_33
    refine q_aload_n hx hb hl dM_goes_36 rfl ?_
    refine q_aload_n hx hb hl dM_goes_37 rfl ?_
    refine mg C hw 11 l_M_13 (by decide) rfl dM_goes_38 ?_
    refine tc_E (tc_V C hl (m_can l hst D ct am N hN h0 th σ _ (σ 0 0 5).toNatClampNeg (by omega) _ h7) hw.1 hw.2.1 hw.2.2 g_M_89 (re_M C hw) hv_M_canGo rfl rfl ⟨(Nat.le_of_ble_eq_true rfl), (Nat.le_of_ble_eq_true rfl)⟩ (Nat.le_of_ble_eq_true rfl) ⟨(Nat.le_of_ble_eq_true rfl), (Nat.le_of_ble_eq_true rfl)⟩ dM_goes_41 rfl) C hw (fun E ce q9 w1 H locs hp hw h1 h2 h3 => ?_) (fun v w1 H locs hp hw => ?_)
    · exact hp.elim
    obtain ⟨rfl, rfl⟩ := hp
    dsimp only [Option.toList_some, Option.toList_none, List.cons_append, List.nil_append]
    refine lv_if_eq (tgt := 54) hx hb dM_goes_44 (by decide) (fun c_44 => ?_) (fun c_44 => ?_)
    · refine lv_iconst (v := -1) hx hb dM_goes_54 (by decide) ?_
      refine q_istore_n hx hb hl dM_goes_55 (by decide) (fun ls hl => ?_)
      refine q_iload_n hx hb hl dM_goes_56 rfl ?_
      refine lv_if_lt (tgt := 67) hx hb dM_goes_57 (by decide) (fun c_57 => ?_) (fun q9 => absurd (by decide) q9)
      refine q_aload_n hx hb hl dM_goes_67 rfl ?_
      refine tc_E (tc_V C hl (m_ch l hst D ct am N hN h0 th σ _ h4 hm) hw.1 hw.2.1 hw.2.2 g_M_117 (re_M C hw) hv_M_choose rfl rfl ⟨(Nat.le_of_ble_eq_true rfl), (Nat.le_of_ble_eq_true rfl)⟩ (Nat.le_of_ble_eq_true rfl) ⟨(Nat.le_of_ble_eq_true rfl), (Nat.le_of_ble_eq_true rfl)⟩ dM_goes_68 rfl) C hw (fun E ce q9 w1 H locs hp hw h1 h2 h3 => ?_) (fun v w1 H locs hp hw => ?_)
      · exact hp.elim
      obtain ⟨rfl, rfl⟩ := hp
      dsimp only [Option.toList_some, Option.toList_none, List.cons_append, List.nil_append]
      refine q_istore_n hx hb hl dM_goes_71 (by decide) (fun ls hl => ?_)
      refine q_iload_n hx hb hl dM_goes_72 rfl ?_
      refine lv_if_ge (tgt := 88) hx hb dM_goes_73 (by decide) (fun c_73 => ?_) (fun c_73 => ?_)
      · refine q_aload_n hx hb hl dM_goes_88 rfl ?_
        refine lv_iconst (v := -1) hx hb dM_goes_89 (by decide) ?_
        refine mp_11 C hw l_M_13 dM_goes_90 (fun H locs hw => ?_)
        refine q_iload_n hx hb hl dM_goes_93 rfl ?_
        refine q_aload_n hx hb hl dM_goes_94 rfl ?_
        refine mg C hw 10 l_M_7 (by decide) rfl dM_goes_95 ?_
        refine lv_icmp_eq (tgt := 115) hx hb dM_goes_98 (by decide) (fun c_98 => ?_) (fun c_98 => ?_)
        · refine q_iload_n hx hb hl dM_goes_115 rfl ?_
          exact tr_i hQ C hw hr (Nat.le_of_ble_eq_true rfl) (Nat.le_of_ble_eq_true rfl) dM_goes_116 ⟨by simp only [mf_goA, mf_tA, if_pos c_4, if_neg c_33, if_pos c_44, if_pos c_73, if_pos c_98], by simp only [mf_goS, mf_tS, mf_beg, if_pos c_4, if_neg c_33, if_pos c_44, if_pos c_73, if_pos c_98]⟩
        refine q_aload_n hx hb hl dM_goes_101 rfl ?_
        refine mg C hw 10 l_M_7 (by decide) rfl dM_goes_102 ?_
        refine lv_if_lt (tgt := 115) hx hb dM_goes_105 (by decide) (fun c_105 => ?_) (fun c_105 => ?_)
        · refine q_iload_n hx hb hl dM_goes_115 rfl ?_
          exact tr_i hQ C hw hr (Nat.le_of_ble_eq_true rfl) (Nat.le_of_ble_eq_true rfl) dM_goes_116 ⟨by simp only [mf_goA, mf_tA, if_pos c_4, if_neg c_33, if_pos c_44, if_pos c_73, if_neg c_98, if_pos c_105], by simp only [mf_goS, mf_tS, mf_beg, if_pos c_4, if_neg c_33, if_pos c_44, if_pos c_73, if_neg c_98, if_pos c_105]⟩
        refine q_aload_n hx hb hl dM_goes_108 rfl ?_
        refine mg C hw 5 l_M_81 (by decide) rfl dM_goes_109 ?_
        refine lv_if_ne (tgt := 117) hx hb dM_goes_112 (by decide) (fun c_112 => ?_) (fun c_112 => ?_)
        · obtain ⟨h8, h9⟩ := ix_nn hN (mf_chA_ix N σ h0) (i32_nlt c_73)
          refine q_aload_n hx hb hl dM_goes_117 rfl ?_
          refine q_iload_n hx hb hl dM_goes_118 rfl ?_
          refine mp_11 C hw l_M_13 dM_goes_119 (fun H locs hw => ?_)
          refine q_aload_n hx hb hl dM_goes_122 rfl ?_
          refine q_aload_n hx hb hl dM_goes_123 rfl ?_
          refine mg C hw 5 l_M_81 (by decide) rfl dM_goes_124 ?_
          refine lv_iconst (v := 1) hx hb dM_goes_127 (by decide) ?_
          refine lv_isub hx hb dM_goes_128 ?_
          refine mp_12 C hw l_M_111 dM_goes_129 (fun H locs hw => ?_)
          refine q_aload_n hx hb hl dM_goes_132 rfl ?_
          refine mg C hw 20 l_M_39 (by decide) rfl dM_goes_133 ?_
          refine q_iload_n hx hb hl dM_goes_136 rfl ?_
          refine lv_dup2_11 hx hb dM_goes_137 rfl rfl ?_
          refine mr_8 C hw (t := (mf_chA N σ).toNatClampNeg) (by omega) h9 dM_goes_138 ?_
          refine lv_iconst (v := 1) hx hb dM_goes_139 (by decide) ?_
          refine lv_iadd hx hb dM_goes_140 ?_
          refine mw_8 C hw (t := (mf_chA N σ).toNatClampNeg) (by omega) h9 dM_goes_141 (fun H locs hw => ?_)
          refine q_aload_n hx hb hl dM_goes_142 rfl ?_
          refine lv_dup hx hb dM_goes_143 rfl ?_
          refine mg C hw 9 l_M_114 (by decide) rfl dM_goes_144 ?_
          refine lv_iconst (v := 1) hx hb dM_goes_147 (by decide) ?_
          refine lv_iadd hx hb dM_goes_148 ?_
          refine mp_9 C hw l_M_114 dM_goes_149 (fun H locs hw => ?_)
          refine lv_iconst (v := -1) hx hb dM_goes_152 (by decide) ?_
          exact tr_i hQ C hw hr (Nat.le_of_ble_eq_true rfl) (Nat.le_of_ble_eq_true rfl) dM_goes_153 ⟨by simp only [mf_goA, mf_tA, if_pos c_4, if_neg c_33, if_pos c_44, if_pos c_73, if_neg c_98, if_neg c_105, if_neg c_112], by simp only [mf_goS, mf_tS, mf_beg, if_pos c_4, if_neg c_33, if_pos c_44, if_pos c_73, if_neg c_98, if_neg c_105, if_neg c_112]⟩
        refine q_iload_n hx hb hl dM_goes_115 rfl ?_
        exact tr_i hQ C hw hr (Nat.le_of_ble_eq_true rfl) (Nat.le_of_ble_eq_true rfl) dM_goes_116 ⟨by simp only [mf_goA, mf_tA, if_pos c_4, if_neg c_33, if_pos c_44, if_pos c_73, if_neg c_98, if_neg c_105, if_pos c_112], by simp only [mf_goS, mf_tS, mf_beg, if_pos c_4, if_neg c_33, if_pos c_44, if_pos c_73, if_neg c_98, if_neg c_105, if_pos c_112]⟩
      refine q_aload_n hx hb hl dM_goes_76 rfl ?_
      refine lv_dup hx hb dM_goes_77 rfl ?_
      refine mg C hw 8 l_M_120 (by decide) rfl dM_goes_78 ?_
      refine lv_iconst (v := 1) hx hb dM_goes_81 (by decide) ?_
      refine lv_iadd hx hb dM_goes_82 ?_
      refine mp_8 C hw l_M_120 dM_goes_83 (fun H locs hw => ?_)
      refine lv_iconst (v := -1) hx hb dM_goes_86 (by decide) ?_
      exact tr_i hQ C hw hr (Nat.le_of_ble_eq_true rfl) (Nat.le_of_ble_eq_true rfl) dM_goes_87 ⟨by simp only [mf_goA, mf_tA, if_pos c_4, if_neg c_33, if_pos c_44, if_neg c_73], by simp only [mf_goS, mf_tS, mf_beg, if_pos c_4, if_neg c_33, if_pos c_44, if_neg c_73]⟩
    refine q_aload_n hx hb hl dM_goes_47 rfl ?_
    refine mg C hw 11 l_M_13 (by decide) rfl dM_goes_48 ?_
    refine lv_goto (tgt := 55) hx hb dM_goes_51 (by decide) ?_
    refine q_istore_n hx hb hl dM_goes_55 (by decide) (fun ls hl => ?_)
    refine q_iload_n hx hb hl dM_goes_56 rfl ?_
    refine lv_if_lt (tgt := 67) hx hb dM_goes_57 (by decide) (fun q9 => absurd q9 c_33) (fun c_57 => ?_)
    refine q_aload_n hx hb hl dM_goes_60 rfl ?_
    refine lv_iconst (v := -1) hx hb dM_goes_61 (by decide) ?_
    refine mp_11 C hw l_M_13 dM_goes_62 (fun H locs hw => ?_)
    refine q_iload_n hx hb hl dM_goes_65 rfl ?_
    exact tr_i hQ C hw hr (Nat.le_of_ble_eq_true rfl) (Nat.le_of_ble_eq_true rfl) dM_goes_66 ⟨by simp only [mf_goA, mf_tA, if_pos c_4, if_neg c_33, if_neg c_44], by simp only [mf_goS, mf_tS, mf_beg, if_pos c_4, if_neg c_33, if_neg c_44]⟩
  refine q_aload_n hx hb hl dM_goes_7 rfl ?_
  refine lv_dup hx hb dM_goes_8 rfl ?_
  refine mg C hw 12 l_M_111 (by decide) rfl dM_goes_9 ?_
  refine lv_iconst (v := 1) hx hb dM_goes_12 (by decide) ?_
  refine lv_isub hx hb dM_goes_13 ?_
  refine mp_12 C hw l_M_111 dM_goes_14 (fun H locs hw => ?_)
  refine q_aload_n hx hb hl dM_goes_17 rfl ?_
  refine lv_dup hx hb dM_goes_18 rfl ?_
  refine mg C hw 9 l_M_114 (by decide) rfl dM_goes_19 ?_
  refine lv_iconst (v := 1) hx hb dM_goes_22 (by decide) ?_
  refine lv_iadd hx hb dM_goes_23 ?_
  refine mp_9 C hw l_M_114 dM_goes_24 (fun H locs hw => ?_)
  refine lv_iconst (v := -1) hx hb dM_goes_27 (by decide) ?_
  exact tr_i hQ C hw hr (Nat.le_of_ble_eq_true rfl) (Nat.le_of_ble_eq_true rfl) dM_goes_28 ⟨by simp only [mf_goA, mf_tA, if_neg c_4], by simp only [mf_goS, mf_tS, mf_beg, if_neg c_4]⟩
set_option maxHeartbeats 4000000 in
set_option maxRecDepth 100000 in
theorem m_step (l : Launch) (hst : l.stackTraces = false) (D : va_G) (ct : Ct) (am : Nat → Nat) (N : Nat) (hN : N ≤ 16) (h0 : 0 < N) (th : Int32) (σ : St) (sz : Nat) (h4 : ix N (mf_p1 N σ 0 0 4)) (h5 : ix N (mf_p1 N σ 0 0 5)) (hm : 0 ≤ mf_top (mf_p1 N σ) N 0 (-1) → ¬ mf_cnt (mf_p1 N σ) (mf_top (mf_p1 N σ) N 0 (-1)) N 0 0 = 0) : Kt l yM_step cM_step 3 (some .int) (r0 4) 0 0 D ct [.ref (am 0)] sz (wM ct am N th σ) (fun v w => v = some (.int (mf_stA N σ)) ∧ w = wM ct am N th (mf_stS N σ)) (fun E w => False) := by
  refine kt_of hst (by decide) (Nat.le_of_ble_eq_true rfl) (by simp [Value.category]) ?_
  intro p e s m args below meth c A ls C hne hr hw hl Q hQ
  have hx := C.1
  have hb := C.2.1
  refine q_aload_n hx hb hl dM_step_0 rfl ?_
  refine lv_dup hx hb dM_step_1 rfl ?_
  refine mg C hw 6 l_M_123 (by decide) rfl dM_step_2 ?_
  refine lv_iconst (v := 1) hx hb dM_step_5 (by decide) ?_
  refine lv_iadd hx hb dM_step_6 ?_
  refine mp_6 C hw l_M_123 dM_step_7 (fun H locs hw => ?_)
  refine lv_iconst (v := 0) hx hb dM_step_10 (by decide) ?_
  refine q_istore_n hx hb hl dM_step_11 (by decide) (fun ls hl => ?_)
  have L12 : ∀ (n : Nat) (t : Nat) (τ : St), t + n = N → mf_un n t τ = mf_p1 N σ → ∀ (H : Heap) (locs : List Loc) (ls : Array Slot), wl D A s (wM ct am N th τ) H locs → lq ls 3 [some (.ref (am 0)), some (.int (nI t)), none] → W p l e (r0 4) s m args below meth c H locs 0 0 Q (F0 m 12 ls []) := by
    intro n
    induction n with
    | zero =>
      intro t τ hn he H locs ls hw hl
      refine q_iload_n hx hb hl dM_step_12 rfl ?_
      refine q_aload_n hx hb hl dM_step_13 rfl ?_
      refine mg C hw 1 l_M_57 (by decide) rfl dM_step_14 ?_
      refine lv_icmp_ge (tgt := 55) hx hb dM_step_17 (by decide) (fun c_17 => ?_) (fun q9 => absurd (nI_le (by omega) (by omega)) q9)
      have he2 : τ = mf_p1 N σ := he
      subst he2
      refine q_aload_n hx hb hl dM_step_55 rfl ?_
      refine tc_E (tc_V C hl (m_goes l hst D ct am N hN h0 th (mf_p1 N σ) _ h4 h5 hm) hw.1 hw.2.1 hw.2.2 g_M_126 (re_M C hw) hv_M_goes rfl rfl ⟨(Nat.le_of_ble_eq_true rfl), (Nat.le_of_ble_eq_true rfl)⟩ (Nat.le_of_ble_eq_true rfl) ⟨(Nat.le_of_ble_eq_true rfl), (Nat.le_of_ble_eq_true rfl)⟩ dM_step_56 rfl) C hw (fun E ce q9 w1 H locs hp hw h1 h2 h3 => ?_) (fun v w1 H locs hp hw => ?_)
      · exact hp.elim
      obtain ⟨rfl, rfl⟩ := hp
      dsimp only [Option.toList_some, Option.toList_none, List.cons_append, List.nil_append]
      refine q_istore_n hx hb hl dM_step_59 (by decide) (fun ls hl => ?_)
      refine lv_iconst (v := 0) hx hb dM_step_60 (by decide) ?_
      refine q_istore_n hx hb hl dM_step_61 (by decide) (fun ls hl => ?_)
      have L62 : ∀ (n : Nat) (t : Nat) (τ : St), t + n = N → mf_w (mf_stA N σ) n t τ = mf_p3 N σ → ∀ (H : Heap) (locs : List Loc) (ls : Array Slot), wl D A s (wM ct am N th τ) H locs → lq ls 3 [some (.ref (am 0)), some (.int (mf_stA N σ)), some (.int (nI t))] → W p l e (r0 4) s m args below meth c H locs 0 0 Q (F0 m 62 ls []) := by
        intro n
        induction n with
        | zero =>
          intro t τ hn he H locs ls hw hl
          refine q_iload_n hx hb hl dM_step_62 rfl ?_
          refine q_aload_n hx hb hl dM_step_63 rfl ?_
          refine mg C hw 1 l_M_57 (by decide) rfl dM_step_64 ?_
          refine lv_icmp_ge (tgt := 155) hx hb dM_step_67 (by decide) (fun c_67 => ?_) (fun q9 => absurd (nI_le (by omega) (by omega)) q9)
          have he2 : τ = mf_p3 N σ := he
          subst he2
          refine q_aload_n hx hb hl dM_step_155 rfl ?_
          refine q_iload_n hx hb hl dM_step_156 rfl ?_
          refine lv_if_lt (tgt := 164) hx hb dM_step_157 (by decide) (fun c_157 => ?_) (fun c_157 => ?_)
          · refine q_aload_n hx hb hl dM_step_164 rfl ?_
            refine mg C hw 10 l_M_7 (by decide) rfl dM_step_165 ?_
            refine mp_10 C hw l_M_7 dM_step_168 (fun H locs hw => ?_)
            refine q_aload_n hx hb hl dM_step_171 rfl ?_
            refine lv_dup hx hb dM_step_172 rfl ?_
            refine mg C hw 7 l_M_129 (by decide) rfl dM_step_173 ?_
            refine q_iload_n hx hb hl dM_step_176 rfl ?_
            refine lv_if_lt (tgt := 184) hx hb dM_step_177 (by decide) (fun c_177 => ?_) (fun q9 => absurd c_157 q9)
            refine lv_iconst (v := 0) hx hb dM_step_184 (by decide) ?_
            refine lv_iadd hx hb dM_step_185 ?_
            refine mp_7 C hw l_M_129 dM_step_186 (fun H locs hw => ?_)
            refine q_iload_n hx hb hl dM_step_189 rfl ?_
            exact tr_i hQ C hw hr (Nat.le_of_ble_eq_true rfl) (Nat.le_of_ble_eq_true rfl) dM_step_190 ⟨rfl, by simp only [mf_stS, if_pos c_157]⟩
          refine q_iload_n hx hb hl dM_step_160 rfl ?_
          refine lv_goto (tgt := 168) hx hb dM_step_161 (by decide) ?_
          refine mp_10 C hw l_M_7 dM_step_168 (fun H locs hw => ?_)
          refine q_aload_n hx hb hl dM_step_171 rfl ?_
          refine lv_dup hx hb dM_step_172 rfl ?_
          refine mg C hw 7 l_M_129 (by decide) rfl dM_step_173 ?_
          refine q_iload_n hx hb hl dM_step_176 rfl ?_
          refine lv_if_lt (tgt := 184) hx hb dM_step_177 (by decide) (fun q9 => absurd q9 c_157) (fun c_177 => ?_)
          refine lv_iconst (v := 1) hx hb dM_step_180 (by decide) ?_
          refine lv_goto (tgt := 185) hx hb dM_step_181 (by decide) ?_
          refine lv_iadd hx hb dM_step_185 ?_
          refine mp_7 C hw l_M_129 dM_step_186 (fun H locs hw => ?_)
          refine q_iload_n hx hb hl dM_step_189 rfl ?_
          exact tr_i hQ C hw hr (Nat.le_of_ble_eq_true rfl) (Nat.le_of_ble_eq_true rfl) dM_step_190 ⟨rfl, by simp only [mf_stS, if_neg c_157]⟩
        | succ n ih =>
          intro t τ hn he H locs ls hw hl
          have ht : t < N := by omega
          have ht16 : t < 16 := by omega
          refine q_iload_n hx hb hl dM_step_62 rfl ?_
          refine q_aload_n hx hb hl dM_step_63 rfl ?_
          refine mg C hw 1 l_M_57 (by decide) rfl dM_step_64 ?_
          refine lv_icmp_ge (tgt := 155) hx hb dM_step_67 (by decide) (fun q9 => absurd q9 (nI_ge ht (by omega))) (fun c_67 => ?_)
          refine q_iload_n hx hb hl dM_step_70 rfl ?_
          refine q_iload_n hx hb hl dM_step_71 rfl ?_
          refine lv_icmp_ne (tgt := 95) hx hb dM_step_72 (by decide) (fun c_72 => ?_) (fun c_72 => ?_)
          · refine q_aload_n hx hb hl dM_step_95 rfl ?_
            refine q_iload_n hx hb hl dM_step_96 rfl ?_
            refine tc_E (tc_V C hl (m_can l hst D ct am N hN h0 th τ _ t (by omega) _ rfl) hw.1 hw.2.1 hw.2.2 g_M_89 (re_M C hw) hv_M_canGo rfl rfl ⟨(Nat.le_of_ble_eq_true rfl), (Nat.le_of_ble_eq_true rfl)⟩ (Nat.le_of_ble_eq_true rfl) ⟨(Nat.le_of_ble_eq_true rfl), (Nat.le_of_ble_eq_true rfl)⟩ dM_step_97 rfl) C hw (fun E ce q9 w1 H locs hp hw h1 h2 h3 => ?_) (fun v w1 H locs hp hw => ?_)
            · exact hp.elim
            obtain ⟨rfl, rfl⟩ := hp
            dsimp only [Option.toList_some, Option.toList_none, List.cons_append, List.nil_append]
            refine lv_if_eq (tgt := 149) hx hb dM_step_100 (by decide) (fun c_100 => ?_) (fun c_100 => ?_)
            · refine q_inc hx hb hl dM_step_149 rfl (by decide) (fun ls hl => ?_)
              refine lv_goto (tgt := 62) hx hb dM_step_152 (by decide) ?_
              exact ih _ _ (by omega) (by rw [← he]; simp only [mf_w, mf_w1, if_neg c_72, if_pos c_100]) _ _ _ hw hl
            refine q_aload_n hx hb hl dM_step_103 rfl ?_
            refine mg C hw 17 l_M_30 (by decide) rfl dM_step_104 ?_
            refine q_iload_n hx hb hl dM_step_107 rfl ?_
            refine lv_dup2_11 hx hb dM_step_108 rfl rfl ?_
            refine mr_5 C hw (by assumption) rfl dM_step_109 ?_
            refine lv_iconst (v := 1) hx hb dM_step_110 (by decide) ?_
            refine lv_iadd hx hb dM_step_111 ?_
            refine mw_5 C hw (by assumption) rfl dM_step_112 (fun H locs hw => ?_)
            refine q_aload_n hx hb hl dM_step_113 rfl ?_
            refine mg C hw 18 l_M_33 (by decide) rfl dM_step_114 ?_
            refine q_iload_n hx hb hl dM_step_117 rfl ?_
            refine q_aload_n hx hb hl dM_step_118 rfl ?_
            refine mg C hw 17 l_M_30 (by decide) rfl dM_step_119 ?_
            refine q_iload_n hx hb hl dM_step_122 rfl ?_
            refine mr_5 C hw (by assumption) rfl dM_step_123 ?_
            refine q_aload_n hx hb hl dM_step_124 rfl ?_
            refine mg C hw 18 l_M_33 (by decide) rfl dM_step_125 ?_
            refine q_iload_n hx hb hl dM_step_128 rfl ?_
            refine mr_6 C hw (by assumption) rfl dM_step_129 ?_
            refine lv_icmp_le (tgt := 142) hx hb dM_step_130 (by decide) (fun c_130 => ?_) (fun c_130 => ?_)
            · refine q_aload_n hx hb hl dM_step_142 rfl ?_
              refine mg C hw 18 l_M_33 (by decide) rfl dM_step_143 ?_
              refine q_iload_n hx hb hl dM_step_146 rfl ?_
              refine mr_6 C hw (by assumption) rfl dM_step_147 ?_
              refine mw_6 C hw (by assumption) rfl dM_step_148 (fun H locs hw => ?_)
              refine q_inc hx hb hl dM_step_149 rfl (by decide) (fun ls hl => ?_)
              refine lv_goto (tgt := 62) hx hb dM_step_152 (by decide) ?_
              exact ih _ _ (by omega) (by rw [← he]; simp only [mf_w, mf_w1, if_neg c_72, if_neg c_100, if_pos c_130]) _ _ _ hw hl
            refine q_aload_n hx hb hl dM_step_133 rfl ?_
            refine mg C hw 17 l_M_30 (by decide) rfl dM_step_134 ?_
            refine q_iload_n hx hb hl dM_step_137 rfl ?_
            refine mr_5 C hw (by assumption) rfl dM_step_138 ?_
            refine lv_goto (tgt := 148) hx hb dM_step_139 (by decide) ?_
            refine mw_6 C hw (by assumption) rfl dM_step_148 (fun H locs hw => ?_)
            refine q_inc hx hb hl dM_step_149 rfl (by decide) (fun ls hl => ?_)
            refine lv_goto (tgt := 62) hx hb dM_step_152 (by decide) ?_
            exact ih _ _ (by omega) (by rw [← he]; simp only [mf_w, mf_w1, if_neg c_72, if_neg c_100, if_neg c_130]) _ _ _ hw hl
          refine q_aload_n hx hb hl dM_step_75 rfl ?_
          refine mg C hw 17 l_M_30 (by decide) rfl dM_step_76 ?_
          refine q_iload_n hx hb hl dM_step_79 rfl ?_
          refine lv_iconst (v := 0) hx hb dM_step_80 (by decide) ?_
          refine mw_5 C hw (by assumption) rfl dM_step_81 (fun H locs hw => ?_)
          refine q_aload_n hx hb hl dM_step_82 rfl ?_
          refine mg C hw 19 l_M_36 (by decide) rfl dM_step_83 ?_
          refine q_iload_n hx hb hl dM_step_86 rfl ?_
          refine lv_dup2_11 hx hb dM_step_87 rfl rfl ?_
          refine mr_7 C hw (by assumption) rfl dM_step_88 ?_
          refine lv_iconst (v := 1) hx hb dM_step_89 (by decide) ?_
          refine lv_iadd hx hb dM_step_90 ?_
          refine mw_7 C hw (by assumption) rfl dM_step_91 (fun H locs hw => ?_)
          refine lv_goto (tgt := 149) hx hb dM_step_92 (by decide) ?_
          refine q_inc hx hb hl dM_step_149 rfl (by decide) (fun ls hl => ?_)
          refine lv_goto (tgt := 62) hx hb dM_step_152 (by decide) ?_
          exact ih _ _ (by omega) (by rw [← he]; simp only [mf_w, mf_w1, if_pos c_72]) _ _ _ hw hl
      exact L62 N 0 _ (by omega) rfl _ _ _ hw hl
    | succ n ih =>
      intro t τ hn he H locs ls hw hl
      have ht : t < N := by omega
      have ht16 : t < 16 := by omega
      refine q_iload_n hx hb hl dM_step_12 rfl ?_
      refine q_aload_n hx hb hl dM_step_13 rfl ?_
      refine mg C hw 1 l_M_57 (by decide) rfl dM_step_14 ?_
      refine lv_icmp_ge (tgt := 55) hx hb dM_step_17 (by decide) (fun q9 => absurd q9 (nI_ge ht (by omega))) (fun c_17 => ?_)
      refine q_aload_n hx hb hl dM_step_20 rfl ?_
      refine mg C hw 15 l_M_24 (by decide) rfl dM_step_21 ?_
      refine q_iload_n hx hb hl dM_step_24 rfl ?_
      refine q_aload_n hx hb hl dM_step_25 rfl ?_
      refine mg C hw 15 l_M_24 (by decide) rfl dM_step_26 ?_
      refine q_iload_n hx hb hl dM_step_29 rfl ?_
      refine mr_3 C hw (by assumption) rfl dM_step_30 ?_
      refine q_aload_n hx hb hl dM_step_31 rfl ?_
      refine mg C hw 6 l_M_123 (by decide) rfl dM_step_32 ?_
      refine lv_icmp_gt (tgt := 42) hx hb dM_step_35 (by decide) (fun c_35 => ?_) (fun c_35 => ?_)
      · refine q_aload_n hx hb hl dM_step_42 rfl ?_
        refine mg C hw 15 l_M_24 (by decide) rfl dM_step_43 ?_
        refine q_iload_n hx hb hl dM_step_46 rfl ?_
        refine mr_3 C hw (by assumption) rfl dM_step_47 ?_
        refine mw_3 C hw (by assumption) rfl dM_step_48 (fun H locs hw => ?_)
        refine q_inc hx hb hl dM_step_49 rfl (by decide) (fun ls hl => ?_)
        refine lv_goto (tgt := 12) hx hb dM_step_52 (by decide) ?_
        exact ih _ _ (by omega) (by rw [← he]; simp only [mf_un, mf_un1, if_pos c_35]) _ _ _ hw hl
      refine lv_iconst (v := 0) hx hb dM_step_38 (by decide) ?_
      refine lv_goto (tgt := 48) hx hb dM_step_39 (by decide) ?_
      refine mw_3 C hw (by assumption) rfl dM_step_48 (fun H locs hw => ?_)
      refine q_inc hx hb hl dM_step_49 rfl (by decide) (fun ls hl => ?_)
      refine lv_goto (tgt := 12) hx hb dM_step_52 (by decide) ?_
      exact ih _ _ (by omega) (by rw [← he]; simp only [mf_un, mf_un1, if_neg c_35]) _ _ _ hw hl
  exact L12 N 0 _ (by omega) rfl _ _ _ hw hl
