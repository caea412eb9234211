set_option maxHeartbeats 4000000 in
set_option maxRecDepth 100000 in
theorem c_beg (l : Launch) (hst : l.stackTraces = false) (D : va_G) (ct : Ct) (ad : Ad) (N : Nat) (hN : N ≤ 16) (σ : St) (sz : Nat) (t : Nat) (ht : t < N) (i : Int32) (hi : i = nI t) : Kt l yT_beginChangeTo cT_beginChangeTo 2 none (r0 0) 0 0 D ct [.ref (ad 0 0), .int i] sz (wT ct ad N σ) (fun v w => v = none ∧ w = wT ct ad N (tf_begin σ t)) (fun E w => False) := by
  refine kt_of hst (by decide) (Nat.le_of_ble_eq_true rfl) (by simp [Value.category]) ?_
  intro p e s m args below meth c A ls C hne hr hw hl Q hQ
  have hx := C.1
  have hb := C.2.1
  subst hi
  refine q_aload_n hx hb hl dT_beginChangeTo_0 rfl ?_
  refine q_iload_n hx hb hl dT_beginChangeTo_1 rfl ?_
  refine tp_T C hw 5 l_T_13 (by decide) dT_beginChangeTo_2 (fun H locs hw => ?_)
  refine q_aload_n hx hb hl dT_beginChangeTo_5 rfl ?_
  refine q_aload_n hx hb hl dT_beginChangeTo_6 rfl ?_
  refine tg_T C hw 4 l_T_50 (by decide) rfl dT_beginChangeTo_7 ?_
  refine lv_iconst (v := 1) hx hb dT_beginChangeTo_10 (by decide) ?_
  refine lv_isub hx hb dT_beginChangeTo_11 ?_
  refine tp_T C hw 6 l_T_168 (by decide) dT_beginChangeTo_12 (fun H locs hw => ?_)
  refine q_aload_n hx hb hl dT_beginChangeTo_15 rfl ?_
  refine tg_T C hw 0 l_T_24 (by decide) rfl dT_beginChangeTo_16 ?_
  refine q_iload_n hx hb hl dT_beginChangeTo_19 rfl ?_
  refine ta_S C hw hN (by assumption) rfl dT_beginChangeTo_20 ?_
  refine lv_dup hx hb dT_beginChangeTo_21 rfl ?_
  refine tg_S C hw 8 l_T_129 (by decide) (by assumption) rfl dT_beginChangeTo_22 ?_
  refine lv_iconst (v := 1) hx hb dT_beginChangeTo_25 (by decide) ?_
  refine lv_iadd hx hb dT_beginChangeTo_26 ?_
  refine tp_S C hw 7 l_T_129 (by decide) (by assumption) (fun q => absurd q (by decide)) dT_beginChangeTo_27 (fun H locs hw => ?_)
  refine q_aload_n hx hb hl dT_beginChangeTo_30 rfl ?_
  refine lv_dup hx hb dT_beginChangeTo_31 rfl ?_
  refine tg_T C hw 12 l_T_147 (by decide) rfl dT_beginChangeTo_32 ?_
  refine lv_iconst (v := 1) hx hb dT_beginChangeTo_35 (by decide) ?_
  refine lv_iadd hx hb dT_beginChangeTo_36 ?_
  refine tp_T C hw 10 l_T_147 (by decide) dT_beginChangeTo_37 (fun H locs hw => ?_)
  exact tr_v hQ C hw hr (Nat.le_of_ble_eq_true rfl) (Nat.le_of_ble_eq_true rfl) dT_beginChangeTo_40 ⟨rfl, by simp [tf_begin, su_n1, su_n3]⟩
set_option maxHeartbeats 4000000 in
set_option maxRecDepth 100000 in
theorem c_let (l : Launch) (hst : l.stackTraces = false) (D : va_G) (ct : Ct) (ad : Ad) (N : Nat) (hN : N ≤ 16) (σ : St) (sz : Nat) (t : Nat) (ht : t < N) (i : Int32) (hi : i = nI t) : Kt l yT_letGo cT_letGo 3 none (r0 0) 0 0 D ct [.ref (ad 0 0), .int i] sz (wT ct ad N σ) (fun v w => v = none ∧ w = wT ct ad N (tf_let σ t)) (fun E w => False) := by
  refine kt_of hst (by decide) (Nat.le_of_ble_eq_true rfl) (by simp [Value.category]) ?_
  intro p e s m args below meth c A ls C hne hr hw hl Q hQ
  have hx := C.1
  have hb := C.2.1
  subst hi
  refine q_aload_n hx hb hl dT_letGo_0 rfl ?_
  refine tg_T C hw 0 l_T_24 (by decide) rfl dT_letGo_1 ?_
  refine q_iload_n hx hb hl dT_letGo_4 rfl ?_
  refine ta_S C hw hN (by assumption) rfl dT_letGo_5 ?_
  refine q_astore_n hx hb hl dT_letGo_6 (by decide) (fun ls hl => ?_)
  refine q_aload_n hx hb hl dT_letGo_7 rfl ?_
  refine lv_iconst (v := 0) hx hb dT_letGo_8 (by decide) ?_
  refine tp_S C hw 4 l_T_120 (by decide) (by assumption) (fun q => absurd q (by decide)) dT_letGo_9 (fun H locs hw => ?_)
  refine q_aload_n hx hb hl dT_letGo_12 rfl ?_
  refine lv_dup hx hb dT_letGo_13 rfl ?_
  refine tg_S C hw 7 l_T_126 (by decide) (by assumption) rfl dT_letGo_14 ?_
  refine lv_iconst (v := 1) hx hb dT_letGo_17 (by decide) ?_
  refine lv_iadd hx hb dT_letGo_18 ?_
  refine tp_S C hw 6 l_T_126 (by decide) (by assumption) (fun q => absurd q (by decide)) dT_letGo_19 (fun H locs hw => ?_)
  refine q_aload_n hx hb hl dT_letGo_22 rfl ?_
  refine lv_dup hx hb dT_letGo_23 rfl ?_
  refine tg_T C hw 10 l_T_137 (by decide) rfl dT_letGo_24 ?_
  refine lv_iconst (v := 1) hx hb dT_letGo_27 (by decide) ?_
  refine lv_iadd hx hb dT_letGo_28 ?_
  refine tp_T C hw 8 l_T_137 (by decide) dT_letGo_29 (fun H locs hw => ?_)
  refine q_aload_n hx hb hl dT_letGo_32 rfl ?_
  refine q_iload_n hx hb hl dT_letGo_33 rfl ?_
  refine tp_T C hw 4 l_T_9 (by decide) dT_letGo_34 (fun H locs hw => ?_)
  refine q_aload_n hx hb hl dT_letGo_37 rfl ?_
  refine lv_iconst (v := -1) hx hb dT_letGo_38 (by decide) ?_
  refine tp_T C hw 5 l_T_13 (by decide) dT_letGo_39 (fun H locs hw => ?_)
  exact tr_v hQ C hw hr (Nat.le_of_ble_eq_true rfl) (Nat.le_of_ble_eq_true rfl) dT_letGo_42 ⟨rfl, by simp [tf_let, su_n1, su_n3]⟩
set_option maxHeartbeats 4000000 in
set_option maxRecDepth 100000 in
theorem c_wait (l : Launch) (hst : l.stackTraces = false) (D : va_G) (ct : Ct) (ad : Ad) (N : Nat) (hN : N ≤ 16) (σ : St) (sz : Nat) (g : Int32) : Kt l yT_letOthersWait cT_letOthersWait 4 none (r0 1) 0 0 D ct [.ref (ad 0 0), .int g] sz (wT ct ad N σ) (fun v w => v = none ∧ w = wT ct ad N (tf_wt g N 0 σ)) (fun E w => False) := by
  refine kt_of hst (by decide) (Nat.le_of_ble_eq_true rfl) (by simp [Value.category]) ?_
  intro p e s m args below meth c A ls C hne hr hw hl Q hQ
  have hx := C.1
  have hb := C.2.1
  refine lv_iconst (v := 0) hx hb dT_letOthersWait_0 (by decide) ?_
  refine q_istore_n hx hb hl dT_letOthersWait_1 (by decide) (fun ls hl => ?_)
  have L2 : ∀ (n : Nat) (t : Nat) (τ : St), t + n = N → tf_wt g n t τ = tf_wt g N 0 σ → ∀ (H : Heap) (locs : List Loc) (ls : Array Slot), wl D A s (wT ct ad N τ) H locs → lq ls 4 [some (.ref (ad 0 0)), some (.int g), some (.int (nI t)), none] → W p l e (r0 1) s m args below meth c H locs 0 0 Q (F0 m 2 ls []) := by
    intro n
    induction n with
    | zero =>
      intro t τ hn he H locs ls hw hl
      refine q_iload_n hx hb hl dT_letOthersWait_2 rfl ?_
      refine q_aload_n hx hb hl dT_letOthersWait_3 rfl ?_
      refine tg_T C hw 0 l_T_24 (by decide) rfl dT_letOthersWait_4 ?_
      refine ta_lenS C hw dT_letOthersWait_7 ?_
      refine lv_icmp_ge (tgt := 61) hx hb dT_letOthersWait_8 (by decide) (fun c_8 => ?_) (fun q9 => absurd (nI_le (by omega) (by omega)) q9)
      exact tr_v hQ C hw hr (Nat.le_of_ble_eq_true rfl) (Nat.le_of_ble_eq_true rfl) dT_letOthersWait_61 ⟨rfl, by rw [← he]; rfl⟩
    | succ n ih =>
      intro t τ hn he H locs ls hw hl
      have ht : t < N := by omega
      refine q_iload_n hx hb hl dT_letOthersWait_2 rfl ?_
      refine q_aload_n hx hb hl dT_letOthersWait_3 rfl ?_
      refine tg_T C hw 0 l_T_24 (by decide) rfl dT_letOthersWait_4 ?_
      refine ta_lenS C hw dT_letOthersWait_7 ?_
      refine lv_icmp_ge (tgt := 61) hx hb dT_letOthersWait_8 (by decide) (fun q9 => absurd q9 (nI_ge ht (by omega))) (fun c_8 => ?_)
      refine q_aload_n hx hb hl dT_letOthersWait_11 rfl ?_
      refine tg_T C hw 0 l_T_24 (by decide) rfl dT_letOthersWait_12 ?_
      refine q_iload_n hx hb hl dT_letOthersWait_15 rfl ?_
      refine ta_S C hw hN (by assumption) rfl dT_letOthersWait_16 ?_
      refine q_astore_n hx hb hl dT_letOthersWait_17 (by decide) (fun ls hl => ?_)
      refine q_aload_n hx hb hl dT_letOthersWait_18 rfl ?_
      refine tg_S C hw 9 l_T_165 (by decide) (by assumption) rfl dT_letOthersWait_19 ?_
      refine lv_if_eq (tgt := 55) hx hb dT_letOthersWait_22 (by decide) (fun c_22 => ?_) (fun c_22 => ?_)
      · refine q_inc hx hb hl dT_letOthersWait_55 rfl (by decide) (fun ls hl => ?_)
        refine lv_goto (tgt := 2) hx hb dT_letOthersWait_58 (by decide) ?_
        exact ih _ _ (by omega) (by rw [← he]; simp [tf_wt, tf_wt1, c_22]) _ _ _ hw (hl.drop 3)
      refine q_iload_n hx hb hl dT_letOthersWait_25 rfl ?_
      refine q_iload_n hx hb hl dT_letOthersWait_26 rfl ?_
      refine lv_icmp_eq (tgt := 55) hx hb dT_letOthersWait_27 (by decide) (fun c_27 => ?_) (fun c_27 => ?_)
      · refine q_inc hx hb hl dT_letOthersWait_55 rfl (by decide) (fun ls hl => ?_)
        refine lv_goto (tgt := 2) hx hb dT_letOthersWait_58 (by decide) ?_
        exact ih _ _ (by omega) (by rw [← he]; simp [tf_wt, tf_wt1, c_22, c_27]) _ _ _ hw (hl.drop 3)
      refine q_aload_n hx hb hl dT_letOthersWait_30 rfl ?_
      refine lv_dup hx hb dT_letOthersWait_31 rfl ?_
      refine tg_S C hw 5 l_T_120 (by decide) (by assumption) rfl dT_letOthersWait_32 ?_
      refine lv_iconst (v := 1) hx hb dT_letOthersWait_35 (by decide) ?_
      refine lv_iadd hx hb dT_letOthersWait_36 ?_
      refine tp_S C hw 4 l_T_120 (by decide) (by assumption) (fun q => absurd q (by decide)) dT_letOthersWait_37 (fun H locs hw => ?_)
      refine q_aload_n hx hb hl dT_letOthersWait_40 rfl ?_
      refine q_aload_n hx hb hl dT_letOthersWait_41 rfl ?_
      refine tg_S C hw 6 l_T_123 (by decide) (by assumption) rfl dT_letOthersWait_42 ?_
      refine q_aload_n hx hb hl dT_letOthersWait_45 rfl ?_
      refine tg_S C hw 5 l_T_120 (by decide) (by assumption) rfl dT_letOthersWait_46 ?_
      refine va_mmax hx hb (C.2.2.1.trans hl.1.symm) C.2.2.2.1 (C.2.2.2.2.1 _ mx_1) (C.2.2.2.2.1 _ mx_2) (C.2.2.2.2.1 _ mx_3) (C.2.2.2.2.1 _ mx_4) (Nat.le_of_ble_eq_true rfl) (Nat.le_of_ble_eq_true rfl) (Nat.le_of_ble_eq_true rfl) (Nat.le_of_ble_eq_true rfl) dT_letOthersWait_49 ?_
      refine tp_S C hw 5 l_T_123 (by decide) (by assumption) (fun q => absurd q (by decide)) dT_letOthersWait_52 (fun H locs hw => ?_)
      refine q_inc hx hb hl dT_letOthersWait_55 rfl (by decide) (fun ls hl => ?_)
      refine lv_goto (tgt := 2) hx hb dT_letOthersWait_58 (by decide) ?_
      exact ih _ _ (by omega) (by rw [← he]; simp [tf_wt, tf_wt1, c_22, c_27]) _ _ _ hw (hl.drop 3)
  exact L2 N 0 σ (by omega) rfl _ _ _ hw hl
set_option maxHeartbeats 4000000 in
set_option maxRecDepth 100000 in
theorem c_goer (l : Launch) (hst : l.stackTraces = false) (D : va_G) (ct : Ct) (ad : Ad) (N : Nat) (hN : N ≤ 16) (σ : St) (sz : Nat) (h5 : ix N (σ 0 0 5)) : Kt l yT_findGoer cT_findGoer 2 (some .int) (r0 3) 0 0 D ct [.ref (ad 0 0)] sz (wT ct ad N σ) (fun v w => v = some (.int (tf_goA N σ)) ∧ w = wT ct ad N (tf_goS N σ)) (fun E w => False) := by
  refine kt_of hst (by decide) (Nat.le_of_ble_eq_true rfl) (by simp [Value.category]) ?_
  intro p e s m args below meth c A ls C hne hr hw hl Q hQ
  have hx := C.1
  have hb := C.2.1
  refine q_aload_n hx hb hl dT_findGoer_0 rfl ?_
  refine tg_T C hw 8 l_T_168 (by decide) rfl dT_findGoer_1 ?_
  refine lv_if_le (tgt := 29) hx hb dT_findGoer_4 (by decide) (fun c_4 => ?_) (fun c_4 => ?_)
  · refine q_aload_n hx hb hl dT_findGoer_29 rfl ?_
    refine tg_T C hw 7 l_T_13 (by decide) rfl dT_findGoer_30 ?_
    refine lv_iconst (v := -1) hx hb dT_findGoer_33 (by decide) ?_
    refine lv_icmp_eq (tgt := 57) hx hb dT_findGoer_34 (by decide) (fun c_34 => ?_) (fun c_34 => ?_)
    · refine q_aload_n hx hb hl dT_findGoer_57 rfl ?_
      refine tc_E (tc_V C hl (c_ch l hst D ct ad N hN σ _) hw.1 hw.2.1 hw.2.2 g_T_171 (re_T C hw) hv_T_choose rfl rfl ⟨(Nat.le_of_ble_eq_true rfl), (Nat.le_of_ble_eq_true rfl)⟩ (Nat.le_of_ble_eq_true rfl) ⟨(Nat.le_of_ble_eq_true rfl), (Nat.le_of_ble_eq_true rfl)⟩ dT_findGoer_58 rfl) C hw (fun E ce q9 w1 H locs hp hw h1 h2 h3 => ?_) (fun v w1 H locs hp hw => ?_)
      · exact hp.elim
      obtain ⟨rfl, rfl⟩ := hp
      dsimp only [Option.toList_some, Option.toList_none, List.cons_append, List.nil_append]
      refine q_istore_n hx hb hl dT_findGoer_61 (by decide) (fun ls hl => ?_)
      refine q_iload_n hx hb hl dT_findGoer_62 rfl ?_
      refine lv_iconst (v := -1) hx hb dT_findGoer_63 (by decide) ?_
      refine lv_icmp_ne (tgt := 79) hx hb dT_findGoer_64 (by decide) (fun c_64 => ?_) (fun c_64 => ?_)
      · refine q_iload_n hx hb hl dT_findGoer_79 rfl ?_
        refine q_aload_n hx hb hl dT_findGoer_80 rfl ?_
        refine tg_T C hw 6 l_T_9 (by decide) rfl dT_findGoer_81 ?_
        refine lv_icmp_eq (tgt := 102) hx hb dT_findGoer_84 (by decide) (fun c_84 => ?_) (fun c_84 => ?_)
        · refine q_iload_n hx hb hl dT_findGoer_102 rfl ?_
          exact tr_i hQ C hw hr (Nat.le_of_ble_eq_true rfl) (Nat.le_of_ble_eq_true rfl) dT_findGoer_103 ⟨by simp only [tf_goA, tf_tailA, if_pos c_4, if_pos c_34, if_neg c_64, if_pos c_84], by simp only [tf_goS, tf_tailS, if_pos c_4, if_pos c_34, if_neg c_64, if_pos c_84]⟩
        refine q_aload_n hx hb hl dT_findGoer_87 rfl ?_
        refine tg_T C hw 6 l_T_9 (by decide) rfl dT_findGoer_88 ?_
        refine lv_iconst (v := -1) hx hb dT_findGoer_91 (by decide) ?_
        refine lv_icmp_eq (tgt := 102) hx hb dT_findGoer_92 (by decide) (fun c_92 => ?_) (fun c_92 => ?_)
        · refine q_iload_n hx hb hl dT_findGoer_102 rfl ?_
          exact tr_i hQ C hw hr (Nat.le_of_ble_eq_true rfl) (Nat.le_of_ble_eq_true rfl) dT_findGoer_103 ⟨by simp only [tf_goA, tf_tailA, if_pos c_4, if_pos c_34, if_neg c_64, if_neg c_84, if_pos c_92], by simp only [tf_goS, tf_tailS, if_pos c_4, if_pos c_34, if_neg c_64, if_neg c_84, if_pos c_92]⟩
        refine q_aload_n hx hb hl dT_findGoer_95 rfl ?_
        refine tg_T C hw 4 l_T_50 (by decide) rfl dT_findGoer_96 ?_
        refine lv_if_ne (tgt := 104) hx hb dT_findGoer_99 (by decide) (fun c_99 => ?_) (fun c_99 => ?_)
        · obtain ⟨h8, h9⟩ := ix_cl hN (tf_chA_ix N σ) c_64
          refine q_aload_n hx hb hl dT_findGoer_104 rfl ?_
          refine q_iload_n hx hb hl dT_findGoer_105 rfl ?_
          refine tc_E (tc_V C hl (c_beg l hst D ct ad N hN (tf_chS N σ) _ _ h8 _ h9) hw.1 hw.2.1 hw.2.2 g_T_174 (re_T C hw) hv_T_beginChangeTo rfl rfl ⟨(Nat.le_of_ble_eq_true rfl), (Nat.le_of_ble_eq_true rfl)⟩ (Nat.le_of_ble_eq_true rfl) ⟨(Nat.le_of_ble_eq_true rfl), (Nat.le_of_ble_eq_true rfl)⟩ dT_findGoer_106 rfl) C hw (fun E ce q9 w1 H locs hp hw h1 h2 h3 => ?_) (fun v w1 H locs hp hw => ?_)
          · exact hp.elim
          obtain ⟨rfl, rfl⟩ := hp
          dsimp only [Option.toList_some, Option.toList_none, List.cons_append, List.nil_append]
          refine lv_iconst (v := -1) hx hb dT_findGoer_109 (by decide) ?_
          exact tr_i hQ C hw hr (Nat.le_of_ble_eq_true rfl) (Nat.le_of_ble_eq_true rfl) dT_findGoer_110 ⟨by simp only [tf_goA, tf_tailA, if_pos c_4, if_pos c_34, if_neg c_64, if_neg c_84, if_neg c_92, if_neg c_99], by simp only [tf_goS, tf_tailS, if_pos c_4, if_pos c_34, if_neg c_64, if_neg c_84, if_neg c_92, if_neg c_99]⟩
        refine q_iload_n hx hb hl dT_findGoer_102 rfl ?_
        exact tr_i hQ C hw hr (Nat.le_of_ble_eq_true rfl) (Nat.le_of_ble_eq_true rfl) dT_findGoer_103 ⟨by simp only [tf_goA, tf_tailA, if_pos c_4, if_pos c_34, if_neg c_64, if_neg c_84, if_neg c_92, if_pos c_99], by simp only [tf_goS, tf_tailS, if_pos c_4, if_pos c_34, if_neg c_64, if_neg c_84, if_neg c_92, if_pos c_99]⟩
      refine q_aload_n hx hb hl dT_findGoer_67 rfl ?_
      refine lv_dup hx hb dT_findGoer_68 rfl ?_
      refine tg_T C hw 11 l_T_144 (by decide) rfl dT_findGoer_69 ?_
      refine lv_iconst (v := 1) hx hb dT_findGoer_72 (by decide) ?_
      refine lv_iadd hx hb dT_findGoer_73 ?_
      refine tp_T C hw 9 l_T_144 (by decide) dT_findGoer_74 (fun H locs hw => ?_)
      refine lv_iconst (v := -1) hx hb dT_findGoer_77 (by decide) ?_
      exact tr_i hQ C hw hr (Nat.le_of_ble_eq_true rfl) (Nat.le_of_ble_eq_true rfl) dT_findGoer_78 ⟨by simp only [tf_goA, tf_tailA, if_pos c_4, if_pos c_34, if_pos c_64], by simp only [tf_goS, tf_tailS, if_pos c_4, if_pos c_34, if_pos c_64]⟩
    obtain ⟨h6, h7⟩ := ix_cl hN h5 c_34
    refine q_aload_n hx hb hl dT_findGoer_37 rfl ?_
    refine tg_T C hw 0 l_T_24 (by decide) rfl dT_findGoer_38 ?_
    refine q_aload_n hx hb hl dT_findGoer_41 rfl ?_
    refine tg_T C hw 7 l_T_13 (by decide) rfl dT_findGoer_42 ?_
    refine ta_S C hw hN h6 h7 dT_findGoer_45 ?_
    refine tg_S C hw 9 l_T_165 (by decide) (by assumption) rfl dT_findGoer_46 ?_
    refine lv_if_eq (tgt := 57) hx hb dT_findGoer_49 (by decide) (fun c_49 => ?_) (fun c_49 => ?_)
    · refine q_aload_n hx hb hl dT_findGoer_57 rfl ?_
      refine tc_E (tc_V C hl (c_ch l hst D ct ad N hN σ _) hw.1 hw.2.1 hw.2.2 g_T_171 (re_T C hw) hv_T_choose rfl rfl ⟨(Nat.le_of_ble_eq_true rfl), (Nat.le_of_ble_eq_true rfl)⟩ (Nat.le_of_ble_eq_true rfl) ⟨(Nat.le_of_ble_eq_true rfl), (Nat.le_of_ble_eq_true rfl)⟩ dT_findGoer_58 rfl) C hw (fun E ce q9 w1 H locs hp hw h1 h2 h3 => ?_) (fun v w1 H locs hp hw => ?_)
      · exact hp.elim
      obtain ⟨rfl, rfl⟩ := hp
      dsimp only [Option.toList_some, Option.toList_none, List.cons_append, List.nil_append]
      refine q_istore_n hx hb hl dT_findGoer_61 (by decide) (fun ls hl => ?_)
      refine q_iload_n hx hb hl dT_findGoer_62 rfl ?_
      refine lv_iconst (v := -1) hx hb dT_findGoer_63 (by decide) ?_
      refine lv_icmp_ne (tgt := 79) hx hb dT_findGoer_64 (by decide) (fun c_64 => ?_) (fun c_64 => ?_)
      · refine q_iload_n hx hb hl dT_findGoer_79 rfl ?_
        refine q_aload_n hx hb hl dT_findGoer_80 rfl ?_
        refine tg_T C hw 6 l_T_9 (by decide) rfl dT_findGoer_81 ?_
        refine lv_icmp_eq (tgt := 102) hx hb dT_findGoer_84 (by decide) (fun c_84 => ?_) (fun c_84 => ?_)
        · refine q_iload_n hx hb hl dT_findGoer_102 rfl ?_
          exact tr_i hQ C hw hr (Nat.le_of_ble_eq_true rfl) (Nat.le_of_ble_eq_true rfl) dT_findGoer_103 ⟨by simp only [tf_goA, tf_tailA, if_pos c_4, if_neg c_34, if_pos c_49, if_neg c_64, if_pos c_84], by simp only [tf_goS, tf_tailS, if_pos c_4, if_neg c_34, if_pos c_49, if_neg c_64, if_pos c_84]⟩
        refine q_aload_n hx hb hl dT_findGoer_87 rfl ?_
        refine tg_T C hw 6 l_T_9 (by decide) rfl dT_findGoer_88 ?_
        refine lv_iconst (v := -1) hx hb dT_findGoer_91 (by decide) ?_
        refine lv_icmp_eq (tgt := 102) hx hb dT_findGoer_92 (by decide) (fun c_92 => ?_) (fun c_92 => ?_)
        · refine q_iload_n hx hb hl dT_findGoer_102 rfl ?_
          exact tr_i hQ C hw hr (Nat.le_of_ble_eq_true rfl) (Nat.le_of_ble_eq_true rfl) dT_findGoer_103 ⟨by simp only [tf_goA, tf_tailA, if_pos c_4, if_neg c_34, if_pos c_49, if_neg c_64, if_neg c_84, if_pos c_92], by simp only [tf_goS, tf_tailS, if_pos c_4, if_neg c_34, if_pos c_49, if_neg c_64, if_neg c_84, if_pos c_92]⟩
        refine q_aload_n hx hb hl dT_findGoer_95 rfl ?_
        refine tg_T C hw 4 l_T_50 (by decide) rfl dT_findGoer_96 ?_
        refine lv_if_ne (tgt := 104) hx hb dT_findGoer_99 (by decide) (fun c_99 => ?_) (fun c_99 => ?_)
        · obtain ⟨h8, h9⟩ := ix_cl hN (tf_chA_ix N σ) c_64
          refine q_aload_n hx hb hl dT_findGoer_104 rfl ?_
          refine q_iload_n hx hb hl dT_findGoer_105 rfl ?_
          refine tc_E (tc_V C hl (c_beg l hst D ct ad N hN (tf_chS N σ) _ _ h8 _ h9) hw.1 hw.2.1 hw.2.2 g_T_174 (re_T C hw) hv_T_beginChangeTo rfl rfl ⟨(Nat.le_of_ble_eq_true rfl), (Nat.le_of_ble_eq_true rfl)⟩ (Nat.le_of_ble_eq_true rfl) ⟨(Nat.le_of_ble_eq_true rfl), (Nat.le_of_ble_eq_true rfl)⟩ dT_findGoer_106 rfl) C hw (fun E ce q9 w1 H locs hp hw h1 h2 h3 => ?_) (fun v w1 H locs hp hw => ?_)
          · exact hp.elim
          obtain ⟨rfl, rfl⟩ := hp
          dsimp only [Option.toList_some, Option.toList_none, List.cons_append, List.nil_append]
          refine lv_iconst (v := -1) hx hb dT_findGoer_109 (by decide) ?_
          exact tr_i hQ C hw hr (Nat.le_of_ble_eq_true rfl) (Nat.le_of_ble_eq_true rfl) dT_findGoer_110 ⟨by simp only [tf_goA, tf_tailA, if_pos c_4, if_neg c_34, if_pos c_49, if_neg c_64, if_neg c_84, if_neg c_92, if_neg c_99], by simp only [tf_goS, tf_tailS, if_pos c_4, if_neg c_34, if_pos c_49, if_neg c_64, if_neg c_84, if_neg c_92, if_neg c_99]⟩
        refine q_iload_n hx hb hl dT_findGoer_102 rfl ?_
        exact tr_i hQ C hw hr (Nat.le_of_ble_eq_true rfl) (Nat.le_of_ble_eq_true rfl) dT_findGoer_103 ⟨by simp only [tf_goA, tf_tailA, if_pos c_4, if_neg c_34, if_pos c_49, if_neg c_64, if_neg c_84, if_neg c_92, if_pos c_99], by simp only [tf_goS, tf_tailS, if_pos c_4, if_neg c_34, if_pos c_49, if_neg c_64, if_neg c_84, if_neg c_92, if_pos c_99]⟩
      refine q_aload_n hx hb hl dT_findGoer_67 rfl ?_
      refine lv_dup hx hb dT_findGoer_68 rfl ?_
      refine tg_T C hw 11 l_T_144 (by decide) rfl dT_findGoer_69 ?_
      refine lv_iconst (v := 1) hx hb dT_findGoer_72 (by decide) ?_
      refine lv_iadd hx hb dT_findGoer_73 ?_
      refine tp_T C hw 9 l_T_144 (by decide) dT_findGoer_74 (fun H locs hw => ?_)
      refine lv_iconst (v := -1) hx hb dT_findGoer_77 (by decide) ?_
      exact tr_i hQ C hw hr (Nat.le_of_ble_eq_true rfl) (Nat.le_of_ble_eq_true rfl) dT_findGoer_78 ⟨by simp only [tf_goA, tf_tailA, if_pos c_4, if_neg c_34, if_pos c_49, if_pos c_64], by simp only [tf_goS, tf_tailS, if_pos c_4, if_neg c_34, if_pos c_49, if_pos c_64]⟩
    refine q_aload_n hx hb hl dT_findGoer_52 rfl ?_
    refine tg_T C hw 7 l_T_13 (by decide) rfl dT_findGoer_53 ?_
    exact tr_i hQ C hw hr (Nat.le_of_ble_eq_true rfl) (Nat.le_of_ble_eq_true rfl) dT_findGoer_56 ⟨by simp only [tf_goA, if_pos c_4, if_neg c_34, if_neg c_49], by simp only [tf_goS, if_pos c_4, if_neg c_34, if_neg c_49]⟩
  refine q_aload_n hx hb hl dT_findGoer_7 rfl ?_
  refine lv_dup hx hb dT_findGoer_8 rfl ?_
  refine tg_T C hw 8 l_T_168 (by decide) rfl dT_findGoer_9 ?_
  refine lv_iconst (v := 1) hx hb dT_findGoer_12 (by decide) ?_
  refine lv_isub hx hb dT_findGoer_13 ?_
  refine tp_T C hw 6 l_T_168 (by decide) dT_findGoer_14 (fun H locs hw => ?_)
  refine q_aload_n hx hb hl dT_findGoer_17 rfl ?_
  refine lv_dup hx hb dT_findGoer_18 rfl ?_
  refine tg_T C hw 12 l_T_147 (by decide) rfl dT_findGoer_19 ?_
  refine lv_iconst (v := 1) hx hb dT_findGoer_22 (by decide) ?_
  refine lv_iadd hx hb dT_findGoer_23 ?_
  refine tp_T C hw 10 l_T_147 (by decide) dT_findGoer_24 (fun H locs hw => ?_)
  refine lv_iconst (v := -1) hx hb dT_findGoer_27 (by decide) ?_
  exact tr_i hQ C hw hr (Nat.le_of_ble_eq_true rfl) (Nat.le_of_ble_eq_true rfl) dT_findGoer_28 ⟨by simp only [tf_goA, if_neg c_4], by simp only [tf_goS, if_neg c_4]⟩
set_option maxHeartbeats 4000000 in
set_option maxRecDepth 100000 in
theorem c_play (l : Launch) (hst : l.stackTraces = false) (D : va_G) (ct : Ct) (ad : Ad) (N : Nat) (hN : N ≤ 16) (σ : St) (sz : Nat) (h5 : ix N (σ 0 0 5)) : Kt l yT_playCycle cT_playCycle 2 (some .int) (r0 4) 0 0 D ct [.ref (ad 0 0)] sz (wT ct ad N σ) (fun v w => v = some (.int (tf_plA N σ)) ∧ w = wT ct ad N (tf_plS N σ)) (fun E w => False) := by
  refine kt_of hst (by decide) (Nat.le_of_ble_eq_true rfl) (by simp [Value.category]) ?_
  intro p e s m args below meth c A ls C hne hr hw hl Q hQ
  have hx := C.1
  have hb := C.2.1
  refine q_aload_n hx hb hl dT_playCycle_0 rfl ?_
  refine lv_dup hx hb dT_playCycle_1 rfl ?_
  refine tg_T C hw 9 l_T_141 (by decide) rfl dT_playCycle_2 ?_
  refine lv_iconst (v := 1) hx hb dT_playCycle_5 (by decide) ?_
  refine lv_iadd hx hb dT_playCycle_6 ?_
  refine tp_T C hw 7 l_T_141 (by decide) dT_playCycle_7 (fun H locs hw => ?_)
  refine q_aload_n hx hb hl dT_playCycle_10 rfl ?_
  refine tc_E (tc_V C hl (c_see l hst D ct ad N hN (su σ 0 0 7 (σ 0 0 7 + 1)) _) hw.1 hw.2.1 hw.2.2 g_T_153 (re_T C hw) hv_T_seeWhoCanGo rfl rfl ⟨(Nat.le_of_ble_eq_true rfl), (Nat.le_of_ble_eq_true rfl)⟩ (Nat.le_of_ble_eq_true rfl) ⟨(Nat.le_of_ble_eq_true rfl), (Nat.le_of_ble_eq_true rfl)⟩ dT_playCycle_11 rfl) C hw (fun E ce q9 w1 H locs hp hw h1 h2 h3 => ?_) (fun v w1 H locs hp hw => ?_)
  · exact hp.elim
  obtain ⟨rfl, rfl⟩ := hp
  dsimp only [Option.toList_some, Option.toList_none, List.cons_append, List.nil_append]
  refine q_aload_n hx hb hl dT_playCycle_14 rfl ?_
  refine tc_E (tc_V C hl (c_goer l hst D ct ad N hN (tf_p1 N σ) _ (p1_5 h5)) hw.1 hw.2.1 hw.2.2 g_T_156 (re_T C hw) hv_T_findGoer rfl rfl ⟨(Nat.le_of_ble_eq_true rfl), (Nat.le_of_ble_eq_true rfl)⟩ (Nat.le_of_ble_eq_true rfl) ⟨(Nat.le_of_ble_eq_true rfl), (Nat.le_of_ble_eq_true rfl)⟩ dT_playCycle_15 rfl) C hw (fun E ce q9 w1 H locs hp hw h1 h2 h3 => ?_) (fun v w1 H locs hp hw => ?_)
  · exact hp.elim
  obtain ⟨rfl, rfl⟩ := hp
  dsimp only [Option.toList_some, Option.toList_none, List.cons_append, List.nil_append]
  refine q_istore_n hx hb hl dT_playCycle_18 (by decide) (fun ls hl => ?_)
  refine q_aload_n hx hb hl dT_playCycle_19 rfl ?_
  refine q_iload_n hx hb hl dT_playCycle_20 rfl ?_
  refine tc_E (tc_V C hl (c_wait l hst D ct ad N hN (tf_goS N (tf_p1 N σ)) _ (tf_plA N σ)) hw.1 hw.2.1 hw.2.2 g_T_159 (re_T C hw) hv_T_letOthersWait rfl rfl ⟨(Nat.le_of_ble_eq_true rfl), (Nat.le_of_ble_eq_true rfl)⟩ (Nat.le_of_ble_eq_true rfl) ⟨(Nat.le_of_ble_eq_true rfl), (Nat.le_of_ble_eq_true rfl)⟩ dT_playCycle_21 rfl) C hw (fun E ce q9 w1 H locs hp hw h1 h2 h3 => ?_) (fun v w1 H locs hp hw => ?_)
  · exact hp.elim
  obtain ⟨rfl, rfl⟩ := hp
  dsimp only [Option.toList_some, Option.toList_none, List.cons_append, List.nil_append]
  refine q_iload_n hx hb hl dT_playCycle_24 rfl ?_
  refine lv_iconst (v := -1) hx hb dT_playCycle_25 (by decide) ?_
  refine lv_icmp_eq (tgt := 34) hx hb dT_playCycle_26 (by decide) (fun c_26 => ?_) (fun c_26 => ?_)
  · refine q_iload_n hx hb hl dT_playCycle_34 rfl ?_
    exact tr_i hQ C hw hr (Nat.le_of_ble_eq_true rfl) (Nat.le_of_ble_eq_true rfl) dT_playCycle_35 ⟨rfl, by simp [tf_plS, tf_plA, c_26]⟩
  obtain ⟨h8, h9⟩ := ix_cl hN (tf_goA_ix N (tf_p1 N σ) (p1_5 h5)) c_26
  refine q_aload_n hx hb hl dT_playCycle_29 rfl ?_
  refine q_iload_n hx hb hl dT_playCycle_30 rfl ?_
  refine tc_E (tc_V C hl (c_let l hst D ct ad N hN _ _ _ h8 _ h9) hw.1 hw.2.1 hw.2.2 g_T_162 (re_T C hw) hv_T_letGo rfl rfl ⟨(Nat.le_of_ble_eq_true rfl), (Nat.le_of_ble_eq_true rfl)⟩ (Nat.le_of_ble_eq_true rfl) ⟨(Nat.le_of_ble_eq_true rfl), (Nat.le_of_ble_eq_true rfl)⟩ dT_playCycle_31 rfl) C hw (fun E ce q9 w1 H locs hp hw h1 h2 h3 => ?_) (fun v w1 H locs hp hw => ?_)
  · exact hp.elim
  obtain ⟨rfl, rfl⟩ := hp
  dsimp only [Option.toList_some, Option.toList_none, List.cons_append, List.nil_append]
  refine q_iload_n hx hb hl dT_playCycle_34 rfl ?_
  exact tr_i hQ C hw hr (Nat.le_of_ble_eq_true rfl) (Nat.le_of_ble_eq_true rfl) dT_playCycle_35 ⟨rfl, by simp [tf_plS, tf_plA, c_26]⟩
set_option maxHeartbeats 4000000 in
set_option maxRecDepth 100000 in
theorem c_cyc (l : Launch) (hst : l.stackTraces = false) (D : va_G) (ct : Ct) (ad : Ad) (N : Nat) (hN : N ≤ 16) (σ : St) (sz : Nat) (h5 : ix N (σ 0 0 5)) : Kt l yT_cycle cT_cycle 1 (some .int) (r0 5) 0 0 D ct [.ref (ad 0 0)] sz (wT ct ad N σ) (fun v w => v = some (.int (tf_plA N σ)) ∧ w = wT ct ad N (tf_plS N σ)) (fun E w => False) := by
  refine kt_of hst (by decide) (Nat.le_of_ble_eq_true rfl) (by simp [Value.category]) ?_
  intro p e s m args below meth c A ls C hne hr hw hl Q hQ
  have hx := C.1
  have hb := C.2.1
  refine q_aload_n hx hb hl dT_cycle_0 rfl ?_
  refine tc_E (tc_V C hl (c_play l hst D ct ad N hN σ _ h5) hw.1 hw.2.1 hw.2.2 g_T_71 (re_T C hw) hv_T_playCycle rfl rfl ⟨(Nat.le_of_ble_eq_true rfl), (Nat.le_of_ble_eq_true rfl)⟩ (Nat.le_of_ble_eq_true rfl) ⟨(Nat.le_of_ble_eq_true rfl), (Nat.le_of_ble_eq_true rfl)⟩ dT_cycle_1 rfl) C hw (fun E ce q9 w1 H locs hp hw h1 h2 h3 => ?_) (fun v w1 H locs hp hw => ?_)
  · exact hp.elim
  obtain ⟨rfl, rfl⟩ := hp
  dsimp only [Option.toList_some, Option.toList_none, List.cons_append, List.nil_append]
  exact tr_i hQ C hw hr (Nat.le_of_ble_eq_true rfl) (Nat.le_of_ble_eq_true rfl) dT_cycle_4 ⟨rfl, rfl⟩
