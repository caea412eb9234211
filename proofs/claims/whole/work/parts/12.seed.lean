set_option maxHeartbeats 4000000 in
set_option maxRecDepth 100000 in
theorem c_seed (l : Launch) (hst : l.stackTraces = false) (D : va_G) (ct : Ct) (ad : Ad) (N : Nat) (hN : N ≤ 16) (σ : St) (sz : Nat) (top : Int32) : Kt l yT_findBySeed cT_findBySeed 5 (some .int) (r0 1) 0 0 D ct [.ref (ad 0 0), .int top] sz (wT ct ad N σ) (fun v w => v = some (.int (tf_seedA N top σ)) ∧ w = wT ct ad N (tf_seedS N top σ)) (fun E w => False) := by
  refine kt_of hst (by decide) (Nat.le_of_ble_eq_true rfl) (by simp [Value.category]) ?_
  intro p e s m args below meth c A ls C hne hr hw hl Q hQ
  have hx := C.1
  have hb := C.2.1
  refine lv_iconst (v := 0) hx hb dT_findBySeed_0 (by decide) ?_
  refine q_istore_n hx hb hl dT_findBySeed_1 (by decide) (fun ls hl => ?_)
  refine lv_iconst (v := 0) hx hb dT_findBySeed_2 (by decide) ?_
  refine q_istore_n hx hb hl dT_findBySeed_3 (by decide) (fun ls hl => ?_)
  have L4 : ∀ (n : Nat) (t : Nat) (k : Int32), t + n = N → tf_cnt σ top n t k = tf_cnt σ top N 0 0 → ∀ (H : Heap) (locs : List Loc) (ls : Array Slot), wl D A s (wT ct ad N σ) H locs → lq ls 5 [some (.ref (ad 0 0)), some (.int top), some (.int k), some (.int (nI t)), none] → W p l e (r0 1) s m args below meth c H locs 0 0 Q (F0 m 4 ls []) := by
    intro n
    induction n with
    | zero =>
      intro t k hn he H locs ls hw hl
      refine q_iload_n hx hb hl dT_findBySeed_4 rfl ?_
      refine q_aload_n hx hb hl dT_findBySeed_5 rfl ?_
      refine tg_T C hw 0 l_T_24 (by decide) rfl dT_findBySeed_6 ?_
      refine ta_lenS C hw dT_findBySeed_9 ?_
      refine lv_icmp_ge (tgt := 36) hx hb dT_findBySeed_10 (by decide) (fun c_10 => ?_) (fun q9 => absurd (nI_le (by omega) (by omega)) q9)
      have he2 : k = tf_cnt σ top N 0 0 := he
      refine q_iload_n hx hb hl dT_findBySeed_36 rfl ?_
      refine lv_if_ne (tgt := 42) hx hb dT_findBySeed_37 (by decide) (fun c_37 => ?_) (fun c_37 => ?_)
      · refine q_aload_n hx hb hl dT_findBySeed_42 rfl ?_
        refine lv_ldc hx hb C.2.2.2.1 (C.2.2.2.2.1 _ k_T_199) dT_findBySeed_43 ?_
        refine q_aload_n hx hb hl dT_findBySeed_45 rfl ?_
        refine tg_T C hw 5 l_T_37 (by decide) rfl dT_findBySeed_46 ?_
        refine lv_imul hx hb dT_findBySeed_49 ?_
        refine lv_sipush (v := 12345) hx hb dT_findBySeed_50 (by decide) ?_
        refine lv_iadd hx hb dT_findBySeed_53 ?_
        refine lv_ldc hx hb C.2.2.2.1 (C.2.2.2.2.1 _ k_T_36) dT_findBySeed_54 ?_
        refine lv_iand hx hb dT_findBySeed_56 ?_
        refine tp_T C hw 3 l_T_37 (by decide) dT_findBySeed_57 (fun H locs hw => ?_)
        refine q_aload_n hx hb hl dT_findBySeed_60 rfl ?_
        refine tg_T C hw 5 l_T_37 (by decide) rfl dT_findBySeed_61 ?_
        refine lv_ldc hx hb C.2.2.2.1 (C.2.2.2.2.1 _ k_T_200) dT_findBySeed_64 ?_
        refine lv_idiv hx hb dT_findBySeed_66 (by decide) ?_
        refine q_iload_n hx hb hl dT_findBySeed_67 rfl ?_
        refine lv_irem hx hb dT_findBySeed_68 (by assumption) ?_
        refine q_istore_n hx hb hl dT_findBySeed_69 (by decide) (fun ls hl => ?_)
        refine lv_iconst (v := 0) hx hb dT_findBySeed_70 (by decide) ?_
        refine q_istore hx hb hl dT_findBySeed_71 (by decide) (fun ls hl => ?_)
        have L73 : ∀ (n : Nat) (t : Nat) (j : Int32), t + n = N → tf_pick (su σ 0 0 3 (tf_x σ)) top n t j = tf_pick (su σ 0 0 3 (tf_x σ)) top N 0 (tf_x σ / 65536 - tf_x σ / 65536 / k * k) → ∀ (H : Heap) (locs : List Loc) (ls : Array Slot), wl D A s (wT ct ad N (su σ 0 0 3 (tf_x σ))) H locs → lq ls 5 [some (.ref (ad 0 0)), some (.int top), some (.int k), some (.int j), some (.int (nI t))] → W p l e (r0 1) s m args below meth c H locs 0 0 Q (F0 m 73 ls []) := by
          intro n
          induction n with
          | zero =>
            intro t j hn he3 H locs ls hw hl
            refine q_iload hx hb hl dT_findBySeed_73 rfl ?_
            refine q_aload_n hx hb hl dT_findBySeed_75 rfl ?_
            refine tg_T C hw 0 l_T_24 (by decide) rfl dT_findBySeed_76 ?_
            refine ta_lenS C hw dT_findBySeed_79 ?_
            refine lv_icmp_ge (tgt := 114) hx hb dT_findBySeed_80 (by decide) (fun c_80 => ?_) (fun q9 => absurd (nI_le (by omega) (by omega)) q9)
            refine lv_iconst (v := -1) hx hb dT_findBySeed_114 (by decide) ?_
            exact tr_i hQ C hw hr (Nat.le_of_ble_eq_true rfl) (Nat.le_of_ble_eq_true rfl) dT_findBySeed_115 ⟨by rw [tf_seedA, ← he2, if_neg c_37, ← he3]; rfl, by rw [tf_seedS, ← he2, if_neg c_37]⟩
          | succ n ih =>
            intro t j hn he3 H locs ls hw hl
            have ht : t < N := by omega
            refine q_iload hx hb hl dT_findBySeed_73 rfl ?_
            refine q_aload_n hx hb hl dT_findBySeed_75 rfl ?_
            refine tg_T C hw 0 l_T_24 (by decide) rfl dT_findBySeed_76 ?_
            refine ta_lenS C hw dT_findBySeed_79 ?_
            refine lv_icmp_ge (tgt := 114) hx hb dT_findBySeed_80 (by decide) (fun q9 => absurd q9 (nI_ge ht (by omega))) (fun c_80 => ?_)
            refine q_aload_n hx hb hl dT_findBySeed_83 rfl ?_
            refine q_aload_n hx hb hl dT_findBySeed_84 rfl ?_
            refine tg_T C hw 0 l_T_24 (by decide) rfl dT_findBySeed_85 ?_
            refine q_iload hx hb hl dT_findBySeed_88 rfl ?_
            refine ta_S C hw hN (by assumption) rfl dT_findBySeed_90 ?_
            refine q_iload_n hx hb hl dT_findBySeed_91 rfl ?_
            refine tc_E (tc_V C hl (c_cand l hst D ct ad N hN (su σ 0 0 3 (tf_x σ)) _ t ht top) hw.1 hw.2.1 hw.2.2 g_T_195 (re_T C hw) hv_T_isCandidate rfl rfl ⟨(Nat.le_of_ble_eq_true rfl), (Nat.le_of_ble_eq_true rfl)⟩ (Nat.le_of_ble_eq_true rfl) ⟨(Nat.le_of_ble_eq_true rfl), (Nat.le_of_ble_eq_true rfl)⟩ dT_findBySeed_92 rfl) C hw (fun E ce q9 w1 H locs hp hw h1 h2 h3 => ?_) (fun v w1 H locs hp hw => ?_)
            · exact hp.elim
            obtain ⟨rfl, rfl⟩ := hp
            dsimp only [Option.toList_some, Option.toList_none, List.cons_append, List.nil_append]
            refine lv_if_eq (tgt := 108) hx hb dT_findBySeed_95 (by decide) (fun c_95 => ?_) (fun c_95 => ?_)
            · refine q_inc hx hb hl dT_findBySeed_108 rfl (by decide) (fun ls hl => ?_)
              refine lv_goto (tgt := 73) hx hb dT_findBySeed_111 (by decide) ?_
              exact ih _ _ (by omega) (by rw [← he3]; simp [tf_pick, c_95]) _ _ _ hw hl
            refine q_iload_n hx hb hl dT_findBySeed_98 rfl ?_
            refine lv_if_ne (tgt := 105) hx hb dT_findBySeed_99 (by decide) (fun c_99 => ?_) (fun c_99 => ?_)
            · refine q_iinc hx hb hl dT_findBySeed_105 rfl rfl (by decide) (fun ls hl => ?_)
              refine q_inc hx hb hl dT_findBySeed_108 rfl (by decide) (fun ls hl => ?_)
              refine lv_goto (tgt := 73) hx hb dT_findBySeed_111 (by decide) ?_
              exact ih _ _ (by omega) (by rw [← he3]; simp [tf_pick, c_95, c_99]) _ _ _ hw hl
            refine q_iload hx hb hl dT_findBySeed_102 rfl ?_
            exact tr_i hQ C hw hr (Nat.le_of_ble_eq_true rfl) (Nat.le_of_ble_eq_true rfl) dT_findBySeed_104 ⟨by rw [tf_seedA, ← he2, if_neg c_37, ← he3]; simp [tf_pick, c_95, c_99], by rw [tf_seedS, ← he2, if_neg c_37]⟩
        exact L73 N 0 _ (by omega) rfl _ _ _ hw hl
      refine lv_iconst (v := -1) hx hb dT_findBySeed_40 (by decide) ?_
      exact tr_i hQ C hw hr (Nat.le_of_ble_eq_true rfl) (Nat.le_of_ble_eq_true rfl) dT_findBySeed_41 ⟨by rw [tf_seedA, ← he2, if_pos c_37], by rw [tf_seedS, ← he2, if_pos c_37]⟩
    | succ n ih =>
      intro t k hn he H locs ls hw hl
      have ht : t < N := by omega
      refine q_iload_n hx hb hl dT_findBySeed_4 rfl ?_
      refine q_aload_n hx hb hl dT_findBySeed_5 rfl ?_
      refine tg_T C hw 0 l_T_24 (by decide) rfl dT_findBySeed_6 ?_
      refine ta_lenS C hw dT_findBySeed_9 ?_
      refine lv_icmp_ge (tgt := 36) hx hb dT_findBySeed_10 (by decide) (fun q9 => absurd q9 (nI_ge ht (by omega))) (fun c_10 => ?_)
      refine q_aload_n hx hb hl dT_findBySeed_13 rfl ?_
      refine q_aload_n hx hb hl dT_findBySeed_14 rfl ?_
      refine tg_T C hw 0 l_T_24 (by decide) rfl dT_findBySeed_15 ?_
      refine q_iload_n hx hb hl dT_findBySeed_18 rfl ?_
      refine ta_S C hw hN (by assumption) rfl dT_findBySeed_19 ?_
      refine q_iload_n hx hb hl dT_findBySeed_20 rfl ?_
      refine tc_E (tc_V C hl (c_cand l hst D ct ad N hN σ _ t ht top) hw.1 hw.2.1 hw.2.2 g_T_195 (re_T C hw) hv_T_isCandidate rfl rfl ⟨(Nat.le_of_ble_eq_true rfl), (Nat.le_of_ble_eq_true rfl)⟩ (Nat.le_of_ble_eq_true rfl) ⟨(Nat.le_of_ble_eq_true rfl), (Nat.le_of_ble_eq_true rfl)⟩ dT_findBySeed_21 rfl) C hw (fun E ce q9 w1 H locs hp hw h1 h2 h3 => ?_) (fun v w1 H locs hp hw => ?_)
      · exact hp.elim
      obtain ⟨rfl, rfl⟩ := hp
      dsimp only [Option.toList_some, Option.toList_none, List.cons_append, List.nil_append]
      refine lv_if_eq (tgt := 30) hx hb dT_findBySeed_24 (by decide) (fun c_24 => ?_) (fun c_24 => ?_)
      · refine q_inc hx hb hl dT_findBySeed_30 rfl (by decide) (fun ls hl => ?_)
        refine lv_goto (tgt := 4) hx hb dT_findBySeed_33 (by decide) ?_
        exact ih _ _ (by omega) (by rw [← he]; simp [tf_cnt, c_24]) _ _ _ hw hl
      refine q_iinc hx hb hl dT_findBySeed_27 rfl rfl (by decide) (fun ls hl => ?_)
      refine q_inc hx hb hl dT_findBySeed_30 rfl (by decide) (fun ls hl => ?_)
      refine lv_goto (tgt := 4) hx hb dT_findBySeed_33 (by decide) ?_
      exact ih _ _ (by omega) (by rw [← he]; simp [tf_cnt, c_24]) _ _ _ hw hl
  exact L4 N 0 _ (by omega) rfl _ _ _ hw hl
set_option maxHeartbeats 4000000 in
set_option maxRecDepth 100000 in
theorem c_ch (l : Launch) (hst : l.stackTraces = false) (D : va_G) (ct : Ct) (ad : Ad) (N : Nat) (hN : N ≤ 16) (σ : St) (sz : Nat) : Kt l yT_choose cT_choose 3 (some .int) (r0 2) 0 0 D ct [.ref (ad 0 0)] sz (wT ct ad N σ) (fun v w => v = some (.int (tf_chA N σ)) ∧ w = wT ct ad N (tf_chS N σ)) (fun E w => False) := by
  refine kt_of hst (by decide) (Nat.le_of_ble_eq_true rfl) (by simp [Value.category]) ?_
  intro p e s m args below meth c A ls C hne hr hw hl Q hQ
  have hx := C.1
  have hb := C.2.1
  refine q_aload_n hx hb hl dT_choose_0 rfl ?_
  refine tc_E (tc_V C hl (c_over l hst D ct ad N hN σ _) hw.1 hw.2.1 hw.2.2 g_T_180 (re_T C hw) hv_T_findOverdue rfl rfl ⟨(Nat.le_of_ble_eq_true rfl), (Nat.le_of_ble_eq_true rfl)⟩ (Nat.le_of_ble_eq_true rfl) ⟨(Nat.le_of_ble_eq_true rfl), (Nat.le_of_ble_eq_true rfl)⟩ dT_choose_1 rfl) C hw (fun E ce q9 w1 H locs hp hw h1 h2 h3 => ?_) (fun v w1 H locs hp hw => ?_)
  · exact hp.elim
  obtain ⟨rfl, rfl⟩ := hp
  dsimp only [Option.toList_some, Option.toList_none, List.cons_append, List.nil_append]
  refine q_istore_n hx hb hl dT_choose_4 (by decide) (fun ls hl => ?_)
  refine q_iload_n hx hb hl dT_choose_5 rfl ?_
  refine lv_iconst (v := -1) hx hb dT_choose_6 (by decide) ?_
  refine lv_icmp_eq (tgt := 12) hx hb dT_choose_7 (by decide) (fun c_7 => ?_) (fun c_7 => ?_)
  · refine q_aload_n hx hb hl dT_choose_12 rfl ?_
    refine tc_E (tc_V C hl (c_top l hst D ct ad N hN σ _) hw.1 hw.2.1 hw.2.2 g_T_183 (re_T C hw) hv_T_greatestRank rfl rfl ⟨(Nat.le_of_ble_eq_true rfl), (Nat.le_of_ble_eq_true rfl)⟩ (Nat.le_of_ble_eq_true rfl) ⟨(Nat.le_of_ble_eq_true rfl), (Nat.le_of_ble_eq_true rfl)⟩ dT_choose_13 rfl) C hw (fun E ce q9 w1 H locs hp hw h1 h2 h3 => ?_) (fun v w1 H locs hp hw => ?_)
    · exact hp.elim
    obtain ⟨rfl, rfl⟩ := hp
    dsimp only [Option.toList_some, Option.toList_none, List.cons_append, List.nil_append]
    refine q_istore_n hx hb hl dT_choose_16 (by decide) (fun ls hl => ?_)
    refine q_iload_n hx hb hl dT_choose_17 rfl ?_
    refine lv_iconst (v := -1) hx hb dT_choose_18 (by decide) ?_
    refine lv_icmp_ne (tgt := 24) hx hb dT_choose_19 (by decide) (fun c_19 => ?_) (fun c_19 => ?_)
    · refine q_aload_n hx hb hl dT_choose_24 rfl ?_
      refine tg_T C hw 2 l_T_44 (by decide) rfl dT_choose_25 ?_
      rcases sw3 (σ 0 0 0) with h | h | h | h
      · refine lv_tableIn (tgt := 56) hx hb dT_choose_28 (by rw [h]; decide) (by rw [h]; decide) (by rw [h]; rfl) (by decide) ?_
        refine q_aload_n hx hb hl dT_choose_56 rfl ?_
        refine q_iload_n hx hb hl dT_choose_57 rfl ?_
        refine tc_E (tc_V C hl (c_few l hst D ct ad N hN σ _ (tf_top σ N 0 (-1))) hw.1 hw.2.1 hw.2.2 g_T_186 (re_T C hw) hv_T_findFewest rfl rfl ⟨(Nat.le_of_ble_eq_true rfl), (Nat.le_of_ble_eq_true rfl)⟩ (Nat.le_of_ble_eq_true rfl) ⟨(Nat.le_of_ble_eq_true rfl), (Nat.le_of_ble_eq_true rfl)⟩ dT_choose_58 rfl) C hw (fun E ce q9 w1 H locs hp hw h1 h2 h3 => ?_) (fun v w1 H locs hp hw => ?_)
        · exact hp.elim
        obtain ⟨rfl, rfl⟩ := hp
        dsimp only [Option.toList_some, Option.toList_none, List.cons_append, List.nil_append]
        exact tr_i hQ C hw hr (Nat.le_of_ble_eq_true rfl) (Nat.le_of_ble_eq_true rfl) dT_choose_61 ⟨by simp [tf_chA, h, c_7, c_19], by simp [tf_chS, h, c_7, c_19]⟩
      · refine lv_tableIn (tgt := 56) hx hb dT_choose_28 (by rw [h]; decide) (by rw [h]; decide) (by rw [h]; rfl) (by decide) ?_
        refine q_aload_n hx hb hl dT_choose_56 rfl ?_
        refine q_iload_n hx hb hl dT_choose_57 rfl ?_
        refine tc_E (tc_V C hl (c_few l hst D ct ad N hN σ _ (tf_top σ N 0 (-1))) hw.1 hw.2.1 hw.2.2 g_T_186 (re_T C hw) hv_T_findFewest rfl rfl ⟨(Nat.le_of_ble_eq_true rfl), (Nat.le_of_ble_eq_true rfl)⟩ (Nat.le_of_ble_eq_true rfl) ⟨(Nat.le_of_ble_eq_true rfl), (Nat.le_of_ble_eq_true rfl)⟩ dT_choose_58 rfl) C hw (fun E ce q9 w1 H locs hp hw h1 h2 h3 => ?_) (fun v w1 H locs hp hw => ?_)
        · exact hp.elim
        obtain ⟨rfl, rfl⟩ := hp
        dsimp only [Option.toList_some, Option.toList_none, List.cons_append, List.nil_append]
        exact tr_i hQ C hw hr (Nat.le_of_ble_eq_true rfl) (Nat.le_of_ble_eq_true rfl) dT_choose_61 ⟨by simp [tf_chA, h, c_7, c_19], by simp [tf_chS, h, c_7, c_19]⟩
      · refine lv_tableIn (tgt := 62) hx hb dT_choose_28 (by rw [h]; decide) (by rw [h]; decide) (by rw [h]; rfl) (by decide) ?_
        refine q_aload_n hx hb hl dT_choose_62 rfl ?_
        refine q_iload_n hx hb hl dT_choose_63 rfl ?_
        refine tc_E (tc_V C hl (c_seed l hst D ct ad N hN σ _ (tf_top σ N 0 (-1))) hw.1 hw.2.1 hw.2.2 g_T_189 (re_T C hw) hv_T_findBySeed rfl rfl ⟨(Nat.le_of_ble_eq_true rfl), (Nat.le_of_ble_eq_true rfl)⟩ (Nat.le_of_ble_eq_true rfl) ⟨(Nat.le_of_ble_eq_true rfl), (Nat.le_of_ble_eq_true rfl)⟩ dT_choose_64 rfl) C hw (fun E ce q9 w1 H locs hp hw h1 h2 h3 => ?_) (fun v w1 H locs hp hw => ?_)
        · exact hp.elim
        obtain ⟨rfl, rfl⟩ := hp
        dsimp only [Option.toList_some, Option.toList_none, List.cons_append, List.nil_append]
        exact tr_i hQ C hw hr (Nat.le_of_ble_eq_true rfl) (Nat.le_of_ble_eq_true rfl) dT_choose_67 ⟨by simp [tf_chA, h, c_7, c_19], by simp [tf_chS, h, c_7, c_19]⟩
      · refine lv_tableOut (tgt := 68) hx hb dT_choose_28 h.2 (by decide) ?_
        refine q_aload_n hx hb hl dT_choose_68 rfl ?_
        refine q_iload_n hx hb hl dT_choose_69 rfl ?_
        refine tc_E (tc_V C hl (c_next l hst D ct ad N hN σ _ (tf_top σ N 0 (-1))) hw.1 hw.2.1 hw.2.2 g_T_192 (re_T C hw) hv_T_findNextInTurn rfl rfl ⟨(Nat.le_of_ble_eq_true rfl), (Nat.le_of_ble_eq_true rfl)⟩ (Nat.le_of_ble_eq_true rfl) ⟨(Nat.le_of_ble_eq_true rfl), (Nat.le_of_ble_eq_true rfl)⟩ dT_choose_70 rfl) C hw (fun E ce q9 w1 H locs hp hw h1 h2 h3 => ?_) (fun v w1 H locs hp hw => ?_)
        · exact hp.elim
        obtain ⟨rfl, rfl⟩ := hp
        dsimp only [Option.toList_some, Option.toList_none, List.cons_append, List.nil_append]
        exact tr_i hQ C hw hr (Nat.le_of_ble_eq_true rfl) (Nat.le_of_ble_eq_true rfl) dT_choose_73 ⟨by simp [tf_chA, h.1, c_7, c_19], by simp [tf_chS, h.1, c_7, c_19]⟩
    refine lv_iconst (v := -1) hx hb dT_choose_22 (by decide) ?_
    exact tr_i hQ C hw hr (Nat.le_of_ble_eq_true rfl) (Nat.le_of_ble_eq_true rfl) dT_choose_23 ⟨by simp [tf_chA, c_7, c_19], by simp [tf_chS, c_7, c_19]⟩
  refine q_iload_n hx hb hl dT_choose_10 rfl ?_
  exact tr_i hQ C hw hr (Nat.le_of_ble_eq_true rfl) (Nat.le_of_ble_eq_true rfl) dT_choose_11 ⟨by simp [tf_chA, c_7], by simp [tf_chS, c_7]⟩
