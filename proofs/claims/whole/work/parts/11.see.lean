set_option maxHeartbeats 4000000 in
set_option maxRecDepth 100000 in
theorem c_see (l : Launch) (hst : l.stackTraces = false) (D : va_G) (ct : Ct) (ad : Ad) (N : Nat) (hN : N ≤ 16) (σ : St) (sz : Nat) : Kt l yT_seeWhoCanGo cT_seeWhoCanGo 3 none (r0 1) 0 0 D ct [.ref (ad 0 0)] sz (wT ct ad N σ) (fun v w => v = none ∧ w = wT ct ad N (tf_see N 0 σ)) (fun E w => False) := by
  refine kt_of hst (by decide) (Nat.le_of_ble_eq_true rfl) (by simp [Value.category]) ?_
  intro p e s m args below meth c A ls C hne hr hw hl Q hQ
  have hx := C.1
  have hb := C.2.1
  refine lv_iconst (v := 0) hx hb dT_seeWhoCanGo_0 (by decide) ?_
  refine q_istore_n hx hb hl dT_seeWhoCanGo_1 (by decide) (fun ls hl => ?_)
  have L2 : ∀ (n : Nat) (t : Nat) (τ : St), t + n = N → tf_see n t τ = tf_see N 0 σ → ∀ (H : Heap) (locs : List Loc) (ls : Array Slot), wl D A s (wT ct ad N τ) H locs → lq ls 3 [some (.ref (ad 0 0)), some (.int (nI t)), none] → W p l e (r0 1) s m args below meth c H locs 0 0 Q (F0 m 2 ls []) := by
    intro n
    induction n with
    | zero =>
      intro t τ hn he H locs ls hw hl
      refine q_iload_n hx hb hl dT_seeWhoCanGo_2 rfl ?_
      refine q_aload_n hx hb hl dT_seeWhoCanGo_3 rfl ?_
      refine tg_T C hw 0 l_T_24 (by decide) rfl dT_seeWhoCanGo_4 ?_
      refine ta_lenS C hw dT_seeWhoCanGo_7 ?_
      refine lv_icmp_ge (tgt := 63) hx hb dT_seeWhoCanGo_8 (by decide) (fun c_8 => ?_) (fun q9 => absurd (nI_le (by omega) (by omega)) q9)
      exact tr_v hQ C hw hr (Nat.le_of_ble_eq_true rfl) (Nat.le_of_ble_eq_true rfl) dT_seeWhoCanGo_63 ⟨rfl, by rw [← he]; rfl⟩
    | succ n ih =>
      intro t τ hn he H locs ls hw hl
      have ht : t < N := by omega
      refine q_iload_n hx hb hl dT_seeWhoCanGo_2 rfl ?_
      refine q_aload_n hx hb hl dT_seeWhoCanGo_3 rfl ?_
      refine tg_T C hw 0 l_T_24 (by decide) rfl dT_seeWhoCanGo_4 ?_
      refine ta_lenS C hw dT_seeWhoCanGo_7 ?_
      refine lv_icmp_ge (tgt := 63) hx hb dT_seeWhoCanGo_8 (by decide) (fun q9 => absurd q9 (nI_ge ht (by omega))) (fun c_8 => ?_)
      refine q_aload_n hx hb hl dT_seeWhoCanGo_11 rfl ?_
      refine tg_T C hw 0 l_T_24 (by decide) rfl dT_seeWhoCanGo_12 ?_
      refine q_iload_n hx hb hl dT_seeWhoCanGo_15 rfl ?_
      refine ta_S C hw hN (by assumption) rfl dT_seeWhoCanGo_16 ?_
      refine q_astore_n hx hb hl dT_seeWhoCanGo_17 (by decide) (fun ls hl => ?_)
      refine q_aload_n hx hb hl dT_seeWhoCanGo_18 rfl ?_
      refine tg_S C hw 3 l_T_65 (by decide) (by assumption) rfl dT_seeWhoCanGo_19 ?_
      refine q_aload_n hx hb hl dT_seeWhoCanGo_22 rfl ?_
      refine tg_T C hw 9 l_T_141 (by decide) rfl dT_seeWhoCanGo_23 ?_
      refine lv_icmp_gt (tgt := 34) hx hb dT_seeWhoCanGo_26 (by decide) (fun c_26 => ?_) (fun c_26 => ?_)
      · refine q_aload_n hx hb hl dT_seeWhoCanGo_34 rfl ?_
        refine q_aload_n hx hb hl dT_seeWhoCanGo_35 rfl ?_
        refine tg_S C hw 1 l_T_57 (by decide) (by assumption) rfl dT_seeWhoCanGo_36 ?_
        refine lv_if_eq (tgt := 53) hx hb dT_seeWhoCanGo_39 (by decide) (fun c_39 => ?_) (fun c_39 => ?_)
        · refine lv_iconst (v := 0) hx hb dT_seeWhoCanGo_53 (by decide) ?_
          refine tp_S C hw 8 l_T_165 (by decide) (by assumption) (by decide) dT_seeWhoCanGo_54 (fun H locs hw => ?_)
          refine q_inc hx hb hl dT_seeWhoCanGo_57 rfl (by decide) (fun ls hl => ?_)
          refine lv_goto (tgt := 2) hx hb dT_seeWhoCanGo_60 (by decide) ?_
          exact ih _ _ (by omega) (by rw [← he]; simp only [tf_see, tf_see1, if_pos c_26, if_pos c_39]) _ _ _ hw (hl.drop 2)
        refine q_aload_n hx hb hl dT_seeWhoCanGo_42 rfl ?_
        refine tg_S C hw 3 l_T_65 (by decide) (by assumption) rfl dT_seeWhoCanGo_43 ?_
        refine lv_if_ne (tgt := 53) hx hb dT_seeWhoCanGo_46 (by decide) (fun c_46 => ?_) (fun c_46 => ?_)
        · refine lv_iconst (v := 0) hx hb dT_seeWhoCanGo_53 (by decide) ?_
          refine tp_S C hw 8 l_T_165 (by decide) (by assumption) (by decide) dT_seeWhoCanGo_54 (fun H locs hw => ?_)
          refine q_inc hx hb hl dT_seeWhoCanGo_57 rfl (by decide) (fun ls hl => ?_)
          refine lv_goto (tgt := 2) hx hb dT_seeWhoCanGo_60 (by decide) ?_
          exact ih _ _ (by omega) (by rw [← he]; simp only [tf_see, tf_see1, if_pos c_26, if_neg c_39, if_neg c_46]) _ _ _ hw (hl.drop 2)
        refine lv_iconst (v := 1) hx hb dT_seeWhoCanGo_49 (by decide) ?_
        refine lv_goto (tgt := 54) hx hb dT_seeWhoCanGo_50 (by decide) ?_
        refine tp_S C hw 8 l_T_165 (by decide) (by assumption) (by decide) dT_seeWhoCanGo_54 (fun H locs hw => ?_)
        refine q_inc hx hb hl dT_seeWhoCanGo_57 rfl (by decide) (fun ls hl => ?_)
        refine lv_goto (tgt := 2) hx hb dT_seeWhoCanGo_60 (by decide) ?_
        exact ih _ _ (by omega) (by rw [← he]; simp only [tf_see, tf_see1, if_pos c_26, if_neg c_39, if_pos c_46]) _ _ _ hw (hl.drop 2)
      refine q_aload_n hx hb hl dT_seeWhoCanGo_29 rfl ?_
      refine lv_iconst (v := 0) hx hb dT_seeWhoCanGo_30 (by decide) ?_
      refine tp_S C hw 2 l_T_65 (by decide) (by assumption) (fun q => absurd q (by decide)) dT_seeWhoCanGo_31 (fun H locs hw => ?_)
      refine q_aload_n hx hb hl dT_seeWhoCanGo_34 rfl ?_
      refine q_aload_n hx hb hl dT_seeWhoCanGo_35 rfl ?_
      refine tg_S C hw 1 l_T_57 (by decide) (by assumption) rfl dT_seeWhoCanGo_36 ?_
      refine lv_if_eq (tgt := 53) hx hb dT_seeWhoCanGo_39 (by decide) (fun c_39 => ?_) (fun c_39 => ?_)
      · refine lv_iconst (v := 0) hx hb dT_seeWhoCanGo_53 (by decide) ?_
        refine tp_S C hw 8 l_T_165 (by decide) (by assumption) (by decide) dT_seeWhoCanGo_54 (fun H locs hw => ?_)
        refine q_inc hx hb hl dT_seeWhoCanGo_57 rfl (by decide) (fun ls hl => ?_)
        refine lv_goto (tgt := 2) hx hb dT_seeWhoCanGo_60 (by decide) ?_
        exact ih _ _ (by omega) (by rw [← he]; simp only [tf_see, tf_see1, if_neg c_26, if_pos c_39]) _ _ _ hw (hl.drop 2)
      refine q_aload_n hx hb hl dT_seeWhoCanGo_42 rfl ?_
      refine tg_S C hw 3 l_T_65 (by decide) (by assumption) rfl dT_seeWhoCanGo_43 ?_
      refine lv_if_ne (tgt := 53) hx hb dT_seeWhoCanGo_46 (by decide) (fun c_46 => ?_) (fun c_46 => ?_)
      · refine lv_iconst (v := 0) hx hb dT_seeWhoCanGo_53 (by decide) ?_
        refine tp_S C hw 8 l_T_165 (by decide) (by assumption) (by decide) dT_seeWhoCanGo_54 (fun H locs hw => ?_)
        refine q_inc hx hb hl dT_seeWhoCanGo_57 rfl (by decide) (fun ls hl => ?_)
        refine lv_goto (tgt := 2) hx hb dT_seeWhoCanGo_60 (by decide) ?_
        exact ih _ _ (by omega) (by rw [← he]; simp only [tf_see, tf_see1, if_neg c_26, if_neg c_39, if_neg c_46]) _ _ _ hw (hl.drop 2)
      refine lv_iconst (v := 1) hx hb dT_seeWhoCanGo_49 (by decide) ?_
      refine lv_goto (tgt := 54) hx hb dT_seeWhoCanGo_50 (by decide) ?_
      refine tp_S C hw 8 l_T_165 (by decide) (by assumption) (by decide) dT_seeWhoCanGo_54 (fun H locs hw => ?_)
      refine q_inc hx hb hl dT_seeWhoCanGo_57 rfl (by decide) (fun ls hl => ?_)
      refine lv_goto (tgt := 2) hx hb dT_seeWhoCanGo_60 (by decide) ?_
      exact ih _ _ (by omega) (by rw [← he]; simp only [tf_see, tf_see1, if_neg c_26, if_neg c_39, if_pos c_46]) _ _ _ hw (hl.drop 2)
  exact L2 N 0 σ (by omega) rfl _ _ _ hw hl
set_option maxHeartbeats 4000000 in
set_option maxRecDepth 100000 in
theorem c_over (l : Launch) (hst : l.stackTraces = false) (D : va_G) (ct : Ct) (ad : Ad) (N : Nat) (hN : N ≤ 16) (σ : St) (sz : Nat) : Kt l yT_findOverdue cT_findOverdue 5 (some .int) (r0 1) 0 0 D ct [.ref (ad 0 0)] sz (wT ct ad N σ) (fun v w => v = some (.int (tf_overdue N σ)) ∧ w = wT ct ad N σ) (fun E w => False) := by
  refine kt_of hst (by decide) (Nat.le_of_ble_eq_true rfl) (by simp [Value.category]) ?_
  intro p e s m args below meth c A ls C hne hr hw hl Q hQ
  have hx := C.1
  have hb := C.2.1
  refine q_aload_n hx hb hl dT_findOverdue_0 rfl ?_
  refine tg_T C hw 3 l_T_47 (by decide) rfl dT_findOverdue_1 ?_
  refine lv_if_ne (tgt := 9) hx hb dT_findOverdue_4 (by decide) (fun c_4 => ?_) (fun c_4 => ?_)
  · refine lv_iconst (v := -1) hx hb dT_findOverdue_9 (by decide) ?_
    refine q_istore_n hx hb hl dT_findOverdue_10 (by decide) (fun ls hl => ?_)
    refine q_aload_n hx hb hl dT_findOverdue_11 rfl ?_
    refine tg_T C hw 3 l_T_47 (by decide) rfl dT_findOverdue_12 ?_
    refine lv_iconst (v := 1) hx hb dT_findOverdue_15 (by decide) ?_
    refine lv_isub hx hb dT_findOverdue_16 ?_
    refine q_istore_n hx hb hl dT_findOverdue_17 (by decide) (fun ls hl => ?_)
    refine lv_iconst (v := 0) hx hb dT_findOverdue_18 (by decide) ?_
    refine q_istore_n hx hb hl dT_findOverdue_19 (by decide) (fun ls hl => ?_)
    have L20 : ∀ (n : Nat) (t : Nat) (b k : Int32), t + n = N → tf_over σ n t b k = tf_over σ N 0 (-1) (σ 0 0 1 - 1) → ∀ (H : Heap) (locs : List Loc) (ls : Array Slot), wl D A s (wT ct ad N σ) H locs → lq ls 5 [some (.ref (ad 0 0)), some (.int b), some (.int k), some (.int (nI t)), none] → W p l e (r0 1) s m args below meth c H locs 0 0 Q (F0 m 20 ls []) := by
      intro n
      induction n with
      | zero =>
        intro t b k hn he H locs ls hw hl
        refine q_iload_n hx hb hl dT_findOverdue_20 rfl ?_
        refine q_aload_n hx hb hl dT_findOverdue_21 rfl ?_
        refine tg_T C hw 0 l_T_24 (by decide) rfl dT_findOverdue_22 ?_
        refine ta_lenS C hw dT_findOverdue_25 ?_
        refine lv_icmp_ge (tgt := 68) hx hb dT_findOverdue_26 (by decide) (fun c_26 => ?_) (fun q9 => absurd (nI_le (by omega) (by omega)) q9)
        refine q_iload_n hx hb hl dT_findOverdue_68 rfl ?_
        exact tr_i hQ C hw hr (Nat.le_of_ble_eq_true rfl) (Nat.le_of_ble_eq_true rfl) dT_findOverdue_69 ⟨by rw [tf_overdue, if_neg c_4, ← he]; rfl, rfl⟩
      | succ n ih =>
        intro t b k hn he H locs ls hw hl
        have ht : t < N := by omega
        refine q_iload_n hx hb hl dT_findOverdue_20 rfl ?_
        refine q_aload_n hx hb hl dT_findOverdue_21 rfl ?_
        refine tg_T C hw 0 l_T_24 (by decide) rfl dT_findOverdue_22 ?_
        refine ta_lenS C hw dT_findOverdue_25 ?_
        refine lv_icmp_ge (tgt := 68) hx hb dT_findOverdue_26 (by decide) (fun q9 => absurd q9 (nI_ge ht (by omega))) (fun c_26 => ?_)
        refine q_aload_n hx hb hl dT_findOverdue_29 rfl ?_
        refine tg_T C hw 0 l_T_24 (by decide) rfl dT_findOverdue_30 ?_
        refine q_iload_n hx hb hl dT_findOverdue_33 rfl ?_
        refine ta_S C hw hN (by assumption) rfl dT_findOverdue_34 ?_
        refine q_astore hx hb hl dT_findOverdue_35 (by decide) (fun ls hl => ?_)
        refine q_aload hx hb hl dT_findOverdue_37 rfl ?_
        refine tg_S C hw 9 l_T_165 (by decide) (by assumption) rfl dT_findOverdue_39 ?_
        refine lv_if_eq (tgt := 62) hx hb dT_findOverdue_42 (by decide) (fun c_42 => ?_) (fun c_42 => ?_)
        · refine q_inc hx hb hl dT_findOverdue_62 rfl (by decide) (fun ls hl => ?_)
          refine lv_goto (tgt := 20) hx hb dT_findOverdue_65 (by decide) ?_
          exact ih _ _ _ (by omega) (by rw [← he]; simp [tf_over, c_42]) _ _ _ hw (hl.drop 4)
        refine q_aload hx hb hl dT_findOverdue_45 rfl ?_
        refine tg_S C hw 5 l_T_120 (by decide) (by assumption) rfl dT_findOverdue_47 ?_
        refine q_iload_n hx hb hl dT_findOverdue_50 rfl ?_
        refine lv_icmp_le (tgt := 62) hx hb dT_findOverdue_51 (by decide) (fun c_51 => ?_) (fun c_51 => ?_)
        · refine q_inc hx hb hl dT_findOverdue_62 rfl (by decide) (fun ls hl => ?_)
          refine lv_goto (tgt := 20) hx hb dT_findOverdue_65 (by decide) ?_
          exact ih _ _ _ (by omega) (by rw [← he]; simp [tf_over, c_42, c_51]) _ _ _ hw (hl.drop 4)
        refine q_iload_n hx hb hl dT_findOverdue_54 rfl ?_
        refine q_istore_n hx hb hl dT_findOverdue_55 (by decide) (fun ls hl => ?_)
        refine q_aload hx hb hl dT_findOverdue_56 rfl ?_
        refine tg_S C hw 5 l_T_120 (by decide) (by assumption) rfl dT_findOverdue_58 ?_
        refine q_istore_n hx hb hl dT_findOverdue_61 (by decide) (fun ls hl => ?_)
        refine q_inc hx hb hl dT_findOverdue_62 rfl (by decide) (fun ls hl => ?_)
        refine lv_goto (tgt := 20) hx hb dT_findOverdue_65 (by decide) ?_
        exact ih _ _ _ (by omega) (by rw [← he]; simp [tf_over, c_42, c_51]) _ _ _ hw (hl.drop 4)
    exact L20 N 0 _ _ (by omega) rfl _ _ _ hw hl
  refine lv_iconst (v := -1) hx hb dT_findOverdue_7 (by decide) ?_
  exact tr_i hQ C hw hr (Nat.le_of_ble_eq_true rfl) (Nat.le_of_ble_eq_true rfl) dT_findOverdue_8 ⟨by rw [tf_overdue, if_pos c_4], rfl⟩
set_option maxHeartbeats 4000000 in
set_option maxRecDepth 100000 in
theorem c_top (l : Launch) (hst : l.stackTraces = false) (D : va_G) (ct : Ct) (ad : Ad) (N : Nat) (hN : N ≤ 16) (σ : St) (sz : Nat) : Kt l yT_greatestRank cT_greatestRank 4 (some .int) (r0 1) 0 0 D ct [.ref (ad 0 0)] sz (wT ct ad N σ) (fun v w => v = some (.int (tf_top σ N 0 (-1))) ∧ w = wT ct ad N σ) (fun E w => False) := by
  refine kt_of hst (by decide) (Nat.le_of_ble_eq_true rfl) (by simp [Value.category]) ?_
  intro p e s m args below meth c A ls C hne hr hw hl Q hQ
  have hx := C.1
  have hb := C.2.1
  refine lv_iconst (v := -1) hx hb dT_greatestRank_0 (by decide) ?_
  refine q_istore_n hx hb hl dT_greatestRank_1 (by decide) (fun ls hl => ?_)
  refine lv_iconst (v := 0) hx hb dT_greatestRank_2 (by decide) ?_
  refine q_istore_n hx hb hl dT_greatestRank_3 (by decide) (fun ls hl => ?_)
  have L4 : ∀ (n : Nat) (t : Nat) (k : Int32), t + n = N → tf_top σ n t k = tf_top σ N 0 (-1) → ∀ (H : Heap) (locs : List Loc) (ls : Array Slot), wl D A s (wT ct ad N σ) H locs → lq ls 4 [some (.ref (ad 0 0)), some (.int k), some (.int (nI t)), none] → W p l e (r0 1) s m args below meth c H locs 0 0 Q (F0 m 4 ls []) := by
    intro n
    induction n with
    | zero =>
      intro t k hn he H locs ls hw hl
      refine q_iload_n hx hb hl dT_greatestRank_4 rfl ?_
      refine q_aload_n hx hb hl dT_greatestRank_5 rfl ?_
      refine tg_T C hw 0 l_T_24 (by decide) rfl dT_greatestRank_6 ?_
      refine ta_lenS C hw dT_greatestRank_9 ?_
      refine lv_icmp_ge (tgt := 46) hx hb dT_greatestRank_10 (by decide) (fun c_10 => ?_) (fun q9 => absurd (nI_le (by omega) (by omega)) q9)
      refine q_iload_n hx hb hl dT_greatestRank_46 rfl ?_
      exact tr_i hQ C hw hr (Nat.le_of_ble_eq_true rfl) (Nat.le_of_ble_eq_true rfl) dT_greatestRank_47 ⟨by rw [← he]; rfl, rfl⟩
    | succ n ih =>
      intro t k hn he H locs ls hw hl
      have ht : t < N := by omega
      refine q_iload_n hx hb hl dT_greatestRank_4 rfl ?_
      refine q_aload_n hx hb hl dT_greatestRank_5 rfl ?_
      refine tg_T C hw 0 l_T_24 (by decide) rfl dT_greatestRank_6 ?_
      refine ta_lenS C hw dT_greatestRank_9 ?_
      refine lv_icmp_ge (tgt := 46) hx hb dT_greatestRank_10 (by decide) (fun q9 => absurd q9 (nI_ge ht (by omega))) (fun c_10 => ?_)
      refine q_aload_n hx hb hl dT_greatestRank_13 rfl ?_
      refine tg_T C hw 0 l_T_24 (by decide) rfl dT_greatestRank_14 ?_
      refine q_iload_n hx hb hl dT_greatestRank_17 rfl ?_
      refine ta_S C hw hN (by assumption) rfl dT_greatestRank_18 ?_
      refine q_astore_n hx hb hl dT_greatestRank_19 (by decide) (fun ls hl => ?_)
      refine q_aload_n hx hb hl dT_greatestRank_20 rfl ?_
      refine tg_S C hw 9 l_T_165 (by decide) (by assumption) rfl dT_greatestRank_21 ?_
      refine lv_if_eq (tgt := 40) hx hb dT_greatestRank_24 (by decide) (fun c_24 => ?_) (fun c_24 => ?_)
      · refine q_inc hx hb hl dT_greatestRank_40 rfl (by decide) (fun ls hl => ?_)
        refine lv_goto (tgt := 4) hx hb dT_greatestRank_43 (by decide) ?_
        exact ih _ _ (by omega) (by rw [← he]; simp [tf_top, c_24]) _ _ _ hw (hl.drop 3)
      refine q_aload_n hx hb hl dT_greatestRank_27 rfl ?_
      refine tg_S C hw 2 l_T_61 (by decide) (by assumption) rfl dT_greatestRank_28 ?_
      refine q_iload_n hx hb hl dT_greatestRank_31 rfl ?_
      refine lv_icmp_le (tgt := 40) hx hb dT_greatestRank_32 (by decide) (fun c_32 => ?_) (fun c_32 => ?_)
      · refine q_inc hx hb hl dT_greatestRank_40 rfl (by decide) (fun ls hl => ?_)
        refine lv_goto (tgt := 4) hx hb dT_greatestRank_43 (by decide) ?_
        exact ih _ _ (by omega) (by rw [← he]; simp [tf_top, c_24, c_32]) _ _ _ hw (hl.drop 3)
      refine q_aload_n hx hb hl dT_greatestRank_35 rfl ?_
      refine tg_S C hw 2 l_T_61 (by decide) (by assumption) rfl dT_greatestRank_36 ?_
      refine q_istore_n hx hb hl dT_greatestRank_39 (by decide) (fun ls hl => ?_)
      refine q_inc hx hb hl dT_greatestRank_40 rfl (by decide) (fun ls hl => ?_)
      refine lv_goto (tgt := 4) hx hb dT_greatestRank_43 (by decide) ?_
      exact ih _ _ (by omega) (by rw [← he]; simp [tf_top, c_24, c_32]) _ _ _ hw (hl.drop 3)
  exact L4 N 0 _ (by omega) rfl _ _ _ hw hl
set_option maxHeartbeats 4000000 in
set_option maxRecDepth 100000 in
theorem c_cand (l : Launch) (hst : l.stackTraces = false) (D : va_G) (ct : Ct) (ad : Ad) (N : Nat) (hN : N ≤ 16) (σ : St) (sz : Nat) (t : Nat) (ht : t < N) (top : Int32) : Kt l yT_isCandidate cT_isCandidate 3 (some .boolean) (r0 0) 0 0 D ct [.ref (ad 0 0), .ref (ad 1 t), .int top] sz (wT ct ad N σ) (fun v w => v = some (.int (tf_cand σ t top)) ∧ w = wT ct ad N σ) (fun E w => False) := by
  refine kt_of hst (by decide) (Nat.le_of_ble_eq_true rfl) (by simp [Value.category]) ?_
  intro p e s m args below meth c A ls C hne hr hw hl Q hQ
  have hx := C.1
  have hb := C.2.1
  refine q_aload_n hx hb hl dT_isCandidate_0 rfl ?_
  refine tg_S C hw 9 l_T_165 (by decide) (by assumption) rfl dT_isCandidate_1 ?_
  refine lv_if_eq (tgt := 19) hx hb dT_isCandidate_4 (by decide) (fun c_4 => ?_) (fun c_4 => ?_)
  · refine lv_iconst (v := 0) hx hb dT_isCandidate_19 (by decide) ?_
    exact tr_z hQ C hw hr (Nat.le_of_ble_eq_true rfl) (Nat.le_of_ble_eq_true rfl) dT_isCandidate_20 (by decide) ⟨by simp [tf_cand, c_4], rfl⟩
  refine q_aload_n hx hb hl dT_isCandidate_7 rfl ?_
  refine tg_S C hw 2 l_T_61 (by decide) (by assumption) rfl dT_isCandidate_8 ?_
  refine q_iload_n hx hb hl dT_isCandidate_11 rfl ?_
  refine lv_icmp_ne (tgt := 19) hx hb dT_isCandidate_12 (by decide) (fun c_12 => ?_) (fun c_12 => ?_)
  · refine lv_iconst (v := 0) hx hb dT_isCandidate_19 (by decide) ?_
    exact tr_z hQ C hw hr (Nat.le_of_ble_eq_true rfl) (Nat.le_of_ble_eq_true rfl) dT_isCandidate_20 (by decide) ⟨by simp [tf_cand, c_4, c_12], rfl⟩
  refine lv_iconst (v := 1) hx hb dT_isCandidate_15 (by decide) ?_
  refine lv_goto (tgt := 20) hx hb dT_isCandidate_16 (by decide) ?_
  exact tr_z hQ C hw hr (Nat.le_of_ble_eq_true rfl) (Nat.le_of_ble_eq_true rfl) dT_isCandidate_20 (by decide) ⟨by simp [tf_cand, c_4, c_12], rfl⟩
set_option maxHeartbeats 4000000 in
set_option maxRecDepth 100000 in
theorem c_next (l : Launch) (hst : l.stackTraces = false) (D : va_G) (ct : Ct) (ad : Ad) (N : Nat) (hN : N ≤ 16) (σ : St) (sz : Nat) (top : Int32) : Kt l yT_findNextInTurn cT_findNextInTurn 4 (some .int) (r0 1) 0 0 D ct [.ref (ad 0 0), .int top] sz (wT ct ad N σ) (fun v w => v = some (.int (tf_next σ top N 0 (-1))) ∧ w = wT ct ad N σ) (fun E w => False) := by
  refine kt_of hst (by decide) (Nat.le_of_ble_eq_true rfl) (by simp [Value.category]) ?_
  intro p e s m args below meth c A ls C hne hr hw hl Q hQ
  have hx := C.1
  have hb := C.2.1
  refine lv_iconst (v := -1) hx hb dT_findNextInTurn_0 (by decide) ?_
  refine q_istore_n hx hb hl dT_findNextInTurn_1 (by decide) (fun ls hl => ?_)
  refine lv_iconst (v := 0) hx hb dT_findNextInTurn_2 (by decide) ?_
  refine q_istore_n hx hb hl dT_findNextInTurn_3 (by decide) (fun ls hl => ?_)
  have L4 : ∀ (n : Nat) (t : Nat) (k : Int32), t + n = N → tf_next σ top n t k = tf_next σ top N 0 (-1) → ∀ (H : Heap) (locs : List Loc) (ls : Array Slot), wl D A s (wT ct ad N σ) H locs → lq ls 4 [some (.ref (ad 0 0)), some (.int top), some (.int k), some (.int (nI t))] → W p l e (r0 1) s m args below meth c H locs 0 0 Q (F0 m 4 ls []) := by
    intro n
    induction n with
    | zero =>
      intro t k hn he H locs ls hw hl
      refine q_iload_n hx hb hl dT_findNextInTurn_4 rfl ?_
      refine q_aload_n hx hb hl dT_findNextInTurn_5 rfl ?_
      refine tg_T C hw 0 l_T_24 (by decide) rfl dT_findNextInTurn_6 ?_
      refine ta_lenS C hw dT_findNextInTurn_9 ?_
      refine lv_icmp_ge (tgt := 50) hx hb dT_findNextInTurn_10 (by decide) (fun c_10 => ?_) (fun q9 => absurd (nI_le (by omega) (by omega)) q9)
      refine q_iload_n hx hb hl dT_findNextInTurn_50 rfl ?_
      exact tr_i hQ C hw hr (Nat.le_of_ble_eq_true rfl) (Nat.le_of_ble_eq_true rfl) dT_findNextInTurn_51 ⟨by rw [← he]; rfl, rfl⟩
    | succ n ih =>
      intro t k hn he H locs ls hw hl
      have ht : t < N := by omega
      refine q_iload_n hx hb hl dT_findNextInTurn_4 rfl ?_
      refine q_aload_n hx hb hl dT_findNextInTurn_5 rfl ?_
      refine tg_T C hw 0 l_T_24 (by decide) rfl dT_findNextInTurn_6 ?_
      refine ta_lenS C hw dT_findNextInTurn_9 ?_
      refine lv_icmp_ge (tgt := 50) hx hb dT_findNextInTurn_10 (by decide) (fun q9 => absurd q9 (nI_ge ht (by omega))) (fun c_10 => ?_)
      refine q_aload_n hx hb hl dT_findNextInTurn_13 rfl ?_
      refine q_aload_n hx hb hl dT_findNextInTurn_14 rfl ?_
      refine tg_T C hw 0 l_T_24 (by decide) rfl dT_findNextInTurn_15 ?_
      refine q_iload_n hx hb hl dT_findNextInTurn_18 rfl ?_
      refine ta_S C hw hN (by assumption) rfl dT_findNextInTurn_19 ?_
      refine q_iload_n hx hb hl dT_findNextInTurn_20 rfl ?_
      refine tc_E (tc_V C hl (c_cand l hst D ct ad N hN σ _ t ht top) hw.1 hw.2.1 hw.2.2 g_T_195 (re_T C hw) hv_T_isCandidate rfl rfl ⟨(Nat.le_of_ble_eq_true rfl), (Nat.le_of_ble_eq_true rfl)⟩ (Nat.le_of_ble_eq_true rfl) ⟨(Nat.le_of_ble_eq_true rfl), (Nat.le_of_ble_eq_true rfl)⟩ dT_findNextInTurn_21 rfl) C hw (fun E ce q9 w1 H locs hp hw h1 h2 h3 => ?_) (fun v w1 H locs hp hw => ?_)
      · exact hp.elim
      obtain ⟨rfl, rfl⟩ := hp
      dsimp only [Option.toList_some, Option.toList_none, List.cons_append, List.nil_append]
      refine lv_if_eq (tgt := 44) hx hb dT_findNextInTurn_24 (by decide) (fun c_24 => ?_) (fun c_24 => ?_)
      · refine q_inc hx hb hl dT_findNextInTurn_44 rfl (by decide) (fun ls hl => ?_)
        refine lv_goto (tgt := 4) hx hb dT_findNextInTurn_47 (by decide) ?_
        exact ih _ _ (by omega) (by rw [← he]; simp [tf_next, c_24]) _ _ _ hw hl
      refine q_iload_n hx hb hl dT_findNextInTurn_27 rfl ?_
      refine q_aload_n hx hb hl dT_findNextInTurn_28 rfl ?_
      refine tg_T C hw 6 l_T_9 (by decide) rfl dT_findNextInTurn_29 ?_
      refine lv_icmp_le (tgt := 37) hx hb dT_findNextInTurn_32 (by decide) (fun c_32 => ?_) (fun c_32 => ?_)
      · refine q_iload_n hx hb hl dT_findNextInTurn_37 rfl ?_
        refine lv_iconst (v := -1) hx hb dT_findNextInTurn_38 (by decide) ?_
        refine lv_icmp_ne (tgt := 44) hx hb dT_findNextInTurn_39 (by decide) (fun c_39 => ?_) (fun c_39 => ?_)
        · refine q_inc hx hb hl dT_findNextInTurn_44 rfl (by decide) (fun ls hl => ?_)
          refine lv_goto (tgt := 4) hx hb dT_findNextInTurn_47 (by decide) ?_
          exact ih _ _ (by omega) (by rw [← he]; simp [tf_next, c_24, c_32, c_39]) _ _ _ hw hl
        refine q_iload_n hx hb hl dT_findNextInTurn_42 rfl ?_
        refine q_istore_n hx hb hl dT_findNextInTurn_43 (by decide) (fun ls hl => ?_)
        refine q_inc hx hb hl dT_findNextInTurn_44 rfl (by decide) (fun ls hl => ?_)
        refine lv_goto (tgt := 4) hx hb dT_findNextInTurn_47 (by decide) ?_
        exact ih _ _ (by omega) (by rw [← he]; simp [tf_next, c_24, c_32, c_39]) _ _ _ hw hl
      refine q_iload_n hx hb hl dT_findNextInTurn_35 rfl ?_
      exact tr_i hQ C hw hr (Nat.le_of_ble_eq_true rfl) (Nat.le_of_ble_eq_true rfl) dT_findNextInTurn_36 ⟨by rw [← he]; simp [tf_next, c_24, c_32], rfl⟩
  exact L4 N 0 _ (by omega) rfl _ _ _ hw hl
set_option maxHeartbeats 4000000 in
set_option maxRecDepth 100000 in
theorem c_few (l : Launch) (hst : l.stackTraces = false) (D : va_G) (ct : Ct) (ad : Ad) (N : Nat) (hN : N ≤ 16) (σ : St) (sz : Nat) (top : Int32) : Kt l yT_findFewest cT_findFewest 7 (some .int) (r0 1) 0 0 D ct [.ref (ad 0 0), .int top] sz (wT ct ad N σ) (fun v w => v = some (.int (tf_few σ top N 0 (-1) 0)) ∧ w = wT ct ad N σ) (fun E w => False) := by
  refine kt_of hst (by decide) (Nat.le_of_ble_eq_true rfl) (by simp [Value.category]) ?_
  intro p e s m args below meth c A ls C hne hr hw hl Q hQ
  have hx := C.1
  have hb := C.2.1
  refine lv_iconst (v := -1) hx hb dT_findFewest_0 (by decide) ?_
  refine q_istore_n hx hb hl dT_findFewest_1 (by decide) (fun ls hl => ?_)
  refine lv_iconst (v := 0) hx hb dT_findFewest_2 (by decide) ?_
  refine q_istore_n hx hb hl dT_findFewest_3 (by decide) (fun ls hl => ?_)
  refine lv_iconst (v := 0) hx hb dT_findFewest_4 (by decide) ?_
  refine q_istore hx hb hl dT_findFewest_5 (by decide) (fun ls hl => ?_)
  have L7 : ∀ (n : Nat) (t : Nat) (b k : Int32), t + n = N → tf_few σ top n t b k = tf_few σ top N 0 (-1) 0 → ∀ (H : Heap) (locs : List Loc) (ls : Array Slot), wl D A s (wT ct ad N σ) H locs → lq ls 7 [some (.ref (ad 0 0)), some (.int top), some (.int b), some (.int k), some (.int (nI t)), none, none] → W p l e (r0 1) s m args below meth c H locs 0 0 Q (F0 m 7 ls []) := by
    intro n
    induction n with
    | zero =>
      intro t b k hn he H locs ls hw hl
      refine q_iload hx hb hl dT_findFewest_7 rfl ?_
      refine q_aload_n hx hb hl dT_findFewest_9 rfl ?_
      refine tg_T C hw 0 l_T_24 (by decide) rfl dT_findFewest_10 ?_
      refine ta_lenS C hw dT_findFewest_13 ?_
      refine lv_icmp_ge (tgt := 82) hx hb dT_findFewest_14 (by decide) (fun c_14 => ?_) (fun q9 => absurd (nI_le (by omega) (by omega)) q9)
      refine q_iload_n hx hb hl dT_findFewest_82 rfl ?_
      exact tr_i hQ C hw hr (Nat.le_of_ble_eq_true rfl) (Nat.le_of_ble_eq_true rfl) dT_findFewest_83 ⟨by rw [← he]; rfl, rfl⟩
    | succ n ih =>
      intro t b k hn he H locs ls hw hl
      have ht : t < N := by omega
      refine q_iload hx hb hl dT_findFewest_7 rfl ?_
      refine q_aload_n hx hb hl dT_findFewest_9 rfl ?_
      refine tg_T C hw 0 l_T_24 (by decide) rfl dT_findFewest_10 ?_
      refine ta_lenS C hw dT_findFewest_13 ?_
      refine lv_icmp_ge (tgt := 82) hx hb dT_findFewest_14 (by decide) (fun q9 => absurd q9 (nI_ge ht (by omega))) (fun c_14 => ?_)
      refine q_aload_n hx hb hl dT_findFewest_17 rfl ?_
      refine tg_T C hw 0 l_T_24 (by decide) rfl dT_findFewest_18 ?_
      refine q_iload hx hb hl dT_findFewest_21 rfl ?_
      refine ta_S C hw hN (by assumption) rfl dT_findFewest_23 ?_
      refine q_astore hx hb hl dT_findFewest_24 (by decide) (fun ls hl => ?_)
      refine q_aload_n hx hb hl dT_findFewest_26 rfl ?_
      refine tg_T C hw 2 l_T_44 (by decide) rfl dT_findFewest_27 ?_
      refine lv_iconst (v := 1) hx hb dT_findFewest_30 (by decide) ?_
      refine lv_icmp_ne (tgt := 42) hx hb dT_findFewest_31 (by decide) (fun c_31 => ?_) (fun c_31 => ?_)
      · refine q_aload hx hb hl dT_findFewest_42 rfl ?_
        refine tg_S C hw 4 l_T_68 (by decide) (by assumption) rfl dT_findFewest_44 ?_
        refine q_istore hx hb hl dT_findFewest_47 (by decide) (fun ls hl => ?_)
        refine q_aload_n hx hb hl dT_findFewest_49 rfl ?_
        refine q_aload hx hb hl dT_findFewest_50 rfl ?_
        refine q_iload_n hx hb hl dT_findFewest_52 rfl ?_
        refine tc_E (tc_V C hl (c_cand l hst D ct ad N hN σ _ t ht top) hw.1 hw.2.1 hw.2.2 g_T_195 (re_T C hw) hv_T_isCandidate rfl rfl ⟨(Nat.le_of_ble_eq_true rfl), (Nat.le_of_ble_eq_true rfl)⟩ (Nat.le_of_ble_eq_true rfl) ⟨(Nat.le_of_ble_eq_true rfl), (Nat.le_of_ble_eq_true rfl)⟩ dT_findFewest_53 rfl) C hw (fun E ce q9 w1 H locs hp hw h1 h2 h3 => ?_) (fun v w1 H locs hp hw => ?_)
        · exact hp.elim
        obtain ⟨rfl, rfl⟩ := hp
        dsimp only [Option.toList_some, Option.toList_none, List.cons_append, List.nil_append]
        refine lv_if_eq (tgt := 76) hx hb dT_findFewest_56 (by decide) (fun c_56 => ?_) (fun c_56 => ?_)
        · refine q_inc hx hb hl dT_findFewest_76 rfl (by decide) (fun ls hl => ?_)
          refine lv_goto (tgt := 7) hx hb dT_findFewest_79 (by decide) ?_
          exact ih _ _ _ (by omega) (by rw [← he]; simp [tf_few, tf_has, c_31, c_56]) _ _ _ hw ((hl.drop 5).drop 6)
        refine q_iload_n hx hb hl dT_findFewest_59 rfl ?_
        refine lv_iconst (v := -1) hx hb dT_findFewest_60 (by decide) ?_
        refine lv_icmp_eq (tgt := 70) hx hb dT_findFewest_61 (by decide) (fun c_61 => ?_) (fun c_61 => ?_)
        · refine q_iload hx hb hl dT_findFewest_70 rfl ?_
          refine q_istore_n hx hb hl dT_findFewest_72 (by decide) (fun ls hl => ?_)
          refine q_iload hx hb hl dT_findFewest_73 rfl ?_
          refine q_istore_n hx hb hl dT_findFewest_75 (by decide) (fun ls hl => ?_)
          refine q_inc hx hb hl dT_findFewest_76 rfl (by decide) (fun ls hl => ?_)
          refine lv_goto (tgt := 7) hx hb dT_findFewest_79 (by decide) ?_
          exact ih _ _ _ (by omega) (by rw [← he]; simp [tf_few, tf_has, c_31, c_56, c_61]) _ _ _ hw ((hl.drop 5).drop 6)
        refine q_iload hx hb hl dT_findFewest_64 rfl ?_
        refine q_iload_n hx hb hl dT_findFewest_66 rfl ?_
        refine lv_icmp_ge (tgt := 76) hx hb dT_findFewest_67 (by decide) (fun c_67 => ?_) (fun c_67 => ?_)
        · refine q_inc hx hb hl dT_findFewest_76 rfl (by decide) (fun ls hl => ?_)
          refine lv_goto (tgt := 7) hx hb dT_findFewest_79 (by decide) ?_
          exact ih _ _ _ (by omega) (by rw [← he]; simp [tf_few, tf_has, c_31, c_56, c_61, c_67]) _ _ _ hw ((hl.drop 5).drop 6)
        refine q_iload hx hb hl dT_findFewest_70 rfl ?_
        refine q_istore_n hx hb hl dT_findFewest_72 (by decide) (fun ls hl => ?_)
        refine q_iload hx hb hl dT_findFewest_73 rfl ?_
        refine q_istore_n hx hb hl dT_findFewest_75 (by decide) (fun ls hl => ?_)
        refine q_inc hx hb hl dT_findFewest_76 rfl (by decide) (fun ls hl => ?_)
        refine lv_goto (tgt := 7) hx hb dT_findFewest_79 (by decide) ?_
        exact ih _ _ _ (by omega) (by rw [← he]; simp [tf_few, tf_has, c_31, c_56, c_61, c_67]) _ _ _ hw ((hl.drop 5).drop 6)
      refine q_aload hx hb hl dT_findFewest_34 rfl ?_
      refine tg_S C hw 7 l_T_126 (by decide) (by assumption) rfl dT_findFewest_36 ?_
      refine lv_goto (tgt := 47) hx hb dT_findFewest_39 (by decide) ?_
      refine q_istore hx hb hl dT_findFewest_47 (by decide) (fun ls hl => ?_)
      refine q_aload_n hx hb hl dT_findFewest_49 rfl ?_
      refine q_aload hx hb hl dT_findFewest_50 rfl ?_
      refine q_iload_n hx hb hl dT_findFewest_52 rfl ?_
      refine tc_E (tc_V C hl (c_cand l hst D ct ad N hN σ _ t ht top) hw.1 hw.2.1 hw.2.2 g_T_195 (re_T C hw) hv_T_isCandidate rfl rfl ⟨(Nat.le_of_ble_eq_true rfl), (Nat.le_of_ble_eq_true rfl)⟩ (Nat.le_of_ble_eq_true rfl) ⟨(Nat.le_of_ble_eq_true rfl), (Nat.le_of_ble_eq_true rfl)⟩ dT_findFewest_53 rfl) C hw (fun E ce q9 w1 H locs hp hw h1 h2 h3 => ?_) (fun v w1 H locs hp hw => ?_)
      · exact hp.elim
      obtain ⟨rfl, rfl⟩ := hp
      dsimp only [Option.toList_some, Option.toList_none, List.cons_append, List.nil_append]
      refine lv_if_eq (tgt := 76) hx hb dT_findFewest_56 (by decide) (fun c_56 => ?_) (fun c_56 => ?_)
      · refine q_inc hx hb hl dT_findFewest_76 rfl (by decide) (fun ls hl => ?_)
        refine lv_goto (tgt := 7) hx hb dT_findFewest_79 (by decide) ?_
        exact ih _ _ _ (by omega) (by rw [← he]; simp [tf_few, tf_has, c_31, c_56]) _ _ _ hw ((hl.drop 5).drop 6)
      refine q_iload_n hx hb hl dT_findFewest_59 rfl ?_
      refine lv_iconst (v := -1) hx hb dT_findFewest_60 (by decide) ?_
      refine lv_icmp_eq (tgt := 70) hx hb dT_findFewest_61 (by decide) (fun c_61 => ?_) (fun c_61 => ?_)
      · refine q_iload hx hb hl dT_findFewest_70 rfl ?_
        refine q_istore_n hx hb hl dT_findFewest_72 (by decide) (fun ls hl => ?_)
        refine q_iload hx hb hl dT_findFewest_73 rfl ?_
        refine q_istore_n hx hb hl dT_findFewest_75 (by decide) (fun ls hl => ?_)
        refine q_inc hx hb hl dT_findFewest_76 rfl (by decide) (fun ls hl => ?_)
        refine lv_goto (tgt := 7) hx hb dT_findFewest_79 (by decide) ?_
        exact ih _ _ _ (by omega) (by rw [← he]; simp [tf_few, tf_has, c_31, c_56, c_61]) _ _ _ hw ((hl.drop 5).drop 6)
      refine q_iload hx hb hl dT_findFewest_64 rfl ?_
      refine q_iload_n hx hb hl dT_findFewest_66 rfl ?_
      refine lv_icmp_ge (tgt := 76) hx hb dT_findFewest_67 (by decide) (fun c_67 => ?_) (fun c_67 => ?_)
      · refine q_inc hx hb hl dT_findFewest_76 rfl (by decide) (fun ls hl => ?_)
        refine lv_goto (tgt := 7) hx hb dT_findFewest_79 (by decide) ?_
        exact ih _ _ _ (by omega) (by rw [← he]; simp [tf_few, tf_has, c_31, c_56, c_61, c_67]) _ _ _ hw ((hl.drop 5).drop 6)
      refine q_iload hx hb hl dT_findFewest_70 rfl ?_
      refine q_istore_n hx hb hl dT_findFewest_72 (by decide) (fun ls hl => ?_)
      refine q_iload hx hb hl dT_findFewest_73 rfl ?_
      refine q_istore_n hx hb hl dT_findFewest_75 (by decide) (fun ls hl => ?_)
      refine q_inc hx hb hl dT_findFewest_76 rfl (by decide) (fun ls hl => ?_)
      refine lv_goto (tgt := 7) hx hb dT_findFewest_79 (by decide) ?_
      exact ih _ _ _ (by omega) (by rw [← he]; simp [tf_few, tf_has, c_31, c_56, c_61, c_67]) _ _ _ hw ((hl.drop 5).drop 6)
  exact L7 N 0 _ _ (by omega) rfl _ _ _ hw hl
