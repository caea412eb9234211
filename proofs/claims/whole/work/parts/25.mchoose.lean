set_option maxHeartbeats 4000000 in
set_option maxRecDepth 100000 in
theorem m_can (l : Launch) (hst : l.stackTraces = false) (D : va_G) (ct : Ct) (am : Nat → Nat) (N : Nat) (hN : N ≤ 16) (h0 : 0 < N) (th : Int32) (σ : St) (sz : Nat) (t : Nat) (ht : t < 16) (i : Int32) (hi : i = nI t) : Kt l yM_canGo cM_canGo 2 (some .boolean) (r0 0) 0 0 D ct [.ref (am 0), .int i] sz (wM ct am N th σ) (fun v w => v = some (.int (mf_can σ t)) ∧ w = wM ct am N th σ) (fun E w => False) := by
  refine kt_of hst (by decide) (Nat.le_of_ble_eq_true rfl) (by simp [Value.category]) ?_
  intro p e s m args below meth c A ls C hne hr hw hl Q hQ
  have hx := C.1
  have hb := C.2.1
  subst hi
  refine q_aload_n hx hb hl dM_canGo_0 rfl ?_
  refine mg C hw 13 l_M_16 (by decide) rfl dM_canGo_1 ?_
  refine q_iload_n hx hb hl dM_canGo_4 rfl ?_
  refine mr_1 C hw (by assumption) rfl dM_canGo_5 ?_
  refine lv_if_eq (tgt := 22) hx hb dM_canGo_6 (by decide) (fun c_6 => ?_) (fun c_6 => ?_)
  · refine lv_iconst (v := 0) hx hb dM_canGo_22 (by decide) ?_
    exact tr_z hQ C hw hr (Nat.le_of_ble_eq_true rfl) (Nat.le_of_ble_eq_true rfl) dM_canGo_23 (by decide) ⟨by simp only [mf_can, if_pos c_6], rfl⟩
  refine q_aload_n hx hb hl dM_canGo_9 rfl ?_
  refine mg C hw 15 l_M_24 (by decide) rfl dM_canGo_10 ?_
  refine q_iload_n hx hb hl dM_canGo_13 rfl ?_
  refine mr_3 C hw (by assumption) rfl dM_canGo_14 ?_
  refine lv_if_ne (tgt := 22) hx hb dM_canGo_15 (by decide) (fun c_15 => ?_) (fun c_15 => ?_)
  · refine lv_iconst (v := 0) hx hb dM_canGo_22 (by decide) ?_
    exact tr_z hQ C hw hr (Nat.le_of_ble_eq_true rfl) (Nat.le_of_ble_eq_true rfl) dM_canGo_23 (by decide) ⟨by simp only [mf_can, if_neg c_6, if_neg c_15], rfl⟩
  refine lv_iconst (v := 1) hx hb dM_canGo_18 (by decide) ?_
  refine lv_goto (tgt := 23) hx hb dM_canGo_19 (by decide) ?_
  exact tr_z hQ C hw hr (Nat.le_of_ble_eq_true rfl) (Nat.le_of_ble_eq_true rfl) dM_canGo_23 (by decide) ⟨by simp only [mf_can, if_neg c_6, if_pos c_15], rfl⟩
set_option maxHeartbeats 4000000 in
set_option maxRecDepth 100000 in
theorem m_over (l : Launch) (hst : l.stackTraces = false) (D : va_G) (ct : Ct) (am : Nat → Nat) (N : Nat) (hN : N ≤ 16) (h0 : 0 < N) (th : Int32) (σ : St) (sz : Nat) : Kt l yM_overdue cM_overdue 3 (some .int) (r0 1) 0 0 D ct [.ref (am 0)] sz (wM ct am N th σ) (fun v w => v = some (.int (mf_over N σ)) ∧ w = wM ct am N th σ) (fun E w => False) := by
  refine kt_of hst (by decide) (Nat.le_of_ble_eq_true rfl) (by simp [Value.category]) ?_
  intro p e s m args below meth c A ls C hne hr hw hl Q hQ
  have hx := C.1
  have hb := C.2.1
  refine lv_iconst (v := -1) hx hb dM_overdue_0 (by decide) ?_
  refine q_istore_n hx hb hl dM_overdue_1 (by decide) (fun ls hl => ?_)
  refine lv_iconst (v := 0) hx hb dM_overdue_2 (by decide) ?_
  refine q_istore_n hx hb hl dM_overdue_3 (by decide) (fun ls hl => ?_)
  have L4 : ∀ (n : Nat) (t : Nat) (b : Int32), t + n = N → mf_ov σ n t b = mf_ov σ N 0 (-1) → ix N b → ∀ (H : Heap) (locs : List Loc) (ls : Array Slot), wl D A s (wM ct am N th σ) H locs → lq ls 3 [some (.ref (am 0)), some (.int b), some (.int (nI t))] → W p l e (r0 1) s m args below meth c H locs 0 0 Q (F0 m 4 ls []) := by
    intro n
    induction n with
    | zero =>
      intro t b hn he hb9 H locs ls hw hl
      refine q_iload_n hx hb hl dM_overdue_4 rfl ?_
      refine q_aload_n hx hb hl dM_overdue_5 rfl ?_
      refine mg C hw 1 l_M_57 (by decide) rfl dM_overdue_6 ?_
      refine lv_icmp_ge (tgt := 47) hx hb dM_overdue_9 (by decide) (fun c_9 => ?_) (fun q9 => absurd (nI_le (by omega) (by omega)) q9)
      have he2 : b = mf_ov σ N 0 (-1) := he
      refine q_aload_n hx hb hl dM_overdue_47 rfl ?_
      refine mg C hw 4 l_M_78 (by decide) rfl dM_overdue_48 ?_
      refine lv_if_le (tgt := 75) hx hb dM_overdue_51 (by decide) (fun c_51 => ?_) (fun c_51 => ?_)
      · refine lv_iconst (v := -1) hx hb dM_overdue_75 (by decide) ?_
        exact tr_i hQ C hw hr (Nat.le_of_ble_eq_true rfl) (Nat.le_of_ble_eq_true rfl) dM_overdue_76 ⟨by rw [mf_over, ← he2]; simp only [if_pos c_51], rfl⟩
      refine q_iload_n hx hb hl dM_overdue_54 rfl ?_
      refine lv_if_lt (tgt := 75) hx hb dM_overdue_55 (by decide) (fun c_55 => ?_) (fun c_55 => ?_)
      · refine lv_iconst (v := -1) hx hb dM_overdue_75 (by decide) ?_
        exact tr_i hQ C hw hr (Nat.le_of_ble_eq_true rfl) (Nat.le_of_ble_eq_true rfl) dM_overdue_76 ⟨by rw [mf_over, ← he2]; simp only [if_neg c_51, if_pos c_55], rfl⟩
      obtain ⟨h6, h7⟩ := ix_nn hN hb9 c_55
      refine q_aload_n hx hb hl dM_overdue_58 rfl ?_
      refine mg C hw 17 l_M_30 (by decide) rfl dM_overdue_59 ?_
      refine q_iload_n hx hb hl dM_overdue_62 rfl ?_
      refine mr_5 C hw (t := b.toNatClampNeg) (by omega) h7 dM_overdue_63 ?_
      refine q_aload_n hx hb hl dM_overdue_64 rfl ?_
      refine mg C hw 4 l_M_78 (by decide) rfl dM_overdue_65 ?_
      refine lv_icmp_lt (tgt := 75) hx hb dM_overdue_68 (by decide) (fun c_68 => ?_) (fun c_68 => ?_)
      · refine lv_iconst (v := -1) hx hb dM_overdue_75 (by decide) ?_
        exact tr_i hQ C hw hr (Nat.le_of_ble_eq_true rfl) (Nat.le_of_ble_eq_true rfl) dM_overdue_76 ⟨by rw [mf_over, ← he2]; simp only [if_neg c_51, if_neg c_55, if_pos c_68], rfl⟩
      refine q_iload_n hx hb hl dM_overdue_71 rfl ?_
      refine lv_goto (tgt := 76) hx hb dM_overdue_72 (by decide) ?_
      exact tr_i hQ C hw hr (Nat.le_of_ble_eq_true rfl) (Nat.le_of_ble_eq_true rfl) dM_overdue_76 ⟨by rw [mf_over, ← he2]; simp only [if_neg c_51, if_neg c_55, if_neg c_68], rfl⟩
    | succ n ih =>
      intro t b hn he hb9 H locs ls hw hl
      have ht : t < N := by omega
      have ht16 : t < 16 := by omega
      refine q_iload_n hx hb hl dM_overdue_4 rfl ?_
      refine q_aload_n hx hb hl dM_overdue_5 rfl ?_
      refine mg C hw 1 l_M_57 (by decide) rfl dM_overdue_6 ?_
      refine lv_icmp_ge (tgt := 47) hx hb dM_overdue_9 (by decide) (fun q9 => absurd q9 (nI_ge ht (by omega))) (fun c_9 => ?_)
      refine q_aload_n hx hb hl dM_overdue_12 rfl ?_
      refine q_iload_n hx hb hl dM_overdue_13 rfl ?_
      refine tc_E (tc_V C hl (m_can l hst D ct am N hN h0 th σ _ t (by omega) _ rfl) hw.1 hw.2.1 hw.2.2 g_M_89 (re_M C hw) hv_M_canGo rfl rfl ⟨(Nat.le_of_ble_eq_true rfl), (Nat.le_of_ble_eq_true rfl)⟩ (Nat.le_of_ble_eq_true rfl) ⟨(Nat.le_of_ble_eq_true rfl), (Nat.le_of_ble_eq_true rfl)⟩ dM_overdue_14 rfl) C hw (fun E ce q9 w1 H locs hp hw h1 h2 h3 => ?_) (fun v w1 H locs hp hw => ?_)
      · exact hp.elim
      obtain ⟨rfl, rfl⟩ := hp
      dsimp only [Option.toList_some, Option.toList_none, List.cons_append, List.nil_append]
      refine lv_if_eq (tgt := 41) hx hb dM_overdue_17 (by decide) (fun c_17 => ?_) (fun c_17 => ?_)
      · refine q_inc hx hb hl dM_overdue_41 rfl (by decide) (fun ls hl => ?_)
        refine lv_goto (tgt := 4) hx hb dM_overdue_44 (by decide) ?_
        exact ih _ _ (by omega) (by rw [← he]; simp only [mf_ov, if_pos c_17]) (by first | exact hb9 | exact ix_t ht) _ _ _ hw hl
      refine q_iload_n hx hb hl dM_overdue_20 rfl ?_
      refine lv_if_lt (tgt := 39) hx hb dM_overdue_21 (by decide) (fun c_21 => ?_) (fun c_21 => ?_)
      · refine q_iload_n hx hb hl dM_overdue_39 rfl ?_
        refine q_istore_n hx hb hl dM_overdue_40 (by decide) (fun ls hl => ?_)
        refine q_inc hx hb hl dM_overdue_41 rfl (by decide) (fun ls hl => ?_)
        refine lv_goto (tgt := 4) hx hb dM_overdue_44 (by decide) ?_
        exact ih _ _ (by omega) (by rw [← he]; simp only [mf_ov, if_neg c_17, if_pos c_21]) (by first | exact hb9 | exact ix_t ht) _ _ _ hw hl
      obtain ⟨h6, h7⟩ := ix_nn hN hb9 c_21
      refine q_aload_n hx hb hl dM_overdue_24 rfl ?_
      refine mg C hw 17 l_M_30 (by decide) rfl dM_overdue_25 ?_
      refine q_iload_n hx hb hl dM_overdue_28 rfl ?_
      refine mr_5 C hw (by assumption) rfl dM_overdue_29 ?_
      refine q_aload_n hx hb hl dM_overdue_30 rfl ?_
      refine mg C hw 17 l_M_30 (by decide) rfl dM_overdue_31 ?_
      refine q_iload_n hx hb hl dM_overdue_34 rfl ?_
      refine mr_5 C hw (t := b.toNatClampNeg) (by omega) h7 dM_overdue_35 ?_
      refine lv_icmp_le (tgt := 41) hx hb dM_overdue_36 (by decide) (fun c_36 => ?_) (fun c_36 => ?_)
      · refine q_inc hx hb hl dM_overdue_41 rfl (by decide) (fun ls hl => ?_)
        refine lv_goto (tgt := 4) hx hb dM_overdue_44 (by decide) ?_
        exact ih _ _ (by omega) (by rw [← he]; simp only [mf_ov, if_neg c_17, if_neg c_21, if_pos c_36]) (by first | exact hb9 | exact ix_t ht) _ _ _ hw hl
      refine q_iload_n hx hb hl dM_overdue_39 rfl ?_
      refine q_istore_n hx hb hl dM_overdue_40 (by decide) (fun ls hl => ?_)
      refine q_inc hx hb hl dM_overdue_41 rfl (by decide) (fun ls hl => ?_)
      refine lv_goto (tgt := 4) hx hb dM_overdue_44 (by decide) ?_
      exact ih _ _ (by omega) (by rw [← he]; simp only [mf_ov, if_neg c_17, if_neg c_21, if_neg c_36]) (by first | exact hb9 | exact ix_t ht) _ _ _ hw hl
  exact L4 N 0 _ (by omega) rfl ix_m _ _ _ hw hl
set_option maxHeartbeats 4000000 in
set_option maxRecDepth 100000 in
theorem m_top (l : Launch) (hst : l.stackTraces = false) (D : va_G) (ct : Ct) (am : Nat → Nat) (N : Nat) (hN : N ≤ 16) (h0 : 0 < N) (th : Int32) (σ : St) (sz : Nat) : Kt l yM_topRank cM_topRank 3 (some .int) (r0 1) 0 0 D ct [.ref (am 0)] sz (wM ct am N th σ) (fun v w => v = some (.int (mf_top σ N 0 (-1))) ∧ w = wM ct am N th σ) (fun E w => False) := by
  refine kt_of hst (by decide) (Nat.le_of_ble_eq_true rfl) (by simp [Value.category]) ?_
  intro p e s m args below meth c A ls C hne hr hw hl Q hQ
  have hx := C.1
  have hb := C.2.1
  refine lv_iconst (v := -1) hx hb dM_topRank_0 (by decide) ?_
  refine q_istore_n hx hb hl dM_topRank_1 (by decide) (fun ls hl => ?_)
  refine lv_iconst (v := 0) hx hb dM_topRank_2 (by decide) ?_
  refine q_istore_n hx hb hl dM_topRank_3 (by decide) (fun ls hl => ?_)
  have L4 : ∀ (n : Nat) (t : Nat) (k : Int32), t + n = N → mf_top σ n t k = mf_top σ N 0 (-1) → ∀ (H : Heap) (locs : List Loc) (ls : Array Slot), wl D A s (wM ct am N th σ) H locs → lq ls 3 [some (.ref (am 0)), some (.int k), some (.int (nI t))] → W p l e (r0 1) s m args below meth c H locs 0 0 Q (F0 m 4 ls []) := by
    intro n
    induction n with
    | zero =>
      intro t k hn he H locs ls hw hl
      refine q_iload_n hx hb hl dM_topRank_4 rfl ?_
      refine q_aload_n hx hb hl dM_topRank_5 rfl ?_
      refine mg C hw 1 l_M_57 (by decide) rfl dM_topRank_6 ?_
      refine lv_icmp_ge (tgt := 47) hx hb dM_topRank_9 (by decide) (fun c_9 => ?_) (fun q9 => absurd (nI_le (by omega) (by omega)) q9)
      refine q_iload_n hx hb hl dM_topRank_47 rfl ?_
      exact tr_i hQ C hw hr (Nat.le_of_ble_eq_true rfl) (Nat.le_of_ble_eq_true rfl) dM_topRank_48 ⟨by rw [← he]; rfl, rfl⟩
    | succ n ih =>
      intro t k hn he H locs ls hw hl
      have ht : t < N := by omega
      have ht16 : t < 16 := by omega
      refine q_iload_n hx hb hl dM_topRank_4 rfl ?_
      refine q_aload_n hx hb hl dM_topRank_5 rfl ?_
      refine mg C hw 1 l_M_57 (by decide) rfl dM_topRank_6 ?_
      refine lv_icmp_ge (tgt := 47) hx hb dM_topRank_9 (by decide) (fun q9 => absurd q9 (nI_ge ht (by omega))) (fun c_9 => ?_)
      refine q_aload_n hx hb hl dM_topRank_12 rfl ?_
      refine q_iload_n hx hb hl dM_topRank_13 rfl ?_
      refine tc_E (tc_V C hl (m_can l hst D ct am N hN h0 th σ _ t (by omega) _ rfl) hw.1 hw.2.1 hw.2.2 g_M_89 (re_M C hw) hv_M_canGo rfl rfl ⟨(Nat.le_of_ble_eq_true rfl), (Nat.le_of_ble_eq_true rfl)⟩ (Nat.le_of_ble_eq_true rfl) ⟨(Nat.le_of_ble_eq_true rfl), (Nat.le_of_ble_eq_true rfl)⟩ dM_topRank_14 rfl) C hw (fun E ce q9 w1 H locs hp hw h1 h2 h3 => ?_) (fun v w1 H locs hp hw => ?_)
      · exact hp.elim
      obtain ⟨rfl, rfl⟩ := hp
      dsimp only [Option.toList_some, Option.toList_none, List.cons_append, List.nil_append]
      refine lv_if_eq (tgt := 39) hx hb dM_topRank_17 (by decide) (fun c_17 => ?_) (fun c_17 => ?_)
      · refine q_iload_n hx hb hl dM_topRank_39 rfl ?_
        refine q_istore_n hx hb hl dM_topRank_40 (by decide) (fun ls hl => ?_)
        refine q_inc hx hb hl dM_topRank_41 rfl (by decide) (fun ls hl => ?_)
        refine lv_goto (tgt := 4) hx hb dM_topRank_44 (by decide) ?_
        exact ih _ _ (by omega) (by rw [← he]; simp only [mf_top, if_pos c_17]) _ _ _ hw hl
      refine q_aload_n hx hb hl dM_topRank_20 rfl ?_
      refine mg C hw 14 l_M_20 (by decide) rfl dM_topRank_21 ?_
      refine q_iload_n hx hb hl dM_topRank_24 rfl ?_
      refine mr_2 C hw (by assumption) rfl dM_topRank_25 ?_
      refine q_iload_n hx hb hl dM_topRank_26 rfl ?_
      refine lv_icmp_le (tgt := 39) hx hb dM_topRank_27 (by decide) (fun c_27 => ?_) (fun c_27 => ?_)
      · refine q_iload_n hx hb hl dM_topRank_39 rfl ?_
        refine q_istore_n hx hb hl dM_topRank_40 (by decide) (fun ls hl => ?_)
        refine q_inc hx hb hl dM_topRank_41 rfl (by decide) (fun ls hl => ?_)
        refine lv_goto (tgt := 4) hx hb dM_topRank_44 (by decide) ?_
        exact ih _ _ (by omega) (by rw [← he]; simp only [mf_top, if_neg c_17, if_pos c_27]) _ _ _ hw hl
      refine q_aload_n hx hb hl dM_topRank_30 rfl ?_
      refine mg C hw 14 l_M_20 (by decide) rfl dM_topRank_31 ?_
      refine q_iload_n hx hb hl dM_topRank_34 rfl ?_
      refine mr_2 C hw (by assumption) rfl dM_topRank_35 ?_
      refine lv_goto (tgt := 40) hx hb dM_topRank_36 (by decide) ?_
      refine q_istore_n hx hb hl dM_topRank_40 (by decide) (fun ls hl => ?_)
      refine q_inc hx hb hl dM_topRank_41 rfl (by decide) (fun ls hl => ?_)
      refine lv_goto (tgt := 4) hx hb dM_topRank_44 (by decide) ?_
      exact ih _ _ (by omega) (by rw [← he]; simp only [mf_top, if_neg c_17, if_neg c_27]) _ _ _ hw hl
  exact L4 N 0 _ (by omega) rfl _ _ _ hw hl
set_option maxHeartbeats 4000000 in
set_option maxRecDepth 100000 in
theorem m_turn (l : Launch) (hst : l.stackTraces = false) (D : va_G) (ct : Ct) (am : Nat → Nat) (N : Nat) (hN : N ≤ 16) (h0 : 0 < N) (th : Int32) (σ : St) (sz : Nat) (h4 : ix N (σ 0 0 4)) (top : Int32) : Kt l yM_turn cM_turn 4 (some .int) (r0 1) 0 0 D ct [.ref (am 0), .int top] sz (wM ct am N th σ) (fun v w => v = some (.int (mf_turn σ N top N 0)) ∧ w = wM ct am N th σ) (fun E w => False) := by
  refine kt_of hst (by decide) (Nat.le_of_ble_eq_true rfl) (by simp [Value.category]) ?_
  intro p e s m args below meth c A ls C hne hr hw hl Q hQ
  have hx := C.1
  have hb := C.2.1
  refine lv_iconst (v := 1) hx hb dM_turn_0 (by decide) ?_
  refine q_istore_n hx hb hl dM_turn_1 (by decide) (fun ls hl => ?_)
  have L2 : ∀ (n : Nat) (j : Nat), j + n = N → mf_turn σ N top n j = mf_turn σ N top N 0 → ∀ (H : Heap) (locs : List Loc) (ls : Array Slot), wl D A s (wM ct am N th σ) H locs → lq ls 4 [some (.ref (am 0)), some (.int top), some (.int (nI (j + 1))), none] → W p l e (r0 1) s m args below meth c H locs 0 0 Q (F0 m 2 ls []) := by
    intro n
    induction n with
    | zero =>
      intro j hn he H locs ls hw hl
      refine q_iload_n hx hb hl dM_turn_2 rfl ?_
      refine q_aload_n hx hb hl dM_turn_3 rfl ?_
      refine mg C hw 1 l_M_57 (by decide) rfl dM_turn_4 ?_
      refine lv_icmp_gt (tgt := 48) hx hb dM_turn_7 (by decide) (fun c_7 => ?_) (fun q9 => absurd (nI_lt (by omega) (by omega)) q9)
      refine lv_iconst (v := -1) hx hb dM_turn_48 (by decide) ?_
      exact tr_i hQ C hw hr (Nat.le_of_ble_eq_true rfl) (Nat.le_of_ble_eq_true rfl) dM_turn_49 ⟨by rw [← he]; rfl, rfl⟩
    | succ n ih =>
      intro j hn he H locs ls hw hl
      have hm : (mf_L σ + j) % N < N := Nat.mod_lt _ h0
      refine q_iload_n hx hb hl dM_turn_2 rfl ?_
      refine q_aload_n hx hb hl dM_turn_3 rfl ?_
      refine mg C hw 1 l_M_57 (by decide) rfl dM_turn_4 ?_
      refine lv_icmp_gt (tgt := 48) hx hb dM_turn_7 (by decide) (fun q9 => absurd q9 (nI_nlt (by omega) (by omega))) (fun c_7 => ?_)
      refine q_aload_n hx hb hl dM_turn_10 rfl ?_
      refine mg C hw 10 l_M_7 (by decide) rfl dM_turn_11 ?_
      refine q_iload_n hx hb hl dM_turn_14 rfl ?_
      refine lv_iadd hx hb dM_turn_15 ?_
      refine q_aload_n hx hb hl dM_turn_16 rfl ?_
      refine mg C hw 1 l_M_57 (by decide) rfl dM_turn_17 ?_
      refine lv_irem hx hb dM_turn_20 (nI_ne0 h0 (by omega)) ?_
      refine q_istore_n hx hb hl dM_turn_21 (by decide) (fun ls hl => ?_)
      refine q_aload_n hx hb hl dM_turn_22 rfl ?_
      refine q_iload_n hx hb hl dM_turn_23 rfl ?_
      refine tc_E (tc_V C hl (m_can l hst D ct am N hN h0 th σ _ ((mf_L σ + j) % N) (by omega) _ (turn_ix hN h0 (by omega) h4)) hw.1 hw.2.1 hw.2.2 g_M_89 (re_M C hw) hv_M_canGo rfl rfl ⟨(Nat.le_of_ble_eq_true rfl), (Nat.le_of_ble_eq_true rfl)⟩ (Nat.le_of_ble_eq_true rfl) ⟨(Nat.le_of_ble_eq_true rfl), (Nat.le_of_ble_eq_true rfl)⟩ dM_turn_24 rfl) C hw (fun E ce q9 w1 H locs hp hw h1 h2 h3 => ?_) (fun v w1 H locs hp hw => ?_)
      · exact hp.elim
      obtain ⟨rfl, rfl⟩ := hp
      dsimp only [Option.toList_some, Option.toList_none, List.cons_append, List.nil_append]
      refine lv_if_eq (tgt := 42) hx hb dM_turn_27 (by decide) (fun c_27 => ?_) (fun c_27 => ?_)
      · refine q_inc hx hb hl dM_turn_42 rfl (by decide) (fun ls hl => ?_)
        refine lv_goto (tgt := 2) hx hb dM_turn_45 (by decide) ?_
        exact ih _ (by omega) (by rw [← he]; simp only [mf_turn, if_pos c_27]) _ _ _ hw (hl.drop 3)
      refine q_aload_n hx hb hl dM_turn_30 rfl ?_
      refine mg C hw 14 l_M_20 (by decide) rfl dM_turn_31 ?_
      refine q_iload_n hx hb hl dM_turn_34 rfl ?_
      refine mr_2 C hw (t := (mf_L σ + j) % N) (by omega) (turn_ix hN h0 (by omega) h4) dM_turn_35 ?_
      refine q_iload_n hx hb hl dM_turn_36 rfl ?_
      refine lv_icmp_ne (tgt := 42) hx hb dM_turn_37 (by decide) (fun c_37 => ?_) (fun c_37 => ?_)
      · refine q_inc hx hb hl dM_turn_42 rfl (by decide) (fun ls hl => ?_)
        refine lv_goto (tgt := 2) hx hb dM_turn_45 (by decide) ?_
        exact ih _ (by omega) (by rw [← he]; simp only [mf_turn, if_neg c_27, if_neg c_37]) _ _ _ hw (hl.drop 3)
      refine q_iload_n hx hb hl dM_turn_40 rfl ?_
      exact tr_i hQ C hw hr (Nat.le_of_ble_eq_true rfl) (Nat.le_of_ble_eq_true rfl) dM_turn_41 ⟨by rw [turn_ix hN h0 (by omega) h4, ← he]; simp only [mf_turn, if_neg c_27, if_pos c_37], rfl⟩
  exact L2 N 0 (by omega) rfl _ _ _ hw hl
set_option maxHeartbeats 4000000 in
set_option maxRecDepth 100000 in
theorem m_few (l : Launch) (hst : l.stackTraces = false) (D : va_G) (ct : Ct) (am : Nat → Nat) (N : Nat) (hN : N ≤ 16) (h0 : 0 < N) (th : Int32) (σ : St) (sz : Nat) (top y : Int32) : Kt l yM_fewest cM_fewest 7 (some .int) (r0 1) 0 0 D ct [.ref (am 0), .int top, .int y] sz (wM ct am N th σ) (fun v w => v = some (.int (mf_few σ top y N (-1))) ∧ w = wM ct am N th σ) (fun E w => False) := by
  refine kt_of hst (by decide) (Nat.le_of_ble_eq_true rfl) (by simp [Value.category]) ?_
  intro p e s m args below meth c A ls C hne hr hw hl Q hQ
  have hx := C.1
  have hb := C.2.1
  refine lv_iconst (v := -1) hx hb dM_fewest_0 (by decide) ?_
  refine q_istore_n hx hb hl dM_fewest_1 (by decide) (fun ls hl => ?_)
  refine q_aload_n hx hb hl dM_fewest_2 rfl ?_
  refine mg C hw 1 l_M_57 (by decide) rfl dM_fewest_3 ?_
  refine lv_iconst (v := 1) hx hb dM_fewest_6 (by decide) ?_
  refine lv_isub hx hb dM_fewest_7 ?_
  refine q_istore hx hb hl dM_fewest_8 (by decide) (fun ls hl => ?_)
  have L10 : ∀ (n : Nat) (b : Int32), n ≤ N → mf_few σ top y n b = mf_few σ top y N (-1) → ix N b → ∀ (H : Heap) (locs : List Loc) (ls : Array Slot), wl D A s (wM ct am N th σ) H locs → lq ls 7 [some (.ref (am 0)), some (.int top), some (.int y), some (.int b), some (.int (dn n)), none, none] → W p l e (r0 1) s m args below meth c H locs 0 0 Q (F0 m 10 ls []) := by
    intro n
    induction n with
    | zero =>
      intro b hn he hb9 H locs ls hw hl
      refine q_iload hx hb hl dM_fewest_10 rfl ?_
      refine lv_if_lt (tgt := 104) hx hb dM_fewest_12 (by decide) (fun c_12 => ?_) (fun q9 => absurd dn_0 q9)
      refine q_iload_n hx hb hl dM_fewest_104 rfl ?_
      exact tr_i hQ C hw hr (Nat.le_of_ble_eq_true rfl) (Nat.le_of_ble_eq_true rfl) dM_fewest_105 ⟨by rw [← he]; rfl, rfl⟩
    | succ n ih =>
      intro b hn he hb9 H locs ls hw hl
      have ht16 : n < 16 := by omega
      have ht : n < N := by omega
      rw [dn_s] at hl
      refine q_iload hx hb hl dM_fewest_10 rfl ?_
      refine lv_if_lt (tgt := 104) hx hb dM_fewest_12 (by decide) (fun q9 => absurd q9 (nI_pos (by omega))) (fun c_12 => ?_)
      refine q_iload_n hx hb hl dM_fewest_15 rfl ?_
      refine lv_if_eq (tgt := 29) hx hb dM_fewest_16 (by decide) (fun c_16 => ?_) (fun c_16 => ?_)
      · refine q_aload_n hx hb hl dM_fewest_29 rfl ?_
        refine mg C hw 19 l_M_36 (by decide) rfl dM_fewest_30 ?_
        refine q_iload hx hb hl dM_fewest_33 rfl ?_
        refine mr_7 C hw (by assumption) rfl dM_fewest_35 ?_
        refine q_istore hx hb hl dM_fewest_36 (by decide) (fun ls hl => ?_)
        refine q_iload_n hx hb hl dM_fewest_38 rfl ?_
        refine lv_if_ge (tgt := 47) hx hb dM_fewest_39 (by decide) (fun c_39 => ?_) (fun c_39 => ?_)
        · refine q_iload_n hx hb hl dM_fewest_47 rfl ?_
          refine lv_if_eq (tgt := 60) hx hb dM_fewest_48 (by decide) (fun c_48 => ?_) (fun q9 => absurd c_16 q9)
          obtain ⟨h6, h7⟩ := ix_nn hN hb9 (i32_nlt c_39)
          refine q_aload_n hx hb hl dM_fewest_60 rfl ?_
          refine mg C hw 19 l_M_36 (by decide) rfl dM_fewest_61 ?_
          refine q_iload_n hx hb hl dM_fewest_64 rfl ?_
          refine mr_7 C hw (t := b.toNatClampNeg) (by omega) h7 dM_fewest_65 ?_
          refine q_istore hx hb hl dM_fewest_66 (by decide) (fun ls hl => ?_)
          refine q_aload_n hx hb hl dM_fewest_68 rfl ?_
          refine q_iload hx hb hl dM_fewest_69 rfl ?_
          refine tc_E (tc_V C hl (m_can l hst D ct am N hN h0 th σ _ n (by omega) _ rfl) hw.1 hw.2.1 hw.2.2 g_M_89 (re_M C hw) hv_M_canGo rfl rfl ⟨(Nat.le_of_ble_eq_true rfl), (Nat.le_of_ble_eq_true rfl)⟩ (Nat.le_of_ble_eq_true rfl) ⟨(Nat.le_of_ble_eq_true rfl), (Nat.le_of_ble_eq_true rfl)⟩ dM_fewest_71 rfl) C hw (fun E ce q9 w1 H locs hp hw h1 h2 h3 => ?_) (fun v w1 H locs hp hw => ?_)
          · exact hp.elim
          obtain ⟨rfl, rfl⟩ := hp
          dsimp only [Option.toList_some, Option.toList_none, List.cons_append, List.nil_append]
          refine lv_if_eq (tgt := 98) hx hb dM_fewest_74 (by decide) (fun c_74 => ?_) (fun c_74 => ?_)
          · refine q_incm hx hb hl dM_fewest_98 rfl (by decide) (fun ls hl => ?_)
            refine lv_goto (tgt := 10) hx hb dM_fewest_101 (by decide) ?_
            exact ih _ (by omega) (by rw [← he]; simp only [mf_few, mf_b, mf_v, if_pos c_16, if_pos c_39, if_pos c_74]) (by first | exact hb9 | exact ix_t (by omega)) _ _ _ hw ((hl.drop 5).drop 6)
          refine q_aload_n hx hb hl dM_fewest_77 rfl ?_
          refine mg C hw 14 l_M_20 (by decide) rfl dM_fewest_78 ?_
          refine q_iload hx hb hl dM_fewest_81 rfl ?_
          refine mr_2 C hw (by assumption) rfl dM_fewest_83 ?_
          refine q_iload_n hx hb hl dM_fewest_84 rfl ?_
          refine lv_icmp_ne (tgt := 98) hx hb dM_fewest_85 (by decide) (fun c_85 => ?_) (fun c_85 => ?_)
          · refine q_incm hx hb hl dM_fewest_98 rfl (by decide) (fun ls hl => ?_)
            refine lv_goto (tgt := 10) hx hb dM_fewest_101 (by decide) ?_
            exact ih _ (by omega) (by rw [← he]; simp only [mf_few, mf_b, mf_v, if_pos c_16, if_pos c_39, if_neg c_74, if_neg c_85]) (by first | exact hb9 | exact ix_t (by omega)) _ _ _ hw ((hl.drop 5).drop 6)
          refine q_iload hx hb hl dM_fewest_88 rfl ?_
          refine q_iload hx hb hl dM_fewest_90 rfl ?_
          refine lv_icmp_gt (tgt := 98) hx hb dM_fewest_92 (by decide) (fun c_92 => ?_) (fun c_92 => ?_)
          · refine q_incm hx hb hl dM_fewest_98 rfl (by decide) (fun ls hl => ?_)
            refine lv_goto (tgt := 10) hx hb dM_fewest_101 (by decide) ?_
            exact ih _ (by omega) (by rw [← he]; simp only [mf_few, mf_b, mf_v, if_pos c_16, if_pos c_39, if_neg c_74, if_pos c_85, if_pos c_92]) (by first | exact hb9 | exact ix_t (by omega)) _ _ _ hw ((hl.drop 5).drop 6)
          refine q_iload hx hb hl dM_fewest_95 rfl ?_
          refine q_istore_n hx hb hl dM_fewest_97 (by decide) (fun ls hl => ?_)
          refine q_incm hx hb hl dM_fewest_98 rfl (by decide) (fun ls hl => ?_)
          refine lv_goto (tgt := 10) hx hb dM_fewest_101 (by decide) ?_
          exact ih _ (by omega) (by rw [← he]; simp only [mf_few, mf_b, mf_v, if_pos c_16, if_pos c_39, if_neg c_74, if_pos c_85, if_neg c_92]) (by first | exact hb9 | exact ix_t (by omega)) _ _ _ hw ((hl.drop 5).drop 6)
        refine q_iload hx hb hl dM_fewest_42 rfl ?_
        refine lv_goto (tgt := 66) hx hb dM_fewest_44 (by decide) ?_
        refine q_istore hx hb hl dM_fewest_66 (by decide) (fun ls hl => ?_)
        refine q_aload_n hx hb hl dM_fewest_68 rfl ?_
        refine q_iload hx hb hl dM_fewest_69 rfl ?_
        refine tc_E (tc_V C hl (m_can l hst D ct am N hN h0 th σ _ n (by omega) _ rfl) hw.1 hw.2.1 hw.2.2 g_M_89 (re_M C hw) hv_M_canGo rfl rfl ⟨(Nat.le_of_ble_eq_true rfl), (Nat.le_of_ble_eq_true rfl)⟩ (Nat.le_of_ble_eq_true rfl) ⟨(Nat.le_of_ble_eq_true rfl), (Nat.le_of_ble_eq_true rfl)⟩ dM_fewest_71 rfl) C hw (fun E ce q9 w1 H locs hp hw h1 h2 h3 => ?_) (fun v w1 H locs hp hw => ?_)
        · exact hp.elim
        obtain ⟨rfl, rfl⟩ := hp
        dsimp only [Option.toList_some, Option.toList_none, List.cons_append, List.nil_append]
        refine lv_if_eq (tgt := 98) hx hb dM_fewest_74 (by decide) (fun c_74 => ?_) (fun c_74 => ?_)
        · refine q_incm hx hb hl dM_fewest_98 rfl (by decide) (fun ls hl => ?_)
          refine lv_goto (tgt := 10) hx hb dM_fewest_101 (by decide) ?_
          exact ih _ (by omega) (by rw [← he]; simp only [mf_few, mf_b, mf_v, if_pos c_16, if_neg c_39, if_pos c_74]) (by first | exact hb9 | exact ix_t (by omega)) _ _ _ hw ((hl.drop 5).drop 6)
        refine q_aload_n hx hb hl dM_fewest_77 rfl ?_
        refine mg C hw 14 l_M_20 (by decide) rfl dM_fewest_78 ?_
        refine q_iload hx hb hl dM_fewest_81 rfl ?_
        refine mr_2 C hw (by assumption) rfl dM_fewest_83 ?_
        refine q_iload_n hx hb hl dM_fewest_84 rfl ?_
        refine lv_icmp_ne (tgt := 98) hx hb dM_fewest_85 (by decide) (fun c_85 => ?_) (fun c_85 => ?_)
        · refine q_incm hx hb hl dM_fewest_98 rfl (by decide) (fun ls hl => ?_)
          refine lv_goto (tgt := 10) hx hb dM_fewest_101 (by decide) ?_
          exact ih _ (by omega) (by rw [← he]; simp only [mf_few, mf_b, mf_v, if_pos c_16, if_neg c_39, if_neg c_74, if_neg c_85]) (by first | exact hb9 | exact ix_t (by omega)) _ _ _ hw ((hl.drop 5).drop 6)
        refine q_iload hx hb hl dM_fewest_88 rfl ?_
        refine q_iload hx hb hl dM_fewest_90 rfl ?_
        refine lv_icmp_gt (tgt := 98) hx hb dM_fewest_92 (by decide) (fun c_92 => ?_) (fun c_92 => ?_)
        · refine q_incm hx hb hl dM_fewest_98 rfl (by decide) (fun ls hl => ?_)
          refine lv_goto (tgt := 10) hx hb dM_fewest_101 (by decide) ?_
          exact ih _ (by omega) (by rw [← he]; simp only [mf_few, mf_b, mf_v, if_pos c_16, if_neg c_39, if_neg c_74, if_pos c_85, if_pos c_92]) (by first | exact hb9 | exact ix_t (by omega)) _ _ _ hw ((hl.drop 5).drop 6)
        refine q_iload hx hb hl dM_fewest_95 rfl ?_
        refine q_istore_n hx hb hl dM_fewest_97 (by decide) (fun ls hl => ?_)
        refine q_incm hx hb hl dM_fewest_98 rfl (by decide) (fun ls hl => ?_)
        refine lv_goto (tgt := 10) hx hb dM_fewest_101 (by decide) ?_
        exact ih _ (by omega) (by rw [← he]; simp only [mf_few, mf_b, mf_v, if_pos c_16, if_neg c_39, if_neg c_74, if_pos c_85, if_neg c_92]) (by first | exact hb9 | exact ix_t (by omega)) _ _ _ hw ((hl.drop 5).drop 6)
      refine q_aload_n hx hb hl dM_fewest_19 rfl ?_
      refine mg C hw 16 l_M_27 (by decide) rfl dM_fewest_20 ?_
      refine q_iload hx hb hl dM_fewest_23 rfl ?_
      refine mr_4 C hw (by assumption) rfl dM_fewest_25 ?_
      refine lv_goto (tgt := 36) hx hb dM_fewest_26 (by decide) ?_
      refine q_istore hx hb hl dM_fewest_36 (by decide) (fun ls hl => ?_)
      refine q_iload_n hx hb hl dM_fewest_38 rfl ?_
      refine lv_if_ge (tgt := 47) hx hb dM_fewest_39 (by decide) (fun c_39 => ?_) (fun c_39 => ?_)
      · refine q_iload_n hx hb hl dM_fewest_47 rfl ?_
        refine lv_if_eq (tgt := 60) hx hb dM_fewest_48 (by decide) (fun q9 => absurd q9 c_16) (fun c_48 => ?_)
        obtain ⟨h6, h7⟩ := ix_nn hN hb9 (i32_nlt c_39)
        refine q_aload_n hx hb hl dM_fewest_51 rfl ?_
        refine mg C hw 16 l_M_27 (by decide) rfl dM_fewest_52 ?_
        refine q_iload_n hx hb hl dM_fewest_55 rfl ?_
        refine mr_4 C hw (t := b.toNatClampNeg) (by omega) h7 dM_fewest_56 ?_
        refine lv_goto (tgt := 66) hx hb dM_fewest_57 (by decide) ?_
        refine q_istore hx hb hl dM_fewest_66 (by decide) (fun ls hl => ?_)
        refine q_aload_n hx hb hl dM_fewest_68 rfl ?_
        refine q_iload hx hb hl dM_fewest_69 rfl ?_
        refine tc_E (tc_V C hl (m_can l hst D ct am N hN h0 th σ _ n (by omega) _ rfl) hw.1 hw.2.1 hw.2.2 g_M_89 (re_M C hw) hv_M_canGo rfl rfl ⟨(Nat.le_of_ble_eq_true rfl), (Nat.le_of_ble_eq_true rfl)⟩ (Nat.le_of_ble_eq_true rfl) ⟨(Nat.le_of_ble_eq_true rfl), (Nat.le_of_ble_eq_true rfl)⟩ dM_fewest_71 rfl) C hw (fun E ce q9 w1 H locs hp hw h1 h2 h3 => ?_) (fun v w1 H locs hp hw => ?_)
        · exact hp.elim
        obtain ⟨rfl, rfl⟩ := hp
        dsimp only [Option.toList_some, Option.toList_none, List.cons_append, List.nil_append]
        refine lv_if_eq (tgt := 98) hx hb dM_fewest_74 (by decide) (fun c_74 => ?_) (fun c_74 => ?_)
        · refine q_incm hx hb hl dM_fewest_98 rfl (by decide) (fun ls hl => ?_)
          refine lv_goto (tgt := 10) hx hb dM_fewest_101 (by decide) ?_
          exact ih _ (by omega) (by rw [← he]; simp only [mf_few, mf_b, mf_v, if_neg c_16, if_pos c_39, if_pos c_74]) (by first | exact hb9 | exact ix_t (by omega)) _ _ _ hw ((hl.drop 5).drop 6)
        refine q_aload_n hx hb hl dM_fewest_77 rfl ?_
        refine mg C hw 14 l_M_20 (by decide) rfl dM_fewest_78 ?_
        refine q_iload hx hb hl dM_fewest_81 rfl ?_
        refine mr_2 C hw (by assumption) rfl dM_fewest_83 ?_
        refine q_iload_n hx hb hl dM_fewest_84 rfl ?_
        refine lv_icmp_ne (tgt := 98) hx hb dM_fewest_85 (by decide) (fun c_85 => ?_) (fun c_85 => ?_)
        · refine q_incm hx hb hl dM_fewest_98 rfl (by decide) (fun ls hl => ?_)
          refine lv_goto (tgt := 10) hx hb dM_fewest_101 (by decide) ?_
          exact ih _ (by omega) (by rw [← he]; simp only [mf_few, mf_b, mf_v, if_neg c_16, if_pos c_39, if_neg c_74, if_neg c_85]) (by first | exact hb9 | exact ix_t (by omega)) _ _ _ hw ((hl.drop 5).drop 6)
        refine q_iload hx hb hl dM_fewest_88 rfl ?_
        refine q_iload hx hb hl dM_fewest_90 rfl ?_
        refine lv_icmp_gt (tgt := 98) hx hb dM_fewest_92 (by decide) (fun c_92 => ?_) (fun c_92 => ?_)
        · refine q_incm hx hb hl dM_fewest_98 rfl (by decide) (fun ls hl => ?_)
          refine lv_goto (tgt := 10) hx hb dM_fewest_101 (by decide) ?_
          exact ih _ (by omega) (by rw [← he]; simp only [mf_few, mf_b, mf_v, if_neg c_16, if_pos c_39, if_neg c_74, if_pos c_85, if_pos c_92]) (by first | exact hb9 | exact ix_t (by omega)) _ _ _ hw ((hl.drop 5).drop 6)
        refine q_iload hx hb hl dM_fewest_95 rfl ?_
        refine q_istore_n hx hb hl dM_fewest_97 (by decide) (fun ls hl => ?_)
        refine q_incm hx hb hl dM_fewest_98 rfl (by decide) (fun ls hl => ?_)
        refine lv_goto (tgt := 10) hx hb dM_fewest_101 (by decide) ?_
        exact ih _ (by omega) (by rw [← he]; simp only [mf_few, mf_b, mf_v, if_neg c_16, if_pos c_39, if_neg c_74, if_pos c_85, if_neg c_92]) (by first | exact hb9 | exact ix_t (by omega)) _ _ _ hw ((hl.drop 5).drop 6)
      refine q_iload hx hb hl dM_fewest_42 rfl ?_
      refine lv_goto (tgt := 66) hx hb dM_fewest_44 (by decide) ?_
      refine q_istore hx hb hl dM_fewest_66 (by decide) (fun ls hl => ?_)
      refine q_aload_n hx hb hl dM_fewest_68 rfl ?_
      refine q_iload hx hb hl dM_fewest_69 rfl ?_
      refine tc_E (tc_V C hl (m_can l hst D ct am N hN h0 th σ _ n (by omega) _ rfl) hw.1 hw.2.1 hw.2.2 g_M_89 (re_M C hw) hv_M_canGo rfl rfl ⟨(Nat.le_of_ble_eq_true rfl), (Nat.le_of_ble_eq_true rfl)⟩ (Nat.le_of_ble_eq_true rfl) ⟨(Nat.le_of_ble_eq_true rfl), (Nat.le_of_ble_eq_true rfl)⟩ dM_fewest_71 rfl) C hw (fun E ce q9 w1 H locs hp hw h1 h2 h3 => ?_) (fun v w1 H locs hp hw => ?_)
      · exact hp.elim
      obtain ⟨rfl, rfl⟩ := hp
      dsimp only [Option.toList_some, Option.toList_none, List.cons_append, List.nil_append]
      refine lv_if_eq (tgt := 98) hx hb dM_fewest_74 (by decide) (fun c_74 => ?_) (fun c_74 => ?_)
      · refine q_incm hx hb hl dM_fewest_98 rfl (by decide) (fun ls hl => ?_)
        refine lv_goto (tgt := 10) hx hb dM_fewest_101 (by decide) ?_
        exact ih _ (by omega) (by rw [← he]; simp only [mf_few, mf_b, mf_v, if_neg c_16, if_neg c_39, if_pos c_74]) (by first | exact hb9 | exact ix_t (by omega)) _ _ _ hw ((hl.drop 5).drop 6)
      refine q_aload_n hx hb hl dM_fewest_77 rfl ?_
      refine mg C hw 14 l_M_20 (by decide) rfl dM_fewest_78 ?_
      refine q_iload hx hb hl dM_fewest_81 rfl ?_
      refine mr_2 C hw (by assumption) rfl dM_fewest_83 ?_
      refine q_iload_n hx hb hl dM_fewest_84 rfl ?_
      refine lv_icmp_ne (tgt := 98) hx hb dM_fewest_85 (by decide) (fun c_85 => ?_) (fun c_85 => ?_)
      · refine q_incm hx hb hl dM_fewest_98 rfl (by decide) (fun ls hl => ?_)
        refine lv_goto (tgt := 10) hx hb dM_fewest_101 (by decide) ?_
        exact ih _ (by omega) (by rw [← he]; simp only [mf_few, mf_b, mf_v, if_neg c_16, if_neg c_39, if_neg c_74, if_neg c_85]) (by first | exact hb9 | exact ix_t (by omega)) _ _ _ hw ((hl.drop 5).drop 6)
      refine q_iload hx hb hl dM_fewest_88 rfl ?_
      refine q_iload hx hb hl dM_fewest_90 rfl ?_
      refine lv_icmp_gt (tgt := 98) hx hb dM_fewest_92 (by decide) (fun c_92 => ?_) (fun c_92 => ?_)
      · refine q_incm hx hb hl dM_fewest_98 rfl (by decide) (fun ls hl => ?_)
        refine lv_goto (tgt := 10) hx hb dM_fewest_101 (by decide) ?_
        exact ih _ (by omega) (by rw [← he]; simp only [mf_few, mf_b, mf_v, if_neg c_16, if_neg c_39, if_neg c_74, if_pos c_85, if_pos c_92]) (by first | exact hb9 | exact ix_t (by omega)) _ _ _ hw ((hl.drop 5).drop 6)
      refine q_iload hx hb hl dM_fewest_95 rfl ?_
      refine q_istore_n hx hb hl dM_fewest_97 (by decide) (fun ls hl => ?_)
      refine q_incm hx hb hl dM_fewest_98 rfl (by decide) (fun ls hl => ?_)
      refine lv_goto (tgt := 10) hx hb dM_fewest_101 (by decide) ?_
      exact ih _ (by omega) (by rw [← he]; simp only [mf_few, mf_b, mf_v, if_neg c_16, if_neg c_39, if_neg c_74, if_pos c_85, if_neg c_92]) (by first | exact hb9 | exact ix_t (by omega)) _ _ _ hw ((hl.drop 5).drop 6)
  exact L10 N _ (Nat.le_refl N) rfl ix_m _ _ _ hw (by rw [← dn_N]; exact hl)
set_option maxHeartbeats 4000000 in
set_option maxRecDepth 100000 in
theorem m_dr (l : Launch) (hst : l.stackTraces = false) (D : va_G) (ct : Ct) (am : Nat → Nat) (N : Nat) (hN : N ≤ 16) (h0 : 0 < N) (th : Int32) (σ : St) (sz : Nat) (top : Int32) (hm : ¬ mf_cnt σ top N 0 0 = 0) : Kt l yM_drawn cM_drawn 5 (some .int) (r0 1) 0 0 D ct [.ref (am 0), .int top] sz (wM ct am N th σ) (fun v w => v = some (.int (mf_drA N top σ)) ∧ w = wM ct am N th (su σ 0 0 3 (tf_x σ))) (fun E w => False) := by
  refine kt_of hst (by decide) (Nat.le_of_ble_eq_true rfl) (by simp [Value.category]) ?_
  intro p e s m args below meth c A ls C hne hr hw hl Q hQ
  have hx := C.1
  have hb := C.2.1
  refine lv_iconst (v := 0) hx hb dM_drawn_0 (by decide) ?_
  refine q_istore_n hx hb hl dM_drawn_1 (by decide) (fun ls hl => ?_)
  refine lv_iconst (v := 0) hx hb dM_drawn_2 (by decide) ?_
  refine q_istore_n hx hb hl dM_drawn_3 (by decide) (fun ls hl => ?_)
  have L4 : ∀ (n : Nat) (t : Nat) (k : Int32), t + n = N → mf_cnt σ top n t k = mf_cnt σ top N 0 0 → ∀ (H : Heap) (locs : List Loc) (ls : Array Slot), wl D A s (wM ct am N th σ) H locs → lq ls 5 [some (.ref (am 0)), some (.int top), some (.int k), some (.int (nI t)), none] → W p l e (r0 1) s m args below meth c H locs 0 0 Q (F0 m 4 ls []) := by
    intro n
    induction n with
    | zero =>
      intro t k hn he H locs ls hw hl
      refine q_iload_n hx hb hl dM_drawn_4 rfl ?_
      refine q_aload_n hx hb hl dM_drawn_5 rfl ?_
      refine mg C hw 1 l_M_57 (by decide) rfl dM_drawn_6 ?_
      refine lv_icmp_ge (tgt := 44) hx hb dM_drawn_9 (by decide) (fun c_9 => ?_) (fun q9 => absurd (nI_le (by omega) (by omega)) q9)
      have he2 : k = mf_cnt σ top N 0 0 := he
      refine q_aload_n hx hb hl dM_drawn_44 rfl ?_
      refine lv_ldc hx hb C.2.2.2.1 (C.2.2.2.2.1 _ k_M_92) dM_drawn_45 ?_
      refine q_aload_n hx hb hl dM_drawn_47 rfl ?_
      refine mg C hw 2 l_M_61 (by decide) rfl dM_drawn_48 ?_
      refine lv_imul hx hb dM_drawn_51 ?_
      refine lv_sipush (v := 12345) hx hb dM_drawn_52 (by decide) ?_
      refine lv_iadd hx hb dM_drawn_55 ?_
      refine lv_ldc hx hb C.2.2.2.1 (C.2.2.2.2.1 _ k_M_60) dM_drawn_56 ?_
      refine lv_iand hx hb dM_drawn_58 ?_
      refine mp_2 C hw l_M_61 dM_drawn_59 (fun H locs hw => ?_)
      refine q_aload_n hx hb hl dM_drawn_62 rfl ?_
      refine mg C hw 2 l_M_61 (by decide) rfl dM_drawn_63 ?_
      refine lv_ldc hx hb C.2.2.2.1 (C.2.2.2.2.1 _ k_M_93) dM_drawn_66 ?_
      refine lv_idiv hx hb dM_drawn_68 (by decide) ?_
      refine q_iload_n hx hb hl dM_drawn_69 rfl ?_
      refine lv_irem hx hb dM_drawn_70 (by rw [he2]; exact hm) ?_
      refine q_istore_n hx hb hl dM_drawn_71 (by decide) (fun ls hl => ?_)
      refine lv_iconst (v := 0) hx hb dM_drawn_72 (by decide) ?_
      refine q_istore hx hb hl dM_drawn_73 (by decide) (fun ls hl => ?_)
      have L75 : ∀ (n : Nat) (t : Nat) (j : Int32), t + n = N → mf_pick (su σ 0 0 3 (tf_x σ)) top n t j = mf_pick (su σ 0 0 3 (tf_x σ)) top N 0 (tf_x σ / 65536 - tf_x σ / 65536 / k * k) → ∀ (H : Heap) (locs : List Loc) (ls : Array Slot), wl D A s (wM ct am N th (su σ 0 0 3 (tf_x σ))) H locs → lq ls 5 [some (.ref (am 0)), some (.int top), some (.int k), some (.int j), some (.int (nI t))] → W p l e (r0 1) s m args below meth c H locs 0 0 Q (F0 m 75 ls []) := by
        intro n
        induction n with
        | zero =>
          intro t j hn he3 H locs ls hw hl
          refine q_iload hx hb hl dM_drawn_75 rfl ?_
          refine q_aload_n hx hb hl dM_drawn_77 rfl ?_
          refine mg C hw 1 l_M_57 (by decide) rfl dM_drawn_78 ?_
          refine lv_icmp_ge (tgt := 120) hx hb dM_drawn_81 (by decide) (fun c_81 => ?_) (fun q9 => absurd (nI_le (by omega) (by omega)) q9)
          refine lv_iconst (v := -1) hx hb dM_drawn_120 (by decide) ?_
          exact tr_i hQ C hw hr (Nat.le_of_ble_eq_true rfl) (Nat.le_of_ble_eq_true rfl) dM_drawn_121 ⟨by rw [mf_drA, ← he2, ← he3]; rfl, rfl⟩
        | succ n ih =>
          intro t j hn he3 H locs ls hw hl
          have ht : t < N := by omega
          have ht16 : t < 16 := by omega
          refine q_iload hx hb hl dM_drawn_75 rfl ?_
          refine q_aload_n hx hb hl dM_drawn_77 rfl ?_
          refine mg C hw 1 l_M_57 (by decide) rfl dM_drawn_78 ?_
          refine lv_icmp_ge (tgt := 120) hx hb dM_drawn_81 (by decide) (fun q9 => absurd q9 (nI_ge ht (by omega))) (fun c_81 => ?_)
          refine q_aload_n hx hb hl dM_drawn_84 rfl ?_
          refine q_iload hx hb hl dM_drawn_85 rfl ?_
          refine tc_E (tc_V C hl (m_can l hst D ct am N hN h0 th (su σ 0 0 3 (tf_x σ)) _ t (by omega) _ rfl) hw.1 hw.2.1 hw.2.2 g_M_89 (re_M C hw) hv_M_canGo rfl rfl ⟨(Nat.le_of_ble_eq_true rfl), (Nat.le_of_ble_eq_true rfl)⟩ (Nat.le_of_ble_eq_true rfl) ⟨(Nat.le_of_ble_eq_true rfl), (Nat.le_of_ble_eq_true rfl)⟩ dM_drawn_87 rfl) C hw (fun E ce q9 w1 H locs hp hw h1 h2 h3 => ?_) (fun v w1 H locs hp hw => ?_)
          · exact hp.elim
          obtain ⟨rfl, rfl⟩ := hp
          dsimp only [Option.toList_some, Option.toList_none, List.cons_append, List.nil_append]
          refine lv_if_eq (tgt := 114) hx hb dM_drawn_90 (by decide) (fun c_90 => ?_) (fun c_90 => ?_)
          · refine q_inc hx hb hl dM_drawn_114 rfl (by decide) (fun ls hl => ?_)
            refine lv_goto (tgt := 75) hx hb dM_drawn_117 (by decide) ?_
            exact ih _ _ (by omega) (by rw [← he3]; simp only [mf_pick, if_pos c_90]) _ _ _ hw hl
          refine q_aload_n hx hb hl dM_drawn_93 rfl ?_
          refine mg C hw 14 l_M_20 (by decide) rfl dM_drawn_94 ?_
          refine q_iload hx hb hl dM_drawn_97 rfl ?_
          refine mr_2 C hw (by assumption) rfl dM_drawn_99 ?_
          refine q_iload_n hx hb hl dM_drawn_100 rfl ?_
          refine lv_icmp_ne (tgt := 114) hx hb dM_drawn_101 (by decide) (fun c_101 => ?_) (fun c_101 => ?_)
          · refine q_inc hx hb hl dM_drawn_114 rfl (by decide) (fun ls hl => ?_)
            refine lv_goto (tgt := 75) hx hb dM_drawn_117 (by decide) ?_
            exact ih _ _ (by omega) (by rw [← he3]; simp only [mf_pick, if_neg c_90, if_neg c_101]) _ _ _ hw hl
          refine q_iload_n hx hb hl dM_drawn_104 rfl ?_
          refine lv_if_ne (tgt := 111) hx hb dM_drawn_105 (by decide) (fun c_105 => ?_) (fun c_105 => ?_)
          · refine q_incm hx hb hl dM_drawn_111 rfl (by decide) (fun ls hl => ?_)
            refine q_inc hx hb hl dM_drawn_114 rfl (by decide) (fun ls hl => ?_)
            refine lv_goto (tgt := 75) hx hb dM_drawn_117 (by decide) ?_
            exact ih _ _ (by omega) (by rw [← he3]; simp only [mf_pick, if_neg c_90, if_pos c_101, if_neg c_105]) _ _ _ hw hl
          refine q_iload hx hb hl dM_drawn_108 rfl ?_
          exact tr_i hQ C hw hr (Nat.le_of_ble_eq_true rfl) (Nat.le_of_ble_eq_true rfl) dM_drawn_110 ⟨by rw [mf_drA, ← he2, ← he3]; simp only [mf_pick, if_neg c_90, if_pos c_101, if_pos c_105], rfl⟩
      exact L75 N 0 _ (by omega) rfl _ _ _ hw hl
    | succ n ih =>
      intro t k hn he H locs ls hw hl
      have ht : t < N := by omega
      have ht16 : t < 16 := by omega
      refine q_iload_n hx hb hl dM_drawn_4 rfl ?_
      refine q_aload_n hx hb hl dM_drawn_5 rfl ?_
      refine mg C hw 1 l_M_57 (by decide) rfl dM_drawn_6 ?_
      refine lv_icmp_ge (tgt := 44) hx hb dM_drawn_9 (by decide) (fun q9 => absurd q9 (nI_ge ht (by omega))) (fun c_9 => ?_)
      refine q_iload_n hx hb hl dM_drawn_12 rfl ?_
      refine q_aload_n hx hb hl dM_drawn_13 rfl ?_
      refine q_iload_n hx hb hl dM_drawn_14 rfl ?_
      refine tc_E (tc_V C hl (m_can l hst D ct am N hN h0 th σ _ t (by omega) _ rfl) hw.1 hw.2.1 hw.2.2 g_M_89 (re_M C hw) hv_M_canGo rfl rfl ⟨(Nat.le_of_ble_eq_true rfl), (Nat.le_of_ble_eq_true rfl)⟩ (Nat.le_of_ble_eq_true rfl) ⟨(Nat.le_of_ble_eq_true rfl), (Nat.le_of_ble_eq_true rfl)⟩ dM_drawn_15 rfl) C hw (fun E ce q9 w1 H locs hp hw h1 h2 h3 => ?_) (fun v w1 H locs hp hw => ?_)
      · exact hp.elim
      obtain ⟨rfl, rfl⟩ := hp
      dsimp only [Option.toList_some, Option.toList_none, List.cons_append, List.nil_append]
      refine lv_if_eq (tgt := 35) hx hb dM_drawn_18 (by decide) (fun c_18 => ?_) (fun c_18 => ?_)
      · refine lv_iconst (v := 0) hx hb dM_drawn_35 (by decide) ?_
        refine lv_iadd hx hb dM_drawn_36 ?_
        refine q_istore_n hx hb hl dM_drawn_37 (by decide) (fun ls hl => ?_)
        refine q_inc hx hb hl dM_drawn_38 rfl (by decide) (fun ls hl => ?_)
        refine lv_goto (tgt := 4) hx hb dM_drawn_41 (by decide) ?_
        exact ih _ _ (by omega) (by rw [← he]; simp only [mf_cnt, if_pos c_18]) _ _ _ hw hl
      refine q_aload_n hx hb hl dM_drawn_21 rfl ?_
      refine mg C hw 14 l_M_20 (by decide) rfl dM_drawn_22 ?_
      refine q_iload_n hx hb hl dM_drawn_25 rfl ?_
      refine mr_2 C hw (by assumption) rfl dM_drawn_26 ?_
      refine q_iload_n hx hb hl dM_drawn_27 rfl ?_
      refine lv_icmp_ne (tgt := 35) hx hb dM_drawn_28 (by decide) (fun c_28 => ?_) (fun c_28 => ?_)
      · refine lv_iconst (v := 0) hx hb dM_drawn_35 (by decide) ?_
        refine lv_iadd hx hb dM_drawn_36 ?_
        refine q_istore_n hx hb hl dM_drawn_37 (by decide) (fun ls hl => ?_)
        refine q_inc hx hb hl dM_drawn_38 rfl (by decide) (fun ls hl => ?_)
        refine lv_goto (tgt := 4) hx hb dM_drawn_41 (by decide) ?_
        exact ih _ _ (by omega) (by rw [← he]; simp only [mf_cnt, if_neg c_18, if_neg c_28]) _ _ _ hw hl
      refine lv_iconst (v := 1) hx hb dM_drawn_31 (by decide) ?_
      refine lv_goto (tgt := 36) hx hb dM_drawn_32 (by decide) ?_
      refine lv_iadd hx hb dM_drawn_36 ?_
      refine q_istore_n hx hb hl dM_drawn_37 (by decide) (fun ls hl => ?_)
      refine q_inc hx hb hl dM_drawn_38 rfl (by decide) (fun ls hl => ?_)
      refine lv_goto (tgt := 4) hx hb dM_drawn_41 (by decide) ?_
      exact ih _ _ (by omega) (by rw [← he]; simp only [mf_cnt, if_neg c_18, if_pos c_28]) _ _ _ hw hl
  exact L4 N 0 _ (by omega) rfl _ _ _ hw hl
set_option maxHeartbeats 4000000 in
set_option maxRecDepth 100000 in
theorem m_ch (l : Launch) (hst : l.stackTraces = false) (D : va_G) (ct : Ct) (am : Nat → Nat) (N : Nat) (hN : N ≤ 16) (h0 : 0 < N) (th : Int32) (σ : St) (sz : Nat) (h4 : ix N (σ 0 0 4)) (hm : 0 ≤ mf_top σ N 0 (-1) → ¬ mf_cnt σ (mf_top σ N 0 (-1)) N 0 0 = 0) : Kt l yM_choose cM_choose 3 (some .int) (r0 2) 0 0 D ct [.ref (am 0)] sz (wM ct am N th σ) (fun v w => v = some (.int (mf_chA N σ)) ∧ w = wM ct am N th (mf_chS N σ)) (fun E w => False) := by
  refine kt_of hst (by decide) (Nat.le_of_ble_eq_true rfl) (by simp [Value.category]) ?_
  intro p e s m args below meth c A ls C hne hr hw hl Q hQ
  have hx := C.1
  have hb := C.2.1
  refine q_aload_n hx hb hl dM_choose_0 rfl ?_
  refine tc_E (tc_V C hl (m_top l hst D ct am N hN h0 th σ _) hw.1 hw.2.1 hw.2.2 g_M_94 (re_M C hw) hv_M_topRank rfl rfl ⟨(Nat.le_of_ble_eq_true rfl), (Nat.le_of_ble_eq_true rfl)⟩ (Nat.le_of_ble_eq_true rfl) ⟨(Nat.le_of_ble_eq_true rfl), (Nat.le_of_ble_eq_true rfl)⟩ dM_choose_1 rfl) C hw (fun E ce q9 w1 H locs hp hw h1 h2 h3 => ?_) (fun v w1 H locs hp hw => ?_)
  · exact hp.elim
  obtain ⟨rfl, rfl⟩ := hp
  dsimp only [Option.toList_some, Option.toList_none, List.cons_append, List.nil_append]
  refine q_istore_n hx hb hl dM_choose_4 (by decide) (fun ls hl => ?_)
  refine q_iload_n hx hb hl dM_choose_5 rfl ?_
  refine lv_if_ge (tgt := 11) hx hb dM_choose_6 (by decide) (fun c_6 => ?_) (fun c_6 => ?_)
  · refine q_aload_n hx hb hl dM_choose_11 rfl ?_
    refine tc_E (tc_V C hl (m_over l hst D ct am N hN h0 th σ _) hw.1 hw.2.1 hw.2.2 g_M_98 (re_M C hw) hv_M_overdue rfl rfl ⟨(Nat.le_of_ble_eq_true rfl), (Nat.le_of_ble_eq_true rfl)⟩ (Nat.le_of_ble_eq_true rfl) ⟨(Nat.le_of_ble_eq_true rfl), (Nat.le_of_ble_eq_true rfl)⟩ dM_choose_12 rfl) C hw (fun E ce q9 w1 H locs hp hw h1 h2 h3 => ?_) (fun v w1 H locs hp hw => ?_)
    · exact hp.elim
    obtain ⟨rfl, rfl⟩ := hp
    dsimp only [Option.toList_some, Option.toList_none, List.cons_append, List.nil_append]
    refine q_istore_n hx hb hl dM_choose_15 (by decide) (fun ls hl => ?_)
    refine q_iload_n hx hb hl dM_choose_16 rfl ?_
    refine lv_if_lt (tgt := 22) hx hb dM_choose_17 (by decide) (fun c_17 => ?_) (fun c_17 => ?_)
    · refine q_aload_n hx hb hl dM_choose_22 rfl ?_
      refine mg C hw 3 l_M_75 (by decide) rfl dM_choose_23 ?_
      refine lv_if_ne (tgt := 37) hx hb dM_choose_26 (by decide) (fun c_26 => ?_) (fun c_26 => ?_)
      · refine q_aload_n hx hb hl dM_choose_37 rfl ?_
        refine mg C hw 3 l_M_75 (by decide) rfl dM_choose_38 ?_
        refine lv_iconst (v := 3) hx hb dM_choose_41 (by decide) ?_
        refine lv_icmp_ne (tgt := 53) hx hb dM_choose_42 (by decide) (fun c_42 => ?_) (fun c_42 => ?_)
        · refine q_aload_n hx hb hl dM_choose_53 rfl ?_
          refine q_iload_n hx hb hl dM_choose_54 rfl ?_
          refine q_aload_n hx hb hl dM_choose_55 rfl ?_
          refine mg C hw 3 l_M_75 (by decide) rfl dM_choose_56 ?_
          refine lv_iconst (v := 2) hx hb dM_choose_59 (by decide) ?_
          refine lv_icmp_ne (tgt := 67) hx hb dM_choose_60 (by decide) (fun c_60 => ?_) (fun c_60 => ?_)
          · refine lv_iconst (v := 0) hx hb dM_choose_67 (by decide) ?_
            refine tc_E (tc_V C hl (m_few l hst D ct am N hN h0 th σ _ (mf_top σ N 0 (-1)) _) hw.1 hw.2.1 hw.2.2 g_M_107 (re_M C hw) hv_M_fewest rfl rfl ⟨(Nat.le_of_ble_eq_true rfl), (Nat.le_of_ble_eq_true rfl)⟩ (Nat.le_of_ble_eq_true rfl) ⟨(Nat.le_of_ble_eq_true rfl), (Nat.le_of_ble_eq_true rfl)⟩ dM_choose_68 rfl) C hw (fun E ce q9 w1 H locs hp hw h1 h2 h3 => ?_) (fun v w1 H locs hp hw => ?_)
            · exact hp.elim
            obtain ⟨rfl, rfl⟩ := hp
            dsimp only [Option.toList_some, Option.toList_none, List.cons_append, List.nil_append]
            exact tr_i hQ C hw hr (Nat.le_of_ble_eq_true rfl) (Nat.le_of_ble_eq_true rfl) dM_choose_71 ⟨by simp only [mf_chA, mf_y, if_pos c_6, if_pos c_17, if_neg c_26, if_neg c_42, if_neg c_60], by simp only [mf_chS, if_pos c_6, if_pos c_17, if_neg c_26, if_neg c_42, if_neg c_60]⟩
          refine lv_iconst (v := 1) hx hb dM_choose_63 (by decide) ?_
          refine lv_goto (tgt := 68) hx hb dM_choose_64 (by decide) ?_
          refine tc_E (tc_V C hl (m_few l hst D ct am N hN h0 th σ _ (mf_top σ N 0 (-1)) _) hw.1 hw.2.1 hw.2.2 g_M_107 (re_M C hw) hv_M_fewest rfl rfl ⟨(Nat.le_of_ble_eq_true rfl), (Nat.le_of_ble_eq_true rfl)⟩ (Nat.le_of_ble_eq_true rfl) ⟨(Nat.le_of_ble_eq_true rfl), (Nat.le_of_ble_eq_true rfl)⟩ dM_choose_68 rfl) C hw (fun E ce q9 w1 H locs hp hw h1 h2 h3 => ?_) (fun v w1 H locs hp hw => ?_)
          · exact hp.elim
          obtain ⟨rfl, rfl⟩ := hp
          dsimp only [Option.toList_some, Option.toList_none, List.cons_append, List.nil_append]
          exact tr_i hQ C hw hr (Nat.le_of_ble_eq_true rfl) (Nat.le_of_ble_eq_true rfl) dM_choose_71 ⟨by simp only [mf_chA, mf_y, if_pos c_6, if_pos c_17, if_neg c_26, if_neg c_42, if_pos c_60], by simp only [mf_chS, if_pos c_6, if_pos c_17, if_neg c_26, if_neg c_42, if_pos c_60]⟩
        refine q_aload_n hx hb hl dM_choose_45 rfl ?_
        refine q_iload_n hx hb hl dM_choose_46 rfl ?_
        refine tc_E (tc_V C hl (m_dr l hst D ct am N hN h0 th σ _ (mf_top σ N 0 (-1)) (hm c_6)) hw.1 hw.2.1 hw.2.2 g_M_104 (re_M C hw) hv_M_drawn rfl rfl ⟨(Nat.le_of_ble_eq_true rfl), (Nat.le_of_ble_eq_true rfl)⟩ (Nat.le_of_ble_eq_true rfl) ⟨(Nat.le_of_ble_eq_true rfl), (Nat.le_of_ble_eq_true rfl)⟩ dM_choose_47 rfl) C hw (fun E ce q9 w1 H locs hp hw h1 h2 h3 => ?_) (fun v w1 H locs hp hw => ?_)
        · exact hp.elim
        obtain ⟨rfl, rfl⟩ := hp
        dsimp only [Option.toList_some, Option.toList_none, List.cons_append, List.nil_append]
        refine lv_goto (tgt := 71) hx hb dM_choose_50 (by decide) ?_
        exact tr_i hQ C hw hr (Nat.le_of_ble_eq_true rfl) (Nat.le_of_ble_eq_true rfl) dM_choose_71 ⟨by simp only [mf_chA, mf_y, if_pos c_6, if_pos c_17, if_neg c_26, if_pos c_42], by simp only [mf_chS, if_pos c_6, if_pos c_17, if_neg c_26, if_pos c_42]⟩
      refine q_aload_n hx hb hl dM_choose_29 rfl ?_
      refine q_iload_n hx hb hl dM_choose_30 rfl ?_
      refine tc_E (tc_V C hl (m_turn l hst D ct am N hN h0 th σ _ h4 (mf_top σ N 0 (-1))) hw.1 hw.2.1 hw.2.2 g_M_101 (re_M C hw) hv_M_turn rfl rfl ⟨(Nat.le_of_ble_eq_true rfl), (Nat.le_of_ble_eq_true rfl)⟩ (Nat.le_of_ble_eq_true rfl) ⟨(Nat.le_of_ble_eq_true rfl), (Nat.le_of_ble_eq_true rfl)⟩ dM_choose_31 rfl) C hw (fun E ce q9 w1 H locs hp hw h1 h2 h3 => ?_) (fun v w1 H locs hp hw => ?_)
      · exact hp.elim
      obtain ⟨rfl, rfl⟩ := hp
      dsimp only [Option.toList_some, Option.toList_none, List.cons_append, List.nil_append]
      refine lv_goto (tgt := 71) hx hb dM_choose_34 (by decide) ?_
      exact tr_i hQ C hw hr (Nat.le_of_ble_eq_true rfl) (Nat.le_of_ble_eq_true rfl) dM_choose_71 ⟨by simp only [mf_chA, mf_y, if_pos c_6, if_pos c_17, if_pos c_26], by simp only [mf_chS, if_pos c_6, if_pos c_17, if_pos c_26]⟩
    refine q_iload_n hx hb hl dM_choose_20 rfl ?_
    exact tr_i hQ C hw hr (Nat.le_of_ble_eq_true rfl) (Nat.le_of_ble_eq_true rfl) dM_choose_21 ⟨by simp only [mf_chA, mf_y, if_pos c_6, if_neg c_17], by simp only [mf_chS, if_pos c_6, if_neg c_17]⟩
  refine lv_iconst (v := -1) hx hb dM_choose_9 (by decide) ?_
  exact tr_i hQ C hw hr (Nat.le_of_ble_eq_true rfl) (Nat.le_of_ble_eq_true rfl) dM_choose_10 ⟨by simp only [mf_chA, mf_y, if_neg c_6], by simp only [mf_chS, if_neg c_6]⟩
