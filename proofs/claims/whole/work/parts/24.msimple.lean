set_option maxHeartbeats 4000000 in
set_option maxRecDepth 100000 in
theorem w_ok (l : Launch) (hst : l.stackTraces = false) (D : va_G) (ct : Ct) (w0 : va_W) (sz : Nat) (x lo hi : Int32) (h0 : ¬ x < lo) (h1 : x ≤ hi) : Kt l yM_within cM_within 3 (some .boolean) (r0 0) 0 0 D ct [.int x, .int lo, .int hi] sz (w0) (fun v w => v = some (.int 1) ∧ w = w0) (fun E w => False) := by
  refine kt_of hst (by decide) (Nat.le_of_ble_eq_true rfl) (by simp [Value.category]) ?_
  intro p e s m args below meth c A ls C hne hr hw hl Q hQ
  have hx := C.1
  have hb := C.2.1
  refine q_iload_n hx hb hl dM_within_0 rfl ?_
  refine q_iload_n hx hb hl dM_within_1 rfl ?_
  refine lv_icmp_lt (tgt := 14) hx hb dM_within_2 (by decide) (fun q9 => absurd q9 h0) (fun c_2 => ?_)
  refine q_iload_n hx hb hl dM_within_5 rfl ?_
  refine q_iload_n hx hb hl dM_within_6 rfl ?_
  refine lv_icmp_gt (tgt := 14) hx hb dM_within_7 (by decide) (fun q9 => absurd q9 (i32_nlt h1)) (fun c_7 => ?_)
  refine lv_iconst (v := 1) hx hb dM_within_10 (by decide) ?_
  refine lv_goto (tgt := 15) hx hb dM_within_11 (by decide) ?_
  exact tr_z hQ C hw hr (Nat.le_of_ble_eq_true rfl) (Nat.le_of_ble_eq_true rfl) dM_within_15 (by decide) ⟨rfl, rfl⟩
set_option maxHeartbeats 4000000 in
set_option maxRecDepth 100000 in
theorem w_bad (l : Launch) (hst : l.stackTraces = false) (D : va_G) (ct : Ct) (w0 : va_W) (sz : Nat) (x lo hi : Int32) (h : x < lo ∨ ¬ x ≤ hi) : Kt l yM_within cM_within 3 (some .boolean) (r0 0) 0 0 D ct [.int x, .int lo, .int hi] sz (w0) (fun v w => v = some (.int 0) ∧ w = w0) (fun E w => False) := by
  refine kt_of hst (by decide) (Nat.le_of_ble_eq_true rfl) (by simp [Value.category]) ?_
  intro p e s m args below meth c A ls C hne hr hw hl Q hQ
  have hx := C.1
  have hb := C.2.1
  refine q_iload_n hx hb hl dM_within_0 rfl ?_
  refine q_iload_n hx hb hl dM_within_1 rfl ?_
  refine lv_icmp_lt (tgt := 14) hx hb dM_within_2 (by decide) (fun c_2 => ?_) (fun c_2 => ?_)
  · refine lv_iconst (v := 0) hx hb dM_within_14 (by decide) ?_
    exact tr_z hQ C hw hr (Nat.le_of_ble_eq_true rfl) (Nat.le_of_ble_eq_true rfl) dM_within_15 (by decide) ⟨rfl, rfl⟩
  refine q_iload_n hx hb hl dM_within_5 rfl ?_
  refine q_iload_n hx hb hl dM_within_6 rfl ?_
  refine lv_icmp_gt (tgt := 14) hx hb dM_within_7 (by decide) (fun c_7 => ?_) (fun q9 => absurd (i32_lt (h.resolve_left c_2)) q9)
  refine lv_iconst (v := 0) hx hb dM_within_14 (by decide) ?_
  exact tr_z hQ C hw hr (Nat.le_of_ble_eq_true rfl) (Nat.le_of_ble_eq_true rfl) dM_within_15 (by decide) ⟨rfl, rfl⟩
set_option maxHeartbeats 4000000 in
set_option maxRecDepth 100000 in
theorem m_thrown (l : Launch) (hst : l.stackTraces = false) (D : va_G) (ct : Ct) (am : Nat → Nat) (N : Nat) (hN : N ≤ 16) (h0 : 0 < N) (th : Int32) (σ : St) (sz : Nat) : Kt l yM_thrown cM_thrown 1 (some .int) (r0 0) 0 0 D ct [.ref (am 0)] sz (wM ct am N th σ) (fun v w => v = some (.int th) ∧ w = wM ct am N th σ) (fun E w => False) := by
  refine kt_of hst (by decide) (Nat.le_of_ble_eq_true rfl) (by simp [Value.category]) ?_
  intro p e s m args below meth c A ls C hne hr hw hl Q hQ
  have hx := C.1
  have hb := C.2.1
  refine q_aload_n hx hb hl dM_thrown_0 rfl ?_
  refine mg C hw 0 l_M_64 (by decide) rfl dM_thrown_1 ?_
  exact tr_i hQ C hw hr (Nat.le_of_ble_eq_true rfl) (Nat.le_of_ble_eq_true rfl) dM_thrown_4 ⟨rfl, rfl⟩
set_option maxHeartbeats 4000000 in
set_option maxRecDepth 100000 in
theorem m_fail (l : Launch) (hst : l.stackTraces = false) (D : va_G) (ct : Ct) (am : Nat → Nat) (N : Nat) (hN : N ≤ 16) (h0 : 0 < N) (th : Int32) (σ : St) (sz : Nat) (x : Int32) : Kt l yM_fail cM_fail 2 (some .int) (r0 0) 0 0 D ct [.ref (am 0), .int x] sz (wM ct am N th σ) (fun v w => v = some (.int 0) ∧ w = wM ct am N x σ) (fun E w => False) := by
  refine kt_of hst (by decide) (Nat.le_of_ble_eq_true rfl) (by simp [Value.category]) ?_
  intro p e s m args below meth c A ls C hne hr hw hl Q hQ
  have hx := C.1
  have hb := C.2.1
  refine q_aload_n hx hb hl dM_fail_0 rfl ?_
  refine q_iload_n hx hb hl dM_fail_1 rfl ?_
  refine mp_0 C hw l_M_64 dM_fail_2 (fun H locs hw => ?_)
  refine lv_iconst (v := 0) hx hb dM_fail_5 (by decide) ?_
  exact tr_i hQ C hw hr (Nat.le_of_ble_eq_true rfl) (Nat.le_of_ble_eq_true rfl) dM_fail_6 ⟨rfl, rfl⟩
set_option maxHeartbeats 4000000 in
set_option maxRecDepth 100000 in
theorem it_ok (l : Launch) (hst : l.stackTraces = false) (D : va_G) (ct : Ct) (am : Nat → Nat) (N : Nat) (hN : N ≤ 16) (h0 : 0 < N) (th : Int32) (σ : St) (sz : Nat) (t : Nat) (ht : t < N) : Kt l yM_isThread cM_isThread 2 (some .boolean) (r0 1) 0 0 D ct [.ref (am 0), .int (nI t)] sz (wM ct am N th σ) (fun v w => v = some (.int 1) ∧ w = wM ct am N 0 σ) (fun E w => False) := by
  refine kt_of hst (by decide) (Nat.le_of_ble_eq_true rfl) (by simp [Value.category]) ?_
  intro p e s m args below meth c A ls C hne hr hw hl Q hQ
  have hx := C.1
  have hb := C.2.1
  refine q_aload_n hx hb hl dM_isThread_0 rfl ?_
  refine q_iload_n hx hb hl dM_isThread_1 rfl ?_
  refine lv_iconst (v := 0) hx hb dM_isThread_2 (by decide) ?_
  refine q_aload_n hx hb hl dM_isThread_3 rfl ?_
  refine mg C hw 1 l_M_57 (by decide) rfl dM_isThread_4 ?_
  refine lv_iconst (v := 1) hx hb dM_isThread_7 (by decide) ?_
  refine lv_isub hx hb dM_isThread_8 ?_
  refine tc_E (tc_S C hl (w_ok l hst D ct (wM ct am N th σ) _ (nI t) 0 (nI N - 1) (nI_pos (by omega)) (le_pred ht (by omega))) hw.1 hw.2.1 hw.2.2 g_M_67 hd_M_within rfl rfl ⟨(Nat.le_of_ble_eq_true rfl), (Nat.le_of_ble_eq_true rfl)⟩ (Nat.le_of_ble_eq_true rfl) ⟨(Nat.le_of_ble_eq_true rfl), (Nat.le_of_ble_eq_true rfl)⟩ dM_isThread_9 rfl) C hw (fun E ce q9 w1 H locs hp hw h1 h2 h3 => ?_) (fun v w1 H locs hp hw => ?_)
  · exact hp.elim
  obtain ⟨rfl, rfl⟩ := hp
  dsimp only [Option.toList_some, Option.toList_none, List.cons_append, List.nil_append]
  refine lv_if_eq (tgt := 19) hx hb dM_isThread_12 (by decide) (fun q9 => absurd q9 (by decide)) (fun c_12 => ?_)
  refine lv_iconst (v := 0) hx hb dM_isThread_15 (by decide) ?_
  refine lv_goto (tgt := 20) hx hb dM_isThread_16 (by decide) ?_
  refine mp_0 C hw l_M_64 dM_isThread_20 (fun H locs hw => ?_)
  refine q_aload_n hx hb hl dM_isThread_23 rfl ?_
  refine mg C hw 0 l_M_64 (by decide) rfl dM_isThread_24 ?_
  refine lv_if_ne (tgt := 34) hx hb dM_isThread_27 (by decide) (fun q9 => absurd rfl q9) (fun c_27 => ?_)
  refine lv_iconst (v := 1) hx hb dM_isThread_30 (by decide) ?_
  refine lv_goto (tgt := 35) hx hb dM_isThread_31 (by decide) ?_
  exact tr_z hQ C hw hr (Nat.le_of_ble_eq_true rfl) (Nat.le_of_ble_eq_true rfl) dM_isThread_35 (by decide) ⟨rfl, rfl⟩
set_option maxHeartbeats 4000000 in
set_option maxRecDepth 100000 in
theorem it_bad (l : Launch) (hst : l.stackTraces = false) (D : va_G) (ct : Ct) (am : Nat → Nat) (N : Nat) (hN : N ≤ 16) (h0 : 0 < N) (th : Int32) (σ : St) (sz : Nat) (i : Int32) (h : i < 0 ∨ ¬ i < nI N) : Kt l yM_isThread cM_isThread 2 (some .boolean) (r0 1) 0 0 D ct [.ref (am 0), .int i] sz (wM ct am N th σ) (fun v w => v = some (.int 0) ∧ w = wM ct am N 1 σ) (fun E w => False) := by
  refine kt_of hst (by decide) (Nat.le_of_ble_eq_true rfl) (by simp [Value.category]) ?_
  intro p e s m args below meth c A ls C hne hr hw hl Q hQ
  have hx := C.1
  have hb := C.2.1
  refine q_aload_n hx hb hl dM_isThread_0 rfl ?_
  refine q_iload_n hx hb hl dM_isThread_1 rfl ?_
  refine lv_iconst (v := 0) hx hb dM_isThread_2 (by decide) ?_
  refine q_aload_n hx hb hl dM_isThread_3 rfl ?_
  refine mg C hw 1 l_M_57 (by decide) rfl dM_isThread_4 ?_
  refine lv_iconst (v := 1) hx hb dM_isThread_7 (by decide) ?_
  refine lv_isub hx hb dM_isThread_8 ?_
  refine tc_E (tc_S C hl (w_bad l hst D ct (wM ct am N th σ) _ i 0 (nI N - 1) (bad_pred h0 (by omega) h)) hw.1 hw.2.1 hw.2.2 g_M_67 hd_M_within rfl rfl ⟨(Nat.le_of_ble_eq_true rfl), (Nat.le_of_ble_eq_true rfl)⟩ (Nat.le_of_ble_eq_true rfl) ⟨(Nat.le_of_ble_eq_true rfl), (Nat.le_of_ble_eq_true rfl)⟩ dM_isThread_9 rfl) C hw (fun E ce q9 w1 H locs hp hw h1 h2 h3 => ?_) (fun v w1 H locs hp hw => ?_)
  · exact hp.elim
  obtain ⟨rfl, rfl⟩ := hp
  dsimp only [Option.toList_some, Option.toList_none, List.cons_append, List.nil_append]
  refine lv_if_eq (tgt := 19) hx hb dM_isThread_12 (by decide) (fun c_12 => ?_) (fun q9 => absurd rfl q9)
  refine lv_iconst (v := 1) hx hb dM_isThread_19 (by decide) ?_
  refine mp_0 C hw l_M_64 dM_isThread_20 (fun H locs hw => ?_)
  refine q_aload_n hx hb hl dM_isThread_23 rfl ?_
  refine mg C hw 0 l_M_64 (by decide) rfl dM_isThread_24 ?_
  refine lv_if_ne (tgt := 34) hx hb dM_isThread_27 (by decide) (fun c_27 => ?_) (fun q9 => absurd q9 (by decide))
  refine lv_iconst (v := 0) hx hb dM_isThread_34 (by decide) ?_
  exact tr_z hQ C hw hr (Nat.le_of_ble_eq_true rfl) (Nat.le_of_ble_eq_true rfl) dM_isThread_35 (by decide) ⟨rfl, rfl⟩
set_option maxHeartbeats 4000000 in
set_option maxRecDepth 100000 in
theorem iq_ok (l : Launch) (hst : l.stackTraces = false) (D : va_G) (ct : Ct) (am : Nat → Nat) (N : Nat) (hN : N ≤ 16) (h0 : 0 < N) (th : Int32) (σ : St) (sz : Nat) (q : Nat) (hq : q < 8) : Kt l yM_isQueue cM_isQueue 2 (some .boolean) (r0 1) 0 0 D ct [.ref (am 0), .int (nI q)] sz (wM ct am N th σ) (fun v w => v = some (.int 1) ∧ w = wM ct am N 0 σ) (fun E w => False) := by
  refine kt_of hst (by decide) (Nat.le_of_ble_eq_true rfl) (by simp [Value.category]) ?_
  intro p e s m args below meth c A ls C hne hr hw hl Q hQ
  have hx := C.1
  have hb := C.2.1
  refine q_aload_n hx hb hl dM_isQueue_0 rfl ?_
  refine q_iload_n hx hb hl dM_isQueue_1 rfl ?_
  refine lv_iconst (v := 0) hx hb dM_isQueue_2 (by decide) ?_
  refine lv_bipush (v := 7) hx hb dM_isQueue_3 (by decide) ?_
  refine tc_E (tc_S C hl (w_ok l hst D ct (wM ct am N th σ) _ (nI q) 0 7 (nI_pos (by omega)) (nI_le (b := 7) (by omega) (by omega))) hw.1 hw.2.1 hw.2.2 g_M_67 hd_M_within rfl rfl ⟨(Nat.le_of_ble_eq_true rfl), (Nat.le_of_ble_eq_true rfl)⟩ (Nat.le_of_ble_eq_true rfl) ⟨(Nat.le_of_ble_eq_true rfl), (Nat.le_of_ble_eq_true rfl)⟩ dM_isQueue_5 rfl) C hw (fun E ce q9 w1 H locs hp hw h1 h2 h3 => ?_) (fun v w1 H locs hp hw => ?_)
  · exact hp.elim
  obtain ⟨rfl, rfl⟩ := hp
  dsimp only [Option.toList_some, Option.toList_none, List.cons_append, List.nil_append]
  refine lv_if_eq (tgt := 15) hx hb dM_isQueue_8 (by decide) (fun q9 => absurd q9 (by decide)) (fun c_8 => ?_)
  refine lv_iconst (v := 0) hx hb dM_isQueue_11 (by decide) ?_
  refine lv_goto (tgt := 16) hx hb dM_isQueue_12 (by decide) ?_
  refine mp_0 C hw l_M_64 dM_isQueue_16 (fun H locs hw => ?_)
  refine q_aload_n hx hb hl dM_isQueue_19 rfl ?_
  refine mg C hw 0 l_M_64 (by decide) rfl dM_isQueue_20 ?_
  refine lv_if_ne (tgt := 30) hx hb dM_isQueue_23 (by decide) (fun q9 => absurd rfl q9) (fun c_23 => ?_)
  refine lv_iconst (v := 1) hx hb dM_isQueue_26 (by decide) ?_
  refine lv_goto (tgt := 31) hx hb dM_isQueue_27 (by decide) ?_
  exact tr_z hQ C hw hr (Nat.le_of_ble_eq_true rfl) (Nat.le_of_ble_eq_true rfl) dM_isQueue_31 (by decide) ⟨rfl, rfl⟩
set_option maxHeartbeats 4000000 in
set_option maxRecDepth 100000 in
theorem iq_bad (l : Launch) (hst : l.stackTraces = false) (D : va_G) (ct : Ct) (am : Nat → Nat) (N : Nat) (hN : N ≤ 16) (h0 : 0 < N) (th : Int32) (σ : St) (sz : Nat) (i : Int32) (h : i < 0 ∨ ¬ i < nI 8) : Kt l yM_isQueue cM_isQueue 2 (some .boolean) (r0 1) 0 0 D ct [.ref (am 0), .int i] sz (wM ct am N th σ) (fun v w => v = some (.int 0) ∧ w = wM ct am N 1 σ) (fun E w => False) := by
  refine kt_of hst (by decide) (Nat.le_of_ble_eq_true rfl) (by simp [Value.category]) ?_
  intro p e s m args below meth c A ls C hne hr hw hl Q hQ
  have hx := C.1
  have hb := C.2.1
  refine q_aload_n hx hb hl dM_isQueue_0 rfl ?_
  refine q_iload_n hx hb hl dM_isQueue_1 rfl ?_
  refine lv_iconst (v := 0) hx hb dM_isQueue_2 (by decide) ?_
  refine lv_bipush (v := 7) hx hb dM_isQueue_3 (by decide) ?_
  refine tc_E (tc_S C hl (w_bad l hst D ct (wM ct am N th σ) _ i 0 7 (bad_pred (N := 8) (by decide) (by decide) h)) hw.1 hw.2.1 hw.2.2 g_M_67 hd_M_within rfl rfl ⟨(Nat.le_of_ble_eq_true rfl), (Nat.le_of_ble_eq_true rfl)⟩ (Nat.le_of_ble_eq_true rfl) ⟨(Nat.le_of_ble_eq_true rfl), (Nat.le_of_ble_eq_true rfl)⟩ dM_isQueue_5 rfl) C hw (fun E ce q9 w1 H locs hp hw h1 h2 h3 => ?_) (fun v w1 H locs hp hw => ?_)
  · exact hp.elim
  obtain ⟨rfl, rfl⟩ := hp
  dsimp only [Option.toList_some, Option.toList_none, List.cons_append, List.nil_append]
  refine lv_if_eq (tgt := 15) hx hb dM_isQueue_8 (by decide) (fun c_8 => ?_) (fun q9 => absurd rfl q9)
  refine lv_iconst (v := 1) hx hb dM_isQueue_15 (by decide) ?_
  refine mp_0 C hw l_M_64 dM_isQueue_16 (fun H locs hw => ?_)
  refine q_aload_n hx hb hl dM_isQueue_19 rfl ?_
  refine mg C hw 0 l_M_64 (by decide) rfl dM_isQueue_20 ?_
  refine lv_if_ne (tgt := 30) hx hb dM_isQueue_23 (by decide) (fun c_23 => ?_) (fun q9 => absurd q9 (by decide))
  refine lv_iconst (v := 0) hx hb dM_isQueue_30 (by decide) ?_
  exact tr_z hQ C hw hr (Nat.le_of_ble_eq_true rfl) (Nat.le_of_ble_eq_true rfl) dM_isQueue_31 (by decide) ⟨rfl, rfl⟩
set_option maxHeartbeats 4000000 in
set_option maxRecDepth 100000 in
theorem mo_rule (l : Launch) (hst : l.stackTraces = false) (D : va_G) (ct : Ct) (am : Nat → Nat) (N : Nat) (hN : N ≤ 16) (h0 : 0 < N) (th : Int32) (σ : St) (sz : Nat) (x : Int32) (h : ¬ x < 0 ∧ x ≤ 3) : Kt l yM_rule cM_rule 3 (some .int) (r0 1) 0 0 D ct [.ref (am 0), .int x] sz (wM ct am N th σ) (fun v w => v = some (.int (σ 0 0 0)) ∧ w = wM ct am N 0 (su σ 0 0 0 x)) (fun E w => False) := by
  refine kt_of hst (by decide) (Nat.le_of_ble_eq_true rfl) (by simp [Value.category]) ?_
  intro p e s m args below meth c A ls C hne hr hw hl Q hQ
  have hx := C.1
  have hb := C.2.1
  refine q_aload_n hx hb hl dM_rule_0 rfl ?_
  refine lv_iconst (v := 0) hx hb dM_rule_1 (by decide) ?_
  refine mp_0 C hw l_M_64 dM_rule_2 (fun H locs hw => ?_)
  refine q_iload_n hx hb hl dM_rule_5 rfl ?_
  refine lv_iconst (v := 0) hx hb dM_rule_6 (by decide) ?_
  refine lv_iconst (v := 3) hx hb dM_rule_7 (by decide) ?_
  refine tc_E (tc_S C hl (w_ok l hst D ct (wM ct am N 0 σ) _ x 0 3 h.1 h.2) hw.1 hw.2.1 hw.2.2 g_M_67 hd_M_within rfl rfl ⟨(Nat.le_of_ble_eq_true rfl), (Nat.le_of_ble_eq_true rfl)⟩ (Nat.le_of_ble_eq_true rfl) ⟨(Nat.le_of_ble_eq_true rfl), (Nat.le_of_ble_eq_true rfl)⟩ dM_rule_8 rfl) C hw (fun E ce q9 w1 H locs hp hw h1 h2 h3 => ?_) (fun v w1 H locs hp hw => ?_)
  · exact hp.elim
  obtain ⟨rfl, rfl⟩ := hp
  dsimp only [Option.toList_some, Option.toList_none, List.cons_append, List.nil_append]
  refine lv_if_ne (tgt := 20) hx hb dM_rule_11 (by decide) (fun c_11 => ?_) (fun q9 => absurd q9 (by decide))
  refine q_aload_n hx hb hl dM_rule_20 rfl ?_
  refine mg C hw 3 l_M_75 (by decide) rfl dM_rule_21 ?_
  refine q_istore_n hx hb hl dM_rule_24 (by decide) (fun ls hl => ?_)
  refine q_aload_n hx hb hl dM_rule_25 rfl ?_
  refine q_iload_n hx hb hl dM_rule_26 rfl ?_
  refine mp_3 C hw l_M_75 dM_rule_27 (fun H locs hw => ?_)
  refine q_iload_n hx hb hl dM_rule_30 rfl ?_
  exact tr_i hQ C hw hr (Nat.le_of_ble_eq_true rfl) (Nat.le_of_ble_eq_true rfl) dM_rule_31 ⟨rfl, rfl⟩
set_option maxHeartbeats 4000000 in
set_option maxRecDepth 100000 in
theorem mx_rule (l : Launch) (hst : l.stackTraces = false) (D : va_G) (ct : Ct) (am : Nat → Nat) (N : Nat) (hN : N ≤ 16) (h0 : 0 < N) (th : Int32) (σ : St) (sz : Nat) (x : Int32) (h : x < 0 ∨ ¬ x ≤ 3) : Kt l yM_rule cM_rule 3 (some .int) (r0 1) 0 0 D ct [.ref (am 0), .int x] sz (wM ct am N th σ) (fun v w => v = some (.int 0) ∧ w = wM ct am N 1 σ) (fun E w => False) := by
  refine kt_of hst (by decide) (Nat.le_of_ble_eq_true rfl) (by simp [Value.category]) ?_
  intro p e s m args below meth c A ls C hne hr hw hl Q hQ
  have hx := C.1
  have hb := C.2.1
  refine q_aload_n hx hb hl dM_rule_0 rfl ?_
  refine lv_iconst (v := 0) hx hb dM_rule_1 (by decide) ?_
  refine mp_0 C hw l_M_64 dM_rule_2 (fun H locs hw => ?_)
  refine q_iload_n hx hb hl dM_rule_5 rfl ?_
  refine lv_iconst (v := 0) hx hb dM_rule_6 (by decide) ?_
  refine lv_iconst (v := 3) hx hb dM_rule_7 (by decide) ?_
  refine tc_E (tc_S C hl (w_bad l hst D ct (wM ct am N 0 σ) _ x 0 3 h) hw.1 hw.2.1 hw.2.2 g_M_67 hd_M_within rfl rfl ⟨(Nat.le_of_ble_eq_true rfl), (Nat.le_of_ble_eq_true rfl)⟩ (Nat.le_of_ble_eq_true rfl) ⟨(Nat.le_of_ble_eq_true rfl), (Nat.le_of_ble_eq_true rfl)⟩ dM_rule_8 rfl) C hw (fun E ce q9 w1 H locs hp hw h1 h2 h3 => ?_) (fun v w1 H locs hp hw => ?_)
  · exact hp.elim
  obtain ⟨rfl, rfl⟩ := hp
  dsimp only [Option.toList_some, Option.toList_none, List.cons_append, List.nil_append]
  refine lv_if_ne (tgt := 20) hx hb dM_rule_11 (by decide) (fun q9 => absurd rfl q9) (fun c_11 => ?_)
  refine q_aload_n hx hb hl dM_rule_14 rfl ?_
  refine lv_iconst (v := 1) hx hb dM_rule_15 (by decide) ?_
  refine tc_E (tc_V C hl (m_fail l hst D ct am N hN h0 0 σ _ 1) hw.1 hw.2.1 hw.2.2 g_M_71 (re_M C hw) hv_M_fail rfl rfl ⟨(Nat.le_of_ble_eq_true rfl), (Nat.le_of_ble_eq_true rfl)⟩ (Nat.le_of_ble_eq_true rfl) ⟨(Nat.le_of_ble_eq_true rfl), (Nat.le_of_ble_eq_true rfl)⟩ dM_rule_16 rfl) C hw (fun E ce q9 w1 H locs hp hw h1 h2 h3 => ?_) (fun v w1 H locs hp hw => ?_)
  · exact hp.elim
  obtain ⟨rfl, rfl⟩ := hp
  dsimp only [Option.toList_some, Option.toList_none, List.cons_append, List.nil_append]
  exact tr_i hQ C hw hr (Nat.le_of_ble_eq_true rfl) (Nat.le_of_ble_eq_true rfl) dM_rule_19 ⟨rfl, rfl⟩
set_option maxHeartbeats 4000000 in
set_option maxRecDepth 100000 in
theorem mo_bound (l : Launch) (hst : l.stackTraces = false) (D : va_G) (ct : Ct) (am : Nat → Nat) (N : Nat) (hN : N ≤ 16) (h0 : 0 < N) (th : Int32) (σ : St) (sz : Nat) (x : Int32) (h : ¬ x < 0 ∧ x ≤ 1000) : Kt l yM_bound cM_bound 3 (some .int) (r0 1) 0 0 D ct [.ref (am 0), .int x] sz (wM ct am N th σ) (fun v w => v = some (.int (σ 0 0 1)) ∧ w = wM ct am N 0 (su σ 0 0 1 x)) (fun E w => False) := by
  refine kt_of hst (by decide) (Nat.le_of_ble_eq_true rfl) (by simp [Value.category]) ?_
  intro p e s m args below meth c A ls C hne hr hw hl Q hQ
  have hx := C.1
  have hb := C.2.1
  refine q_aload_n hx hb hl dM_bound_0 rfl ?_
  refine lv_iconst (v := 0) hx hb dM_bound_1 (by decide) ?_
  refine mp_0 C hw l_M_64 dM_bound_2 (fun H locs hw => ?_)
  refine q_iload_n hx hb hl dM_bound_5 rfl ?_
  refine lv_iconst (v := 0) hx hb dM_bound_6 (by decide) ?_
  refine lv_sipush (v := 1000) hx hb dM_bound_7 (by decide) ?_
  refine tc_E (tc_S C hl (w_ok l hst D ct (wM ct am N 0 σ) _ x 0 1000 h.1 h.2) hw.1 hw.2.1 hw.2.2 g_M_67 hd_M_within rfl rfl ⟨(Nat.le_of_ble_eq_true rfl), (Nat.le_of_ble_eq_true rfl)⟩ (Nat.le_of_ble_eq_true rfl) ⟨(Nat.le_of_ble_eq_true rfl), (Nat.le_of_ble_eq_true rfl)⟩ dM_bound_10 rfl) C hw (fun E ce q9 w1 H locs hp hw h1 h2 h3 => ?_) (fun v w1 H locs hp hw => ?_)
  · exact hp.elim
  obtain ⟨rfl, rfl⟩ := hp
  dsimp only [Option.toList_some, Option.toList_none, List.cons_append, List.nil_append]
  refine lv_if_ne (tgt := 22) hx hb dM_bound_13 (by decide) (fun c_13 => ?_) (fun q9 => absurd q9 (by decide))
  refine q_aload_n hx hb hl dM_bound_22 rfl ?_
  refine mg C hw 4 l_M_78 (by decide) rfl dM_bound_23 ?_
  refine q_istore_n hx hb hl dM_bound_26 (by decide) (fun ls hl => ?_)
  refine q_aload_n hx hb hl dM_bound_27 rfl ?_
  refine q_iload_n hx hb hl dM_bound_28 rfl ?_
  refine mp_4 C hw l_M_78 dM_bound_29 (fun H locs hw => ?_)
  refine q_iload_n hx hb hl dM_bound_32 rfl ?_
  exact tr_i hQ C hw hr (Nat.le_of_ble_eq_true rfl) (Nat.le_of_ble_eq_true rfl) dM_bound_33 ⟨rfl, rfl⟩
set_option maxHeartbeats 4000000 in
set_option maxRecDepth 100000 in
theorem mx_bound (l : Launch) (hst : l.stackTraces = false) (D : va_G) (ct : Ct) (am : Nat → Nat) (N : Nat) (hN : N ≤ 16) (h0 : 0 < N) (th : Int32) (σ : St) (sz : Nat) (x : Int32) (h : x < 0 ∨ ¬ x ≤ 1000) : Kt l yM_bound cM_bound 3 (some .int) (r0 1) 0 0 D ct [.ref (am 0), .int x] sz (wM ct am N th σ) (fun v w => v = some (.int 0) ∧ w = wM ct am N 1 σ) (fun E w => False) := by
  refine kt_of hst (by decide) (Nat.le_of_ble_eq_true rfl) (by simp [Value.category]) ?_
  intro p e s m args below meth c A ls C hne hr hw hl Q hQ
  have hx := C.1
  have hb := C.2.1
  refine q_aload_n hx hb hl dM_bound_0 rfl ?_
  refine lv_iconst (v := 0) hx hb dM_bound_1 (by decide) ?_
  refine mp_0 C hw l_M_64 dM_bound_2 (fun H locs hw => ?_)
  refine q_iload_n hx hb hl dM_bound_5 rfl ?_
  refine lv_iconst (v := 0) hx hb dM_bound_6 (by decide) ?_
  refine lv_sipush (v := 1000) hx hb dM_bound_7 (by decide) ?_
  refine tc_E (tc_S C hl (w_bad l hst D ct (wM ct am N 0 σ) _ x 0 1000 h) hw.1 hw.2.1 hw.2.2 g_M_67 hd_M_within rfl rfl ⟨(Nat.le_of_ble_eq_true rfl), (Nat.le_of_ble_eq_true rfl)⟩ (Nat.le_of_ble_eq_true rfl) ⟨(Nat.le_of_ble_eq_true rfl), (Nat.le_of_ble_eq_true rfl)⟩ dM_bound_10 rfl) C hw (fun E ce q9 w1 H locs hp hw h1 h2 h3 => ?_) (fun v w1 H locs hp hw => ?_)
  · exact hp.elim
  obtain ⟨rfl, rfl⟩ := hp
  dsimp only [Option.toList_some, Option.toList_none, List.cons_append, List.nil_append]
  refine lv_if_ne (tgt := 22) hx hb dM_bound_13 (by decide) (fun q9 => absurd rfl q9) (fun c_13 => ?_)
  refine q_aload_n hx hb hl dM_bound_16 rfl ?_
  refine lv_iconst (v := 1) hx hb dM_bound_17 (by decide) ?_
  refine tc_E (tc_V C hl (m_fail l hst D ct am N hN h0 0 σ _ 1) hw.1 hw.2.1 hw.2.2 g_M_71 (re_M C hw) hv_M_fail rfl rfl ⟨(Nat.le_of_ble_eq_true rfl), (Nat.le_of_ble_eq_true rfl)⟩ (Nat.le_of_ble_eq_true rfl) ⟨(Nat.le_of_ble_eq_true rfl), (Nat.le_of_ble_eq_true rfl)⟩ dM_bound_18 rfl) C hw (fun E ce q9 w1 H locs hp hw h1 h2 h3 => ?_) (fun v w1 H locs hp hw => ?_)
  · exact hp.elim
  obtain ⟨rfl, rfl⟩ := hp
  dsimp only [Option.toList_some, Option.toList_none, List.cons_append, List.nil_append]
  exact tr_i hQ C hw hr (Nat.le_of_ble_eq_true rfl) (Nat.le_of_ble_eq_true rfl) dM_bound_21 ⟨rfl, rfl⟩
set_option maxHeartbeats 4000000 in
set_option maxRecDepth 100000 in
theorem mo_cost (l : Launch) (hst : l.stackTraces = false) (D : va_G) (ct : Ct) (am : Nat → Nat) (N : Nat) (hN : N ≤ 16) (h0 : 0 < N) (th : Int32) (σ : St) (sz : Nat) (x : Int32) (h : ¬ x < 0 ∧ x ≤ 20) : Kt l yM_cost cM_cost 3 (some .int) (r0 1) 0 0 D ct [.ref (am 0), .int x] sz (wM ct am N th σ) (fun v w => v = some (.int (σ 0 0 2)) ∧ w = wM ct am N 0 (su σ 0 0 2 x)) (fun E w => False) := by
  refine kt_of hst (by decide) (Nat.le_of_ble_eq_true rfl) (by simp [Value.category]) ?_
  intro p e s m args below meth c A ls C hne hr hw hl Q hQ
  have hx := C.1
  have hb := C.2.1
  refine q_aload_n hx hb hl dM_cost_0 rfl ?_
  refine lv_iconst (v := 0) hx hb dM_cost_1 (by decide) ?_
  refine mp_0 C hw l_M_64 dM_cost_2 (fun H locs hw => ?_)
  refine q_iload_n hx hb hl dM_cost_5 rfl ?_
  refine lv_iconst (v := 0) hx hb dM_cost_6 (by decide) ?_
  refine lv_bipush (v := 20) hx hb dM_cost_7 (by decide) ?_
  refine tc_E (tc_S C hl (w_ok l hst D ct (wM ct am N 0 σ) _ x 0 20 h.1 h.2) hw.1 hw.2.1 hw.2.2 g_M_67 hd_M_within rfl rfl ⟨(Nat.le_of_ble_eq_true rfl), (Nat.le_of_ble_eq_true rfl)⟩ (Nat.le_of_ble_eq_true rfl) ⟨(Nat.le_of_ble_eq_true rfl), (Nat.le_of_ble_eq_true rfl)⟩ dM_cost_9 rfl) C hw (fun E ce q9 w1 H locs hp hw h1 h2 h3 => ?_) (fun v w1 H locs hp hw => ?_)
  · exact hp.elim
  obtain ⟨rfl, rfl⟩ := hp
  dsimp only [Option.toList_some, Option.toList_none, List.cons_append, List.nil_append]
  refine lv_if_ne (tgt := 21) hx hb dM_cost_12 (by decide) (fun c_12 => ?_) (fun q9 => absurd q9 (by decide))
  refine q_aload_n hx hb hl dM_cost_21 rfl ?_
  refine mg C hw 5 l_M_81 (by decide) rfl dM_cost_22 ?_
  refine q_istore_n hx hb hl dM_cost_25 (by decide) (fun ls hl => ?_)
  refine q_aload_n hx hb hl dM_cost_26 rfl ?_
  refine q_iload_n hx hb hl dM_cost_27 rfl ?_
  refine mp_5 C hw l_M_81 dM_cost_28 (fun H locs hw => ?_)
  refine q_iload_n hx hb hl dM_cost_31 rfl ?_
  exact tr_i hQ C hw hr (Nat.le_of_ble_eq_true rfl) (Nat.le_of_ble_eq_true rfl) dM_cost_32 ⟨rfl, rfl⟩
set_option maxHeartbeats 4000000 in
set_option maxRecDepth 100000 in
theorem mx_cost (l : Launch) (hst : l.stackTraces = false) (D : va_G) (ct : Ct) (am : Nat → Nat) (N : Nat) (hN : N ≤ 16) (h0 : 0 < N) (th : Int32) (σ : St) (sz : Nat) (x : Int32) (h : x < 0 ∨ ¬ x ≤ 20) : Kt l yM_cost cM_cost 3 (some .int) (r0 1) 0 0 D ct [.ref (am 0), .int x] sz (wM ct am N th σ) (fun v w => v = some (.int 0) ∧ w = wM ct am N 1 σ) (fun E w => False) := by
  refine kt_of hst (by decide) (Nat.le_of_ble_eq_true rfl) (by simp [Value.category]) ?_
  intro p e s m args below meth c A ls C hne hr hw hl Q hQ
  have hx := C.1
  have hb := C.2.1
  refine q_aload_n hx hb hl dM_cost_0 rfl ?_
  refine lv_iconst (v := 0) hx hb dM_cost_1 (by decide) ?_
  refine mp_0 C hw l_M_64 dM_cost_2 (fun H locs hw => ?_)
  refine q_iload_n hx hb hl dM_cost_5 rfl ?_
  refine lv_iconst (v := 0) hx hb dM_cost_6 (by decide) ?_
  refine lv_bipush (v := 20) hx hb dM_cost_7 (by decide) ?_
  refine tc_E (tc_S C hl (w_bad l hst D ct (wM ct am N 0 σ) _ x 0 20 h) hw.1 hw.2.1 hw.2.2 g_M_67 hd_M_within rfl rfl ⟨(Nat.le_of_ble_eq_true rfl), (Nat.le_of_ble_eq_true rfl)⟩ (Nat.le_of_ble_eq_true rfl) ⟨(Nat.le_of_ble_eq_true rfl), (Nat.le_of_ble_eq_true rfl)⟩ dM_cost_9 rfl) C hw (fun E ce q9 w1 H locs hp hw h1 h2 h3 => ?_) (fun v w1 H locs hp hw => ?_)
  · exact hp.elim
  obtain ⟨rfl, rfl⟩ := hp
  dsimp only [Option.toList_some, Option.toList_none, List.cons_append, List.nil_append]
  refine lv_if_ne (tgt := 21) hx hb dM_cost_12 (by decide) (fun q9 => absurd rfl q9) (fun c_12 => ?_)
  refine q_aload_n hx hb hl dM_cost_15 rfl ?_
  refine lv_iconst (v := 1) hx hb dM_cost_16 (by decide) ?_
  refine tc_E (tc_V C hl (m_fail l hst D ct am N hN h0 0 σ _ 1) hw.1 hw.2.1 hw.2.2 g_M_71 (re_M C hw) hv_M_fail rfl rfl ⟨(Nat.le_of_ble_eq_true rfl), (Nat.le_of_ble_eq_true rfl)⟩ (Nat.le_of_ble_eq_true rfl) ⟨(Nat.le_of_ble_eq_true rfl), (Nat.le_of_ble_eq_true rfl)⟩ dM_cost_17 rfl) C hw (fun E ce q9 w1 H locs hp hw h1 h2 h3 => ?_) (fun v w1 H locs hp hw => ?_)
  · exact hp.elim
  obtain ⟨rfl, rfl⟩ := hp
  dsimp only [Option.toList_some, Option.toList_none, List.cons_append, List.nil_append]
  exact tr_i hQ C hw hr (Nat.le_of_ble_eq_true rfl) (Nat.le_of_ble_eq_true rfl) dM_cost_20 ⟨rfl, rfl⟩
set_option maxHeartbeats 4000000 in
set_option maxRecDepth 100000 in
theorem mo_ready (l : Launch) (hst : l.stackTraces = false) (D : va_G) (ct : Ct) (am : Nat → Nat) (N : Nat) (hN : N ≤ 16) (h0 : 0 < N) (th : Int32) (σ : St) (sz : Nat) (hbo : ∀ t, t < N → σ 1 t 0 = 0 ∨ σ 1 t 0 = 1) (t : Nat) (ht : t < N) (p1 : Int32) (hz : p1 = 0 ∨ p1 = 1) : Kt l yM_ready cM_ready 4 (some .boolean) (r0 2) 0 0 D ct [.ref (am 0), .int (nI t), .int p1] sz (wM ct am N th σ) (fun v w => v = some (.int (σ 1 t 0)) ∧ w = wM ct am N 0 (su σ 1 t 0 p1)) (fun E w => False) := by
  refine kt_of hst (by decide) (Nat.le_of_ble_eq_true rfl) (by simp [Value.category]) ?_
  intro p e s m args below meth c A ls C hne hr hw hl Q hQ
  have hx := C.1
  have hb := C.2.1
  have ht16 : t < 16 := by omega
  refine q_aload_n hx hb hl dM_ready_0 rfl ?_
  refine q_iload_n hx hb hl dM_ready_1 rfl ?_
  refine tc_E (tc_V C hl (it_ok l hst D ct am N hN h0 th σ _ t ht) hw.1 hw.2.1 hw.2.2 g_M_84 (re_M C hw) hv_M_isThread rfl rfl ⟨(Nat.le_of_ble_eq_true rfl), (Nat.le_of_ble_eq_true rfl)⟩ (Nat.le_of_ble_eq_true rfl) ⟨(Nat.le_of_ble_eq_true rfl), (Nat.le_of_ble_eq_true rfl)⟩ dM_ready_2 rfl) C hw (fun E ce q9 w1 H locs hp hw h1 h2 h3 => ?_) (fun v w1 H locs hp hw => ?_)
  · exact hp.elim
  obtain ⟨rfl, rfl⟩ := hp
  dsimp only [Option.toList_some, Option.toList_none, List.cons_append, List.nil_append]
  refine lv_if_ne (tgt := 10) hx hb dM_ready_5 (by decide) (fun c_5 => ?_) (fun q9 => absurd q9 (by decide))
  refine q_aload_n hx hb hl dM_ready_10 rfl ?_
  refine mg C hw 13 l_M_16 (by decide) rfl dM_ready_11 ?_
  refine q_iload_n hx hb hl dM_ready_14 rfl ?_
  refine mr_1 C hw (by assumption) rfl dM_ready_15 ?_
  refine q_istore_n hx hb hl dM_ready_16 (by decide) (fun ls hl => ?_)
  refine q_aload_n hx hb hl dM_ready_17 rfl ?_
  refine mg C hw 13 l_M_16 (by decide) rfl dM_ready_18 ?_
  refine q_iload_n hx hb hl dM_ready_21 rfl ?_
  refine q_iload_n hx hb hl dM_ready_22 rfl ?_
  refine mw_1 C hw (by assumption) hz rfl dM_ready_23 (fun H locs hw => ?_)
  refine q_iload_n hx hb hl dM_ready_24 rfl ?_
  exact tr_z hQ C hw hr (Nat.le_of_ble_eq_true rfl) (Nat.le_of_ble_eq_true rfl) dM_ready_25 (hbo t ht) ⟨rfl, rfl⟩
set_option maxHeartbeats 4000000 in
set_option maxRecDepth 100000 in
theorem mx_ready (l : Launch) (hst : l.stackTraces = false) (D : va_G) (ct : Ct) (am : Nat → Nat) (N : Nat) (hN : N ≤ 16) (h0 : 0 < N) (th : Int32) (σ : St) (sz : Nat) (p0 p1 : Int32) (h : p0 < 0 ∨ ¬ p0 < nI N) : Kt l yM_ready cM_ready 4 (some .boolean) (r0 2) 0 0 D ct [.ref (am 0), .int p0, .int p1] sz (wM ct am N th σ) (fun v w => v = some (.int 0) ∧ w = wM ct am N 1 σ) (fun E w => False) := by
  refine kt_of hst (by decide) (Nat.le_of_ble_eq_true rfl) (by simp [Value.category]) ?_
  intro p e s m args below meth c A ls C hne hr hw hl Q hQ
  have hx := C.1
  have hb := C.2.1
  refine q_aload_n hx hb hl dM_ready_0 rfl ?_
  refine q_iload_n hx hb hl dM_ready_1 rfl ?_
  refine tc_E (tc_V C hl (it_bad l hst D ct am N hN h0 th σ _ p0 h) hw.1 hw.2.1 hw.2.2 g_M_84 (re_M C hw) hv_M_isThread rfl rfl ⟨(Nat.le_of_ble_eq_true rfl), (Nat.le_of_ble_eq_true rfl)⟩ (Nat.le_of_ble_eq_true rfl) ⟨(Nat.le_of_ble_eq_true rfl), (Nat.le_of_ble_eq_true rfl)⟩ dM_ready_2 rfl) C hw (fun E ce q9 w1 H locs hp hw h1 h2 h3 => ?_) (fun v w1 H locs hp hw => ?_)
  · exact hp.elim
  obtain ⟨rfl, rfl⟩ := hp
  dsimp only [Option.toList_some, Option.toList_none, List.cons_append, List.nil_append]
  refine lv_if_ne (tgt := 10) hx hb dM_ready_5 (by decide) (fun q9 => absurd rfl q9) (fun c_5 => ?_)
  refine lv_iconst (v := 0) hx hb dM_ready_8 (by decide) ?_
  exact tr_z hQ C hw hr (Nat.le_of_ble_eq_true rfl) (Nat.le_of_ble_eq_true rfl) dM_ready_9 (by decide) ⟨rfl, rfl⟩
set_option maxHeartbeats 4000000 in
set_option maxRecDepth 100000 in
theorem mo_rank (l : Launch) (hst : l.stackTraces = false) (D : va_G) (ct : Ct) (am : Nat → Nat) (N : Nat) (hN : N ≤ 16) (h0 : 0 < N) (th : Int32) (σ : St) (sz : Nat) (t : Nat) (ht : t < N) (p1 : Int32) (h : ¬ p1 < 0 ∧ p1 ≤ 15) : Kt l yM_rank cM_rank 4 (some .int) (r0 2) 0 0 D ct [.ref (am 0), .int (nI t), .int p1] sz (wM ct am N th σ) (fun v w => v = some (.int (σ 1 t 1)) ∧ w = wM ct am N 0 (su σ 1 t 1 p1)) (fun E w => False) := by
  refine kt_of hst (by decide) (Nat.le_of_ble_eq_true rfl) (by simp [Value.category]) ?_
  intro p e s m args below meth c A ls C hne hr hw hl Q hQ
  have hx := C.1
  have hb := C.2.1
  have ht16 : t < 16 := by omega
  refine q_aload_n hx hb hl dM_rank_0 rfl ?_
  refine q_iload_n hx hb hl dM_rank_1 rfl ?_
  refine tc_E (tc_V C hl (it_ok l hst D ct am N hN h0 th σ _ t ht) hw.1 hw.2.1 hw.2.2 g_M_84 (re_M C hw) hv_M_isThread rfl rfl ⟨(Nat.le_of_ble_eq_true rfl), (Nat.le_of_ble_eq_true rfl)⟩ (Nat.le_of_ble_eq_true rfl) ⟨(Nat.le_of_ble_eq_true rfl), (Nat.le_of_ble_eq_true rfl)⟩ dM_rank_2 rfl) C hw (fun E ce q9 w1 H locs hp hw h1 h2 h3 => ?_) (fun v w1 H locs hp hw => ?_)
  · exact hp.elim
  obtain ⟨rfl, rfl⟩ := hp
  dsimp only [Option.toList_some, Option.toList_none, List.cons_append, List.nil_append]
  refine lv_if_ne (tgt := 10) hx hb dM_rank_5 (by decide) (fun c_5 => ?_) (fun q9 => absurd q9 (by decide))
  refine q_iload_n hx hb hl dM_rank_10 rfl ?_
  refine lv_iconst (v := 0) hx hb dM_rank_11 (by decide) ?_
  refine lv_bipush (v := 15) hx hb dM_rank_12 (by decide) ?_
  refine tc_E (tc_S C hl (w_ok l hst D ct (wM ct am N 0 σ) _ p1 0 15 h.1 h.2) hw.1 hw.2.1 hw.2.2 g_M_67 hd_M_within rfl rfl ⟨(Nat.le_of_ble_eq_true rfl), (Nat.le_of_ble_eq_true rfl)⟩ (Nat.le_of_ble_eq_true rfl) ⟨(Nat.le_of_ble_eq_true rfl), (Nat.le_of_ble_eq_true rfl)⟩ dM_rank_14 rfl) C hw (fun E ce q9 w1 H locs hp hw h1 h2 h3 => ?_) (fun v w1 H locs hp hw => ?_)
  · exact hp.elim
  obtain ⟨rfl, rfl⟩ := hp
  dsimp only [Option.toList_some, Option.toList_none, List.cons_append, List.nil_append]
  refine lv_if_ne (tgt := 26) hx hb dM_rank_17 (by decide) (fun c_17 => ?_) (fun q9 => absurd q9 (by decide))
  refine q_aload_n hx hb hl dM_rank_26 rfl ?_
  refine mg C hw 14 l_M_20 (by decide) rfl dM_rank_27 ?_
  refine q_iload_n hx hb hl dM_rank_30 rfl ?_
  refine mr_2 C hw (by assumption) rfl dM_rank_31 ?_
  refine q_istore_n hx hb hl dM_rank_32 (by decide) (fun ls hl => ?_)
  refine q_aload_n hx hb hl dM_rank_33 rfl ?_
  refine mg C hw 14 l_M_20 (by decide) rfl dM_rank_34 ?_
  refine q_iload_n hx hb hl dM_rank_37 rfl ?_
  refine q_iload_n hx hb hl dM_rank_38 rfl ?_
  refine mw_2 C hw (by assumption) rfl dM_rank_39 (fun H locs hw => ?_)
  refine q_iload_n hx hb hl dM_rank_40 rfl ?_
  exact tr_i hQ C hw hr (Nat.le_of_ble_eq_true rfl) (Nat.le_of_ble_eq_true rfl) dM_rank_41 ⟨rfl, rfl⟩
set_option maxHeartbeats 4000000 in
set_option maxRecDepth 100000 in
theorem my_rank (l : Launch) (hst : l.stackTraces = false) (D : va_G) (ct : Ct) (am : Nat → Nat) (N : Nat) (hN : N ≤ 16) (h0 : 0 < N) (th : Int32) (σ : St) (sz : Nat) (t : Nat) (ht : t < N) (p1 : Int32) (h : p1 < 0 ∨ ¬ p1 ≤ 15) : Kt l yM_rank cM_rank 4 (some .int) (r0 2) 0 0 D ct [.ref (am 0), .int (nI t), .int p1] sz (wM ct am N th σ) (fun v w => v = some (.int 0) ∧ w = wM ct am N 2 σ) (fun E w => False) := by
  refine kt_of hst (by decide) (Nat.le_of_ble_eq_true rfl) (by simp [Value.category]) ?_
  intro p e s m args below meth c A ls C hne hr hw hl Q hQ
  have hx := C.1
  have hb := C.2.1
  refine q_aload_n hx hb hl dM_rank_0 rfl ?_
  refine q_iload_n hx hb hl dM_rank_1 rfl ?_
  refine tc_E (tc_V C hl (it_ok l hst D ct am N hN h0 th σ _ t ht) hw.1 hw.2.1 hw.2.2 g_M_84 (re_M C hw) hv_M_isThread rfl rfl ⟨(Nat.le_of_ble_eq_true rfl), (Nat.le_of_ble_eq_true rfl)⟩ (Nat.le_of_ble_eq_true rfl) ⟨(Nat.le_of_ble_eq_true rfl), (Nat.le_of_ble_eq_true rfl)⟩ dM_rank_2 rfl) C hw (fun E ce q9 w1 H locs hp hw h1 h2 h3 => ?_) (fun v w1 H locs hp hw => ?_)
  · exact hp.elim
  obtain ⟨rfl, rfl⟩ := hp
  dsimp only [Option.toList_some, Option.toList_none, List.cons_append, List.nil_append]
  refine lv_if_ne (tgt := 10) hx hb dM_rank_5 (by decide) (fun c_5 => ?_) (fun q9 => absurd q9 (by decide))
  refine q_iload_n hx hb hl dM_rank_10 rfl ?_
  refine lv_iconst (v := 0) hx hb dM_rank_11 (by decide) ?_
  refine lv_bipush (v := 15) hx hb dM_rank_12 (by decide) ?_
  refine tc_E (tc_S C hl (w_bad l hst D ct (wM ct am N 0 σ) _ p1 0 15 h) hw.1 hw.2.1 hw.2.2 g_M_67 hd_M_within rfl rfl ⟨(Nat.le_of_ble_eq_true rfl), (Nat.le_of_ble_eq_true rfl)⟩ (Nat.le_of_ble_eq_true rfl) ⟨(Nat.le_of_ble_eq_true rfl), (Nat.le_of_ble_eq_true rfl)⟩ dM_rank_14 rfl) C hw (fun E ce q9 w1 H locs hp hw h1 h2 h3 => ?_) (fun v w1 H locs hp hw => ?_)
  · exact hp.elim
  obtain ⟨rfl, rfl⟩ := hp
  dsimp only [Option.toList_some, Option.toList_none, List.cons_append, List.nil_append]
  refine lv_if_ne (tgt := 26) hx hb dM_rank_17 (by decide) (fun q9 => absurd rfl q9) (fun c_17 => ?_)
  refine q_aload_n hx hb hl dM_rank_20 rfl ?_
  refine lv_iconst (v := 2) hx hb dM_rank_21 (by decide) ?_
  refine tc_E (tc_V C hl (m_fail l hst D ct am N hN h0 0 σ _ 2) hw.1 hw.2.1 hw.2.2 g_M_71 (re_M C hw) hv_M_fail rfl rfl ⟨(Nat.le_of_ble_eq_true rfl), (Nat.le_of_ble_eq_true rfl)⟩ (Nat.le_of_ble_eq_true rfl) ⟨(Nat.le_of_ble_eq_true rfl), (Nat.le_of_ble_eq_true rfl)⟩ dM_rank_22 rfl) C hw (fun E ce q9 w1 H locs hp hw h1 h2 h3 => ?_) (fun v w1 H locs hp hw => ?_)
  · exact hp.elim
  obtain ⟨rfl, rfl⟩ := hp
  dsimp only [Option.toList_some, Option.toList_none, List.cons_append, List.nil_append]
  exact tr_i hQ C hw hr (Nat.le_of_ble_eq_true rfl) (Nat.le_of_ble_eq_true rfl) dM_rank_25 ⟨rfl, rfl⟩
set_option maxHeartbeats 4000000 in
set_option maxRecDepth 100000 in
theorem mx_rank (l : Launch) (hst : l.stackTraces = false) (D : va_G) (ct : Ct) (am : Nat → Nat) (N : Nat) (hN : N ≤ 16) (h0 : 0 < N) (th : Int32) (σ : St) (sz : Nat) (p0 p1 : Int32) (h : p0 < 0 ∨ ¬ p0 < nI N) : Kt l yM_rank cM_rank 4 (some .int) (r0 2) 0 0 D ct [.ref (am 0), .int p0, .int p1] sz (wM ct am N th σ) (fun v w => v = some (.int 0) ∧ w = wM ct am N 1 σ) (fun E w => False) := by
  refine kt_of hst (by decide) (Nat.le_of_ble_eq_true rfl) (by simp [Value.category]) ?_
  intro p e s m args below meth c A ls C hne hr hw hl Q hQ
  have hx := C.1
  have hb := C.2.1
  refine q_aload_n hx hb hl dM_rank_0 rfl ?_
  refine q_iload_n hx hb hl dM_rank_1 rfl ?_
  refine tc_E (tc_V C hl (it_bad l hst D ct am N hN h0 th σ _ p0 h) hw.1 hw.2.1 hw.2.2 g_M_84 (re_M C hw) hv_M_isThread rfl rfl ⟨(Nat.le_of_ble_eq_true rfl), (Nat.le_of_ble_eq_true rfl)⟩ (Nat.le_of_ble_eq_true rfl) ⟨(Nat.le_of_ble_eq_true rfl), (Nat.le_of_ble_eq_true rfl)⟩ dM_rank_2 rfl) C hw (fun E ce q9 w1 H locs hp hw h1 h2 h3 => ?_) (fun v w1 H locs hp hw => ?_)
  · exact hp.elim
  obtain ⟨rfl, rfl⟩ := hp
  dsimp only [Option.toList_some, Option.toList_none, List.cons_append, List.nil_append]
  refine lv_if_ne (tgt := 10) hx hb dM_rank_5 (by decide) (fun q9 => absurd rfl q9) (fun c_5 => ?_)
  refine lv_iconst (v := 0) hx hb dM_rank_8 (by decide) ?_
  exact tr_i hQ C hw hr (Nat.le_of_ble_eq_true rfl) (Nat.le_of_ble_eq_true rfl) dM_rank_9 ⟨rfl, rfl⟩
set_option maxHeartbeats 4000000 in
set_option maxRecDepth 100000 in
theorem mo_sleep (l : Launch) (hst : l.stackTraces = false) (D : va_G) (ct : Ct) (am : Nat → Nat) (N : Nat) (hN : N ≤ 16) (h0 : 0 < N) (th : Int32) (σ : St) (sz : Nat) (t : Nat) (ht : t < N) (p1 : Int32) (h : ¬ p1 < 0 ∧ p1 ≤ 1000000) : Kt l yM_sleep cM_sleep 4 (some .int) (r0 2) 0 0 D ct [.ref (am 0), .int (nI t), .int p1] sz (wM ct am N th σ) (fun v w => v = some (.int (σ 1 t 2)) ∧ w = wM ct am N 0 (su σ 1 t 2 p1)) (fun E w => False) := by
  refine kt_of hst (by decide) (Nat.le_of_ble_eq_true rfl) (by simp [Value.category]) ?_
  intro p e s m args below meth c A ls C hne hr hw hl Q hQ
  have hx := C.1
  have hb := C.2.1
  have ht16 : t < 16 := by omega
  refine q_aload_n hx hb hl dM_sleep_0 rfl ?_
  refine q_iload_n hx hb hl dM_sleep_1 rfl ?_
  refine tc_E (tc_V C hl (it_ok l hst D ct am N hN h0 th σ _ t ht) hw.1 hw.2.1 hw.2.2 g_M_84 (re_M C hw) hv_M_isThread rfl rfl ⟨(Nat.le_of_ble_eq_true rfl), (Nat.le_of_ble_eq_true rfl)⟩ (Nat.le_of_ble_eq_true rfl) ⟨(Nat.le_of_ble_eq_true rfl), (Nat.le_of_ble_eq_true rfl)⟩ dM_sleep_2 rfl) C hw (fun E ce q9 w1 H locs hp hw h1 h2 h3 => ?_) (fun v w1 H locs hp hw => ?_)
  · exact hp.elim
  obtain ⟨rfl, rfl⟩ := hp
  dsimp only [Option.toList_some, Option.toList_none, List.cons_append, List.nil_append]
  refine lv_if_ne (tgt := 10) hx hb dM_sleep_5 (by decide) (fun c_5 => ?_) (fun q9 => absurd q9 (by decide))
  refine q_iload_n hx hb hl dM_sleep_10 rfl ?_
  refine lv_iconst (v := 0) hx hb dM_sleep_11 (by decide) ?_
  refine lv_ldc hx hb C.2.2.2.1 (C.2.2.2.2.1 _ k_M_88) dM_sleep_12 ?_
  refine tc_E (tc_S C hl (w_ok l hst D ct (wM ct am N 0 σ) _ p1 0 1000000 h.1 h.2) hw.1 hw.2.1 hw.2.2 g_M_67 hd_M_within rfl rfl ⟨(Nat.le_of_ble_eq_true rfl), (Nat.le_of_ble_eq_true rfl)⟩ (Nat.le_of_ble_eq_true rfl) ⟨(Nat.le_of_ble_eq_true rfl), (Nat.le_of_ble_eq_true rfl)⟩ dM_sleep_14 rfl) C hw (fun E ce q9 w1 H locs hp hw h1 h2 h3 => ?_) (fun v w1 H locs hp hw => ?_)
  · exact hp.elim
  obtain ⟨rfl, rfl⟩ := hp
  dsimp only [Option.toList_some, Option.toList_none, List.cons_append, List.nil_append]
  refine lv_if_ne (tgt := 26) hx hb dM_sleep_17 (by decide) (fun c_17 => ?_) (fun q9 => absurd q9 (by decide))
  refine q_aload_n hx hb hl dM_sleep_26 rfl ?_
  refine mg C hw 15 l_M_24 (by decide) rfl dM_sleep_27 ?_
  refine q_iload_n hx hb hl dM_sleep_30 rfl ?_
  refine mr_3 C hw (by assumption) rfl dM_sleep_31 ?_
  refine q_istore_n hx hb hl dM_sleep_32 (by decide) (fun ls hl => ?_)
  refine q_aload_n hx hb hl dM_sleep_33 rfl ?_
  refine mg C hw 15 l_M_24 (by decide) rfl dM_sleep_34 ?_
  refine q_iload_n hx hb hl dM_sleep_37 rfl ?_
  refine q_iload_n hx hb hl dM_sleep_38 rfl ?_
  refine mw_3 C hw (by assumption) rfl dM_sleep_39 (fun H locs hw => ?_)
  refine q_iload_n hx hb hl dM_sleep_40 rfl ?_
  exact tr_i hQ C hw hr (Nat.le_of_ble_eq_true rfl) (Nat.le_of_ble_eq_true rfl) dM_sleep_41 ⟨rfl, rfl⟩
set_option maxHeartbeats 4000000 in
set_option maxRecDepth 100000 in
theorem my_sleep (l : Launch) (hst : l.stackTraces = false) (D : va_G) (ct : Ct) (am : Nat → Nat) (N : Nat) (hN : N ≤ 16) (h0 : 0 < N) (th : Int32) (σ : St) (sz : Nat) (t : Nat) (ht : t < N) (p1 : Int32) (h : p1 < 0 ∨ ¬ p1 ≤ 1000000) : Kt l yM_sleep cM_sleep 4 (some .int) (r0 2) 0 0 D ct [.ref (am 0), .int (nI t), .int p1] sz (wM ct am N th σ) (fun v w => v = some (.int 0) ∧ w = wM ct am N 2 σ) (fun E w => False) := by
  refine kt_of hst (by decide) (Nat.le_of_ble_eq_true rfl) (by simp [Value.category]) ?_
  intro p e s m args below meth c A ls C hne hr hw hl Q hQ
  have hx := C.1
  have hb := C.2.1
  refine q_aload_n hx hb hl dM_sleep_0 rfl ?_
  refine q_iload_n hx hb hl dM_sleep_1 rfl ?_
  refine tc_E (tc_V C hl (it_ok l hst D ct am N hN h0 th σ _ t ht) hw.1 hw.2.1 hw.2.2 g_M_84 (re_M C hw) hv_M_isThread rfl rfl ⟨(Nat.le_of_ble_eq_true rfl), (Nat.le_of_ble_eq_true rfl)⟩ (Nat.le_of_ble_eq_true rfl) ⟨(Nat.le_of_ble_eq_true rfl), (Nat.le_of_ble_eq_true rfl)⟩ dM_sleep_2 rfl) C hw (fun E ce q9 w1 H locs hp hw h1 h2 h3 => ?_) (fun v w1 H locs hp hw => ?_)
  · exact hp.elim
  obtain ⟨rfl, rfl⟩ := hp
  dsimp only [Option.toList_some, Option.toList_none, List.cons_append, List.nil_append]
  refine lv_if_ne (tgt := 10) hx hb dM_sleep_5 (by decide) (fun c_5 => ?_) (fun q9 => absurd q9 (by decide))
  refine q_iload_n hx hb hl dM_sleep_10 rfl ?_
  refine lv_iconst (v := 0) hx hb dM_sleep_11 (by decide) ?_
  refine lv_ldc hx hb C.2.2.2.1 (C.2.2.2.2.1 _ k_M_88) dM_sleep_12 ?_
  refine tc_E (tc_S C hl (w_bad l hst D ct (wM ct am N 0 σ) _ p1 0 1000000 h) hw.1 hw.2.1 hw.2.2 g_M_67 hd_M_within rfl rfl ⟨(Nat.le_of_ble_eq_true rfl), (Nat.le_of_ble_eq_true rfl)⟩ (Nat.le_of_ble_eq_true rfl) ⟨(Nat.le_of_ble_eq_true rfl), (Nat.le_of_ble_eq_true rfl)⟩ dM_sleep_14 rfl) C hw (fun E ce q9 w1 H locs hp hw h1 h2 h3 => ?_) (fun v w1 H locs hp hw => ?_)
  · exact hp.elim
  obtain ⟨rfl, rfl⟩ := hp
  dsimp only [Option.toList_some, Option.toList_none, List.cons_append, List.nil_append]
  refine lv_if_ne (tgt := 26) hx hb dM_sleep_17 (by decide) (fun q9 => absurd rfl q9) (fun c_17 => ?_)
  refine q_aload_n hx hb hl dM_sleep_20 rfl ?_
  refine lv_iconst (v := 2) hx hb dM_sleep_21 (by decide) ?_
  refine tc_E (tc_V C hl (m_fail l hst D ct am N hN h0 0 σ _ 2) hw.1 hw.2.1 hw.2.2 g_M_71 (re_M C hw) hv_M_fail rfl rfl ⟨(Nat.le_of_ble_eq_true rfl), (Nat.le_of_ble_eq_true rfl)⟩ (Nat.le_of_ble_eq_true rfl) ⟨(Nat.le_of_ble_eq_true rfl), (Nat.le_of_ble_eq_true rfl)⟩ dM_sleep_22 rfl) C hw (fun E ce q9 w1 H locs hp hw h1 h2 h3 => ?_) (fun v w1 H locs hp hw => ?_)
  · exact hp.elim
  obtain ⟨rfl, rfl⟩ := hp
  dsimp only [Option.toList_some, Option.toList_none, List.cons_append, List.nil_append]
  exact tr_i hQ C hw hr (Nat.le_of_ble_eq_true rfl) (Nat.le_of_ble_eq_true rfl) dM_sleep_25 ⟨rfl, rfl⟩
set_option maxHeartbeats 4000000 in
set_option maxRecDepth 100000 in
theorem mx_sleep (l : Launch) (hst : l.stackTraces = false) (D : va_G) (ct : Ct) (am : Nat → Nat) (N : Nat) (hN : N ≤ 16) (h0 : 0 < N) (th : Int32) (σ : St) (sz : Nat) (p0 p1 : Int32) (h : p0 < 0 ∨ ¬ p0 < nI N) : Kt l yM_sleep cM_sleep 4 (some .int) (r0 2) 0 0 D ct [.ref (am 0), .int p0, .int p1] sz (wM ct am N th σ) (fun v w => v = some (.int 0) ∧ w = wM ct am N 1 σ) (fun E w => False) := by
  refine kt_of hst (by decide) (Nat.le_of_ble_eq_true rfl) (by simp [Value.category]) ?_
  intro p e s m args below meth c A ls C hne hr hw hl Q hQ
  have hx := C.1
  have hb := C.2.1
  refine q_aload_n hx hb hl dM_sleep_0 rfl ?_
  refine q_iload_n hx hb hl dM_sleep_1 rfl ?_
  refine tc_E (tc_V C hl (it_bad l hst D ct am N hN h0 th σ _ p0 h) hw.1 hw.2.1 hw.2.2 g_M_84 (re_M C hw) hv_M_isThread rfl rfl ⟨(Nat.le_of_ble_eq_true rfl), (Nat.le_of_ble_eq_true rfl)⟩ (Nat.le_of_ble_eq_true rfl) ⟨(Nat.le_of_ble_eq_true rfl), (Nat.le_of_ble_eq_true rfl)⟩ dM_sleep_2 rfl) C hw (fun E ce q9 w1 H locs hp hw h1 h2 h3 => ?_) (fun v w1 H locs hp hw => ?_)
  · exact hp.elim
  obtain ⟨rfl, rfl⟩ := hp
  dsimp only [Option.toList_some, Option.toList_none, List.cons_append, List.nil_append]
  refine lv_if_ne (tgt := 10) hx hb dM_sleep_5 (by decide) (fun q9 => absurd rfl q9) (fun c_5 => ?_)
  refine lv_iconst (v := 0) hx hb dM_sleep_8 (by decide) ?_
  exact tr_i hQ C hw hr (Nat.le_of_ble_eq_true rfl) (Nat.le_of_ble_eq_true rfl) dM_sleep_9 ⟨rfl, rfl⟩
set_option maxHeartbeats 4000000 in
set_option maxRecDepth 100000 in
theorem mo_miss (l : Launch) (hst : l.stackTraces = false) (D : va_G) (ct : Ct) (am : Nat → Nat) (N : Nat) (hN : N ≤ 16) (h0 : 0 < N) (th : Int32) (σ : St) (sz : Nat) (t : Nat) (ht : t < N) : Kt l yM_miss cM_miss 2 (some .int) (r0 2) 0 0 D ct [.ref (am 0), .int (nI t)] sz (wM ct am N th σ) (fun v w => v = some (.int (σ 1 t 3 + 1)) ∧ w = wM ct am N 0 (su σ 1 t 3 (σ 1 t 3 + 1))) (fun E w => False) := by
  refine kt_of hst (by decide) (Nat.le_of_ble_eq_true rfl) (by simp [Value.category]) ?_
  intro p e s m args below meth c A ls C hne hr hw hl Q hQ
  have hx := C.1
  have hb := C.2.1
  have ht16 : t < 16 := by omega
  refine q_aload_n hx hb hl dM_miss_0 rfl ?_
  refine q_iload_n hx hb hl dM_miss_1 rfl ?_
  refine tc_E (tc_V C hl (it_ok l hst D ct am N hN h0 th σ _ t ht) hw.1 hw.2.1 hw.2.2 g_M_84 (re_M C hw) hv_M_isThread rfl rfl ⟨(Nat.le_of_ble_eq_true rfl), (Nat.le_of_ble_eq_true rfl)⟩ (Nat.le_of_ble_eq_true rfl) ⟨(Nat.le_of_ble_eq_true rfl), (Nat.le_of_ble_eq_true rfl)⟩ dM_miss_2 rfl) C hw (fun E ce q9 w1 H locs hp hw h1 h2 h3 => ?_) (fun v w1 H locs hp hw => ?_)
  · exact hp.elim
  obtain ⟨rfl, rfl⟩ := hp
  dsimp only [Option.toList_some, Option.toList_none, List.cons_append, List.nil_append]
  refine lv_if_ne (tgt := 10) hx hb dM_miss_5 (by decide) (fun c_5 => ?_) (fun q9 => absurd q9 (by decide))
  refine q_aload_n hx hb hl dM_miss_10 rfl ?_
  refine mg C hw 16 l_M_27 (by decide) rfl dM_miss_11 ?_
  refine q_iload_n hx hb hl dM_miss_14 rfl ?_
  refine lv_dup2_11 hx hb dM_miss_15 rfl rfl ?_
  refine mr_4 C hw (by assumption) rfl dM_miss_16 ?_
  refine lv_iconst (v := 1) hx hb dM_miss_17 (by decide) ?_
  refine lv_iadd hx hb dM_miss_18 ?_
  refine mw_4 C hw (by assumption) rfl dM_miss_19 (fun H locs hw => ?_)
  refine q_aload_n hx hb hl dM_miss_20 rfl ?_
  refine mg C hw 16 l_M_27 (by decide) rfl dM_miss_21 ?_
  refine q_iload_n hx hb hl dM_miss_24 rfl ?_
  refine mr_4 C hw (by assumption) rfl dM_miss_25 ?_
  exact tr_i hQ C hw hr (Nat.le_of_ble_eq_true rfl) (Nat.le_of_ble_eq_true rfl) dM_miss_26 ⟨by rw [su_eq], rfl⟩
set_option maxHeartbeats 4000000 in
set_option maxRecDepth 100000 in
theorem mx_miss (l : Launch) (hst : l.stackTraces = false) (D : va_G) (ct : Ct) (am : Nat → Nat) (N : Nat) (hN : N ≤ 16) (h0 : 0 < N) (th : Int32) (σ : St) (sz : Nat) (p0 : Int32) (h : p0 < 0 ∨ ¬ p0 < nI N) : Kt l yM_miss cM_miss 2 (some .int) (r0 2) 0 0 D ct [.ref (am 0), .int p0] sz (wM ct am N th σ) (fun v w => v = some (.int 0) ∧ w = wM ct am N 1 σ) (fun E w => False) := by
  refine kt_of hst (by decide) (Nat.le_of_ble_eq_true rfl) (by simp [Value.category]) ?_
  intro p e s m args below meth c A ls C hne hr hw hl Q hQ
  have hx := C.1
  have hb := C.2.1
  refine q_aload_n hx hb hl dM_miss_0 rfl ?_
  refine q_iload_n hx hb hl dM_miss_1 rfl ?_
  refine tc_E (tc_V C hl (it_bad l hst D ct am N hN h0 th σ _ p0 h) hw.1 hw.2.1 hw.2.2 g_M_84 (re_M C hw) hv_M_isThread rfl rfl ⟨(Nat.le_of_ble_eq_true rfl), (Nat.le_of_ble_eq_true rfl)⟩ (Nat.le_of_ble_eq_true rfl) ⟨(Nat.le_of_ble_eq_true rfl), (Nat.le_of_ble_eq_true rfl)⟩ dM_miss_2 rfl) C hw (fun E ce q9 w1 H locs hp hw h1 h2 h3 => ?_) (fun v w1 H locs hp hw => ?_)
  · exact hp.elim
  obtain ⟨rfl, rfl⟩ := hp
  dsimp only [Option.toList_some, Option.toList_none, List.cons_append, List.nil_append]
  refine lv_if_ne (tgt := 10) hx hb dM_miss_5 (by decide) (fun q9 => absurd rfl q9) (fun c_5 => ?_)
  refine lv_iconst (v := 0) hx hb dM_miss_8 (by decide) ?_
  exact tr_i hQ C hw hr (Nat.le_of_ble_eq_true rfl) (Nat.le_of_ble_eq_true rfl) dM_miss_9 ⟨rfl, rfl⟩
