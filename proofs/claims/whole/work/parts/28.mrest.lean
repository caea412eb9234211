set_option maxHeartbeats 4000000 in
set_option maxRecDepth 100000 in
theorem mo_entry (l : Launch) (hst : l.stackTraces = false) (D : va_G) (ct : Ct) (am : Nat → Nat) (N : Nat) (hN : N ≤ 16) (h0 : 0 < N) (th : Int32) (σ : St) (sz : Nat) (q : Nat) (hq : q < 8) (K : Nat) (hK : K ≤ 32) (hs : σ 3 q 0 = nI K) (j : Nat) (hj : j < K) (u : Nat) (hu : u < 2) : Kt l yM_entry cM_entry 4 (some .int) (r0 2) 0 0 D ct [.ref (am 0), .int (nI q), .int (nI j), .int (nI u)] sz (wM ct am N th σ) (fun v w => v = some (.int (if nI u = 0 then σ 4 q j else σ 5 q j)) ∧ w = wM ct am N 0 σ) (fun E w => False) := by
  refine kt_of hst (by decide) (Nat.le_of_ble_eq_true rfl) (by simp [Value.category]) ?_
  intro p e s m args below meth c A ls C hne hr hw hl Q hQ
  have hx := C.1
  have hb := C.2.1
  have hj32 : j < 32 := by omega
  refine q_aload_n hx hb hl dM_entry_0 rfl ?_
  refine q_iload_n hx hb hl dM_entry_1 rfl ?_
  refine tc_E (tc_V C hl (iq_ok l hst D ct am N hN h0 th σ _ q hq) hw.1 hw.2.1 hw.2.2 g_M_135 (re_M C hw) hv_M_isQueue rfl rfl ⟨(Nat.le_of_ble_eq_true rfl), (Nat.le_of_ble_eq_true rfl)⟩ (Nat.le_of_ble_eq_true rfl) ⟨(Nat.le_of_ble_eq_true rfl), (Nat.le_of_ble_eq_true rfl)⟩ dM_entry_2 rfl) C hw (fun E ce q9 w1 H locs hp hw h1 h2 h3 => ?_) (fun v w1 H locs hp hw => ?_)
  · exact hp.elim
  obtain ⟨rfl, rfl⟩ := hp
  dsimp only [Option.toList_some, Option.toList_none, List.cons_append, List.nil_append]
  refine lv_if_ne (tgt := 10) hx hb dM_entry_5 (by decide) (fun c_5 => ?_) (fun q9 => absurd q9 (by decide))
  refine q_iload_n hx hb hl dM_entry_10 rfl ?_
  refine lv_iconst (v := 0) hx hb dM_entry_11 (by decide) ?_
  refine q_aload_n hx hb hl dM_entry_12 rfl ?_
  refine mg C hw 22 l_M_45 (by decide) rfl dM_entry_13 ?_
  refine q_iload_n hx hb hl dM_entry_16 rfl ?_
  refine mr_10 C hw (q := q) hq rfl dM_entry_17 ?_
  refine lv_iconst (v := 1) hx hb dM_entry_18 (by decide) ?_
  refine lv_isub hx hb dM_entry_19 ?_
  refine tc_E (tc_S C hl (w_ok l hst D ct (wM ct am N 0 σ) _ (nI j) 0 (σ 3 q 0 - 1) (nI_pos (by omega)) (by rw [hs]; exact le_pred hj (by omega))) hw.1 hw.2.1 hw.2.2 g_M_67 hd_M_within rfl rfl ⟨(Nat.le_of_ble_eq_true rfl), (Nat.le_of_ble_eq_true rfl)⟩ (Nat.le_of_ble_eq_true rfl) ⟨(Nat.le_of_ble_eq_true rfl), (Nat.le_of_ble_eq_true rfl)⟩ dM_entry_20 rfl) C hw (fun E ce q9 w1 H locs hp hw h1 h2 h3 => ?_) (fun v w1 H locs hp hw => ?_)
  · exact hp.elim
  obtain ⟨rfl, rfl⟩ := hp
  dsimp only [Option.toList_some, Option.toList_none, List.cons_append, List.nil_append]
  refine lv_if_eq (tgt := 35) hx hb dM_entry_23 (by decide) (fun q9 => absurd q9 (by decide)) (fun c_23 => ?_)
  refine q_iload_n hx hb hl dM_entry_26 rfl ?_
  refine lv_iconst (v := 0) hx hb dM_entry_27 (by decide) ?_
  refine lv_iconst (v := 1) hx hb dM_entry_28 (by decide) ?_
  refine tc_E (tc_S C hl (w_ok l hst D ct (wM ct am N 0 σ) _ (nI u) 0 1 (nI_pos (by omega)) (nI_le (b := 1) (by omega) (by omega))) hw.1 hw.2.1 hw.2.2 g_M_67 hd_M_within rfl rfl ⟨(Nat.le_of_ble_eq_true rfl), (Nat.le_of_ble_eq_true rfl)⟩ (Nat.le_of_ble_eq_true rfl) ⟨(Nat.le_of_ble_eq_true rfl), (Nat.le_of_ble_eq_true rfl)⟩ dM_entry_29 rfl) C hw (fun E ce q9 w1 H locs hp hw h1 h2 h3 => ?_) (fun v w1 H locs hp hw => ?_)
  · exact hp.elim
  obtain ⟨rfl, rfl⟩ := hp
  dsimp only [Option.toList_some, Option.toList_none, List.cons_append, List.nil_append]
  refine lv_if_ne (tgt := 41) hx hb dM_entry_32 (by decide) (fun c_32 => ?_) (fun q9 => absurd q9 (by decide))
  refine q_iload_n hx hb hl dM_entry_41 rfl ?_
  refine lv_if_ne (tgt := 59) hx hb dM_entry_42 (by decide) (fun c_42 => ?_) (fun c_42 => ?_)
  · refine q_aload_n hx hb hl dM_entry_59 rfl ?_
    refine mg C hw 24 l_M_51 (by decide) rfl dM_entry_60 ?_
    refine lv_bipush (v := 32) hx hb dM_entry_63 (by decide) ?_
    refine q_iload_n hx hb hl dM_entry_65 rfl ?_
    refine lv_imul hx hb dM_entry_66 ?_
    refine q_iload_n hx hb hl dM_entry_67 rfl ?_
    refine lv_iadd hx hb dM_entry_68 ?_
    refine mr_12 C hw (q := q) (k := j) (by assumption) (by omega) (i32x q j) dM_entry_69 ?_
    exact tr_i hQ C hw hr (Nat.le_of_ble_eq_true rfl) (Nat.le_of_ble_eq_true rfl) dM_entry_70 ⟨by simp only [if_neg c_42], rfl⟩
  refine q_aload_n hx hb hl dM_entry_45 rfl ?_
  refine mg C hw 23 l_M_48 (by decide) rfl dM_entry_46 ?_
  refine lv_bipush (v := 32) hx hb dM_entry_49 (by decide) ?_
  refine q_iload_n hx hb hl dM_entry_51 rfl ?_
  refine lv_imul hx hb dM_entry_52 ?_
  refine q_iload_n hx hb hl dM_entry_53 rfl ?_
  refine lv_iadd hx hb dM_entry_54 ?_
  refine mr_11 C hw (q := q) (k := j) (by assumption) (by omega) (i32x q j) dM_entry_55 ?_
  refine lv_goto (tgt := 70) hx hb dM_entry_56 (by decide) ?_
  exact tr_i hQ C hw hr (Nat.le_of_ble_eq_true rfl) (Nat.le_of_ble_eq_true rfl) dM_entry_70 ⟨by simp only [if_pos c_42], rfl⟩
set_option maxHeartbeats 4000000 in
set_option maxRecDepth 100000 in
theorem mq_entry (l : Launch) (hst : l.stackTraces = false) (D : va_G) (ct : Ct) (am : Nat → Nat) (N : Nat) (hN : N ≤ 16) (h0 : 0 < N) (th : Int32) (σ : St) (sz : Nat) (p0 p1 p2 : Int32) (h : p0 < 0 ∨ ¬ p0 < nI 8) : Kt l yM_entry cM_entry 4 (some .int) (r0 2) 0 0 D ct [.ref (am 0), .int p0, .int p1, .int p2] sz (wM ct am N th σ) (fun v w => v = some (.int 0) ∧ w = wM ct am N 1 σ) (fun E w => False) := by
  refine kt_of hst (by decide) (Nat.le_of_ble_eq_true rfl) (by simp [Value.category]) ?_
  intro p e s m args below meth c A ls C hne hr hw hl Q hQ
  have hx := C.1
  have hb := C.2.1
  refine q_aload_n hx hb hl dM_entry_0 rfl ?_
  refine q_iload_n hx hb hl dM_entry_1 rfl ?_
  refine tc_E (tc_V C hl (iq_bad l hst D ct am N hN h0 th σ _ p0 h) hw.1 hw.2.1 hw.2.2 g_M_135 (re_M C hw) hv_M_isQueue rfl rfl ⟨(Nat.le_of_ble_eq_true rfl), (Nat.le_of_ble_eq_true rfl)⟩ (Nat.le_of_ble_eq_true rfl) ⟨(Nat.le_of_ble_eq_true rfl), (Nat.le_of_ble_eq_true rfl)⟩ dM_entry_2 rfl) C hw (fun E ce q9 w1 H locs hp hw h1 h2 h3 => ?_) (fun v w1 H locs hp hw => ?_)
  · exact hp.elim
  obtain ⟨rfl, rfl⟩ := hp
  dsimp only [Option.toList_some, Option.toList_none, List.cons_append, List.nil_append]
  refine lv_if_ne (tgt := 10) hx hb dM_entry_5 (by decide) (fun q9 => absurd rfl q9) (fun c_5 => ?_)
  refine lv_iconst (v := 0) hx hb dM_entry_8 (by decide) ?_
  exact tr_i hQ C hw hr (Nat.le_of_ble_eq_true rfl) (Nat.le_of_ble_eq_true rfl) dM_entry_9 ⟨rfl, rfl⟩
set_option maxHeartbeats 4000000 in
set_option maxRecDepth 100000 in
theorem mk_entry (l : Launch) (hst : l.stackTraces = false) (D : va_G) (ct : Ct) (am : Nat → Nat) (N : Nat) (hN : N ≤ 16) (h0 : 0 < N) (th : Int32) (σ : St) (sz : Nat) (q : Nat) (hq : q < 8) (K : Nat) (hK : K ≤ 32) (hs : σ 3 q 0 = nI K) (p1 p2 : Int32) (h : p1 < 0 ∨ ¬ p1 < nI K) : Kt l yM_entry cM_entry 4 (some .int) (r0 2) 0 0 D ct [.ref (am 0), .int (nI q), .int p1, .int p2] sz (wM ct am N th σ) (fun v w => v = some (.int 0) ∧ w = wM ct am N 1 σ) (fun E w => False) := by
  refine kt_of hst (by decide) (Nat.le_of_ble_eq_true rfl) (by simp [Value.category]) ?_
  intro p e s m args below meth c A ls C hne hr hw hl Q hQ
  have hx := C.1
  have hb := C.2.1
  refine q_aload_n hx hb hl dM_entry_0 rfl ?_
  refine q_iload_n hx hb hl dM_entry_1 rfl ?_
  refine tc_E (tc_V C hl (iq_ok l hst D ct am N hN h0 th σ _ q hq) hw.1 hw.2.1 hw.2.2 g_M_135 (re_M C hw) hv_M_isQueue rfl rfl ⟨(Nat.le_of_ble_eq_true rfl), (Nat.le_of_ble_eq_true rfl)⟩ (Nat.le_of_ble_eq_true rfl) ⟨(Nat.le_of_ble_eq_true rfl), (Nat.le_of_ble_eq_true rfl)⟩ dM_entry_2 rfl) C hw (fun E ce q9 w1 H locs hp hw h1 h2 h3 => ?_) (fun v w1 H locs hp hw => ?_)
  · exact hp.elim
  obtain ⟨rfl, rfl⟩ := hp
  dsimp only [Option.toList_some, Option.toList_none, List.cons_append, List.nil_append]
  refine lv_if_ne (tgt := 10) hx hb dM_entry_5 (by decide) (fun c_5 => ?_) (fun q9 => absurd q9 (by decide))
  refine q_iload_n hx hb hl dM_entry_10 rfl ?_
  refine lv_iconst (v := 0) hx hb dM_entry_11 (by decide) ?_
  refine q_aload_n hx hb hl dM_entry_12 rfl ?_
  refine mg C hw 22 l_M_45 (by decide) rfl dM_entry_13 ?_
  refine q_iload_n hx hb hl dM_entry_16 rfl ?_
  refine mr_10 C hw (q := q) hq rfl dM_entry_17 ?_
  refine lv_iconst (v := 1) hx hb dM_entry_18 (by decide) ?_
  refine lv_isub hx hb dM_entry_19 ?_
  refine tc_E (tc_S C hl (w_bad l hst D ct (wM ct am N 0 σ) _ p1 0 (σ 3 q 0 - 1) (by rw [hs]; exact bad_predK (by omega) h)) hw.1 hw.2.1 hw.2.2 g_M_67 hd_M_within rfl rfl ⟨(Nat.le_of_ble_eq_true rfl), (Nat.le_of_ble_eq_true rfl)⟩ (Nat.le_of_ble_eq_true rfl) ⟨(Nat.le_of_ble_eq_true rfl), (Nat.le_of_ble_eq_true rfl)⟩ dM_entry_20 rfl) C hw (fun E ce q9 w1 H locs hp hw h1 h2 h3 => ?_) (fun v w1 H locs hp hw => ?_)
  · exact hp.elim
  obtain ⟨rfl, rfl⟩ := hp
  dsimp only [Option.toList_some, Option.toList_none, List.cons_append, List.nil_append]
  refine lv_if_eq (tgt := 35) hx hb dM_entry_23 (by decide) (fun c_23 => ?_) (fun q9 => absurd rfl q9)
  refine q_aload_n hx hb hl dM_entry_35 rfl ?_
  refine lv_iconst (v := 1) hx hb dM_entry_36 (by decide) ?_
  refine tc_E (tc_V C hl (m_fail l hst D ct am N hN h0 0 σ _ 1) hw.1 hw.2.1 hw.2.2 g_M_71 (re_M C hw) hv_M_fail rfl rfl ⟨(Nat.le_of_ble_eq_true rfl), (Nat.le_of_ble_eq_true rfl)⟩ (Nat.le_of_ble_eq_true rfl) ⟨(Nat.le_of_ble_eq_true rfl), (Nat.le_of_ble_eq_true rfl)⟩ dM_entry_37 rfl) C hw (fun E ce q9 w1 H locs hp hw h1 h2 h3 => ?_) (fun v w1 H locs hp hw => ?_)
  · exact hp.elim
  obtain ⟨rfl, rfl⟩ := hp
  dsimp only [Option.toList_some, Option.toList_none, List.cons_append, List.nil_append]
  exact tr_i hQ C hw hr (Nat.le_of_ble_eq_true rfl) (Nat.le_of_ble_eq_true rfl) dM_entry_40 ⟨rfl, rfl⟩
set_option maxHeartbeats 4000000 in
set_option maxRecDepth 100000 in
theorem mw_entry (l : Launch) (hst : l.stackTraces = false) (D : va_G) (ct : Ct) (am : Nat → Nat) (N : Nat) (hN : N ≤ 16) (h0 : 0 < N) (th : Int32) (σ : St) (sz : Nat) (q : Nat) (hq : q < 8) (K : Nat) (hK : K ≤ 32) (hs : σ 3 q 0 = nI K) (j : Nat) (hj : j < K) (p2 : Int32) (h : p2 < 0 ∨ ¬ p2 < nI 2) : Kt l yM_entry cM_entry 4 (some .int) (r0 2) 0 0 D ct [.ref (am 0), .int (nI q), .int (nI j), .int p2] sz (wM ct am N th σ) (fun v w => v = some (.int 0) ∧ w = wM ct am N 1 σ) (fun E w => False) := by
  refine kt_of hst (by decide) (Nat.le_of_ble_eq_true rfl) (by simp [Value.category]) ?_
  intro p e s m args below meth c A ls C hne hr hw hl Q hQ
  have hx := C.1
  have hb := C.2.1
  refine q_aload_n hx hb hl dM_entry_0 rfl ?_
  refine q_iload_n hx hb hl dM_entry_1 rfl ?_
  refine tc_E (tc_V C hl (iq_ok l hst D ct am N hN h0 th σ _ q hq) hw.1 hw.2.1 hw.2.2 g_M_135 (re_M C hw) hv_M_isQueue rfl rfl ⟨(Nat.le_of_ble_eq_true rfl), (Nat.le_of_ble_eq_true rfl)⟩ (Nat.le_of_ble_eq_true rfl) ⟨(Nat.le_of_ble_eq_true rfl), (Nat.le_of_ble_eq_true rfl)⟩ dM_entry_2 rfl) C hw (fun E ce q9 w1 H locs hp hw h1 h2 h3 => ?_) (fun v w1 H locs hp hw => ?_)
  · exact hp.elim
  obtain ⟨rfl, rfl⟩ := hp
  dsimp only [Option.toList_some, Option.toList_none, List.cons_append, List.nil_append]
  refine lv_if_ne (tgt := 10) hx hb dM_entry_5 (by decide) (fun c_5 => ?_) (fun q9 => absurd q9 (by decide))
  refine q_iload_n hx hb hl dM_entry_10 rfl ?_
  refine lv_iconst (v := 0) hx hb dM_entry_11 (by decide) ?_
  refine q_aload_n hx hb hl dM_entry_12 rfl ?_
  refine mg C hw 22 l_M_45 (by decide) rfl dM_entry_13 ?_
  refine q_iload_n hx hb hl dM_entry_16 rfl ?_
  refine mr_10 C hw (q := q) hq rfl dM_entry_17 ?_
  refine lv_iconst (v := 1) hx hb dM_entry_18 (by decide) ?_
  refine lv_isub hx hb dM_entry_19 ?_
  refine tc_E (tc_S C hl (w_ok l hst D ct (wM ct am N 0 σ) _ (nI j) 0 (σ 3 q 0 - 1) (nI_pos (by omega)) (by rw [hs]; exact le_pred hj (by omega))) hw.1 hw.2.1 hw.2.2 g_M_67 hd_M_within rfl rfl ⟨(Nat.le_of_ble_eq_true rfl), (Nat.le_of_ble_eq_true rfl)⟩ (Nat.le_of_ble_eq_true rfl) ⟨(Nat.le_of_ble_eq_true rfl), (Nat.le_of_ble_eq_true rfl)⟩ dM_entry_20 rfl) C hw (fun E ce q9 w1 H locs hp hw h1 h2 h3 => ?_) (fun v w1 H locs hp hw => ?_)
  · exact hp.elim
  obtain ⟨rfl, rfl⟩ := hp
  dsimp only [Option.toList_some, Option.toList_none, List.cons_append, List.nil_append]
  refine lv_if_eq (tgt := 35) hx hb dM_entry_23 (by decide) (fun q9 => absurd q9 (by decide)) (fun c_23 => ?_)
  refine q_iload_n hx hb hl dM_entry_26 rfl ?_
  refine lv_iconst (v := 0) hx hb dM_entry_27 (by decide) ?_
  refine lv_iconst (v := 1) hx hb dM_entry_28 (by decide) ?_
  refine tc_E (tc_S C hl (w_bad l hst D ct (wM ct am N 0 σ) _ p2 0 1 (bad5 h)) hw.1 hw.2.1 hw.2.2 g_M_67 hd_M_within rfl rfl ⟨(Nat.le_of_ble_eq_true rfl), (Nat.le_of_ble_eq_true rfl)⟩ (Nat.le_of_ble_eq_true rfl) ⟨(Nat.le_of_ble_eq_true rfl), (Nat.le_of_ble_eq_true rfl)⟩ dM_entry_29 rfl) C hw (fun E ce q9 w1 H locs hp hw h1 h2 h3 => ?_) (fun v w1 H locs hp hw => ?_)
  · exact hp.elim
  obtain ⟨rfl, rfl⟩ := hp
  dsimp only [Option.toList_some, Option.toList_none, List.cons_append, List.nil_append]
  refine lv_if_ne (tgt := 41) hx hb dM_entry_32 (by decide) (fun q9 => absurd rfl q9) (fun c_32 => ?_)
  refine q_aload_n hx hb hl dM_entry_35 rfl ?_
  refine lv_iconst (v := 1) hx hb dM_entry_36 (by decide) ?_
  refine tc_E (tc_V C hl (m_fail l hst D ct am N hN h0 0 σ _ 1) hw.1 hw.2.1 hw.2.2 g_M_71 (re_M C hw) hv_M_fail rfl rfl ⟨(Nat.le_of_ble_eq_true rfl), (Nat.le_of_ble_eq_true rfl)⟩ (Nat.le_of_ble_eq_true rfl) ⟨(Nat.le_of_ble_eq_true rfl), (Nat.le_of_ble_eq_true rfl)⟩ dM_entry_37 rfl) C hw (fun E ce q9 w1 H locs hp hw h1 h2 h3 => ?_) (fun v w1 H locs hp hw => ?_)
  · exact hp.elim
  obtain ⟨rfl, rfl⟩ := hp
  dsimp only [Option.toList_some, Option.toList_none, List.cons_append, List.nil_append]
  exact tr_i hQ C hw hr (Nat.le_of_ble_eq_true rfl) (Nat.le_of_ble_eq_true rfl) dM_entry_40 ⟨rfl, rfl⟩
set_option maxHeartbeats 4000000 in
set_option maxRecDepth 100000 in
theorem mo_set (l : Launch) (hst : l.stackTraces = false) (D : va_G) (ct : Ct) (am : Nat → Nat) (N : Nat) (hN : N ≤ 16) (h0 : 0 < N) (th : Int32) (σ : St) (sz : Nat) (h4 : ix N (σ 0 0 4)) (hcore : tf_core σ < N) (k : Nat) (hk : k < 16) (p1 : Int32) : Kt l yM_set cM_set 5 (some .int) (r0 1) 0 0 D ct [.ref (am 0), .int (nI k), .int p1] sz (wM ct am N th σ) (fun v w => v = some (.int (σ 2 (tf_core σ) k)) ∧ w = wM ct am N 0 (su σ 2 (tf_core σ) k p1)) (fun E w => False) := by
  refine kt_of hst (by decide) (Nat.le_of_ble_eq_true rfl) (by simp [Value.category]) ?_
  intro p e s m args below meth c A ls C hne hr hw hl Q hQ
  have hx := C.1
  have hb := C.2.1
  refine q_aload_n hx hb hl dM_set_0 rfl ?_
  refine lv_iconst (v := 0) hx hb dM_set_1 (by decide) ?_
  refine mp_0 C hw l_M_64 dM_set_2 (fun H locs hw => ?_)
  refine q_iload_n hx hb hl dM_set_5 rfl ?_
  refine lv_iconst (v := 0) hx hb dM_set_6 (by decide) ?_
  refine lv_bipush (v := 15) hx hb dM_set_7 (by decide) ?_
  refine tc_E (tc_S C hl (w_ok l hst D ct (wM ct am N 0 σ) _ (nI k) 0 15 (nI_pos (by omega)) (nI_le (b := 15) (by omega) (by omega))) hw.1 hw.2.1 hw.2.2 g_M_67 hd_M_within rfl rfl ⟨(Nat.le_of_ble_eq_true rfl), (Nat.le_of_ble_eq_true rfl)⟩ (Nat.le_of_ble_eq_true rfl) ⟨(Nat.le_of_ble_eq_true rfl), (Nat.le_of_ble_eq_true rfl)⟩ dM_set_9 rfl) C hw (fun E ce q9 w1 H locs hp hw h1 h2 h3 => ?_) (fun v w1 H locs hp hw => ?_)
  · exact hp.elim
  obtain ⟨rfl, rfl⟩ := hp
  dsimp only [Option.toList_some, Option.toList_none, List.cons_append, List.nil_append]
  refine lv_if_ne (tgt := 21) hx hb dM_set_12 (by decide) (fun c_12 => ?_) (fun q9 => absurd q9 (by decide))
  refine lv_bipush (v := 16) hx hb dM_set_21 (by decide) ?_
  refine q_aload_n hx hb hl dM_set_23 rfl ?_
  refine mg C hw 10 l_M_7 (by decide) rfl dM_set_24 ?_
  refine lv_if_ge (tgt := 34) hx hb dM_set_27 (by decide) (fun c_27 => ?_) (fun c_27 => ?_)
  · refine q_aload_n hx hb hl dM_set_34 rfl ?_
    refine mg C hw 10 l_M_7 (by decide) rfl dM_set_35 ?_
    refine lv_imul hx hb dM_set_38 ?_
    refine q_iload_n hx hb hl dM_set_39 rfl ?_
    refine lv_iadd hx hb dM_set_40 ?_
    refine q_istore_n hx hb hl dM_set_41 (by decide) (fun ls hl => ?_)
    refine q_aload_n hx hb hl dM_set_42 rfl ?_
    refine mg C hw 21 l_M_42 (by decide) rfl dM_set_43 ?_
    refine q_iload_n hx hb hl dM_set_46 rfl ?_
    refine mr_9 C hw (t := tf_core σ) (k := k) (by omega) hk (by rw [core_nn hN h4 c_27]; exact i16 _ k) dM_set_47 ?_
    refine q_istore hx hb hl dM_set_48 (by decide) (fun ls hl => ?_)
    refine q_aload_n hx hb hl dM_set_50 rfl ?_
    refine mg C hw 21 l_M_42 (by decide) rfl dM_set_51 ?_
    refine q_iload_n hx hb hl dM_set_54 rfl ?_
    refine q_iload_n hx hb hl dM_set_55 rfl ?_
    refine mw_9 C hw (t := tf_core σ) (k := k) (by omega) hk (by rw [core_nn hN h4 c_27]; exact i16 _ k) dM_set_56 (fun H locs hw => ?_)
    refine q_iload hx hb hl dM_set_57 rfl ?_
    exact tr_i hQ C hw hr (Nat.le_of_ble_eq_true rfl) (Nat.le_of_ble_eq_true rfl) dM_set_59 ⟨rfl, rfl⟩
  refine lv_iconst (v := 0) hx hb dM_set_30 (by decide) ?_
  refine lv_goto (tgt := 38) hx hb dM_set_31 (by decide) ?_
  refine lv_imul hx hb dM_set_38 ?_
  refine q_iload_n hx hb hl dM_set_39 rfl ?_
  refine lv_iadd hx hb dM_set_40 ?_
  refine q_istore_n hx hb hl dM_set_41 (by decide) (fun ls hl => ?_)
  refine q_aload_n hx hb hl dM_set_42 rfl ?_
  refine mg C hw 21 l_M_42 (by decide) rfl dM_set_43 ?_
  refine q_iload_n hx hb hl dM_set_46 rfl ?_
  refine mr_9 C hw (t := tf_core σ) (k := k) (by omega) hk (by rw [core_m hN h4 c_27]; exact i16 0 k) dM_set_47 ?_
  refine q_istore hx hb hl dM_set_48 (by decide) (fun ls hl => ?_)
  refine q_aload_n hx hb hl dM_set_50 rfl ?_
  refine mg C hw 21 l_M_42 (by decide) rfl dM_set_51 ?_
  refine q_iload_n hx hb hl dM_set_54 rfl ?_
  refine q_iload_n hx hb hl dM_set_55 rfl ?_
  refine mw_9 C hw (t := tf_core σ) (k := k) (by omega) hk (by rw [core_m hN h4 c_27]; exact i16 0 k) dM_set_56 (fun H locs hw => ?_)
  refine q_iload hx hb hl dM_set_57 rfl ?_
  exact tr_i hQ C hw hr (Nat.le_of_ble_eq_true rfl) (Nat.le_of_ble_eq_true rfl) dM_set_59 ⟨rfl, rfl⟩
set_option maxHeartbeats 4000000 in
set_option maxRecDepth 100000 in
theorem mx_set (l : Launch) (hst : l.stackTraces = false) (D : va_G) (ct : Ct) (am : Nat → Nat) (N : Nat) (hN : N ≤ 16) (h0 : 0 < N) (th : Int32) (σ : St) (sz : Nat) (p0 p1 : Int32) (h : p0 < 0 ∨ ¬ p0 < nI 16) : Kt l yM_set cM_set 5 (some .int) (r0 1) 0 0 D ct [.ref (am 0), .int p0, .int p1] sz (wM ct am N th σ) (fun v w => v = some (.int 0) ∧ w = wM ct am N 1 σ) (fun E w => False) := by
  refine kt_of hst (by decide) (Nat.le_of_ble_eq_true rfl) (by simp [Value.category]) ?_
  intro p e s m args below meth c A ls C hne hr hw hl Q hQ
  have hx := C.1
  have hb := C.2.1
  refine q_aload_n hx hb hl dM_set_0 rfl ?_
  refine lv_iconst (v := 0) hx hb dM_set_1 (by decide) ?_
  refine mp_0 C hw l_M_64 dM_set_2 (fun H locs hw => ?_)
  refine q_iload_n hx hb hl dM_set_5 rfl ?_
  refine lv_iconst (v := 0) hx hb dM_set_6 (by decide) ?_
  refine lv_bipush (v := 15) hx hb dM_set_7 (by decide) ?_
  refine tc_E (tc_S C hl (w_bad l hst D ct (wM ct am N 0 σ) _ p0 0 15 (bad15 h)) hw.1 hw.2.1 hw.2.2 g_M_67 hd_M_within rfl rfl ⟨(Nat.le_of_ble_eq_true rfl), (Nat.le_of_ble_eq_true rfl)⟩ (Nat.le_of_ble_eq_true rfl) ⟨(Nat.le_of_ble_eq_true rfl), (Nat.le_of_ble_eq_true rfl)⟩ dM_set_9 rfl) C hw (fun E ce q9 w1 H locs hp hw h1 h2 h3 => ?_) (fun v w1 H locs hp hw => ?_)
  · exact hp.elim
  obtain ⟨rfl, rfl⟩ := hp
  dsimp only [Option.toList_some, Option.toList_none, List.cons_append, List.nil_append]
  refine lv_if_ne (tgt := 21) hx hb dM_set_12 (by decide) (fun q9 => absurd rfl q9) (fun c_12 => ?_)
  refine q_aload_n hx hb hl dM_set_15 rfl ?_
  refine lv_iconst (v := 1) hx hb dM_set_16 (by decide) ?_
  refine tc_E (tc_V C hl (m_fail l hst D ct am N hN h0 0 σ _ 1) hw.1 hw.2.1 hw.2.2 g_M_71 (re_M C hw) hv_M_fail rfl rfl ⟨(Nat.le_of_ble_eq_true rfl), (Nat.le_of_ble_eq_true rfl)⟩ (Nat.le_of_ble_eq_true rfl) ⟨(Nat.le_of_ble_eq_true rfl), (Nat.le_of_ble_eq_true rfl)⟩ dM_set_17 rfl) C hw (fun E ce q9 w1 H locs hp hw h1 h2 h3 => ?_) (fun v w1 H locs hp hw => ?_)
  · exact hp.elim
  obtain ⟨rfl, rfl⟩ := hp
  dsimp only [Option.toList_some, Option.toList_none, List.cons_append, List.nil_append]
  exact tr_i hQ C hw hr (Nat.le_of_ble_eq_true rfl) (Nat.le_of_ble_eq_true rfl) dM_set_20 ⟨rfl, rfl⟩
set_option maxHeartbeats 4000000 in
set_option maxRecDepth 100000 in
theorem mo_reg (l : Launch) (hst : l.stackTraces = false) (D : va_G) (ct : Ct) (am : Nat → Nat) (N : Nat) (hN : N ≤ 16) (h0 : 0 < N) (th : Int32) (σ : St) (sz : Nat) (t : Nat) (ht : t < N) (k : Nat) (hk : k < 16) : Kt l yM_register cM_register 3 (some .int) (r0 2) 0 0 D ct [.ref (am 0), .int (nI t), .int (nI k)] sz (wM ct am N th σ) (fun v w => v = some (.int (σ 2 t k)) ∧ w = wM ct am N 0 σ) (fun E w => False) := by
  refine kt_of hst (by decide) (Nat.le_of_ble_eq_true rfl) (by simp [Value.category]) ?_
  intro p e s m args below meth c A ls C hne hr hw hl Q hQ
  have hx := C.1
  have hb := C.2.1
  have ht16 : t < 16 := by omega
  refine q_aload_n hx hb hl dM_register_0 rfl ?_
  refine q_iload_n hx hb hl dM_register_1 rfl ?_
  refine tc_E (tc_V C hl (it_ok l hst D ct am N hN h0 th σ _ t ht) hw.1 hw.2.1 hw.2.2 g_M_84 (re_M C hw) hv_M_isThread rfl rfl ⟨(Nat.le_of_ble_eq_true rfl), (Nat.le_of_ble_eq_true rfl)⟩ (Nat.le_of_ble_eq_true rfl) ⟨(Nat.le_of_ble_eq_true rfl), (Nat.le_of_ble_eq_true rfl)⟩ dM_register_2 rfl) C hw (fun E ce q9 w1 H locs hp hw h1 h2 h3 => ?_) (fun v w1 H locs hp hw => ?_)
  · exact hp.elim
  obtain ⟨rfl, rfl⟩ := hp
  dsimp only [Option.toList_some, Option.toList_none, List.cons_append, List.nil_append]
  refine lv_if_ne (tgt := 10) hx hb dM_register_5 (by decide) (fun c_5 => ?_) (fun q9 => absurd q9 (by decide))
  refine q_iload_n hx hb hl dM_register_10 rfl ?_
  refine lv_iconst (v := 0) hx hb dM_register_11 (by decide) ?_
  refine lv_bipush (v := 15) hx hb dM_register_12 (by decide) ?_
  refine tc_E (tc_S C hl (w_ok l hst D ct (wM ct am N 0 σ) _ (nI k) 0 15 (nI_pos (by omega)) (nI_le (b := 15) (by omega) (by omega))) hw.1 hw.2.1 hw.2.2 g_M_67 hd_M_within rfl rfl ⟨(Nat.le_of_ble_eq_true rfl), (Nat.le_of_ble_eq_true rfl)⟩ (Nat.le_of_ble_eq_true rfl) ⟨(Nat.le_of_ble_eq_true rfl), (Nat.le_of_ble_eq_true rfl)⟩ dM_register_14 rfl) C hw (fun E ce q9 w1 H locs hp hw h1 h2 h3 => ?_) (fun v w1 H locs hp hw => ?_)
  · exact hp.elim
  obtain ⟨rfl, rfl⟩ := hp
  dsimp only [Option.toList_some, Option.toList_none, List.cons_append, List.nil_append]
  refine lv_if_eq (tgt := 34) hx hb dM_register_17 (by decide) (fun q9 => absurd q9 (by decide)) (fun c_17 => ?_)
  refine q_aload_n hx hb hl dM_register_20 rfl ?_
  refine mg C hw 21 l_M_42 (by decide) rfl dM_register_21 ?_
  refine lv_bipush (v := 16) hx hb dM_register_24 (by decide) ?_
  refine q_iload_n hx hb hl dM_register_26 rfl ?_
  refine lv_imul hx hb dM_register_27 ?_
  refine q_iload_n hx hb hl dM_register_28 rfl ?_
  refine lv_iadd hx hb dM_register_29 ?_
  refine mr_9 C hw (t := t) (k := k) (by assumption) hk (i16 t k) dM_register_30 ?_
  refine lv_goto (tgt := 39) hx hb dM_register_31 (by decide) ?_
  exact tr_i hQ C hw hr (Nat.le_of_ble_eq_true rfl) (Nat.le_of_ble_eq_true rfl) dM_register_39 ⟨rfl, rfl⟩
set_option maxHeartbeats 4000000 in
set_option maxRecDepth 100000 in
theorem my_reg (l : Launch) (hst : l.stackTraces = false) (D : va_G) (ct : Ct) (am : Nat → Nat) (N : Nat) (hN : N ≤ 16) (h0 : 0 < N) (th : Int32) (σ : St) (sz : Nat) (t : Nat) (ht : t < N) (p1 : Int32) (h : p1 < 0 ∨ ¬ p1 < nI 16) : Kt l yM_register cM_register 3 (some .int) (r0 2) 0 0 D ct [.ref (am 0), .int (nI t), .int p1] sz (wM ct am N th σ) (fun v w => v = some (.int 0) ∧ w = wM ct am N 1 σ) (fun E w => False) := by
  refine kt_of hst (by decide) (Nat.le_of_ble_eq_true rfl) (by simp [Value.category]) ?_
  intro p e s m args below meth c A ls C hne hr hw hl Q hQ
  have hx := C.1
  have hb := C.2.1
  refine q_aload_n hx hb hl dM_register_0 rfl ?_
  refine q_iload_n hx hb hl dM_register_1 rfl ?_
  refine tc_E (tc_V C hl (it_ok l hst D ct am N hN h0 th σ _ t ht) hw.1 hw.2.1 hw.2.2 g_M_84 (re_M C hw) hv_M_isThread rfl rfl ⟨(Nat.le_of_ble_eq_true rfl), (Nat.le_of_ble_eq_true rfl)⟩ (Nat.le_of_ble_eq_true rfl) ⟨(Nat.le_of_ble_eq_true rfl), (Nat.le_of_ble_eq_true rfl)⟩ dM_register_2 rfl) C hw (fun E ce q9 w1 H locs hp hw h1 h2 h3 => ?_) (fun v w1 H locs hp hw => ?_)
  · exact hp.elim
  obtain ⟨rfl, rfl⟩ := hp
  dsimp only [Option.toList_some, Option.toList_none, List.cons_append, List.nil_append]
  refine lv_if_ne (tgt := 10) hx hb dM_register_5 (by decide) (fun c_5 => ?_) (fun q9 => absurd q9 (by decide))
  refine q_iload_n hx hb hl dM_register_10 rfl ?_
  refine lv_iconst (v := 0) hx hb dM_register_11 (by decide) ?_
  refine lv_bipush (v := 15) hx hb dM_register_12 (by decide) ?_
  refine tc_E (tc_S C hl (w_bad l hst D ct (wM ct am N 0 σ) _ p1 0 15 (bad15 h)) hw.1 hw.2.1 hw.2.2 g_M_67 hd_M_within rfl rfl ⟨(Nat.le_of_ble_eq_true rfl), (Nat.le_of_ble_eq_true rfl)⟩ (Nat.le_of_ble_eq_true rfl) ⟨(Nat.le_of_ble_eq_true rfl), (Nat.le_of_ble_eq_true rfl)⟩ dM_register_14 rfl) C hw (fun E ce q9 w1 H locs hp hw h1 h2 h3 => ?_) (fun v w1 H locs hp hw => ?_)
  · exact hp.elim
  obtain ⟨rfl, rfl⟩ := hp
  dsimp only [Option.toList_some, Option.toList_none, List.cons_append, List.nil_append]
  refine lv_if_eq (tgt := 34) hx hb dM_register_17 (by decide) (fun c_17 => ?_) (fun q9 => absurd rfl q9)
  refine q_aload_n hx hb hl dM_register_34 rfl ?_
  refine lv_iconst (v := 1) hx hb dM_register_35 (by decide) ?_
  refine tc_E (tc_V C hl (m_fail l hst D ct am N hN h0 0 σ _ 1) hw.1 hw.2.1 hw.2.2 g_M_71 (re_M C hw) hv_M_fail rfl rfl ⟨(Nat.le_of_ble_eq_true rfl), (Nat.le_of_ble_eq_true rfl)⟩ (Nat.le_of_ble_eq_true rfl) ⟨(Nat.le_of_ble_eq_true rfl), (Nat.le_of_ble_eq_true rfl)⟩ dM_register_36 rfl) C hw (fun E ce q9 w1 H locs hp hw h1 h2 h3 => ?_) (fun v w1 H locs hp hw => ?_)
  · exact hp.elim
  obtain ⟨rfl, rfl⟩ := hp
  dsimp only [Option.toList_some, Option.toList_none, List.cons_append, List.nil_append]
  exact tr_i hQ C hw hr (Nat.le_of_ble_eq_true rfl) (Nat.le_of_ble_eq_true rfl) dM_register_39 ⟨rfl, rfl⟩
set_option maxHeartbeats 4000000 in
set_option maxRecDepth 100000 in
theorem mx_register (l : Launch) (hst : l.stackTraces = false) (D : va_G) (ct : Ct) (am : Nat → Nat) (N : Nat) (hN : N ≤ 16) (h0 : 0 < N) (th : Int32) (σ : St) (sz : Nat) (p0 p1 : Int32) (h : p0 < 0 ∨ ¬ p0 < nI N) : Kt l yM_register cM_register 3 (some .int) (r0 2) 0 0 D ct [.ref (am 0), .int p0, .int p1] sz (wM ct am N th σ) (fun v w => v = some (.int 0) ∧ w = wM ct am N 1 σ) (fun E w => False) := by
  refine kt_of hst (by decide) (Nat.le_of_ble_eq_true rfl) (by simp [Value.category]) ?_
  intro p e s m args below meth c A ls C hne hr hw hl Q hQ
  have hx := C.1
  have hb := C.2.1
  refine q_aload_n hx hb hl dM_register_0 rfl ?_
  refine q_iload_n hx hb hl dM_register_1 rfl ?_
  refine tc_E (tc_V C hl (it_bad l hst D ct am N hN h0 th σ _ p0 h) hw.1 hw.2.1 hw.2.2 g_M_84 (re_M C hw) hv_M_isThread rfl rfl ⟨(Nat.le_of_ble_eq_true rfl), (Nat.le_of_ble_eq_true rfl)⟩ (Nat.le_of_ble_eq_true rfl) ⟨(Nat.le_of_ble_eq_true rfl), (Nat.le_of_ble_eq_true rfl)⟩ dM_register_2 rfl) C hw (fun E ce q9 w1 H locs hp hw h1 h2 h3 => ?_) (fun v w1 H locs hp hw => ?_)
  · exact hp.elim
  obtain ⟨rfl, rfl⟩ := hp
  dsimp only [Option.toList_some, Option.toList_none, List.cons_append, List.nil_append]
  refine lv_if_ne (tgt := 10) hx hb dM_register_5 (by decide) (fun q9 => absurd rfl q9) (fun c_5 => ?_)
  refine lv_iconst (v := 0) hx hb dM_register_8 (by decide) ?_
  exact tr_i hQ C hw hr (Nat.le_of_ble_eq_true rfl) (Nat.le_of_ble_eq_true rfl) dM_register_9 ⟨rfl, rfl⟩
set_option maxHeartbeats 4000000 in
set_option maxRecDepth 100000 in
theorem mx_thread (l : Launch) (hst : l.stackTraces = false) (D : va_G) (ct : Ct) (am : Nat → Nat) (N : Nat) (hN : N ≤ 16) (h0 : 0 < N) (th : Int32) (σ : St) (sz : Nat) (p0 p1 : Int32) (h : p0 < 0 ∨ ¬ p0 < nI N) : Kt l yM_thread cM_thread 3 (some .int) (r0 2) 0 0 D ct [.ref (am 0), .int p0, .int p1] sz (wM ct am N th σ) (fun v w => v = some (.int 0) ∧ w = wM ct am N 1 σ) (fun E w => False) := by
  refine kt_of hst (by decide) (Nat.le_of_ble_eq_true rfl) (by simp [Value.category]) ?_
  intro p e s m args below meth c A ls C hne hr hw hl Q hQ
  have hx := C.1
  have hb := C.2.1
  refine q_aload_n hx hb hl dM_thread_0 rfl ?_
  refine q_iload_n hx hb hl dM_thread_1 rfl ?_
  refine tc_E (tc_V C hl (it_bad l hst D ct am N hN h0 th σ _ p0 h) hw.1 hw.2.1 hw.2.2 g_M_84 (re_M C hw) hv_M_isThread rfl rfl ⟨(Nat.le_of_ble_eq_true rfl), (Nat.le_of_ble_eq_true rfl)⟩ (Nat.le_of_ble_eq_true rfl) ⟨(Nat.le_of_ble_eq_true rfl), (Nat.le_of_ble_eq_true rfl)⟩ dM_thread_2 rfl) C hw (fun E ce q9 w1 H locs hp hw h1 h2 h3 => ?_) (fun v w1 H locs hp hw => ?_)
  · exact hp.elim
  obtain ⟨rfl, rfl⟩ := hp
  dsimp only [Option.toList_some, Option.toList_none, List.cons_append, List.nil_append]
  refine lv_if_ne (tgt := 10) hx hb dM_thread_5 (by decide) (fun q9 => absurd rfl q9) (fun c_5 => ?_)
  refine lv_iconst (v := 0) hx hb dM_thread_8 (by decide) ?_
  exact tr_i hQ C hw hr (Nat.le_of_ble_eq_true rfl) (Nat.le_of_ble_eq_true rfl) dM_thread_9 ⟨rfl, rfl⟩
set_option maxHeartbeats 4000000 in
set_option maxRecDepth 100000 in
theorem mx_share (l : Launch) (hst : l.stackTraces = false) (D : va_G) (ct : Ct) (am : Nat → Nat) (N : Nat) (hN : N ≤ 16) (h0 : 0 < N) (th : Int32) (σ : St) (sz : Nat) (p0 p1 : Int32) (h : p0 < 0 ∨ ¬ p0 < nI N) : Kt l yM_share cM_share 6 (some .int) (r0 2) 0 0 D ct [.ref (am 0), .int p0, .int p1] sz (wM ct am N th σ) (fun v w => v = some (.int 0) ∧ w = wM ct am N 1 σ) (fun E w => False) := by
  refine kt_of hst (by decide) (Nat.le_of_ble_eq_true rfl) (by simp [Value.category]) ?_
  intro p e s m args below meth c A ls C hne hr hw hl Q hQ
  have hx := C.1
  have hb := C.2.1
  refine q_aload_n hx hb hl dM_share_0 rfl ?_
  refine q_iload_n hx hb hl dM_share_1 rfl ?_
  refine tc_E (tc_V C hl (it_bad l hst D ct am N hN h0 th σ _ p0 h) hw.1 hw.2.1 hw.2.2 g_M_84 (re_M C hw) hv_M_isThread rfl rfl ⟨(Nat.le_of_ble_eq_true rfl), (Nat.le_of_ble_eq_true rfl)⟩ (Nat.le_of_ble_eq_true rfl) ⟨(Nat.le_of_ble_eq_true rfl), (Nat.le_of_ble_eq_true rfl)⟩ dM_share_2 rfl) C hw (fun E ce q9 w1 H locs hp hw h1 h2 h3 => ?_) (fun v w1 H locs hp hw => ?_)
  · exact hp.elim
  obtain ⟨rfl, rfl⟩ := hp
  dsimp only [Option.toList_some, Option.toList_none, List.cons_append, List.nil_append]
  refine lv_if_ne (tgt := 10) hx hb dM_share_5 (by decide) (fun q9 => absurd rfl q9) (fun c_5 => ?_)
  refine lv_iconst (v := 0) hx hb dM_share_8 (by decide) ?_
  exact tr_i hQ C hw hr (Nat.le_of_ble_eq_true rfl) (Nat.le_of_ble_eq_true rfl) dM_share_9 ⟨rfl, rfl⟩
set_option maxHeartbeats 4000000 in
set_option maxRecDepth 100000 in
theorem mo_thr (l : Launch) (hst : l.stackTraces = false) (D : va_G) (ct : Ct) (am : Nat → Nat) (N : Nat) (hN : N ≤ 16) (h0 : 0 < N) (th : Int32) (σ : St) (sz : Nat) (t : Nat) (ht : t < N) (j : Nat) (hj : j < 6) : Kt l yM_thread cM_thread 3 (some .int) (r0 2) 0 0 D ct [.ref (am 0), .int (nI t), .int (nI j)] sz (wM ct am N th σ) (fun v w => v = some (.int (σ 1 t (tf_col j))) ∧ w = wM ct am N 0 σ) (fun E w => False) := by
  refine kt_of hst (by decide) (Nat.le_of_ble_eq_true rfl) (by simp [Value.category]) ?_
  intro p e s m args below meth c A ls C hne hr hw hl Q hQ
  have hx := C.1
  have hb := C.2.1
  have ht16 : t < 16 := by omega
  rcases (show j = 0 ∨ j = 1 ∨ j = 2 ∨ j = 3 ∨ j = 4 ∨ j = 5 by omega) with rfl | rfl | rfl | rfl | rfl | rfl
  · refine q_aload_n hx hb hl dM_thread_0 rfl ?_
    refine q_iload_n hx hb hl dM_thread_1 rfl ?_
    refine tc_E (tc_V C hl (it_ok l hst D ct am N hN h0 th σ _ t ht) hw.1 hw.2.1 hw.2.2 g_M_84 (re_M C hw) hv_M_isThread rfl rfl ⟨(Nat.le_of_ble_eq_true rfl), (Nat.le_of_ble_eq_true rfl)⟩ (Nat.le_of_ble_eq_true rfl) ⟨(Nat.le_of_ble_eq_true rfl), (Nat.le_of_ble_eq_true rfl)⟩ dM_thread_2 rfl) C hw (fun E ce q9 w1 H locs hp hw h1 h2 h3 => ?_) (fun v w1 H locs hp hw => ?_)
    · exact hp.elim
    obtain ⟨rfl, rfl⟩ := hp
    dsimp only [Option.toList_some, Option.toList_none, List.cons_append, List.nil_append]
    refine lv_if_ne (tgt := 10) hx hb dM_thread_5 (by decide) (fun c_5 => ?_) (fun q9 => absurd q9 (by decide))
    refine q_iload_n hx hb hl dM_thread_10 rfl ?_
    refine lv_tableIn (tgt := 48) hx hb dM_thread_11 (by decide) (by decide) rfl (by decide) ?_
    refine q_aload_n hx hb hl dM_thread_48 rfl ?_
    refine mg C hw 17 l_M_30 (by decide) rfl dM_thread_49 ?_
    refine q_iload_n hx hb hl dM_thread_52 rfl ?_
    refine mr_5 C hw (by assumption) rfl dM_thread_53 ?_
    exact tr_i hQ C hw hr (Nat.le_of_ble_eq_true rfl) (Nat.le_of_ble_eq_true rfl) dM_thread_54 ⟨rfl, rfl⟩
  · refine q_aload_n hx hb hl dM_thread_0 rfl ?_
    refine q_iload_n hx hb hl dM_thread_1 rfl ?_
    refine tc_E (tc_V C hl (it_ok l hst D ct am N hN h0 th σ _ t ht) hw.1 hw.2.1 hw.2.2 g_M_84 (re_M C hw) hv_M_isThread rfl rfl ⟨(Nat.le_of_ble_eq_true rfl), (Nat.le_of_ble_eq_true rfl)⟩ (Nat.le_of_ble_eq_true rfl) ⟨(Nat.le_of_ble_eq_true rfl), (Nat.le_of_ble_eq_true rfl)⟩ dM_thread_2 rfl) C hw (fun E ce q9 w1 H locs hp hw h1 h2 h3 => ?_) (fun v w1 H locs hp hw => ?_)
    · exact hp.elim
    obtain ⟨rfl, rfl⟩ := hp
    dsimp only [Option.toList_some, Option.toList_none, List.cons_append, List.nil_append]
    refine lv_if_ne (tgt := 10) hx hb dM_thread_5 (by decide) (fun c_5 => ?_) (fun q9 => absurd q9 (by decide))
    refine q_iload_n hx hb hl dM_thread_10 rfl ?_
    refine lv_tableIn (tgt := 55) hx hb dM_thread_11 (by decide) (by decide) rfl (by decide) ?_
    refine q_aload_n hx hb hl dM_thread_55 rfl ?_
    refine mg C hw 18 l_M_33 (by decide) rfl dM_thread_56 ?_
    refine q_iload_n hx hb hl dM_thread_59 rfl ?_
    refine mr_6 C hw (by assumption) rfl dM_thread_60 ?_
    exact tr_i hQ C hw hr (Nat.le_of_ble_eq_true rfl) (Nat.le_of_ble_eq_true rfl) dM_thread_61 ⟨rfl, rfl⟩
  · refine q_aload_n hx hb hl dM_thread_0 rfl ?_
    refine q_iload_n hx hb hl dM_thread_1 rfl ?_
    refine tc_E (tc_V C hl (it_ok l hst D ct am N hN h0 th σ _ t ht) hw.1 hw.2.1 hw.2.2 g_M_84 (re_M C hw) hv_M_isThread rfl rfl ⟨(Nat.le_of_ble_eq_true rfl), (Nat.le_of_ble_eq_true rfl)⟩ (Nat.le_of_ble_eq_true rfl) ⟨(Nat.le_of_ble_eq_true rfl), (Nat.le_of_ble_eq_true rfl)⟩ dM_thread_2 rfl) C hw (fun E ce q9 w1 H locs hp hw h1 h2 h3 => ?_) (fun v w1 H locs hp hw => ?_)
    · exact hp.elim
    obtain ⟨rfl, rfl⟩ := hp
    dsimp only [Option.toList_some, Option.toList_none, List.cons_append, List.nil_append]
    refine lv_if_ne (tgt := 10) hx hb dM_thread_5 (by decide) (fun c_5 => ?_) (fun q9 => absurd q9 (by decide))
    refine q_iload_n hx hb hl dM_thread_10 rfl ?_
    refine lv_tableIn (tgt := 62) hx hb dM_thread_11 (by decide) (by decide) rfl (by decide) ?_
    refine q_aload_n hx hb hl dM_thread_62 rfl ?_
    refine mg C hw 19 l_M_36 (by decide) rfl dM_thread_63 ?_
    refine q_iload_n hx hb hl dM_thread_66 rfl ?_
    refine mr_7 C hw (by assumption) rfl dM_thread_67 ?_
    exact tr_i hQ C hw hr (Nat.le_of_ble_eq_true rfl) (Nat.le_of_ble_eq_true rfl) dM_thread_68 ⟨rfl, rfl⟩
  · refine q_aload_n hx hb hl dM_thread_0 rfl ?_
    refine q_iload_n hx hb hl dM_thread_1 rfl ?_
    refine tc_E (tc_V C hl (it_ok l hst D ct am N hN h0 th σ _ t ht) hw.1 hw.2.1 hw.2.2 g_M_84 (re_M C hw) hv_M_isThread rfl rfl ⟨(Nat.le_of_ble_eq_true rfl), (Nat.le_of_ble_eq_true rfl)⟩ (Nat.le_of_ble_eq_true rfl) ⟨(Nat.le_of_ble_eq_true rfl), (Nat.le_of_ble_eq_true rfl)⟩ dM_thread_2 rfl) C hw (fun E ce q9 w1 H locs hp hw h1 h2 h3 => ?_) (fun v w1 H locs hp hw => ?_)
    · exact hp.elim
    obtain ⟨rfl, rfl⟩ := hp
    dsimp only [Option.toList_some, Option.toList_none, List.cons_append, List.nil_append]
    refine lv_if_ne (tgt := 10) hx hb dM_thread_5 (by decide) (fun c_5 => ?_) (fun q9 => absurd q9 (by decide))
    refine q_iload_n hx hb hl dM_thread_10 rfl ?_
    refine lv_tableIn (tgt := 69) hx hb dM_thread_11 (by decide) (by decide) rfl (by decide) ?_
    refine q_aload_n hx hb hl dM_thread_69 rfl ?_
    refine mg C hw 16 l_M_27 (by decide) rfl dM_thread_70 ?_
    refine q_iload_n hx hb hl dM_thread_73 rfl ?_
    refine mr_4 C hw (by assumption) rfl dM_thread_74 ?_
    exact tr_i hQ C hw hr (Nat.le_of_ble_eq_true rfl) (Nat.le_of_ble_eq_true rfl) dM_thread_75 ⟨rfl, rfl⟩
  · refine q_aload_n hx hb hl dM_thread_0 rfl ?_
    refine q_iload_n hx hb hl dM_thread_1 rfl ?_
    refine tc_E (tc_V C hl (it_ok l hst D ct am N hN h0 th σ _ t ht) hw.1 hw.2.1 hw.2.2 g_M_84 (re_M C hw) hv_M_isThread rfl rfl ⟨(Nat.le_of_ble_eq_true rfl), (Nat.le_of_ble_eq_true rfl)⟩ (Nat.le_of_ble_eq_true rfl) ⟨(Nat.le_of_ble_eq_true rfl), (Nat.le_of_ble_eq_true rfl)⟩ dM_thread_2 rfl) C hw (fun E ce q9 w1 H locs hp hw h1 h2 h3 => ?_) (fun v w1 H locs hp hw => ?_)
    · exact hp.elim
    obtain ⟨rfl, rfl⟩ := hp
    dsimp only [Option.toList_some, Option.toList_none, List.cons_append, List.nil_append]
    refine lv_if_ne (tgt := 10) hx hb dM_thread_5 (by decide) (fun c_5 => ?_) (fun q9 => absurd q9 (by decide))
    refine q_iload_n hx hb hl dM_thread_10 rfl ?_
    refine lv_tableIn (tgt := 76) hx hb dM_thread_11 (by decide) (by decide) rfl (by decide) ?_
    refine q_aload_n hx hb hl dM_thread_76 rfl ?_
    refine mg C hw 15 l_M_24 (by decide) rfl dM_thread_77 ?_
    refine q_iload_n hx hb hl dM_thread_80 rfl ?_
    refine mr_3 C hw (by assumption) rfl dM_thread_81 ?_
    exact tr_i hQ C hw hr (Nat.le_of_ble_eq_true rfl) (Nat.le_of_ble_eq_true rfl) dM_thread_82 ⟨rfl, rfl⟩
  · refine q_aload_n hx hb hl dM_thread_0 rfl ?_
    refine q_iload_n hx hb hl dM_thread_1 rfl ?_
    refine tc_E (tc_V C hl (it_ok l hst D ct am N hN h0 th σ _ t ht) hw.1 hw.2.1 hw.2.2 g_M_84 (re_M C hw) hv_M_isThread rfl rfl ⟨(Nat.le_of_ble_eq_true rfl), (Nat.le_of_ble_eq_true rfl)⟩ (Nat.le_of_ble_eq_true rfl) ⟨(Nat.le_of_ble_eq_true rfl), (Nat.le_of_ble_eq_true rfl)⟩ dM_thread_2 rfl) C hw (fun E ce q9 w1 H locs hp hw h1 h2 h3 => ?_) (fun v w1 H locs hp hw => ?_)
    · exact hp.elim
    obtain ⟨rfl, rfl⟩ := hp
    dsimp only [Option.toList_some, Option.toList_none, List.cons_append, List.nil_append]
    refine lv_if_ne (tgt := 10) hx hb dM_thread_5 (by decide) (fun c_5 => ?_) (fun q9 => absurd q9 (by decide))
    refine q_iload_n hx hb hl dM_thread_10 rfl ?_
    refine lv_tableIn (tgt := 83) hx hb dM_thread_11 (by decide) (by decide) rfl (by decide) ?_
    refine q_aload_n hx hb hl dM_thread_83 rfl ?_
    refine mg C hw 20 l_M_39 (by decide) rfl dM_thread_84 ?_
    refine q_iload_n hx hb hl dM_thread_87 rfl ?_
    refine mr_8 C hw (by assumption) rfl dM_thread_88 ?_
    exact tr_i hQ C hw hr (Nat.le_of_ble_eq_true rfl) (Nat.le_of_ble_eq_true rfl) dM_thread_89 ⟨rfl, rfl⟩
set_option maxHeartbeats 4000000 in
set_option maxRecDepth 100000 in
theorem my_thr (l : Launch) (hst : l.stackTraces = false) (D : va_G) (ct : Ct) (am : Nat → Nat) (N : Nat) (hN : N ≤ 16) (h0 : 0 < N) (th : Int32) (σ : St) (sz : Nat) (t : Nat) (ht : t < N) (p1 : Int32) (h : p1.toInt < 0 ∨ 5 < p1.toInt) : Kt l yM_thread cM_thread 3 (some .int) (r0 2) 0 0 D ct [.ref (am 0), .int (nI t), .int p1] sz (wM ct am N th σ) (fun v w => v = some (.int 0) ∧ w = wM ct am N 1 σ) (fun E w => False) := by
  refine kt_of hst (by decide) (Nat.le_of_ble_eq_true rfl) (by simp [Value.category]) ?_
  intro p e s m args below meth c A ls C hne hr hw hl Q hQ
  have hx := C.1
  have hb := C.2.1
  refine q_aload_n hx hb hl dM_thread_0 rfl ?_
  refine q_iload_n hx hb hl dM_thread_1 rfl ?_
  refine tc_E (tc_V C hl (it_ok l hst D ct am N hN h0 th σ _ t ht) hw.1 hw.2.1 hw.2.2 g_M_84 (re_M C hw) hv_M_isThread rfl rfl ⟨(Nat.le_of_ble_eq_true rfl), (Nat.le_of_ble_eq_true rfl)⟩ (Nat.le_of_ble_eq_true rfl) ⟨(Nat.le_of_ble_eq_true rfl), (Nat.le_of_ble_eq_true rfl)⟩ dM_thread_2 rfl) C hw (fun E ce q9 w1 H locs hp hw h1 h2 h3 => ?_) (fun v w1 H locs hp hw => ?_)
  · exact hp.elim
  obtain ⟨rfl, rfl⟩ := hp
  dsimp only [Option.toList_some, Option.toList_none, List.cons_append, List.nil_append]
  refine lv_if_ne (tgt := 10) hx hb dM_thread_5 (by decide) (fun c_5 => ?_) (fun q9 => absurd q9 (by decide))
  refine q_iload_n hx hb hl dM_thread_10 rfl ?_
  refine lv_tableOut (tgt := 90) hx hb dM_thread_11 h (by decide) ?_
  refine q_aload_n hx hb hl dM_thread_90 rfl ?_
  refine lv_iconst (v := 1) hx hb dM_thread_91 (by decide) ?_
  refine tc_E (tc_V C hl (m_fail l hst D ct am N hN h0 0 σ _ 1) hw.1 hw.2.1 hw.2.2 g_M_71 (re_M C hw) hv_M_fail rfl rfl ⟨(Nat.le_of_ble_eq_true rfl), (Nat.le_of_ble_eq_true rfl)⟩ (Nat.le_of_ble_eq_true rfl) ⟨(Nat.le_of_ble_eq_true rfl), (Nat.le_of_ble_eq_true rfl)⟩ dM_thread_92 rfl) C hw (fun E ce q9 w1 H locs hp hw h1 h2 h3 => ?_) (fun v w1 H locs hp hw => ?_)
  · exact hp.elim
  obtain ⟨rfl, rfl⟩ := hp
  dsimp only [Option.toList_some, Option.toList_none, List.cons_append, List.nil_append]
  exact tr_i hQ C hw hr (Nat.le_of_ble_eq_true rfl) (Nat.le_of_ble_eq_true rfl) dM_thread_95 ⟨rfl, rfl⟩
set_option maxHeartbeats 4000000 in
set_option maxRecDepth 100000 in
theorem mo_shr (l : Launch) (hst : l.stackTraces = false) (D : va_G) (ct : Ct) (am : Nat → Nat) (N : Nat) (hN : N ≤ 16) (h0 : 0 < N) (th : Int32) (σ : St) (sz : Nat) (t : Nat) (ht : t < N) (u : Nat) (hu : u < 2) (hg : mf_fin 64 (σ 1 t 6) (σ 0 0 8)) (hnz : ¬ σ 0 0 8 = 0 → ¬ tf_gcd 64 (σ 1 t 6) (σ 0 0 8) = 0) : Kt l yM_share cM_share 6 (some .int) (r0 2) 0 0 D ct [.ref (am 0), .int (nI t), .int (nI u)] sz (wM ct am N th σ) (fun v w => v = some (.int (mf_shA σ t (nI u))) ∧ w = wM ct am N 0 σ) (fun E w => False) := by
  refine kt_of hst (by decide) (Nat.le_of_ble_eq_true rfl) (by simp [Value.category]) ?_
  intro p e s m args below meth c A ls C hne hr hw hl Q hQ
  have hx := C.1
  have hb := C.2.1
  have ht16 : t < 16 := by omega
  refine q_aload_n hx hb hl dM_share_0 rfl ?_
  refine q_iload_n hx hb hl dM_share_1 rfl ?_
  refine tc_E (tc_V C hl (it_ok l hst D ct am N hN h0 th σ _ t ht) hw.1 hw.2.1 hw.2.2 g_M_84 (re_M C hw) hv_M_isThread rfl rfl ⟨(Nat.le_of_ble_eq_true rfl), (Nat.le_of_ble_eq_true rfl)⟩ (Nat.le_of_ble_eq_true rfl) ⟨(Nat.le_of_ble_eq_true rfl), (Nat.le_of_ble_eq_true rfl)⟩ dM_share_2 rfl) C hw (fun E ce q9 w1 H locs hp hw h1 h2 h3 => ?_) (fun v w1 H locs hp hw => ?_)
  · exact hp.elim
  obtain ⟨rfl, rfl⟩ := hp
  dsimp only [Option.toList_some, Option.toList_none, List.cons_append, List.nil_append]
  refine lv_if_ne (tgt := 10) hx hb dM_share_5 (by decide) (fun c_5 => ?_) (fun q9 => absurd q9 (by decide))
  refine q_iload_n hx hb hl dM_share_10 rfl ?_
  refine lv_iconst (v := 0) hx hb dM_share_11 (by decide) ?_
  refine lv_iconst (v := 1) hx hb dM_share_12 (by decide) ?_
  refine tc_E (tc_S C hl (w_ok l hst D ct (wM ct am N 0 σ) _ (nI u) 0 1 (nI_pos (by omega)) (nI_le (b := 1) (by omega) (by omega))) hw.1 hw.2.1 hw.2.2 g_M_67 hd_M_within rfl rfl ⟨(Nat.le_of_ble_eq_true rfl), (Nat.le_of_ble_eq_true rfl)⟩ (Nat.le_of_ble_eq_true rfl) ⟨(Nat.le_of_ble_eq_true rfl), (Nat.le_of_ble_eq_true rfl)⟩ dM_share_13 rfl) C hw (fun E ce q9 w1 H locs hp hw h1 h2 h3 => ?_) (fun v w1 H locs hp hw => ?_)
  · exact hp.elim
  obtain ⟨rfl, rfl⟩ := hp
  dsimp only [Option.toList_some, Option.toList_none, List.cons_append, List.nil_append]
  refine lv_if_ne (tgt := 25) hx hb dM_share_16 (by decide) (fun c_16 => ?_) (fun q9 => absurd q9 (by decide))
  have L59 : ∀ (a b : Int32), a = tf_gcd 64 (σ 1 t 6) (σ 0 0 8) → ∀ (H : Heap) (locs : List Loc) (ls : Array Slot), wl D A s (wM ct am N 0 σ) H locs → lq ls 6 [some (.ref (am 0)), some (.int (nI t)), some (.int (nI u)), some (.int a), some (.int b), none] → W p l e (r0 2) s m args below meth c H locs 0 0 Q (F0 m 59 ls []) := by
    intro a b ha H locs ls hw hl
    subst ha
    refine q_aload_n hx hb hl dM_share_59 rfl ?_
    refine mg C hw 7 l_M_129 (by decide) rfl dM_share_60 ?_
    refine lv_if_ne (tgt := 68) hx hb dM_share_63 (by decide) (fun c_63 => ?_) (fun c_63 => ?_)
    · refine q_iload_n hx hb hl dM_share_68 rfl ?_
      refine lv_if_ne (tgt := 83) hx hb dM_share_69 (by decide) (fun c_69 => ?_) (fun c_69 => ?_)
      · refine q_aload_n hx hb hl dM_share_83 rfl ?_
        refine mg C hw 7 l_M_129 (by decide) rfl dM_share_84 ?_
        refine q_iload_n hx hb hl dM_share_87 rfl ?_
        refine lv_idiv hx hb dM_share_88 (hnz c_63) ?_
        exact tr_i hQ C hw hr (Nat.le_of_ble_eq_true rfl) (Nat.le_of_ble_eq_true rfl) dM_share_89 ⟨by simp only [mf_shA, if_neg c_63, if_neg c_69], rfl⟩
      refine q_aload_n hx hb hl dM_share_72 rfl ?_
      refine mg C hw 19 l_M_36 (by decide) rfl dM_share_73 ?_
      refine q_iload_n hx hb hl dM_share_76 rfl ?_
      refine mr_7 C hw (by assumption) rfl dM_share_77 ?_
      refine q_iload_n hx hb hl dM_share_78 rfl ?_
      refine lv_idiv hx hb dM_share_79 (hnz c_63) ?_
      refine lv_goto (tgt := 89) hx hb dM_share_80 (by decide) ?_
      exact tr_i hQ C hw hr (Nat.le_of_ble_eq_true rfl) (Nat.le_of_ble_eq_true rfl) dM_share_89 ⟨by simp only [mf_shA, if_neg c_63, if_pos c_69], rfl⟩
    refine q_iload_n hx hb hl dM_share_66 rfl ?_
    exact tr_i hQ C hw hr (Nat.le_of_ble_eq_true rfl) (Nat.le_of_ble_eq_true rfl) dM_share_67 ⟨by simp only [mf_shA, if_pos c_63], rfl⟩
  refine q_aload_n hx hb hl dM_share_25 rfl ?_
  refine mg C hw 19 l_M_36 (by decide) rfl dM_share_26 ?_
  refine q_iload_n hx hb hl dM_share_29 rfl ?_
  refine mr_7 C hw (by assumption) rfl dM_share_30 ?_
  refine q_istore_n hx hb hl dM_share_31 (by decide) (fun ls hl => ?_)
  refine q_aload_n hx hb hl dM_share_32 rfl ?_
  refine mg C hw 7 l_M_129 (by decide) rfl dM_share_33 ?_
  refine q_istore hx hb hl dM_share_36 (by decide) (fun ls hl => ?_)
  have L38 : ∀ (n : Nat) (a b : Int32), mf_fin n a b → tf_gcd n a b = tf_gcd 64 (σ 1 t 6) (σ 0 0 8) → ∀ (H : Heap) (locs : List Loc) (ls : Array Slot), wl D A s (wM ct am N 0 σ) H locs → lq ls 6 [some (.ref (am 0)), some (.int (nI t)), some (.int (nI u)), some (.int a), some (.int b), none] → W p l e (r0 2) s m args below meth c H locs 0 0 Q (F0 m 38 ls []) := by
    intro n
    induction n with
    | zero =>
      intro a b hf he H locs ls hw hl
      refine q_iload hx hb hl dM_share_38 rfl ?_
      refine lv_if_eq (tgt := 59) hx hb dM_share_40 (by decide) (fun c_40 => ?_) (fun q9 => absurd hf q9)
      exact L59 a b (by rw [← he]; first | rfl | (rw [tf_gcd, if_pos c_40])) _ _ _ hw hl
    | succ n ih =>
      intro a b hf he H locs ls hw hl
      refine q_iload hx hb hl dM_share_38 rfl ?_
      refine lv_if_eq (tgt := 59) hx hb dM_share_40 (by decide) (fun c_40 => ?_) (fun c_40 => ?_)
      · exact L59 a b (by rw [← he]; first | rfl | (rw [tf_gcd, if_pos c_40])) _ _ _ hw hl
      refine q_iload_n hx hb hl dM_share_43 rfl ?_
      refine q_iload hx hb hl dM_share_44 rfl ?_
      refine lv_irem hx hb dM_share_46 c_40 ?_
      refine q_istore hx hb hl dM_share_47 (by decide) (fun ls hl => ?_)
      refine q_iload hx hb hl dM_share_49 rfl ?_
      refine q_istore_n hx hb hl dM_share_51 (by decide) (fun ls hl => ?_)
      refine q_iload hx hb hl dM_share_52 rfl ?_
      refine q_istore hx hb hl dM_share_54 (by decide) (fun ls hl => ?_)
      refine lv_goto (tgt := 38) hx hb dM_share_56 (by decide) ?_
      exact ih _ _ (hf.resolve_left c_40) (by rw [← he, tf_gcd, if_neg c_40]) _ _ _ hw (hl.drop 5)
  exact L38 64 _ _ hg rfl _ _ _ hw hl
set_option maxHeartbeats 4000000 in
set_option maxRecDepth 100000 in
theorem my_shr (l : Launch) (hst : l.stackTraces = false) (D : va_G) (ct : Ct) (am : Nat → Nat) (N : Nat) (hN : N ≤ 16) (h0 : 0 < N) (th : Int32) (σ : St) (sz : Nat) (t : Nat) (ht : t < N) (p1 : Int32) (h : p1 < 0 ∨ ¬ p1 < nI 2) : Kt l yM_share cM_share 6 (some .int) (r0 2) 0 0 D ct [.ref (am 0), .int (nI t), .int p1] sz (wM ct am N th σ) (fun v w => v = some (.int 0) ∧ w = wM ct am N 1 σ) (fun E w => False) := by
  refine kt_of hst (by decide) (Nat.le_of_ble_eq_true rfl) (by simp [Value.category]) ?_
  intro p e s m args below meth c A ls C hne hr hw hl Q hQ
  have hx := C.1
  have hb := C.2.1
  refine q_aload_n hx hb hl dM_share_0 rfl ?_
  refine q_iload_n hx hb hl dM_share_1 rfl ?_
  refine tc_E (tc_V C hl (it_ok l hst D ct am N hN h0 th σ _ t ht) hw.1 hw.2.1 hw.2.2 g_M_84 (re_M C hw) hv_M_isThread rfl rfl ⟨(Nat.le_of_ble_eq_true rfl), (Nat.le_of_ble_eq_true rfl)⟩ (Nat.le_of_ble_eq_true rfl) ⟨(Nat.le_of_ble_eq_true rfl), (Nat.le_of_ble_eq_true rfl)⟩ dM_share_2 rfl) C hw (fun E ce q9 w1 H locs hp hw h1 h2 h3 => ?_) (fun v w1 H locs hp hw => ?_)
  · exact hp.elim
  obtain ⟨rfl, rfl⟩ := hp
  dsimp only [Option.toList_some, Option.toList_none, List.cons_append, List.nil_append]
  refine lv_if_ne (tgt := 10) hx hb dM_share_5 (by decide) (fun c_5 => ?_) (fun q9 => absurd q9 (by decide))
  refine q_iload_n hx hb hl dM_share_10 rfl ?_
  refine lv_iconst (v := 0) hx hb dM_share_11 (by decide) ?_
  refine lv_iconst (v := 1) hx hb dM_share_12 (by decide) ?_
  refine tc_E (tc_S C hl (w_bad l hst D ct (wM ct am N 0 σ) _ p1 0 1 (bad5 h)) hw.1 hw.2.1 hw.2.2 g_M_67 hd_M_within rfl rfl ⟨(Nat.le_of_ble_eq_true rfl), (Nat.le_of_ble_eq_true rfl)⟩ (Nat.le_of_ble_eq_true rfl) ⟨(Nat.le_of_ble_eq_true rfl), (Nat.le_of_ble_eq_true rfl)⟩ dM_share_13 rfl) C hw (fun E ce q9 w1 H locs hp hw h1 h2 h3 => ?_) (fun v w1 H locs hp hw => ?_)
  · exact hp.elim
  obtain ⟨rfl, rfl⟩ := hp
  dsimp only [Option.toList_some, Option.toList_none, List.cons_append, List.nil_append]
  refine lv_if_ne (tgt := 25) hx hb dM_share_16 (by decide) (fun q9 => absurd rfl q9) (fun c_16 => ?_)
  refine q_aload_n hx hb hl dM_share_19 rfl ?_
  refine lv_iconst (v := 1) hx hb dM_share_20 (by decide) ?_
  refine tc_E (tc_V C hl (m_fail l hst D ct am N hN h0 0 σ _ 1) hw.1 hw.2.1 hw.2.2 g_M_71 (re_M C hw) hv_M_fail rfl rfl ⟨(Nat.le_of_ble_eq_true rfl), (Nat.le_of_ble_eq_true rfl)⟩ (Nat.le_of_ble_eq_true rfl) ⟨(Nat.le_of_ble_eq_true rfl), (Nat.le_of_ble_eq_true rfl)⟩ dM_share_21 rfl) C hw (fun E ce q9 w1 H locs hp hw h1 h2 h3 => ?_) (fun v w1 H locs hp hw => ?_)
  · exact hp.elim
  obtain ⟨rfl, rfl⟩ := hp
  dsimp only [Option.toList_some, Option.toList_none, List.cons_append, List.nil_append]
  exact tr_i hQ C hw hr (Nat.le_of_ble_eq_true rfl) (Nat.le_of_ble_eq_true rfl) dM_share_24 ⟨rfl, rfl⟩
set_option maxHeartbeats 4000000 in
set_option maxRecDepth 100000 in
theorem m_cnt (l : Launch) (hst : l.stackTraces = false) (D : va_G) (ct : Ct) (am : Nat → Nat) (N : Nat) (hN : N ≤ 16) (h0 : 0 < N) (th : Int32) (σ : St) (sz : Nat) (p0 : Int32) : Kt l yM_count cM_count 4 (some .int) (r0 1) 0 0 D ct [.ref (am 0), .int p0] sz (wM ct am N th σ) (fun v w => v = some (.int (tf_cntA N σ p0)) ∧ w = wM ct am N 0 σ) (fun E w => False) := by
  refine kt_of hst (by decide) (Nat.le_of_ble_eq_true rfl) (by simp [Value.category]) ?_
  intro p e s m args below meth c A ls C hne hr hw hl Q hQ
  have hx := C.1
  have hb := C.2.1
  rcases sw8 p0 with rfl | rfl | rfl | rfl | rfl | rfl | rfl | rfl | ⟨g, g9⟩
  · refine q_aload_n hx hb hl dM_count_0 rfl ?_
    refine lv_iconst (v := 0) hx hb dM_count_1 (by decide) ?_
    refine mp_0 C hw l_M_64 dM_count_2 (fun H locs hw => ?_)
    refine q_iload_n hx hb hl dM_count_5 rfl ?_
    refine lv_iconst (v := 0) hx hb dM_count_6 (by decide) ?_
    refine lv_bipush (v := 7) hx hb dM_count_7 (by decide) ?_
    refine tc_E (tc_S C hl (w_ok l hst D ct (wM ct am N 0 σ) _ 0 0 7 (by decide) (by decide)) hw.1 hw.2.1 hw.2.2 g_M_67 hd_M_within rfl rfl ⟨(Nat.le_of_ble_eq_true rfl), (Nat.le_of_ble_eq_true rfl)⟩ (Nat.le_of_ble_eq_true rfl) ⟨(Nat.le_of_ble_eq_true rfl), (Nat.le_of_ble_eq_true rfl)⟩ dM_count_9 rfl) C hw (fun E ce q9 w1 H locs hp hw h1 h2 h3 => ?_) (fun v w1 H locs hp hw => ?_)
    · exact hp.elim
    obtain ⟨rfl, rfl⟩ := hp
    dsimp only [Option.toList_some, Option.toList_none, List.cons_append, List.nil_append]
    refine lv_if_ne (tgt := 17) hx hb dM_count_12 (by decide) (fun c_12 => ?_) (fun q9 => absurd q9 (by decide))
    refine q_iload_n hx hb hl dM_count_17 rfl ?_
    refine lv_iconst (v := 4) hx hb dM_count_18 (by decide) ?_
    refine lv_icmp_ge (tgt := 62) hx hb dM_count_19 (by decide) (fun q9 => absurd q9 (by decide)) (fun c_19 => ?_)
    refine q_iload_n hx hb hl dM_count_22 rfl ?_
    refine lv_if_ne (tgt := 33) hx hb dM_count_23 (by decide) (fun q9 => absurd rfl q9) (fun c_23 => ?_)
    refine q_aload_n hx hb hl dM_count_26 rfl ?_
    refine mg C hw 6 l_M_123 (by decide) rfl dM_count_27 ?_
    refine lv_goto (tgt := 61) hx hb dM_count_30 (by decide) ?_
    exact tr_i hQ C hw hr (Nat.le_of_ble_eq_true rfl) (Nat.le_of_ble_eq_true rfl) dM_count_61 ⟨rfl, rfl⟩
  · refine q_aload_n hx hb hl dM_count_0 rfl ?_
    refine lv_iconst (v := 0) hx hb dM_count_1 (by decide) ?_
    refine mp_0 C hw l_M_64 dM_count_2 (fun H locs hw => ?_)
    refine q_iload_n hx hb hl dM_count_5 rfl ?_
    refine lv_iconst (v := 0) hx hb dM_count_6 (by decide) ?_
    refine lv_bipush (v := 7) hx hb dM_count_7 (by decide) ?_
    refine tc_E (tc_S C hl (w_ok l hst D ct (wM ct am N 0 σ) _ 1 0 7 (by decide) (by decide)) hw.1 hw.2.1 hw.2.2 g_M_67 hd_M_within rfl rfl ⟨(Nat.le_of_ble_eq_true rfl), (Nat.le_of_ble_eq_true rfl)⟩ (Nat.le_of_ble_eq_true rfl) ⟨(Nat.le_of_ble_eq_true rfl), (Nat.le_of_ble_eq_true rfl)⟩ dM_count_9 rfl) C hw (fun E ce q9 w1 H locs hp hw h1 h2 h3 => ?_) (fun v w1 H locs hp hw => ?_)
    · exact hp.elim
    obtain ⟨rfl, rfl⟩ := hp
    dsimp only [Option.toList_some, Option.toList_none, List.cons_append, List.nil_append]
    refine lv_if_ne (tgt := 17) hx hb dM_count_12 (by decide) (fun c_12 => ?_) (fun q9 => absurd q9 (by decide))
    refine q_iload_n hx hb hl dM_count_17 rfl ?_
    refine lv_iconst (v := 4) hx hb dM_count_18 (by decide) ?_
    refine lv_icmp_ge (tgt := 62) hx hb dM_count_19 (by decide) (fun q9 => absurd q9 (by decide)) (fun c_19 => ?_)
    refine q_iload_n hx hb hl dM_count_22 rfl ?_
    refine lv_if_ne (tgt := 33) hx hb dM_count_23 (by decide) (fun c_23 => ?_) (fun q9 => absurd q9 (by decide))
    refine q_iload_n hx hb hl dM_count_33 rfl ?_
    refine lv_iconst (v := 1) hx hb dM_count_34 (by decide) ?_
    refine lv_icmp_ne (tgt := 45) hx hb dM_count_35 (by decide) (fun q9 => absurd rfl q9) (fun c_35 => ?_)
    refine q_aload_n hx hb hl dM_count_38 rfl ?_
    refine mg C hw 7 l_M_129 (by decide) rfl dM_count_39 ?_
    refine lv_goto (tgt := 61) hx hb dM_count_42 (by decide) ?_
    exact tr_i hQ C hw hr (Nat.le_of_ble_eq_true rfl) (Nat.le_of_ble_eq_true rfl) dM_count_61 ⟨rfl, rfl⟩
  · refine q_aload_n hx hb hl dM_count_0 rfl ?_
    refine lv_iconst (v := 0) hx hb dM_count_1 (by decide) ?_
    refine mp_0 C hw l_M_64 dM_count_2 (fun H locs hw => ?_)
    refine q_iload_n hx hb hl dM_count_5 rfl ?_
    refine lv_iconst (v := 0) hx hb dM_count_6 (by decide) ?_
    refine lv_bipush (v := 7) hx hb dM_count_7 (by decide) ?_
    refine tc_E (tc_S C hl (w_ok l hst D ct (wM ct am N 0 σ) _ 2 0 7 (by decide) (by decide)) hw.1 hw.2.1 hw.2.2 g_M_67 hd_M_within rfl rfl ⟨(Nat.le_of_ble_eq_true rfl), (Nat.le_of_ble_eq_true rfl)⟩ (Nat.le_of_ble_eq_true rfl) ⟨(Nat.le_of_ble_eq_true rfl), (Nat.le_of_ble_eq_true rfl)⟩ dM_count_9 rfl) C hw (fun E ce q9 w1 H locs hp hw h1 h2 h3 => ?_) (fun v w1 H locs hp hw => ?_)
    · exact hp.elim
    obtain ⟨rfl, rfl⟩ := hp
    dsimp only [Option.toList_some, Option.toList_none, List.cons_append, List.nil_append]
    refine lv_if_ne (tgt := 17) hx hb dM_count_12 (by decide) (fun c_12 => ?_) (fun q9 => absurd q9 (by decide))
    refine q_iload_n hx hb hl dM_count_17 rfl ?_
    refine lv_iconst (v := 4) hx hb dM_count_18 (by decide) ?_
    refine lv_icmp_ge (tgt := 62) hx hb dM_count_19 (by decide) (fun q9 => absurd q9 (by decide)) (fun c_19 => ?_)
    refine q_iload_n hx hb hl dM_count_22 rfl ?_
    refine lv_if_ne (tgt := 33) hx hb dM_count_23 (by decide) (fun c_23 => ?_) (fun q9 => absurd q9 (by decide))
    refine q_iload_n hx hb hl dM_count_33 rfl ?_
    refine lv_iconst (v := 1) hx hb dM_count_34 (by decide) ?_
    refine lv_icmp_ne (tgt := 45) hx hb dM_count_35 (by decide) (fun c_35 => ?_) (fun q9 => absurd q9 (by decide))
    refine q_iload_n hx hb hl dM_count_45 rfl ?_
    refine lv_iconst (v := 2) hx hb dM_count_46 (by decide) ?_
    refine lv_icmp_ne (tgt := 57) hx hb dM_count_47 (by decide) (fun q9 => absurd rfl q9) (fun c_47 => ?_)
    refine q_aload_n hx hb hl dM_count_50 rfl ?_
    refine mg C hw 8 l_M_120 (by decide) rfl dM_count_51 ?_
    refine lv_goto (tgt := 61) hx hb dM_count_54 (by decide) ?_
    exact tr_i hQ C hw hr (Nat.le_of_ble_eq_true rfl) (Nat.le_of_ble_eq_true rfl) dM_count_61 ⟨rfl, rfl⟩
  · refine q_aload_n hx hb hl dM_count_0 rfl ?_
    refine lv_iconst (v := 0) hx hb dM_count_1 (by decide) ?_
    refine mp_0 C hw l_M_64 dM_count_2 (fun H locs hw => ?_)
    refine q_iload_n hx hb hl dM_count_5 rfl ?_
    refine lv_iconst (v := 0) hx hb dM_count_6 (by decide) ?_
    refine lv_bipush (v := 7) hx hb dM_count_7 (by decide) ?_
    refine tc_E (tc_S C hl (w_ok l hst D ct (wM ct am N 0 σ) _ 3 0 7 (by decide) (by decide)) hw.1 hw.2.1 hw.2.2 g_M_67 hd_M_within rfl rfl ⟨(Nat.le_of_ble_eq_true rfl), (Nat.le_of_ble_eq_true rfl)⟩ (Nat.le_of_ble_eq_true rfl) ⟨(Nat.le_of_ble_eq_true rfl), (Nat.le_of_ble_eq_true rfl)⟩ dM_count_9 rfl) C hw (fun E ce q9 w1 H locs hp hw h1 h2 h3 => ?_) (fun v w1 H locs hp hw => ?_)
    · exact hp.elim
    obtain ⟨rfl, rfl⟩ := hp
    dsimp only [Option.toList_some, Option.toList_none, List.cons_append, List.nil_append]
    refine lv_if_ne (tgt := 17) hx hb dM_count_12 (by decide) (fun c_12 => ?_) (fun q9 => absurd q9 (by decide))
    refine q_iload_n hx hb hl dM_count_17 rfl ?_
    refine lv_iconst (v := 4) hx hb dM_count_18 (by decide) ?_
    refine lv_icmp_ge (tgt := 62) hx hb dM_count_19 (by decide) (fun q9 => absurd q9 (by decide)) (fun c_19 => ?_)
    refine q_iload_n hx hb hl dM_count_22 rfl ?_
    refine lv_if_ne (tgt := 33) hx hb dM_count_23 (by decide) (fun c_23 => ?_) (fun q9 => absurd q9 (by decide))
    refine q_iload_n hx hb hl dM_count_33 rfl ?_
    refine lv_iconst (v := 1) hx hb dM_count_34 (by decide) ?_
    refine lv_icmp_ne (tgt := 45) hx hb dM_count_35 (by decide) (fun c_35 => ?_) (fun q9 => absurd q9 (by decide))
    refine q_iload_n hx hb hl dM_count_45 rfl ?_
    refine lv_iconst (v := 2) hx hb dM_count_46 (by decide) ?_
    refine lv_icmp_ne (tgt := 57) hx hb dM_count_47 (by decide) (fun c_47 => ?_) (fun q9 => absurd q9 (by decide))
    refine q_aload_n hx hb hl dM_count_57 rfl ?_
    refine mg C hw 9 l_M_114 (by decide) rfl dM_count_58 ?_
    exact tr_i hQ C hw hr (Nat.le_of_ble_eq_true rfl) (Nat.le_of_ble_eq_true rfl) dM_count_61 ⟨rfl, rfl⟩
  · refine q_aload_n hx hb hl dM_count_0 rfl ?_
    refine lv_iconst (v := 0) hx hb dM_count_1 (by decide) ?_
    refine mp_0 C hw l_M_64 dM_count_2 (fun H locs hw => ?_)
    refine q_iload_n hx hb hl dM_count_5 rfl ?_
    refine lv_iconst (v := 0) hx hb dM_count_6 (by decide) ?_
    refine lv_bipush (v := 7) hx hb dM_count_7 (by decide) ?_
    refine tc_E (tc_S C hl (w_ok l hst D ct (wM ct am N 0 σ) _ 4 0 7 (by decide) (by decide)) hw.1 hw.2.1 hw.2.2 g_M_67 hd_M_within rfl rfl ⟨(Nat.le_of_ble_eq_true rfl), (Nat.le_of_ble_eq_true rfl)⟩ (Nat.le_of_ble_eq_true rfl) ⟨(Nat.le_of_ble_eq_true rfl), (Nat.le_of_ble_eq_true rfl)⟩ dM_count_9 rfl) C hw (fun E ce q9 w1 H locs hp hw h1 h2 h3 => ?_) (fun v w1 H locs hp hw => ?_)
    · exact hp.elim
    obtain ⟨rfl, rfl⟩ := hp
    dsimp only [Option.toList_some, Option.toList_none, List.cons_append, List.nil_append]
    refine lv_if_ne (tgt := 17) hx hb dM_count_12 (by decide) (fun c_12 => ?_) (fun q9 => absurd q9 (by decide))
    refine q_iload_n hx hb hl dM_count_17 rfl ?_
    refine lv_iconst (v := 4) hx hb dM_count_18 (by decide) ?_
    refine lv_icmp_ge (tgt := 62) hx hb dM_count_19 (by decide) (fun c_19 => ?_) (fun q9 => absurd (by decide) q9)
    refine q_iload_n hx hb hl dM_count_62 rfl ?_
    refine lv_bipush (v := 7) hx hb dM_count_63 (by decide) ?_
    refine lv_icmp_ge (tgt := 97) hx hb dM_count_65 (by decide) (fun q9 => absurd q9 (by decide)) (fun c_65 => ?_)
    refine q_iload_n hx hb hl dM_count_68 rfl ?_
    refine lv_iconst (v := 4) hx hb dM_count_69 (by decide) ?_
    refine lv_icmp_ne (tgt := 80) hx hb dM_count_70 (by decide) (fun q9 => absurd rfl q9) (fun c_70 => ?_)
    refine q_aload_n hx hb hl dM_count_73 rfl ?_
    refine mg C hw 1 l_M_57 (by decide) rfl dM_count_74 ?_
    refine lv_goto (tgt := 96) hx hb dM_count_77 (by decide) ?_
    exact tr_i hQ C hw hr (Nat.le_of_ble_eq_true rfl) (Nat.le_of_ble_eq_true rfl) dM_count_96 ⟨rfl, rfl⟩
  · refine q_aload_n hx hb hl dM_count_0 rfl ?_
    refine lv_iconst (v := 0) hx hb dM_count_1 (by decide) ?_
    refine mp_0 C hw l_M_64 dM_count_2 (fun H locs hw => ?_)
    refine q_iload_n hx hb hl dM_count_5 rfl ?_
    refine lv_iconst (v := 0) hx hb dM_count_6 (by decide) ?_
    refine lv_bipush (v := 7) hx hb dM_count_7 (by decide) ?_
    refine tc_E (tc_S C hl (w_ok l hst D ct (wM ct am N 0 σ) _ 5 0 7 (by decide) (by decide)) hw.1 hw.2.1 hw.2.2 g_M_67 hd_M_within rfl rfl ⟨(Nat.le_of_ble_eq_true rfl), (Nat.le_of_ble_eq_true rfl)⟩ (Nat.le_of_ble_eq_true rfl) ⟨(Nat.le_of_ble_eq_true rfl), (Nat.le_of_ble_eq_true rfl)⟩ dM_count_9 rfl) C hw (fun E ce q9 w1 H locs hp hw h1 h2 h3 => ?_) (fun v w1 H locs hp hw => ?_)
    · exact hp.elim
    obtain ⟨rfl, rfl⟩ := hp
    dsimp only [Option.toList_some, Option.toList_none, List.cons_append, List.nil_append]
    refine lv_if_ne (tgt := 17) hx hb dM_count_12 (by decide) (fun c_12 => ?_) (fun q9 => absurd q9 (by decide))
    refine q_iload_n hx hb hl dM_count_17 rfl ?_
    refine lv_iconst (v := 4) hx hb dM_count_18 (by decide) ?_
    refine lv_icmp_ge (tgt := 62) hx hb dM_count_19 (by decide) (fun c_19 => ?_) (fun q9 => absurd (by decide) q9)
    refine q_iload_n hx hb hl dM_count_62 rfl ?_
    refine lv_bipush (v := 7) hx hb dM_count_63 (by decide) ?_
    refine lv_icmp_ge (tgt := 97) hx hb dM_count_65 (by decide) (fun q9 => absurd q9 (by decide)) (fun c_65 => ?_)
    refine q_iload_n hx hb hl dM_count_68 rfl ?_
    refine lv_iconst (v := 4) hx hb dM_count_69 (by decide) ?_
    refine lv_icmp_ne (tgt := 80) hx hb dM_count_70 (by decide) (fun c_70 => ?_) (fun q9 => absurd q9 (by decide))
    refine q_iload_n hx hb hl dM_count_80 rfl ?_
    refine lv_iconst (v := 5) hx hb dM_count_81 (by decide) ?_
    refine lv_icmp_ne (tgt := 92) hx hb dM_count_82 (by decide) (fun q9 => absurd rfl q9) (fun c_82 => ?_)
    refine q_aload_n hx hb hl dM_count_85 rfl ?_
    refine mg C hw 10 l_M_7 (by decide) rfl dM_count_86 ?_
    refine lv_goto (tgt := 96) hx hb dM_count_89 (by decide) ?_
    exact tr_i hQ C hw hr (Nat.le_of_ble_eq_true rfl) (Nat.le_of_ble_eq_true rfl) dM_count_96 ⟨rfl, rfl⟩
  · refine q_aload_n hx hb hl dM_count_0 rfl ?_
    refine lv_iconst (v := 0) hx hb dM_count_1 (by decide) ?_
    refine mp_0 C hw l_M_64 dM_count_2 (fun H locs hw => ?_)
    refine q_iload_n hx hb hl dM_count_5 rfl ?_
    refine lv_iconst (v := 0) hx hb dM_count_6 (by decide) ?_
    refine lv_bipush (v := 7) hx hb dM_count_7 (by decide) ?_
    refine tc_E (tc_S C hl (w_ok l hst D ct (wM ct am N 0 σ) _ 6 0 7 (by decide) (by decide)) hw.1 hw.2.1 hw.2.2 g_M_67 hd_M_within rfl rfl ⟨(Nat.le_of_ble_eq_true rfl), (Nat.le_of_ble_eq_true rfl)⟩ (Nat.le_of_ble_eq_true rfl) ⟨(Nat.le_of_ble_eq_true rfl), (Nat.le_of_ble_eq_true rfl)⟩ dM_count_9 rfl) C hw (fun E ce q9 w1 H locs hp hw h1 h2 h3 => ?_) (fun v w1 H locs hp hw => ?_)
    · exact hp.elim
    obtain ⟨rfl, rfl⟩ := hp
    dsimp only [Option.toList_some, Option.toList_none, List.cons_append, List.nil_append]
    refine lv_if_ne (tgt := 17) hx hb dM_count_12 (by decide) (fun c_12 => ?_) (fun q9 => absurd q9 (by decide))
    refine q_iload_n hx hb hl dM_count_17 rfl ?_
    refine lv_iconst (v := 4) hx hb dM_count_18 (by decide) ?_
    refine lv_icmp_ge (tgt := 62) hx hb dM_count_19 (by decide) (fun c_19 => ?_) (fun q9 => absurd (by decide) q9)
    refine q_iload_n hx hb hl dM_count_62 rfl ?_
    refine lv_bipush (v := 7) hx hb dM_count_63 (by decide) ?_
    refine lv_icmp_ge (tgt := 97) hx hb dM_count_65 (by decide) (fun q9 => absurd q9 (by decide)) (fun c_65 => ?_)
    refine q_iload_n hx hb hl dM_count_68 rfl ?_
    refine lv_iconst (v := 4) hx hb dM_count_69 (by decide) ?_
    refine lv_icmp_ne (tgt := 80) hx hb dM_count_70 (by decide) (fun c_70 => ?_) (fun q9 => absurd q9 (by decide))
    refine q_iload_n hx hb hl dM_count_80 rfl ?_
    refine lv_iconst (v := 5) hx hb dM_count_81 (by decide) ?_
    refine lv_icmp_ne (tgt := 92) hx hb dM_count_82 (by decide) (fun c_82 => ?_) (fun q9 => absurd q9 (by decide))
    refine q_aload_n hx hb hl dM_count_92 rfl ?_
    refine mg C hw 11 l_M_13 (by decide) rfl dM_count_93 ?_
    exact tr_i hQ C hw hr (Nat.le_of_ble_eq_true rfl) (Nat.le_of_ble_eq_true rfl) dM_count_96 ⟨rfl, rfl⟩
  · refine q_aload_n hx hb hl dM_count_0 rfl ?_
    refine lv_iconst (v := 0) hx hb dM_count_1 (by decide) ?_
    refine mp_0 C hw l_M_64 dM_count_2 (fun H locs hw => ?_)
    refine q_iload_n hx hb hl dM_count_5 rfl ?_
    refine lv_iconst (v := 0) hx hb dM_count_6 (by decide) ?_
    refine lv_bipush (v := 7) hx hb dM_count_7 (by decide) ?_
    refine tc_E (tc_S C hl (w_ok l hst D ct (wM ct am N 0 σ) _ 7 0 7 (by decide) (by decide)) hw.1 hw.2.1 hw.2.2 g_M_67 hd_M_within rfl rfl ⟨(Nat.le_of_ble_eq_true rfl), (Nat.le_of_ble_eq_true rfl)⟩ (Nat.le_of_ble_eq_true rfl) ⟨(Nat.le_of_ble_eq_true rfl), (Nat.le_of_ble_eq_true rfl)⟩ dM_count_9 rfl) C hw (fun E ce q9 w1 H locs hp hw h1 h2 h3 => ?_) (fun v w1 H locs hp hw => ?_)
    · exact hp.elim
    obtain ⟨rfl, rfl⟩ := hp
    dsimp only [Option.toList_some, Option.toList_none, List.cons_append, List.nil_append]
    refine lv_if_ne (tgt := 17) hx hb dM_count_12 (by decide) (fun c_12 => ?_) (fun q9 => absurd q9 (by decide))
    refine q_iload_n hx hb hl dM_count_17 rfl ?_
    refine lv_iconst (v := 4) hx hb dM_count_18 (by decide) ?_
    refine lv_icmp_ge (tgt := 62) hx hb dM_count_19 (by decide) (fun c_19 => ?_) (fun q9 => absurd (by decide) q9)
    refine q_iload_n hx hb hl dM_count_62 rfl ?_
    refine lv_bipush (v := 7) hx hb dM_count_63 (by decide) ?_
    refine lv_icmp_ge (tgt := 97) hx hb dM_count_65 (by decide) (fun c_65 => ?_) (fun q9 => absurd (by decide) q9)
    refine lv_iconst (v := 0) hx hb dM_count_97 (by decide) ?_
    refine q_istore_n hx hb hl dM_count_98 (by decide) (fun ls hl => ?_)
    refine lv_iconst (v := 0) hx hb dM_count_99 (by decide) ?_
    refine q_istore_n hx hb hl dM_count_100 (by decide) (fun ls hl => ?_)
    have L101 : ∀ (n : Nat) (q : Nat) (k : Int32), q + n = 8 → tf_sum σ n q k = tf_sum σ 8 0 0 → ∀ (H : Heap) (locs : List Loc) (ls : Array Slot), wl D A s (wM ct am N 0 σ) H locs → lq ls 4 [some (.ref (am 0)), some (.int 7), some (.int k), some (.int (nI q))] → W p l e (r0 1) s m args below meth c H locs 0 0 Q (F0 m 101 ls []) := by
      intro n
      induction n with
      | zero =>
        intro q k hn he H locs ls hw hl
        refine q_iload_n hx hb hl dM_count_101 rfl ?_
        refine lv_bipush (v := 8) hx hb dM_count_102 (by decide) ?_
        refine lv_icmp_ge (tgt := 122) hx hb dM_count_104 (by decide) (fun c_104 => ?_) (fun q9 => absurd (show nI 8 ≤ nI q from nI_le (by omega) (by omega)) q9)
        refine q_iload_n hx hb hl dM_count_122 rfl ?_
        exact tr_i hQ C hw hr (Nat.le_of_ble_eq_true rfl) (Nat.le_of_ble_eq_true rfl) dM_count_123 ⟨by rw [show tf_cntA N σ 7 = tf_sum σ 8 0 0 from rfl, ← he]; rfl, rfl⟩
      | succ n ih =>
        intro q k hn he H locs ls hw hl
        have hq : q < 8 := by omega
        refine q_iload_n hx hb hl dM_count_101 rfl ?_
        refine lv_bipush (v := 8) hx hb dM_count_102 (by decide) ?_
        refine lv_icmp_ge (tgt := 122) hx hb dM_count_104 (by decide) (fun q9 => absurd q9 (show ¬ nI 8 ≤ nI q from nI_ge hq (by omega))) (fun c_104 => ?_)
        refine q_iload_n hx hb hl dM_count_107 rfl ?_
        refine q_aload_n hx hb hl dM_count_108 rfl ?_
        refine mg C hw 22 l_M_45 (by decide) rfl dM_count_109 ?_
        refine q_iload_n hx hb hl dM_count_112 rfl ?_
        refine mr_10 C hw (by assumption) rfl dM_count_113 ?_
        refine lv_iadd hx hb dM_count_114 ?_
        refine q_istore_n hx hb hl dM_count_115 (by decide) (fun ls hl => ?_)
        refine q_inc hx hb hl dM_count_116 rfl (by decide) (fun ls hl => ?_)
        refine lv_goto (tgt := 101) hx hb dM_count_119 (by decide) ?_
        exact ih _ _ (by omega) (by rw [← he]; rfl) _ _ _ hw hl
    exact L101 8 0 _ (by omega) rfl _ _ _ hw hl
  · refine q_aload_n hx hb hl dM_count_0 rfl ?_
    refine lv_iconst (v := 0) hx hb dM_count_1 (by decide) ?_
    refine mp_0 C hw l_M_64 dM_count_2 (fun H locs hw => ?_)
    refine q_iload_n hx hb hl dM_count_5 rfl ?_
    refine lv_iconst (v := 0) hx hb dM_count_6 (by decide) ?_
    refine lv_bipush (v := 7) hx hb dM_count_7 (by decide) ?_
    refine tc_E (tc_S C hl (w_bad l hst D ct (wM ct am N 0 σ) _ p0 0 7 (bad7 g9)) hw.1 hw.2.1 hw.2.2 g_M_67 hd_M_within rfl rfl ⟨(Nat.le_of_ble_eq_true rfl), (Nat.le_of_ble_eq_true rfl)⟩ (Nat.le_of_ble_eq_true rfl) ⟨(Nat.le_of_ble_eq_true rfl), (Nat.le_of_ble_eq_true rfl)⟩ dM_count_9 rfl) C hw (fun E ce q9 w1 H locs hp hw h1 h2 h3 => ?_) (fun v w1 H locs hp hw => ?_)
    · exact hp.elim
    obtain ⟨rfl, rfl⟩ := hp
    dsimp only [Option.toList_some, Option.toList_none, List.cons_append, List.nil_append]
    refine lv_if_ne (tgt := 17) hx hb dM_count_12 (by decide) (fun q9 => absurd rfl q9) (fun c_12 => ?_)
    refine lv_iconst (v := -1) hx hb dM_count_15 (by decide) ?_
    exact tr_i hQ C hw hr (Nat.le_of_ble_eq_true rfl) (Nat.le_of_ble_eq_true rfl) dM_count_16 ⟨by rw [tf_cntA, if_neg g.1, if_neg g.2.1, if_neg g.2.2.1, if_neg g.2.2.2.1, if_neg g.2.2.2.2.1, if_neg g.2.2.2.2.2.1, if_neg g.2.2.2.2.2.2.1, if_neg g.2.2.2.2.2.2.2], rfl⟩
