set_option maxHeartbeats 4000000 in
set_option maxRecDepth 100000 in
theorem c_rule (l : Launch) (hst : l.stackTraces = false) (D : va_G) (ct : Ct) (ad : Ad) (N : Nat) (hN : N ≤ 16) (σ : St) (sz : Nat) (x : Int32) : Kt l yT_rule cT_rule 3 (some .int) (r1 8) 1 6 D ct [.ref (ad 0 0), .int x] sz (wT ct ad N σ) (fun v w => (¬ x < 0 ∧ x ≤ 3) ∧ v = some (.int (σ 0 0 0)) ∧ w = wT ct ad N (su σ 0 0 0 x)) (fun E w => (x < 0 ∨ ¬ x ≤ 3) ∧ E = "java/lang/IllegalArgumentException" ∧ w = wT ct ad N σ) := by
  refine kt_of hst (by decide) (Nat.le_of_ble_eq_true rfl) (by simp [Value.category]) ?_
  intro p e s m args below meth c A ls C hne hr hw hl Q hQ
  have hx := C.1
  have hb := C.2.1
  rcases argc x 0 3 with h | h
  · refine q_iload_n hx hb hl dT_rule_0 rfl ?_
    refine lv_iconst (v := 0) hx hb dT_rule_1 (by decide) ?_
    refine lv_iconst (v := 3) hx hb dT_rule_2 (by decide) ?_
    refine tc_E (tc_S C hl (c_carg l hst D ct (wT ct ad N σ) _ x 0 3 h.1 h.2) hw.1 hw.2.1 hw.2.2 g_T_40 hd_T_checkArgument rfl rfl ⟨(Nat.le_of_ble_eq_true rfl), (Nat.le_of_ble_eq_true rfl)⟩ (Nat.le_of_ble_eq_true rfl) ⟨(Nat.le_of_ble_eq_true rfl), (Nat.le_of_ble_eq_true rfl)⟩ dT_rule_3 rfl) C hw (fun E ce q9 w1 H locs hp hw h1 h2 h3 => ?_) (fun v w1 H locs hp hw => ?_)
    · exact hp.elim
    obtain ⟨rfl, rfl⟩ := hp
    dsimp only [Option.toList_some, Option.toList_none, List.cons_append, List.nil_append]
    refine q_aload_n hx hb hl dT_rule_6 rfl ?_
    refine tg_T C hw 2 l_T_44 (by decide) rfl dT_rule_7 ?_
    refine q_istore_n hx hb hl dT_rule_10 (by decide) (fun ls hl => ?_)
    refine q_aload_n hx hb hl dT_rule_11 rfl ?_
    refine q_iload_n hx hb hl dT_rule_12 rfl ?_
    refine tp_T C hw 0 l_T_44 (by decide) dT_rule_13 (fun H locs hw => ?_)
    refine q_iload_n hx hb hl dT_rule_16 rfl ?_
    exact tr_i hQ C hw hr (Nat.le_of_ble_eq_true rfl) (Nat.le_of_ble_eq_true rfl) dT_rule_17 ⟨h, rfl, rfl⟩
  · refine q_iload_n hx hb hl dT_rule_0 rfl ?_
    refine lv_iconst (v := 0) hx hb dT_rule_1 (by decide) ?_
    refine lv_iconst (v := 3) hx hb dT_rule_2 (by decide) ?_
    refine tc_E (tc_S C hl (x_carg l hst D ct (wT ct ad N σ) _ x 0 3 h) hw.1 hw.2.1 hw.2.2 g_T_40 hd_T_checkArgument rfl rfl ⟨(Nat.le_of_ble_eq_true rfl), (Nat.le_of_ble_eq_true rfl)⟩ (Nat.le_of_ble_eq_true rfl) ⟨(Nat.le_of_ble_eq_true rfl), (Nat.le_of_ble_eq_true rfl)⟩ dT_rule_3 rfl) C hw (fun E ce q9 w1 H locs hp hw h1 h2 h3 => ?_) (fun v w1 H locs hp hw => ?_)
    · obtain ⟨rfl, rfl⟩ := hp
      exact tr_x hQ C hne hw (Nat.le_of_ble_eq_true rfl) (Nat.le_of_ble_eq_true rfl) ⟨h, rfl, rfl⟩ h1 h2 h3
    · exact hp.elim
set_option maxHeartbeats 4000000 in
set_option maxRecDepth 100000 in
theorem c_bound (l : Launch) (hst : l.stackTraces = false) (D : va_G) (ct : Ct) (ad : Ad) (N : Nat) (hN : N ≤ 16) (σ : St) (sz : Nat) (x : Int32) : Kt l yT_bound cT_bound 3 (some .int) (r1 8) 1 6 D ct [.ref (ad 0 0), .int x] sz (wT ct ad N σ) (fun v w => (¬ x < 0 ∧ x ≤ 1000) ∧ v = some (.int (σ 0 0 1)) ∧ w = wT ct ad N (su σ 0 0 1 x)) (fun E w => (x < 0 ∨ ¬ x ≤ 1000) ∧ E = "java/lang/IllegalArgumentException" ∧ w = wT ct ad N σ) := by
  refine kt_of hst (by decide) (Nat.le_of_ble_eq_true rfl) (by simp [Value.category]) ?_
  intro p e s m args below meth c A ls C hne hr hw hl Q hQ
  have hx := C.1
  have hb := C.2.1
  rcases argc x 0 1000 with h | h
  · refine q_iload_n hx hb hl dT_bound_0 rfl ?_
    refine lv_iconst (v := 0) hx hb dT_bound_1 (by decide) ?_
    refine lv_sipush (v := 1000) hx hb dT_bound_2 (by decide) ?_
    refine tc_E (tc_S C hl (c_carg l hst D ct (wT ct ad N σ) _ x 0 1000 h.1 h.2) hw.1 hw.2.1 hw.2.2 g_T_40 hd_T_checkArgument rfl rfl ⟨(Nat.le_of_ble_eq_true rfl), (Nat.le_of_ble_eq_true rfl)⟩ (Nat.le_of_ble_eq_true rfl) ⟨(Nat.le_of_ble_eq_true rfl), (Nat.le_of_ble_eq_true rfl)⟩ dT_bound_5 rfl) C hw (fun E ce q9 w1 H locs hp hw h1 h2 h3 => ?_) (fun v w1 H locs hp hw => ?_)
    · exact hp.elim
    obtain ⟨rfl, rfl⟩ := hp
    dsimp only [Option.toList_some, Option.toList_none, List.cons_append, List.nil_append]
    refine q_aload_n hx hb hl dT_bound_8 rfl ?_
    refine tg_T C hw 3 l_T_47 (by decide) rfl dT_bound_9 ?_
    refine q_istore_n hx hb hl dT_bound_12 (by decide) (fun ls hl => ?_)
    refine q_aload_n hx hb hl dT_bound_13 rfl ?_
    refine q_iload_n hx hb hl dT_bound_14 rfl ?_
    refine tp_T C hw 1 l_T_47 (by decide) dT_bound_15 (fun H locs hw => ?_)
    refine q_iload_n hx hb hl dT_bound_18 rfl ?_
    exact tr_i hQ C hw hr (Nat.le_of_ble_eq_true rfl) (Nat.le_of_ble_eq_true rfl) dT_bound_19 ⟨h, rfl, rfl⟩
  · refine q_iload_n hx hb hl dT_bound_0 rfl ?_
    refine lv_iconst (v := 0) hx hb dT_bound_1 (by decide) ?_
    refine lv_sipush (v := 1000) hx hb dT_bound_2 (by decide) ?_
    refine tc_E (tc_S C hl (x_carg l hst D ct (wT ct ad N σ) _ x 0 1000 h) hw.1 hw.2.1 hw.2.2 g_T_40 hd_T_checkArgument rfl rfl ⟨(Nat.le_of_ble_eq_true rfl), (Nat.le_of_ble_eq_true rfl)⟩ (Nat.le_of_ble_eq_true rfl) ⟨(Nat.le_of_ble_eq_true rfl), (Nat.le_of_ble_eq_true rfl)⟩ dT_bound_5 rfl) C hw (fun E ce q9 w1 H locs hp hw h1 h2 h3 => ?_) (fun v w1 H locs hp hw => ?_)
    · obtain ⟨rfl, rfl⟩ := hp
      exact tr_x hQ C hne hw (Nat.le_of_ble_eq_true rfl) (Nat.le_of_ble_eq_true rfl) ⟨h, rfl, rfl⟩ h1 h2 h3
    · exact hp.elim
set_option maxHeartbeats 4000000 in
set_option maxRecDepth 100000 in
theorem c_cost (l : Launch) (hst : l.stackTraces = false) (D : va_G) (ct : Ct) (ad : Ad) (N : Nat) (hN : N ≤ 16) (σ : St) (sz : Nat) (x : Int32) : Kt l yT_cost cT_cost 3 (some .int) (r1 8) 1 6 D ct [.ref (ad 0 0), .int x] sz (wT ct ad N σ) (fun v w => (¬ x < 0 ∧ x ≤ 20) ∧ v = some (.int (σ 0 0 2)) ∧ w = wT ct ad N (su σ 0 0 2 x)) (fun E w => (x < 0 ∨ ¬ x ≤ 20) ∧ E = "java/lang/IllegalArgumentException" ∧ w = wT ct ad N σ) := by
  refine kt_of hst (by decide) (Nat.le_of_ble_eq_true rfl) (by simp [Value.category]) ?_
  intro p e s m args below meth c A ls C hne hr hw hl Q hQ
  have hx := C.1
  have hb := C.2.1
  rcases argc x 0 20 with h | h
  · refine q_iload_n hx hb hl dT_cost_0 rfl ?_
    refine lv_iconst (v := 0) hx hb dT_cost_1 (by decide) ?_
    refine lv_bipush (v := 20) hx hb dT_cost_2 (by decide) ?_
    refine tc_E (tc_S C hl (c_carg l hst D ct (wT ct ad N σ) _ x 0 20 h.1 h.2) hw.1 hw.2.1 hw.2.2 g_T_40 hd_T_checkArgument rfl rfl ⟨(Nat.le_of_ble_eq_true rfl), (Nat.le_of_ble_eq_true rfl)⟩ (Nat.le_of_ble_eq_true rfl) ⟨(Nat.le_of_ble_eq_true rfl), (Nat.le_of_ble_eq_true rfl)⟩ dT_cost_4 rfl) C hw (fun E ce q9 w1 H locs hp hw h1 h2 h3 => ?_) (fun v w1 H locs hp hw => ?_)
    · exact hp.elim
    obtain ⟨rfl, rfl⟩ := hp
    dsimp only [Option.toList_some, Option.toList_none, List.cons_append, List.nil_append]
    refine q_aload_n hx hb hl dT_cost_7 rfl ?_
    refine tg_T C hw 4 l_T_50 (by decide) rfl dT_cost_8 ?_
    refine q_istore_n hx hb hl dT_cost_11 (by decide) (fun ls hl => ?_)
    refine q_aload_n hx hb hl dT_cost_12 rfl ?_
    refine q_iload_n hx hb hl dT_cost_13 rfl ?_
    refine tp_T C hw 2 l_T_50 (by decide) dT_cost_14 (fun H locs hw => ?_)
    refine q_iload_n hx hb hl dT_cost_17 rfl ?_
    exact tr_i hQ C hw hr (Nat.le_of_ble_eq_true rfl) (Nat.le_of_ble_eq_true rfl) dT_cost_18 ⟨h, rfl, rfl⟩
  · refine q_iload_n hx hb hl dT_cost_0 rfl ?_
    refine lv_iconst (v := 0) hx hb dT_cost_1 (by decide) ?_
    refine lv_bipush (v := 20) hx hb dT_cost_2 (by decide) ?_
    refine tc_E (tc_S C hl (x_carg l hst D ct (wT ct ad N σ) _ x 0 20 h) hw.1 hw.2.1 hw.2.2 g_T_40 hd_T_checkArgument rfl rfl ⟨(Nat.le_of_ble_eq_true rfl), (Nat.le_of_ble_eq_true rfl)⟩ (Nat.le_of_ble_eq_true rfl) ⟨(Nat.le_of_ble_eq_true rfl), (Nat.le_of_ble_eq_true rfl)⟩ dT_cost_4 rfl) C hw (fun E ce q9 w1 H locs hp hw h1 h2 h3 => ?_) (fun v w1 H locs hp hw => ?_)
    · obtain ⟨rfl, rfl⟩ := hp
      exact tr_x hQ C hne hw (Nat.le_of_ble_eq_true rfl) (Nat.le_of_ble_eq_true rfl) ⟨h, rfl, rfl⟩ h1 h2 h3
    · exact hp.elim
set_option maxHeartbeats 4000000 in
set_option maxRecDepth 100000 in
theorem c_ready (l : Launch) (hst : l.stackTraces = false) (D : va_G) (ct : Ct) (ad : Ad) (N : Nat) (hN : N ≤ 16) (σ : St) (sz : Nat) (hbo : ∀ t, t < N → σ 1 t 0 = 0 ∨ σ 1 t 0 = 1) (p0 p1 : Int32) (hz : p1 = 0 ∨ p1 = 1) : Kt l yT_ready cT_ready 5 (some .boolean) (r1 8) 1 6 D ct [.ref (ad 0 0), .int p0, .int p1] sz (wT ct ad N σ) (fun v w => ∃ t, t < N ∧ p0 = nI t ∧ v = some (.int (σ 1 t 0)) ∧ w = wT ct ad N (su σ 1 t 0 p1)) (fun E w => (p0 < 0 ∨ ¬ p0 < nI N) ∧ E = "java/lang/IndexOutOfBoundsException" ∧ w = wT ct ad N σ) := by
  refine kt_of hst (by decide) (Nat.le_of_ble_eq_true rfl) (by simp [Value.category]) ?_
  intro p e s m args below meth c A ls C hne hr hw hl Q hQ
  have hx := C.1
  have hb := C.2.1
  rcases ixc p0 N (by omega) with ⟨t, ht, rfl⟩ | h
  · refine q_aload_n hx hb hl dT_ready_0 rfl ?_
    refine q_iload_n hx hb hl dT_ready_1 rfl ?_
    refine tc_E (tc_V C hl (c_str l hst D ct ad N hN σ _ t ht _ rfl) hw.1 hw.2.1 hw.2.2 g_T_53 (re_T C hw) hv_T_strandOf rfl rfl ⟨(Nat.le_of_ble_eq_true rfl), (Nat.le_of_ble_eq_true rfl)⟩ (Nat.le_of_ble_eq_true rfl) ⟨(Nat.le_of_ble_eq_true rfl), (Nat.le_of_ble_eq_true rfl)⟩ dT_ready_2 rfl) C hw (fun E ce q9 w1 H locs hp hw h1 h2 h3 => ?_) (fun v w1 H locs hp hw => ?_)
    · exact hp.elim
    obtain ⟨rfl, rfl⟩ := hp
    dsimp only [Option.toList_some, Option.toList_none, List.cons_append, List.nil_append]
    refine q_astore_n hx hb hl dT_ready_5 (by decide) (fun ls hl => ?_)
    refine q_aload_n hx hb hl dT_ready_6 rfl ?_
    refine tg_S C hw 1 l_T_57 (by decide) (by assumption) rfl dT_ready_7 ?_
    refine q_istore hx hb hl dT_ready_10 (by decide) (fun ls hl => ?_)
    refine q_aload_n hx hb hl dT_ready_12 rfl ?_
    refine q_iload_n hx hb hl dT_ready_13 rfl ?_
    refine tp_S C hw 0 l_T_57 (by decide) (by assumption) (fun _ => hz) dT_ready_14 (fun H locs hw => ?_)
    refine q_iload hx hb hl dT_ready_17 rfl ?_
    exact tr_z hQ C hw hr (Nat.le_of_ble_eq_true rfl) (Nat.le_of_ble_eq_true rfl) dT_ready_19 (hbo t ht) ⟨t, ht, rfl, rfl, rfl⟩
  · refine q_aload_n hx hb hl dT_ready_0 rfl ?_
    refine q_iload_n hx hb hl dT_ready_1 rfl ?_
    refine tc_E (tc_V C hl (x_str l hst D ct ad N hN σ _ p0 h) hw.1 hw.2.1 hw.2.2 g_T_53 (re_T C hw) hv_T_strandOf rfl rfl ⟨(Nat.le_of_ble_eq_true rfl), (Nat.le_of_ble_eq_true rfl)⟩ (Nat.le_of_ble_eq_true rfl) ⟨(Nat.le_of_ble_eq_true rfl), (Nat.le_of_ble_eq_true rfl)⟩ dT_ready_2 rfl) C hw (fun E ce q9 w1 H locs hp hw h1 h2 h3 => ?_) (fun v w1 H locs hp hw => ?_)
    · obtain ⟨rfl, rfl⟩ := hp
      exact tr_x hQ C hne hw (Nat.le_of_ble_eq_true rfl) (Nat.le_of_ble_eq_true rfl) ⟨h, rfl, rfl⟩ h1 h2 h3
    · exact hp.elim
set_option maxHeartbeats 4000000 in
set_option maxRecDepth 100000 in
theorem c_rank (l : Launch) (hst : l.stackTraces = false) (D : va_G) (ct : Ct) (ad : Ad) (N : Nat) (hN : N ≤ 16) (σ : St) (sz : Nat) (p0 p1 : Int32) : Kt l yT_rank cT_rank 5 (some .int) (r1 8) 1 6 D ct [.ref (ad 0 0), .int p0, .int p1] sz (wT ct ad N σ) (fun v w => ∃ t, t < N ∧ p0 = nI t ∧ (¬ p1 < 0 ∧ p1 ≤ 15) ∧ v = some (.int (σ 1 t 1)) ∧ w = wT ct ad N (su σ 1 t 1 p1)) (fun E w => ((p0 < 0 ∨ ¬ p0 < nI N) ∧ E = "java/lang/IndexOutOfBoundsException" ∨ (∃ t, t < N ∧ p0 = nI t) ∧ (p1 < 0 ∨ ¬ p1 ≤ 15) ∧ E = "java/lang/IllegalArgumentException") ∧ w = wT ct ad N σ) := by
  refine kt_of hst (by decide) (Nat.le_of_ble_eq_true rfl) (by simp [Value.category]) ?_
  intro p e s m args below meth c A ls C hne hr hw hl Q hQ
  have hx := C.1
  have hb := C.2.1
  rcases ixc p0 N (by omega) with ⟨t, ht, rfl⟩ | h
  · rcases argc p1 0 15 with g | g
    · refine q_aload_n hx hb hl dT_rank_0 rfl ?_
      refine q_iload_n hx hb hl dT_rank_1 rfl ?_
      refine tc_E (tc_V C hl (c_str l hst D ct ad N hN σ _ t ht _ rfl) hw.1 hw.2.1 hw.2.2 g_T_53 (re_T C hw) hv_T_strandOf rfl rfl ⟨(Nat.le_of_ble_eq_true rfl), (Nat.le_of_ble_eq_true rfl)⟩ (Nat.le_of_ble_eq_true rfl) ⟨(Nat.le_of_ble_eq_true rfl), (Nat.le_of_ble_eq_true rfl)⟩ dT_rank_2 rfl) C hw (fun E ce q9 w1 H locs hp hw h1 h2 h3 => ?_) (fun v w1 H locs hp hw => ?_)
      · exact hp.elim
      obtain ⟨rfl, rfl⟩ := hp
      dsimp only [Option.toList_some, Option.toList_none, List.cons_append, List.nil_append]
      refine q_astore_n hx hb hl dT_rank_5 (by decide) (fun ls hl => ?_)
      refine q_iload_n hx hb hl dT_rank_6 rfl ?_
      refine lv_iconst (v := 0) hx hb dT_rank_7 (by decide) ?_
      refine lv_bipush (v := 15) hx hb dT_rank_8 (by decide) ?_
      refine tc_E (tc_S C hl (c_carg l hst D ct (wT ct ad N σ) _ p1 0 15 g.1 g.2) hw.1 hw.2.1 hw.2.2 g_T_40 hd_T_checkArgument rfl rfl ⟨(Nat.le_of_ble_eq_true rfl), (Nat.le_of_ble_eq_true rfl)⟩ (Nat.le_of_ble_eq_true rfl) ⟨(Nat.le_of_ble_eq_true rfl), (Nat.le_of_ble_eq_true rfl)⟩ dT_rank_10 rfl) C hw (fun E ce q9 w1 H locs hp hw h1 h2 h3 => ?_) (fun v w1 H locs hp hw => ?_)
      · exact hp.elim
      obtain ⟨rfl, rfl⟩ := hp
      dsimp only [Option.toList_some, Option.toList_none, List.cons_append, List.nil_append]
      refine q_aload_n hx hb hl dT_rank_13 rfl ?_
      refine tg_S C hw 2 l_T_61 (by decide) (by assumption) rfl dT_rank_14 ?_
      refine q_istore hx hb hl dT_rank_17 (by decide) (fun ls hl => ?_)
      refine q_aload_n hx hb hl dT_rank_19 rfl ?_
      refine q_iload_n hx hb hl dT_rank_20 rfl ?_
      refine tp_S C hw 1 l_T_61 (by decide) (by assumption) (fun q => absurd q (by decide)) dT_rank_21 (fun H locs hw => ?_)
      refine q_iload hx hb hl dT_rank_24 rfl ?_
      exact tr_i hQ C hw hr (Nat.le_of_ble_eq_true rfl) (Nat.le_of_ble_eq_true rfl) dT_rank_26 ⟨t, ht, rfl, g, rfl, rfl⟩
    · refine q_aload_n hx hb hl dT_rank_0 rfl ?_
      refine q_iload_n hx hb hl dT_rank_1 rfl ?_
      refine tc_E (tc_V C hl (c_str l hst D ct ad N hN σ _ t ht _ rfl) hw.1 hw.2.1 hw.2.2 g_T_53 (re_T C hw) hv_T_strandOf rfl rfl ⟨(Nat.le_of_ble_eq_true rfl), (Nat.le_of_ble_eq_true rfl)⟩ (Nat.le_of_ble_eq_true rfl) ⟨(Nat.le_of_ble_eq_true rfl), (Nat.le_of_ble_eq_true rfl)⟩ dT_rank_2 rfl) C hw (fun E ce q9 w1 H locs hp hw h1 h2 h3 => ?_) (fun v w1 H locs hp hw => ?_)
      · exact hp.elim
      obtain ⟨rfl, rfl⟩ := hp
      dsimp only [Option.toList_some, Option.toList_none, List.cons_append, List.nil_append]
      refine q_astore_n hx hb hl dT_rank_5 (by decide) (fun ls hl => ?_)
      refine q_iload_n hx hb hl dT_rank_6 rfl ?_
      refine lv_iconst (v := 0) hx hb dT_rank_7 (by decide) ?_
      refine lv_bipush (v := 15) hx hb dT_rank_8 (by decide) ?_
      refine tc_E (tc_S C hl (x_carg l hst D ct (wT ct ad N σ) _ p1 0 15 g) hw.1 hw.2.1 hw.2.2 g_T_40 hd_T_checkArgument rfl rfl ⟨(Nat.le_of_ble_eq_true rfl), (Nat.le_of_ble_eq_true rfl)⟩ (Nat.le_of_ble_eq_true rfl) ⟨(Nat.le_of_ble_eq_true rfl), (Nat.le_of_ble_eq_true rfl)⟩ dT_rank_10 rfl) C hw (fun E ce q9 w1 H locs hp hw h1 h2 h3 => ?_) (fun v w1 H locs hp hw => ?_)
      · obtain ⟨rfl, rfl⟩ := hp
        exact tr_x hQ C hne hw (Nat.le_of_ble_eq_true rfl) (Nat.le_of_ble_eq_true rfl) ⟨Or.inr ⟨⟨t, ht, rfl⟩, g, rfl⟩, rfl⟩ h1 h2 h3
      · exact hp.elim
  · refine q_aload_n hx hb hl dT_rank_0 rfl ?_
    refine q_iload_n hx hb hl dT_rank_1 rfl ?_
    refine tc_E (tc_V C hl (x_str l hst D ct ad N hN σ _ p0 h) hw.1 hw.2.1 hw.2.2 g_T_53 (re_T C hw) hv_T_strandOf rfl rfl ⟨(Nat.le_of_ble_eq_true rfl), (Nat.le_of_ble_eq_true rfl)⟩ (Nat.le_of_ble_eq_true rfl) ⟨(Nat.le_of_ble_eq_true rfl), (Nat.le_of_ble_eq_true rfl)⟩ dT_rank_2 rfl) C hw (fun E ce q9 w1 H locs hp hw h1 h2 h3 => ?_) (fun v w1 H locs hp hw => ?_)
    · obtain ⟨rfl, rfl⟩ := hp
      exact tr_x hQ C hne hw (Nat.le_of_ble_eq_true rfl) (Nat.le_of_ble_eq_true rfl) ⟨Or.inl ⟨h, rfl⟩, rfl⟩ h1 h2 h3
    · exact hp.elim
set_option maxHeartbeats 4000000 in
set_option maxRecDepth 100000 in
theorem c_sleep (l : Launch) (hst : l.stackTraces = false) (D : va_G) (ct : Ct) (ad : Ad) (N : Nat) (hN : N ≤ 16) (σ : St) (sz : Nat) (p0 p1 : Int32) : Kt l yT_sleep cT_sleep 5 (some .int) (r1 8) 1 6 D ct [.ref (ad 0 0), .int p0, .int p1] sz (wT ct ad N σ) (fun v w => ∃ t, t < N ∧ p0 = nI t ∧ (¬ p1 < 0 ∧ p1 ≤ 1000000) ∧ v = some (.int (σ 1 t 2)) ∧ w = wT ct ad N (su σ 1 t 2 p1)) (fun E w => ((p0 < 0 ∨ ¬ p0 < nI N) ∧ E = "java/lang/IndexOutOfBoundsException" ∨ (∃ t, t < N ∧ p0 = nI t) ∧ (p1 < 0 ∨ ¬ p1 ≤ 1000000) ∧ E = "java/lang/IllegalArgumentException") ∧ w = wT ct ad N σ) := by
  refine kt_of hst (by decide) (Nat.le_of_ble_eq_true rfl) (by simp [Value.category]) ?_
  intro p e s m args below meth c A ls C hne hr hw hl Q hQ
  have hx := C.1
  have hb := C.2.1
  rcases ixc p0 N (by omega) with ⟨t, ht, rfl⟩ | h
  · rcases argc p1 0 1000000 with g | g
    · refine q_aload_n hx hb hl dT_sleep_0 rfl ?_
      refine q_iload_n hx hb hl dT_sleep_1 rfl ?_
      refine tc_E (tc_V C hl (c_str l hst D ct ad N hN σ _ t ht _ rfl) hw.1 hw.2.1 hw.2.2 g_T_53 (re_T C hw) hv_T_strandOf rfl rfl ⟨(Nat.le_of_ble_eq_true rfl), (Nat.le_of_ble_eq_true rfl)⟩ (Nat.le_of_ble_eq_true rfl) ⟨(Nat.le_of_ble_eq_true rfl), (Nat.le_of_ble_eq_true rfl)⟩ dT_sleep_2 rfl) C hw (fun E ce q9 w1 H locs hp hw h1 h2 h3 => ?_) (fun v w1 H locs hp hw => ?_)
      · exact hp.elim
      obtain ⟨rfl, rfl⟩ := hp
      dsimp only [Option.toList_some, Option.toList_none, List.cons_append, List.nil_append]
      refine q_astore_n hx hb hl dT_sleep_5 (by decide) (fun ls hl => ?_)
      refine q_iload_n hx hb hl dT_sleep_6 rfl ?_
      refine lv_iconst (v := 0) hx hb dT_sleep_7 (by decide) ?_
      refine lv_ldc hx hb C.2.2.2.1 (C.2.2.2.2.1 _ k_T_64) dT_sleep_8 ?_
      refine tc_E (tc_S C hl (c_carg l hst D ct (wT ct ad N σ) _ p1 0 1000000 g.1 g.2) hw.1 hw.2.1 hw.2.2 g_T_40 hd_T_checkArgument rfl rfl ⟨(Nat.le_of_ble_eq_true rfl), (Nat.le_of_ble_eq_true rfl)⟩ (Nat.le_of_ble_eq_true rfl) ⟨(Nat.le_of_ble_eq_true rfl), (Nat.le_of_ble_eq_true rfl)⟩ dT_sleep_10 rfl) C hw (fun E ce q9 w1 H locs hp hw h1 h2 h3 => ?_) (fun v w1 H locs hp hw => ?_)
      · exact hp.elim
      obtain ⟨rfl, rfl⟩ := hp
      dsimp only [Option.toList_some, Option.toList_none, List.cons_append, List.nil_append]
      refine q_aload_n hx hb hl dT_sleep_13 rfl ?_
      refine tg_S C hw 3 l_T_65 (by decide) (by assumption) rfl dT_sleep_14 ?_
      refine q_istore hx hb hl dT_sleep_17 (by decide) (fun ls hl => ?_)
      refine q_aload_n hx hb hl dT_sleep_19 rfl ?_
      refine q_iload_n hx hb hl dT_sleep_20 rfl ?_
      refine tp_S C hw 2 l_T_65 (by decide) (by assumption) (fun q => absurd q (by decide)) dT_sleep_21 (fun H locs hw => ?_)
      refine q_iload hx hb hl dT_sleep_24 rfl ?_
      exact tr_i hQ C hw hr (Nat.le_of_ble_eq_true rfl) (Nat.le_of_ble_eq_true rfl) dT_sleep_26 ⟨t, ht, rfl, g, rfl, rfl⟩
    · refine q_aload_n hx hb hl dT_sleep_0 rfl ?_
      refine q_iload_n hx hb hl dT_sleep_1 rfl ?_
      refine tc_E (tc_V C hl (c_str l hst D ct ad N hN σ _ t ht _ rfl) hw.1 hw.2.1 hw.2.2 g_T_53 (re_T C hw) hv_T_strandOf rfl rfl ⟨(Nat.le_of_ble_eq_true rfl), (Nat.le_of_ble_eq_true rfl)⟩ (Nat.le_of_ble_eq_true rfl) ⟨(Nat.le_of_ble_eq_true rfl), (Nat.le_of_ble_eq_true rfl)⟩ dT_sleep_2 rfl) C hw (fun E ce q9 w1 H locs hp hw h1 h2 h3 => ?_) (fun v w1 H locs hp hw => ?_)
      · exact hp.elim
      obtain ⟨rfl, rfl⟩ := hp
      dsimp only [Option.toList_some, Option.toList_none, List.cons_append, List.nil_append]
      refine q_astore_n hx hb hl dT_sleep_5 (by decide) (fun ls hl => ?_)
      refine q_iload_n hx hb hl dT_sleep_6 rfl ?_
      refine lv_iconst (v := 0) hx hb dT_sleep_7 (by decide) ?_
      refine lv_ldc hx hb C.2.2.2.1 (C.2.2.2.2.1 _ k_T_64) dT_sleep_8 ?_
      refine tc_E (tc_S C hl (x_carg l hst D ct (wT ct ad N σ) _ p1 0 1000000 g) hw.1 hw.2.1 hw.2.2 g_T_40 hd_T_checkArgument rfl rfl ⟨(Nat.le_of_ble_eq_true rfl), (Nat.le_of_ble_eq_true rfl)⟩ (Nat.le_of_ble_eq_true rfl) ⟨(Nat.le_of_ble_eq_true rfl), (Nat.le_of_ble_eq_true rfl)⟩ dT_sleep_10 rfl) C hw (fun E ce q9 w1 H locs hp hw h1 h2 h3 => ?_) (fun v w1 H locs hp hw => ?_)
      · obtain ⟨rfl, rfl⟩ := hp
        exact tr_x hQ C hne hw (Nat.le_of_ble_eq_true rfl) (Nat.le_of_ble_eq_true rfl) ⟨Or.inr ⟨⟨t, ht, rfl⟩, g, rfl⟩, rfl⟩ h1 h2 h3
      · exact hp.elim
  · refine q_aload_n hx hb hl dT_sleep_0 rfl ?_
    refine q_iload_n hx hb hl dT_sleep_1 rfl ?_
    refine tc_E (tc_V C hl (x_str l hst D ct ad N hN σ _ p0 h) hw.1 hw.2.1 hw.2.2 g_T_53 (re_T C hw) hv_T_strandOf rfl rfl ⟨(Nat.le_of_ble_eq_true rfl), (Nat.le_of_ble_eq_true rfl)⟩ (Nat.le_of_ble_eq_true rfl) ⟨(Nat.le_of_ble_eq_true rfl), (Nat.le_of_ble_eq_true rfl)⟩ dT_sleep_2 rfl) C hw (fun E ce q9 w1 H locs hp hw h1 h2 h3 => ?_) (fun v w1 H locs hp hw => ?_)
    · obtain ⟨rfl, rfl⟩ := hp
      exact tr_x hQ C hne hw (Nat.le_of_ble_eq_true rfl) (Nat.le_of_ble_eq_true rfl) ⟨Or.inl ⟨h, rfl⟩, rfl⟩ h1 h2 h3
    · exact hp.elim
set_option maxHeartbeats 4000000 in
set_option maxRecDepth 100000 in
theorem c_miss (l : Launch) (hst : l.stackTraces = false) (D : va_G) (ct : Ct) (ad : Ad) (N : Nat) (hN : N ≤ 16) (σ : St) (sz : Nat) (p0 : Int32) : Kt l yT_miss cT_miss 3 (some .int) (r1 8) 1 6 D ct [.ref (ad 0 0), .int p0] sz (wT ct ad N σ) (fun v w => ∃ t, t < N ∧ p0 = nI t ∧ v = some (.int (σ 1 t 3 + 1)) ∧ w = wT ct ad N (su σ 1 t 3 (σ 1 t 3 + 1))) (fun E w => (p0 < 0 ∨ ¬ p0 < nI N) ∧ E = "java/lang/IndexOutOfBoundsException" ∧ w = wT ct ad N σ) := by
  refine kt_of hst (by decide) (Nat.le_of_ble_eq_true rfl) (by simp [Value.category]) ?_
  intro p e s m args below meth c A ls C hne hr hw hl Q hQ
  have hx := C.1
  have hb := C.2.1
  rcases ixc p0 N (by omega) with ⟨t, ht, rfl⟩ | h
  · refine q_aload_n hx hb hl dT_miss_0 rfl ?_
    refine q_iload_n hx hb hl dT_miss_1 rfl ?_
    refine tc_E (tc_V C hl (c_str l hst D ct ad N hN σ _ t ht _ rfl) hw.1 hw.2.1 hw.2.2 g_T_53 (re_T C hw) hv_T_strandOf rfl rfl ⟨(Nat.le_of_ble_eq_true rfl), (Nat.le_of_ble_eq_true rfl)⟩ (Nat.le_of_ble_eq_true rfl) ⟨(Nat.le_of_ble_eq_true rfl), (Nat.le_of_ble_eq_true rfl)⟩ dT_miss_2 rfl) C hw (fun E ce q9 w1 H locs hp hw h1 h2 h3 => ?_) (fun v w1 H locs hp hw => ?_)
    · exact hp.elim
    obtain ⟨rfl, rfl⟩ := hp
    dsimp only [Option.toList_some, Option.toList_none, List.cons_append, List.nil_append]
    refine q_astore_n hx hb hl dT_miss_5 (by decide) (fun ls hl => ?_)
    refine q_aload_n hx hb hl dT_miss_6 rfl ?_
    refine lv_dup hx hb dT_miss_7 rfl ?_
    refine tg_S C hw 4 l_T_68 (by decide) (by assumption) rfl dT_miss_8 ?_
    refine lv_iconst (v := 1) hx hb dT_miss_11 (by decide) ?_
    refine lv_iadd hx hb dT_miss_12 ?_
    refine tp_S C hw 3 l_T_68 (by decide) (by assumption) (fun q => absurd q (by decide)) dT_miss_13 (fun H locs hw => ?_)
    refine q_aload_n hx hb hl dT_miss_16 rfl ?_
    refine tg_S C hw 4 l_T_68 (by decide) (by assumption) rfl dT_miss_17 ?_
    exact tr_i hQ C hw hr (Nat.le_of_ble_eq_true rfl) (Nat.le_of_ble_eq_true rfl) dT_miss_20 ⟨t, ht, rfl, by rw [su_eq], rfl⟩
  · refine q_aload_n hx hb hl dT_miss_0 rfl ?_
    refine q_iload_n hx hb hl dT_miss_1 rfl ?_
    refine tc_E (tc_V C hl (x_str l hst D ct ad N hN σ _ p0 h) hw.1 hw.2.1 hw.2.2 g_T_53 (re_T C hw) hv_T_strandOf rfl rfl ⟨(Nat.le_of_ble_eq_true rfl), (Nat.le_of_ble_eq_true rfl)⟩ (Nat.le_of_ble_eq_true rfl) ⟨(Nat.le_of_ble_eq_true rfl), (Nat.le_of_ble_eq_true rfl)⟩ dT_miss_2 rfl) C hw (fun E ce q9 w1 H locs hp hw h1 h2 h3 => ?_) (fun v w1 H locs hp hw => ?_)
    · obtain ⟨rfl, rfl⟩ := hp
      exact tr_x hQ C hne hw (Nat.le_of_ble_eq_true rfl) (Nat.le_of_ble_eq_true rfl) ⟨h, rfl, rfl⟩ h1 h2 h3
    · exact hp.elim
set_option maxHeartbeats 4000000 in
set_option maxRecDepth 100000 in
theorem c_reg (l : Launch) (hst : l.stackTraces = false) (D : va_G) (ct : Ct) (ad : Ad) (N : Nat) (hN : N ≤ 16) (σ : St) (sz : Nat) (p0 p1 : Int32) : Kt l yT_register cT_register 4 (some .int) (r1 8) 1 6 D ct [.ref (ad 0 0), .int p0, .int p1] sz (wT ct ad N σ) (fun v w => ∃ t, t < N ∧ p0 = nI t ∧ (∃ k, k < 16 ∧ p1 = nI k ∧ v = some (.int (σ 2 t k))) ∧ w = wT ct ad N σ) (fun E w => ((p0 < 0 ∨ ¬ p0 < nI N) ∨ (∃ t, t < N ∧ p0 = nI t) ∧ (p1 < 0 ∨ ¬ p1 < nI 16)) ∧ E = "java/lang/IndexOutOfBoundsException" ∧ w = wT ct ad N σ) := by
  refine kt_of hst (by decide) (Nat.le_of_ble_eq_true rfl) (by simp [Value.category]) ?_
  intro p e s m args below meth c A ls C hne hr hw hl Q hQ
  have hx := C.1
  have hb := C.2.1
  rcases ixc p0 N (by omega) with ⟨t, ht, rfl⟩ | h
  · rcases ixc p1 16 (by omega) with ⟨k, hk, rfl⟩ | g
    · refine q_aload_n hx hb hl dT_register_0 rfl ?_
      refine q_iload_n hx hb hl dT_register_1 rfl ?_
      refine tc_E (tc_V C hl (c_str l hst D ct ad N hN σ _ t ht _ rfl) hw.1 hw.2.1 hw.2.2 g_T_53 (re_T C hw) hv_T_strandOf rfl rfl ⟨(Nat.le_of_ble_eq_true rfl), (Nat.le_of_ble_eq_true rfl)⟩ (Nat.le_of_ble_eq_true rfl) ⟨(Nat.le_of_ble_eq_true rfl), (Nat.le_of_ble_eq_true rfl)⟩ dT_register_2 rfl) C hw (fun E ce q9 w1 H locs hp hw h1 h2 h3 => ?_) (fun v w1 H locs hp hw => ?_)
      · exact hp.elim
      obtain ⟨rfl, rfl⟩ := hp
      dsimp only [Option.toList_some, Option.toList_none, List.cons_append, List.nil_append]
      refine q_astore_n hx hb hl dT_register_5 (by decide) (fun ls hl => ?_)
      refine q_iload_n hx hb hl dT_register_6 rfl ?_
      refine lv_bipush (v := 16) hx hb dT_register_7 (by decide) ?_
      refine tc_E (tc_S C hl (c_cidx l hst D ct (wT ct ad N σ) _ (nI k) (nI 16) (nI_pos (by omega)) (nI_lt (by omega) (by omega))) hw.1 hw.2.1 hw.2.2 g_T_79 hd_T_checkIndex rfl rfl ⟨(Nat.le_of_ble_eq_true rfl), (Nat.le_of_ble_eq_true rfl)⟩ (Nat.le_of_ble_eq_true rfl) ⟨(Nat.le_of_ble_eq_true rfl), (Nat.le_of_ble_eq_true rfl)⟩ dT_register_9 rfl) C hw (fun E ce q9 w1 H locs hp hw h1 h2 h3 => ?_) (fun v w1 H locs hp hw => ?_)
      · exact hp.elim
      obtain ⟨rfl, rfl⟩ := hp
      dsimp only [Option.toList_some, Option.toList_none, List.cons_append, List.nil_append]
      refine q_aload_n hx hb hl dT_register_12 rfl ?_
      refine tg_S C hw 0 l_T_117 (by decide) (by assumption) rfl dT_register_13 ?_
      refine q_iload_n hx hb hl dT_register_16 rfl ?_
      refine ta_g2 C hw (by assumption) (by assumption) rfl dT_register_17 ?_
      exact tr_i hQ C hw hr (Nat.le_of_ble_eq_true rfl) (Nat.le_of_ble_eq_true rfl) dT_register_18 ⟨t, ht, rfl, ⟨k, hk, rfl, rfl⟩, rfl⟩
    · refine q_aload_n hx hb hl dT_register_0 rfl ?_
      refine q_iload_n hx hb hl dT_register_1 rfl ?_
      refine tc_E (tc_V C hl (c_str l hst D ct ad N hN σ _ t ht _ rfl) hw.1 hw.2.1 hw.2.2 g_T_53 (re_T C hw) hv_T_strandOf rfl rfl ⟨(Nat.le_of_ble_eq_true rfl), (Nat.le_of_ble_eq_true rfl)⟩ (Nat.le_of_ble_eq_true rfl) ⟨(Nat.le_of_ble_eq_true rfl), (Nat.le_of_ble_eq_true rfl)⟩ dT_register_2 rfl) C hw (fun E ce q9 w1 H locs hp hw h1 h2 h3 => ?_) (fun v w1 H locs hp hw => ?_)
      · exact hp.elim
      obtain ⟨rfl, rfl⟩ := hp
      dsimp only [Option.toList_some, Option.toList_none, List.cons_append, List.nil_append]
      refine q_astore_n hx hb hl dT_register_5 (by decide) (fun ls hl => ?_)
      refine q_iload_n hx hb hl dT_register_6 rfl ?_
      refine lv_bipush (v := 16) hx hb dT_register_7 (by decide) ?_
      refine tc_E (tc_S C hl (x_cidx l hst D ct (wT ct ad N σ) _ p1 (nI 16) g) hw.1 hw.2.1 hw.2.2 g_T_79 hd_T_checkIndex rfl rfl ⟨(Nat.le_of_ble_eq_true rfl), (Nat.le_of_ble_eq_true rfl)⟩ (Nat.le_of_ble_eq_true rfl) ⟨(Nat.le_of_ble_eq_true rfl), (Nat.le_of_ble_eq_true rfl)⟩ dT_register_9 rfl) C hw (fun E ce q9 w1 H locs hp hw h1 h2 h3 => ?_) (fun v w1 H locs hp hw => ?_)
      · obtain ⟨rfl, rfl⟩ := hp
        exact tr_x hQ C hne hw (Nat.le_of_ble_eq_true rfl) (Nat.le_of_ble_eq_true rfl) ⟨Or.inr ⟨⟨t, ht, rfl⟩, g⟩, rfl, rfl⟩ h1 h2 h3
      · exact hp.elim
  · refine q_aload_n hx hb hl dT_register_0 rfl ?_
    refine q_iload_n hx hb hl dT_register_1 rfl ?_
    refine tc_E (tc_V C hl (x_str l hst D ct ad N hN σ _ p0 h) hw.1 hw.2.1 hw.2.2 g_T_53 (re_T C hw) hv_T_strandOf rfl rfl ⟨(Nat.le_of_ble_eq_true rfl), (Nat.le_of_ble_eq_true rfl)⟩ (Nat.le_of_ble_eq_true rfl) ⟨(Nat.le_of_ble_eq_true rfl), (Nat.le_of_ble_eq_true rfl)⟩ dT_register_2 rfl) C hw (fun E ce q9 w1 H locs hp hw h1 h2 h3 => ?_) (fun v w1 H locs hp hw => ?_)
    · obtain ⟨rfl, rfl⟩ := hp
      exact tr_x hQ C hne hw (Nat.le_of_ble_eq_true rfl) (Nat.le_of_ble_eq_true rfl) ⟨Or.inl h, rfl, rfl⟩ h1 h2 h3
    · exact hp.elim
