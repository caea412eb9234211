set_option maxHeartbeats 4000000 in
set_option maxRecDepth 100000 in
theorem m_cyc (l : Launch) (hst : l.stackTraces = false) (D : va_G) (ct : Ct) (am : Nat → Nat) (N : Nat) (hN : N ≤ 16) (h0 : 0 < N) (th : Int32) (σ : St) (sz : Nat) (h4 : ix N (mf_p1 N σ 0 0 4)) (h5 : ix N (mf_p1 N σ 0 0 5)) (hm : 0 ≤ mf_top (mf_p1 N σ) N 0 (-1) → ¬ mf_cnt (mf_p1 N σ) (mf_top (mf_p1 N σ) N 0 (-1)) N 0 0 = 0) : Kt l yM_cycle cM_cycle 1 (some .int) (r0 5) 0 0 D ct [.ref (am 0)] sz (wM ct am N th σ) (fun v w => v = some (.int (mf_stA N σ)) ∧ w = wM ct am N 0 (mf_stS N σ)) (fun E w => False) := by
  refine kt_of hst (by decide) (Nat.le_of_ble_eq_true rfl) (by simp [Value.category]) ?_
  intro p e s m args below meth c A ls C hne hr hw hl Q hQ
  have hx := C.1
  have hb := C.2.1
  refine q_aload_n hx hb hl dM_cycle_0 rfl ?_
  refine lv_iconst (v := 0) hx hb dM_cycle_1 (by decide) ?_
  refine mp_0 C hw l_M_64 dM_cycle_2 (fun H locs hw => ?_)
  refine q_aload_n hx hb hl dM_cycle_5 rfl ?_
  refine tc_E (tc_V C hl (m_step l hst D ct am N hN h0 0 σ _ h4 h5 hm) hw.1 hw.2.1 hw.2.2 g_M_132 (re_M C hw) hv_M_step rfl rfl ⟨(Nat.le_of_ble_eq_true rfl), (Nat.le_of_ble_eq_true rfl)⟩ (Nat.le_of_ble_eq_true rfl) ⟨(Nat.le_of_ble_eq_true rfl), (Nat.le_of_ble_eq_true rfl)⟩ dM_cycle_6 rfl) C hw (fun E ce q9 w1 H locs hp hw h1 h2 h3 => ?_) (fun v w1 H locs hp hw => ?_)
  · exact hp.elim
  obtain ⟨rfl, rfl⟩ := hp
  dsimp only [Option.toList_some, Option.toList_none, List.cons_append, List.nil_append]
  exact tr_i hQ C hw hr (Nat.le_of_ble_eq_true rfl) (Nat.le_of_ble_eq_true rfl) dM_cycle_9 ⟨rfl, rfl⟩
set_option maxHeartbeats 4000000 in
set_option maxRecDepth 100000 in
theorem mo_run (l : Launch) (hst : l.stackTraces = false) (D : va_G) (ct : Ct) (am : Nat → Nat) (N : Nat) (hN : N ≤ 16) (h0 : 0 < N) (th : Int32) (σ : St) (sz : Nat) (K : Nat) (hk : 1 ≤ K ∧ K ≤ 2000) (hy : ∀ k, k < K → ix N (mf_p1 N (mf_it N σ k) 0 0 4) ∧ ix N (mf_p1 N (mf_it N σ k) 0 0 5) ∧ (0 ≤ mf_top (mf_p1 N (mf_it N σ k)) N 0 (-1) → ¬ mf_cnt (mf_p1 N (mf_it N σ k)) (mf_top (mf_p1 N (mf_it N σ k)) N 0 (-1)) N 0 0 = 0)) : Kt l yM_run cM_run 4 (some .int) (r0 5) 0 0 D ct [.ref (am 0), .int (nI K)] sz (wM ct am N th σ) (fun v w => v = some (.int (mf_it N σ K 0 0 8 - σ 0 0 8)) ∧ w = wM ct am N 0 (mf_it N σ K)) (fun E w => False) := by
  refine kt_of hst (by decide) (Nat.le_of_ble_eq_true rfl) (by simp [Value.category]) ?_
  intro p e s m args below meth c A ls C hne hr hw hl Q hQ
  have hx := C.1
  have hb := C.2.1
  refine q_aload_n hx hb hl dM_run_0 rfl ?_
  refine lv_iconst (v := 0) hx hb dM_run_1 (by decide) ?_
  refine mp_0 C hw l_M_64 dM_run_2 (fun H locs hw => ?_)
  refine q_iload_n hx hb hl dM_run_5 rfl ?_
  refine lv_iconst (v := 1) hx hb dM_run_6 (by decide) ?_
  refine lv_sipush (v := 2000) hx hb dM_run_7 (by decide) ?_
  refine tc_E (tc_S C hl (w_ok l hst D ct (wM ct am N 0 σ) _ (nI K) 1 2000 (nI_nlt (a := K) (b := 1) hk.1 (by omega)) (nI_le (b := 2000) hk.2 (by omega))) hw.1 hw.2.1 hw.2.2 g_M_67 hd_M_within rfl rfl ⟨(Nat.le_of_ble_eq_true rfl), (Nat.le_of_ble_eq_true rfl)⟩ (Nat.le_of_ble_eq_true rfl) ⟨(Nat.le_of_ble_eq_true rfl), (Nat.le_of_ble_eq_true rfl)⟩ dM_run_10 rfl) C hw (fun E ce q9 w1 H locs hp hw h1 h2 h3 => ?_) (fun v w1 H locs hp hw => ?_)
  · exact hp.elim
  obtain ⟨rfl, rfl⟩ := hp
  dsimp only [Option.toList_some, Option.toList_none, List.cons_append, List.nil_append]
  refine lv_if_ne (tgt := 22) hx hb dM_run_13 (by decide) (fun c_13 => ?_) (fun q9 => absurd q9 (by decide))
  refine q_aload_n hx hb hl dM_run_22 rfl ?_
  refine mg C hw 7 l_M_129 (by decide) rfl dM_run_23 ?_
  refine q_istore_n hx hb hl dM_run_26 (by decide) (fun ls hl => ?_)
  refine lv_iconst (v := 0) hx hb dM_run_27 (by decide) ?_
  refine q_istore_n hx hb hl dM_run_28 (by decide) (fun ls hl => ?_)
  have L29 : ∀ (n : Nat) (k : Nat), k + n = K → ∀ (H : Heap) (locs : List Loc) (ls : Array Slot), wl D A s (wM ct am N 0 (mf_it N σ k)) H locs → lq ls 4 [some (.ref (am 0)), some (.int (nI K)), some (.int (σ 0 0 8)), some (.int (nI k))] → W p l e (r0 5) s m args below meth c H locs 0 0 Q (F0 m 29 ls []) := by
    intro n
    induction n with
    | zero =>
      intro k hn H locs ls hw hl
      have hk9 : k = K := by omega
      subst hk9
      refine q_iload_n hx hb hl dM_run_29 rfl ?_
      refine q_iload_n hx hb hl dM_run_30 rfl ?_
      refine lv_icmp_ge (tgt := 45) hx hb dM_run_31 (by decide) (fun c_31 => ?_) (fun q9 => absurd (nI_le (by omega) (by omega)) q9)
      refine q_aload_n hx hb hl dM_run_45 rfl ?_
      refine mg C hw 7 l_M_129 (by decide) rfl dM_run_46 ?_
      refine q_iload_n hx hb hl dM_run_49 rfl ?_
      refine lv_isub hx hb dM_run_50 ?_
      exact tr_i hQ C hw hr (Nat.le_of_ble_eq_true rfl) (Nat.le_of_ble_eq_true rfl) dM_run_51 ⟨rfl, rfl⟩
    | succ n ih =>
      intro k hn H locs ls hw hl
      have hk9 : k < K := by omega
      refine q_iload_n hx hb hl dM_run_29 rfl ?_
      refine q_iload_n hx hb hl dM_run_30 rfl ?_
      refine lv_icmp_ge (tgt := 45) hx hb dM_run_31 (by decide) (fun q9 => absurd q9 (nI_ge hk9 (by omega))) (fun c_31 => ?_)
      refine q_aload_n hx hb hl dM_run_34 rfl ?_
      refine tc_E (tc_V C hl (m_step l hst D ct am N hN h0 0 (mf_it N σ k) _ (hy k hk9).1 (hy k hk9).2.1 (hy k hk9).2.2) hw.1 hw.2.1 hw.2.2 g_M_132 (re_M C hw) hv_M_step rfl rfl ⟨(Nat.le_of_ble_eq_true rfl), (Nat.le_of_ble_eq_true rfl)⟩ (Nat.le_of_ble_eq_true rfl) ⟨(Nat.le_of_ble_eq_true rfl), (Nat.le_of_ble_eq_true rfl)⟩ dM_run_35 rfl) C hw (fun E ce q9 w1 H locs hp hw h1 h2 h3 => ?_) (fun v w1 H locs hp hw => ?_)
      · exact hp.elim
      obtain ⟨rfl, rfl⟩ := hp
      dsimp only [Option.toList_some, Option.toList_none, List.cons_append, List.nil_append]
      refine lv_pop hx hb dM_run_38 rfl ?_
      refine q_inc hx hb hl dM_run_39 rfl (by decide) (fun ls hl => ?_)
      refine lv_goto (tgt := 29) hx hb dM_run_42 (by decide) ?_
      exact ih (k + 1) (by omega) _ _ _ hw hl
  exact L29 K 0 (by omega) _ _ _ hw hl
set_option maxHeartbeats 4000000 in
set_option maxRecDepth 100000 in
theorem mx_run (l : Launch) (hst : l.stackTraces = false) (D : va_G) (ct : Ct) (am : Nat → Nat) (N : Nat) (hN : N ≤ 16) (h0 : 0 < N) (th : Int32) (σ : St) (sz : Nat) (x : Int32) (h : x < 1 ∨ ¬ x ≤ 2000) : Kt l yM_run cM_run 4 (some .int) (r0 5) 0 0 D ct [.ref (am 0), .int x] sz (wM ct am N th σ) (fun v w => v = some (.int 0) ∧ w = wM ct am N 1 σ) (fun E w => False) := by
  refine kt_of hst (by decide) (Nat.le_of_ble_eq_true rfl) (by simp [Value.category]) ?_
  intro p e s m args below meth c A ls C hne hr hw hl Q hQ
  have hx := C.1
  have hb := C.2.1
  refine q_aload_n hx hb hl dM_run_0 rfl ?_
  refine lv_iconst (v := 0) hx hb dM_run_1 (by decide) ?_
  refine mp_0 C hw l_M_64 dM_run_2 (fun H locs hw => ?_)
  refine q_iload_n hx hb hl dM_run_5 rfl ?_
  refine lv_iconst (v := 1) hx hb dM_run_6 (by decide) ?_
  refine lv_sipush (v := 2000) hx hb dM_run_7 (by decide) ?_
  refine tc_E (tc_S C hl (w_bad l hst D ct (wM ct am N 0 σ) _ x 1 2000 h) hw.1 hw.2.1 hw.2.2 g_M_67 hd_M_within rfl rfl ⟨(Nat.le_of_ble_eq_true rfl), (Nat.le_of_ble_eq_true rfl)⟩ (Nat.le_of_ble_eq_true rfl) ⟨(Nat.le_of_ble_eq_true rfl), (Nat.le_of_ble_eq_true rfl)⟩ dM_run_10 rfl) C hw (fun E ce q9 w1 H locs hp hw h1 h2 h3 => ?_) (fun v w1 H locs hp hw => ?_)
  · exact hp.elim
  obtain ⟨rfl, rfl⟩ := hp
  dsimp only [Option.toList_some, Option.toList_none, List.cons_append, List.nil_append]
  refine lv_if_ne (tgt := 22) hx hb dM_run_13 (by decide) (fun q9 => absurd rfl q9) (fun c_13 => ?_)
  refine q_aload_n hx hb hl dM_run_16 rfl ?_
  refine lv_iconst (v := 1) hx hb dM_run_17 (by decide) ?_
  refine tc_E (tc_V C hl (m_fail l hst D ct am N hN h0 0 σ _ 1) hw.1 hw.2.1 hw.2.2 g_M_71 (re_M C hw) hv_M_fail rfl rfl ⟨(Nat.le_of_ble_eq_true rfl), (Nat.le_of_ble_eq_true rfl)⟩ (Nat.le_of_ble_eq_true rfl) ⟨(Nat.le_of_ble_eq_true rfl), (Nat.le_of_ble_eq_true rfl)⟩ dM_run_18 rfl) C hw (fun E ce q9 w1 H locs hp hw h1 h2 h3 => ?_) (fun v w1 H locs hp hw => ?_)
  · exact hp.elim
  obtain ⟨rfl, rfl⟩ := hp
  dsimp only [Option.toList_some, Option.toList_none, List.cons_append, List.nil_append]
  exact tr_i hQ C hw hr (Nat.le_of_ble_eq_true rfl) (Nat.le_of_ble_eq_true rfl) dM_run_21 ⟨rfl, rfl⟩
set_option maxHeartbeats 4000000 in
set_option maxRecDepth 100000 in
theorem mo_part (l : Launch) (hst : l.stackTraces = false) (D : va_G) (ct : Ct) (am : Nat → Nat) (N : Nat) (hN : N ≤ 16) (h0 : 0 < N) (th : Int32) (σ : St) (sz : Nat) (q : Nat) (hq : q < 8) (t : Nat) (ht : t < N) (p2 : Int32) (h : ¬ p2 < 0 ∧ p2 ≤ 32) : Kt l yM_part cM_part 5 (some .int) (r0 2) 0 0 D ct [.ref (am 0), .int (nI q), .int (nI t), .int p2] sz (wM ct am N th σ) (fun v w => v = some (.int (σ 6 q t)) ∧ w = wM ct am N 0 (su σ 6 q t p2)) (fun E w => False) := by
  refine kt_of hst (by decide) (Nat.le_of_ble_eq_true rfl) (by simp [Value.category]) ?_
  intro p e s m args below meth c A ls C hne hr hw hl Q hQ
  have hx := C.1
  have hb := C.2.1
  have ht16 : t < 16 := by omega
  refine q_aload_n hx hb hl dM_part_0 rfl ?_
  refine q_iload_n hx hb hl dM_part_1 rfl ?_
  refine tc_E (tc_V C hl (iq_ok l hst D ct am N hN h0 th σ _ q hq) hw.1 hw.2.1 hw.2.2 g_M_135 (re_M C hw) hv_M_isQueue rfl rfl ⟨(Nat.le_of_ble_eq_true rfl), (Nat.le_of_ble_eq_true rfl)⟩ (Nat.le_of_ble_eq_true rfl) ⟨(Nat.le_of_ble_eq_true rfl), (Nat.le_of_ble_eq_true rfl)⟩ dM_part_2 rfl) C hw (fun E ce q9 w1 H locs hp hw h1 h2 h3 => ?_) (fun v w1 H locs hp hw => ?_)
  · exact hp.elim
  obtain ⟨rfl, rfl⟩ := hp
  dsimp only [Option.toList_some, Option.toList_none, List.cons_append, List.nil_append]
  refine lv_if_eq (tgt := 16) hx hb dM_part_5 (by decide) (fun q9 => absurd q9 (by decide)) (fun c_5 => ?_)
  refine q_aload_n hx hb hl dM_part_8 rfl ?_
  refine q_iload_n hx hb hl dM_part_9 rfl ?_
  refine tc_E (tc_V C hl (it_ok l hst D ct am N hN h0 0 σ _ t ht) hw.1 hw.2.1 hw.2.2 g_M_84 (re_M C hw) hv_M_isThread rfl rfl ⟨(Nat.le_of_ble_eq_true rfl), (Nat.le_of_ble_eq_true rfl)⟩ (Nat.le_of_ble_eq_true rfl) ⟨(Nat.le_of_ble_eq_true rfl), (Nat.le_of_ble_eq_true rfl)⟩ dM_part_10 rfl) C hw (fun E ce q9 w1 H locs hp hw h1 h2 h3 => ?_) (fun v w1 H locs hp hw => ?_)
  · exact hp.elim
  obtain ⟨rfl, rfl⟩ := hp
  dsimp only [Option.toList_some, Option.toList_none, List.cons_append, List.nil_append]
  refine lv_if_ne (tgt := 18) hx hb dM_part_13 (by decide) (fun c_13 => ?_) (fun q9 => absurd q9 (by decide))
  refine q_iload_n hx hb hl dM_part_18 rfl ?_
  refine lv_iconst (v := 0) hx hb dM_part_19 (by decide) ?_
  refine lv_bipush (v := 32) hx hb dM_part_20 (by decide) ?_
  refine tc_E (tc_S C hl (w_ok l hst D ct (wM ct am N 0 σ) _ p2 0 32 h.1 h.2) hw.1 hw.2.1 hw.2.2 g_M_67 hd_M_within rfl rfl ⟨(Nat.le_of_ble_eq_true rfl), (Nat.le_of_ble_eq_true rfl)⟩ (Nat.le_of_ble_eq_true rfl) ⟨(Nat.le_of_ble_eq_true rfl), (Nat.le_of_ble_eq_true rfl)⟩ dM_part_22 rfl) C hw (fun E ce q9 w1 H locs hp hw h1 h2 h3 => ?_) (fun v w1 H locs hp hw => ?_)
  · exact hp.elim
  obtain ⟨rfl, rfl⟩ := hp
  dsimp only [Option.toList_some, Option.toList_none, List.cons_append, List.nil_append]
  refine lv_if_ne (tgt := 34) hx hb dM_part_25 (by decide) (fun c_25 => ?_) (fun q9 => absurd q9 (by decide))
  refine q_aload_n hx hb hl dM_part_34 rfl ?_
  refine mg C hw 25 l_M_54 (by decide) rfl dM_part_35 ?_
  refine lv_bipush (v := 16) hx hb dM_part_38 (by decide) ?_
  refine q_iload_n hx hb hl dM_part_40 rfl ?_
  refine lv_imul hx hb dM_part_41 ?_
  refine q_iload_n hx hb hl dM_part_42 rfl ?_
  refine lv_iadd hx hb dM_part_43 ?_
  refine mr_13 C hw (q := q) (t := t) (by assumption) (by assumption) (i16 q t) dM_part_44 ?_
  refine q_istore hx hb hl dM_part_45 (by decide) (fun ls hl => ?_)
  refine q_aload_n hx hb hl dM_part_47 rfl ?_
  refine mg C hw 25 l_M_54 (by decide) rfl dM_part_48 ?_
  refine lv_bipush (v := 16) hx hb dM_part_51 (by decide) ?_
  refine q_iload_n hx hb hl dM_part_53 rfl ?_
  refine lv_imul hx hb dM_part_54 ?_
  refine q_iload_n hx hb hl dM_part_55 rfl ?_
  refine lv_iadd hx hb dM_part_56 ?_
  refine q_iload_n hx hb hl dM_part_57 rfl ?_
  refine mw_13 C hw (q := q) (t := t) (by assumption) (by assumption) (i16 q t) dM_part_58 (fun H locs hw => ?_)
  refine q_iload hx hb hl dM_part_59 rfl ?_
  exact tr_i hQ C hw hr (Nat.le_of_ble_eq_true rfl) (Nat.le_of_ble_eq_true rfl) dM_part_61 ⟨rfl, rfl⟩
set_option maxHeartbeats 4000000 in
set_option maxRecDepth 100000 in
theorem my_part (l : Launch) (hst : l.stackTraces = false) (D : va_G) (ct : Ct) (am : Nat → Nat) (N : Nat) (hN : N ≤ 16) (h0 : 0 < N) (th : Int32) (σ : St) (sz : Nat) (q : Nat) (hq : q < 8) (t : Nat) (ht : t < N) (p2 : Int32) (h : p2 < 0 ∨ ¬ p2 ≤ 32) : Kt l yM_part cM_part 5 (some .int) (r0 2) 0 0 D ct [.ref (am 0), .int (nI q), .int (nI t), .int p2] sz (wM ct am N th σ) (fun v w => v = some (.int 0) ∧ w = wM ct am N 2 σ) (fun E w => False) := by
  refine kt_of hst (by decide) (Nat.le_of_ble_eq_true rfl) (by simp [Value.category]) ?_
  intro p e s m args below meth c A ls C hne hr hw hl Q hQ
  have hx := C.1
  have hb := C.2.1
  refine q_aload_n hx hb hl dM_part_0 rfl ?_
  refine q_iload_n hx hb hl dM_part_1 rfl ?_
  refine tc_E (tc_V C hl (iq_ok l hst D ct am N hN h0 th σ _ q hq) hw.1 hw.2.1 hw.2.2 g_M_135 (re_M C hw) hv_M_isQueue rfl rfl ⟨(Nat.le_of_ble_eq_true rfl), (Nat.le_of_ble_eq_true rfl)⟩ (Nat.le_of_ble_eq_true rfl) ⟨(Nat.le_of_ble_eq_true rfl), (Nat.le_of_ble_eq_true rfl)⟩ dM_part_2 rfl) C hw (fun E ce q9 w1 H locs hp hw h1 h2 h3 => ?_) (fun v w1 H locs hp hw => ?_)
  · exact hp.elim
  obtain ⟨rfl, rfl⟩ := hp
  dsimp only [Option.toList_some, Option.toList_none, List.cons_append, List.nil_append]
  refine lv_if_eq (tgt := 16) hx hb dM_part_5 (by decide) (fun q9 => absurd q9 (by decide)) (fun c_5 => ?_)
  refine q_aload_n hx hb hl dM_part_8 rfl ?_
  refine q_iload_n hx hb hl dM_part_9 rfl ?_
  refine tc_E (tc_V C hl (it_ok l hst D ct am N hN h0 0 σ _ t ht) hw.1 hw.2.1 hw.2.2 g_M_84 (re_M C hw) hv_M_isThread rfl rfl ⟨(Nat.le_of_ble_eq_true rfl), (Nat.le_of_ble_eq_true rfl)⟩ (Nat.le_of_ble_eq_true rfl) ⟨(Nat.le_of_ble_eq_true rfl), (Nat.le_of_ble_eq_true rfl)⟩ dM_part_10 rfl) C hw (fun E ce q9 w1 H locs hp hw h1 h2 h3 => ?_) (fun v w1 H locs hp hw => ?_)
  · exact hp.elim
  obtain ⟨rfl, rfl⟩ := hp
  dsimp only [Option.toList_some, Option.toList_none, List.cons_append, List.nil_append]
  refine lv_if_ne (tgt := 18) hx hb dM_part_13 (by decide) (fun c_13 => ?_) (fun q9 => absurd q9 (by decide))
  refine q_iload_n hx hb hl dM_part_18 rfl ?_
  refine lv_iconst (v := 0) hx hb dM_part_19 (by decide) ?_
  refine lv_bipush (v := 32) hx hb dM_part_20 (by decide) ?_
  refine tc_E (tc_S C hl (w_bad l hst D ct (wM ct am N 0 σ) _ p2 0 32 h) hw.1 hw.2.1 hw.2.2 g_M_67 hd_M_within rfl rfl ⟨(Nat.le_of_ble_eq_true rfl), (Nat.le_of_ble_eq_true rfl)⟩ (Nat.le_of_ble_eq_true rfl) ⟨(Nat.le_of_ble_eq_true rfl), (Nat.le_of_ble_eq_true rfl)⟩ dM_part_22 rfl) C hw (fun E ce q9 w1 H locs hp hw h1 h2 h3 => ?_) (fun v w1 H locs hp hw => ?_)
  · exact hp.elim
  obtain ⟨rfl, rfl⟩ := hp
  dsimp only [Option.toList_some, Option.toList_none, List.cons_append, List.nil_append]
  refine lv_if_ne (tgt := 34) hx hb dM_part_25 (by decide) (fun q9 => absurd rfl q9) (fun c_25 => ?_)
  refine q_aload_n hx hb hl dM_part_28 rfl ?_
  refine lv_iconst (v := 2) hx hb dM_part_29 (by decide) ?_
  refine tc_E (tc_V C hl (m_fail l hst D ct am N hN h0 0 σ _ 2) hw.1 hw.2.1 hw.2.2 g_M_71 (re_M C hw) hv_M_fail rfl rfl ⟨(Nat.le_of_ble_eq_true rfl), (Nat.le_of_ble_eq_true rfl)⟩ (Nat.le_of_ble_eq_true rfl) ⟨(Nat.le_of_ble_eq_true rfl), (Nat.le_of_ble_eq_true rfl)⟩ dM_part_30 rfl) C hw (fun E ce q9 w1 H locs hp hw h1 h2 h3 => ?_) (fun v w1 H locs hp hw => ?_)
  · exact hp.elim
  obtain ⟨rfl, rfl⟩ := hp
  dsimp only [Option.toList_some, Option.toList_none, List.cons_append, List.nil_append]
  exact tr_i hQ C hw hr (Nat.le_of_ble_eq_true rfl) (Nat.le_of_ble_eq_true rfl) dM_part_33 ⟨rfl, rfl⟩
set_option maxHeartbeats 4000000 in
set_option maxRecDepth 100000 in
theorem mq_part (l : Launch) (hst : l.stackTraces = false) (D : va_G) (ct : Ct) (am : Nat → Nat) (N : Nat) (hN : N ≤ 16) (h0 : 0 < N) (th : Int32) (σ : St) (sz : Nat) (p0 p1 p2 : Int32) (h : p0 < 0 ∨ ¬ p0 < nI 8) : Kt l yM_part cM_part 5 (some .int) (r0 2) 0 0 D ct [.ref (am 0), .int p0, .int p1, .int p2] sz (wM ct am N th σ) (fun v w => v = some (.int 0) ∧ w = wM ct am N 1 σ) (fun E w => False) := by
  refine kt_of hst (by decide) (Nat.le_of_ble_eq_true rfl) (by simp [Value.category]) ?_
  intro p e s m args below meth c A ls C hne hr hw hl Q hQ
  have hx := C.1
  have hb := C.2.1
  refine q_aload_n hx hb hl dM_part_0 rfl ?_
  refine q_iload_n hx hb hl dM_part_1 rfl ?_
  refine tc_E (tc_V C hl (iq_bad l hst D ct am N hN h0 th σ _ p0 h) hw.1 hw.2.1 hw.2.2 g_M_135 (re_M C hw) hv_M_isQueue rfl rfl ⟨(Nat.le_of_ble_eq_true rfl), (Nat.le_of_ble_eq_true rfl)⟩ (Nat.le_of_ble_eq_true rfl) ⟨(Nat.le_of_ble_eq_true rfl), (Nat.le_of_ble_eq_true rfl)⟩ dM_part_2 rfl) C hw (fun E ce q9 w1 H locs hp hw h1 h2 h3 => ?_) (fun v w1 H locs hp hw => ?_)
  · exact hp.elim
  obtain ⟨rfl, rfl⟩ := hp
  dsimp only [Option.toList_some, Option.toList_none, List.cons_append, List.nil_append]
  refine lv_if_eq (tgt := 16) hx hb dM_part_5 (by decide) (fun c_5 => ?_) (fun q9 => absurd rfl q9)
  refine lv_iconst (v := 0) hx hb dM_part_16 (by decide) ?_
  exact tr_i hQ C hw hr (Nat.le_of_ble_eq_true rfl) (Nat.le_of_ble_eq_true rfl) dM_part_17 ⟨rfl, rfl⟩
set_option maxHeartbeats 4000000 in
set_option maxRecDepth 100000 in
theorem mt_part (l : Launch) (hst : l.stackTraces = false) (D : va_G) (ct : Ct) (am : Nat → Nat) (N : Nat) (hN : N ≤ 16) (h0 : 0 < N) (th : Int32) (σ : St) (sz : Nat) (q : Nat) (hq : q < 8) (p1 p2 : Int32) (h : p1 < 0 ∨ ¬ p1 < nI N) : Kt l yM_part cM_part 5 (some .int) (r0 2) 0 0 D ct [.ref (am 0), .int (nI q), .int p1, .int p2] sz (wM ct am N th σ) (fun v w => v = some (.int 0) ∧ w = wM ct am N 1 σ) (fun E w => False) := by
  refine kt_of hst (by decide) (Nat.le_of_ble_eq_true rfl) (by simp [Value.category]) ?_
  intro p e s m args below meth c A ls C hne hr hw hl Q hQ
  have hx := C.1
  have hb := C.2.1
  refine q_aload_n hx hb hl dM_part_0 rfl ?_
  refine q_iload_n hx hb hl dM_part_1 rfl ?_
  refine tc_E (tc_V C hl (iq_ok l hst D ct am N hN h0 th σ _ q hq) hw.1 hw.2.1 hw.2.2 g_M_135 (re_M C hw) hv_M_isQueue rfl rfl ⟨(Nat.le_of_ble_eq_true rfl), (Nat.le_of_ble_eq_true rfl)⟩ (Nat.le_of_ble_eq_true rfl) ⟨(Nat.le_of_ble_eq_true rfl), (Nat.le_of_ble_eq_true rfl)⟩ dM_part_2 rfl) C hw (fun E ce q9 w1 H locs hp hw h1 h2 h3 => ?_) (fun v w1 H locs hp hw => ?_)
  · exact hp.elim
  obtain ⟨rfl, rfl⟩ := hp
  dsimp only [Option.toList_some, Option.toList_none, List.cons_append, List.nil_append]
  refine lv_if_eq (tgt := 16) hx hb dM_part_5 (by decide) (fun q9 => absurd q9 (by decide)) (fun c_5 => ?_)
  refine q_aload_n hx hb hl dM_part_8 rfl ?_
  refine q_iload_n hx hb hl dM_part_9 rfl ?_
  refine tc_E (tc_V C hl (it_bad l hst D ct am N hN h0 0 σ _ p1 h) hw.1 hw.2.1 hw.2.2 g_M_84 (re_M C hw) hv_M_isThread rfl rfl ⟨(Nat.le_of_ble_eq_true rfl), (Nat.le_of_ble_eq_true rfl)⟩ (Nat.le_of_ble_eq_true rfl) ⟨(Nat.le_of_ble_eq_true rfl), (Nat.le_of_ble_eq_true rfl)⟩ dM_part_10 rfl) C hw (fun E ce q9 w1 H locs hp hw h1 h2 h3 => ?_) (fun v w1 H locs hp hw => ?_)
  · exact hp.elim
  obtain ⟨rfl, rfl⟩ := hp
  dsimp only [Option.toList_some, Option.toList_none, List.cons_append, List.nil_append]
  refine lv_if_ne (tgt := 18) hx hb dM_part_13 (by decide) (fun q9 => absurd rfl q9) (fun c_13 => ?_)
  refine lv_iconst (v := 0) hx hb dM_part_16 (by decide) ?_
  exact tr_i hQ C hw hr (Nat.le_of_ble_eq_true rfl) (Nat.le_of_ble_eq_true rfl) dM_part_17 ⟨rfl, rfl⟩
set_option maxHeartbeats 4000000 in
set_option maxRecDepth 100000 in
theorem mq_put (l : Launch) (hst : l.stackTraces = false) (D : va_G) (ct : Ct) (am : Nat → Nat) (N : Nat) (hN : N ≤ 16) (h0 : 0 < N) (th : Int32) (σ : St) (sz : Nat) (p0 p1 p2 : Int32) (h : p0 < 0 ∨ ¬ p0 < nI 8) : Kt l yM_put cM_put 4 (some .int) (r0 2) 0 0 D ct [.ref (am 0), .int p0, .int p1, .int p2] sz (wM ct am N th σ) (fun v w => v = some (.int 0) ∧ w = wM ct am N 1 σ) (fun E w => False) := by
  refine kt_of hst (by decide) (Nat.le_of_ble_eq_true rfl) (by simp [Value.category]) ?_
  intro p e s m args below meth c A ls C hne hr hw hl Q hQ
  have hx := C.1
  have hb := C.2.1
  refine q_aload_n hx hb hl dM_put_0 rfl ?_
  refine q_iload_n hx hb hl dM_put_1 rfl ?_
  refine tc_E (tc_V C hl (iq_bad l hst D ct am N hN h0 th σ _ p0 h) hw.1 hw.2.1 hw.2.2 g_M_135 (re_M C hw) hv_M_isQueue rfl rfl ⟨(Nat.le_of_ble_eq_true rfl), (Nat.le_of_ble_eq_true rfl)⟩ (Nat.le_of_ble_eq_true rfl) ⟨(Nat.le_of_ble_eq_true rfl), (Nat.le_of_ble_eq_true rfl)⟩ dM_put_2 rfl) C hw (fun E ce q9 w1 H locs hp hw h1 h2 h3 => ?_) (fun v w1 H locs hp hw => ?_)
  · exact hp.elim
  obtain ⟨rfl, rfl⟩ := hp
  dsimp only [Option.toList_some, Option.toList_none, List.cons_append, List.nil_append]
  refine lv_if_eq (tgt := 16) hx hb dM_put_5 (by decide) (fun c_5 => ?_) (fun q9 => absurd rfl q9)
  refine lv_iconst (v := 0) hx hb dM_put_16 (by decide) ?_
  exact tr_i hQ C hw hr (Nat.le_of_ble_eq_true rfl) (Nat.le_of_ble_eq_true rfl) dM_put_17 ⟨rfl, rfl⟩
set_option maxHeartbeats 4000000 in
set_option maxRecDepth 100000 in
theorem mt_put (l : Launch) (hst : l.stackTraces = false) (D : va_G) (ct : Ct) (am : Nat → Nat) (N : Nat) (hN : N ≤ 16) (h0 : 0 < N) (th : Int32) (σ : St) (sz : Nat) (q : Nat) (hq : q < 8) (p1 p2 : Int32) (h : p1 < 0 ∨ ¬ p1 < nI N) : Kt l yM_put cM_put 4 (some .int) (r0 2) 0 0 D ct [.ref (am 0), .int (nI q), .int p1, .int p2] sz (wM ct am N th σ) (fun v w => v = some (.int 0) ∧ w = wM ct am N 1 σ) (fun E w => False) := by
  refine kt_of hst (by decide) (Nat.le_of_ble_eq_true rfl) (by simp [Value.category]) ?_
  intro p e s m args below meth c A ls C hne hr hw hl Q hQ
  have hx := C.1
  have hb := C.2.1
  refine q_aload_n hx hb hl dM_put_0 rfl ?_
  refine q_iload_n hx hb hl dM_put_1 rfl ?_
  refine tc_E (tc_V C hl (iq_ok l hst D ct am N hN h0 th σ _ q hq) hw.1 hw.2.1 hw.2.2 g_M_135 (re_M C hw) hv_M_isQueue rfl rfl ⟨(Nat.le_of_ble_eq_true rfl), (Nat.le_of_ble_eq_true rfl)⟩ (Nat.le_of_ble_eq_true rfl) ⟨(Nat.le_of_ble_eq_true rfl), (Nat.le_of_ble_eq_true rfl)⟩ dM_put_2 rfl) C hw (fun E ce q9 w1 H locs hp hw h1 h2 h3 => ?_) (fun v w1 H locs hp hw => ?_)
  · exact hp.elim
  obtain ⟨rfl, rfl⟩ := hp
  dsimp only [Option.toList_some, Option.toList_none, List.cons_append, List.nil_append]
  refine lv_if_eq (tgt := 16) hx hb dM_put_5 (by decide) (fun q9 => absurd q9 (by decide)) (fun c_5 => ?_)
  refine q_aload_n hx hb hl dM_put_8 rfl ?_
  refine q_iload_n hx hb hl dM_put_9 rfl ?_
  refine tc_E (tc_V C hl (it_bad l hst D ct am N hN h0 0 σ _ p1 h) hw.1 hw.2.1 hw.2.2 g_M_84 (re_M C hw) hv_M_isThread rfl rfl ⟨(Nat.le_of_ble_eq_true rfl), (Nat.le_of_ble_eq_true rfl)⟩ (Nat.le_of_ble_eq_true rfl) ⟨(Nat.le_of_ble_eq_true rfl), (Nat.le_of_ble_eq_true rfl)⟩ dM_put_10 rfl) C hw (fun E ce q9 w1 H locs hp hw h1 h2 h3 => ?_) (fun v w1 H locs hp hw => ?_)
  · exact hp.elim
  obtain ⟨rfl, rfl⟩ := hp
  dsimp only [Option.toList_some, Option.toList_none, List.cons_append, List.nil_append]
  refine lv_if_ne (tgt := 18) hx hb dM_put_13 (by decide) (fun q9 => absurd rfl q9) (fun c_13 => ?_)
  refine lv_iconst (v := 0) hx hb dM_put_16 (by decide) ?_
  exact tr_i hQ C hw hr (Nat.le_of_ble_eq_true rfl) (Nat.le_of_ble_eq_true rfl) dM_put_17 ⟨rfl, rfl⟩
set_option maxHeartbeats 4000000 in
set_option maxRecDepth 100000 in
theorem m_has (l : Launch) (hst : l.stackTraces = false) (D : va_G) (ct : Ct) (am : Nat → Nat) (N : Nat) (hN : N ≤ 16) (h0 : 0 < N) (th : Int32) (σ : St) (sz : Nat) (q : Nat) (hq : q < 8) (K : Nat) (hK : K ≤ 32) (hs : σ 3 q 0 = nI K) (x : Int32) : Kt l yM_has cM_has 5 (some .int) (r0 0) 0 0 D ct [.ref (am 0), .int (nI q), .int x] sz (wM ct am N th σ) (fun v w => v = some (.int (tf_ent σ q x K 0 0)) ∧ w = wM ct am N th σ) (fun E w => False) := by
  refine kt_of hst (by decide) (Nat.le_of_ble_eq_true rfl) (by simp [Value.category]) ?_
  intro p e s m args below meth c A ls C hne hr hw hl Q hQ
  have hx := C.1
  have hb := C.2.1
  refine lv_iconst (v := 0) hx hb dM_has_0 (by decide) ?_
  refine q_istore_n hx hb hl dM_has_1 (by decide) (fun ls hl => ?_)
  refine lv_iconst (v := 0) hx hb dM_has_2 (by decide) ?_
  refine q_istore hx hb hl dM_has_3 (by decide) (fun ls hl => ?_)
  have L5 : ∀ (n : Nat) (k : Nat) (h : Int32), k + n = K → tf_ent σ q x n k h = tf_ent σ q x K 0 0 → ∀ (H : Heap) (locs : List Loc) (ls : Array Slot), wl D A s (wM ct am N th σ) H locs → lq ls 5 [some (.ref (am 0)), some (.int (nI q)), some (.int x), some (.int h), some (.int (nI k))] → W p l e (r0 0) s m args below meth c H locs 0 0 Q (F0 m 5 ls []) := by
    intro n
    induction n with
    | zero =>
      intro k h hn he H locs ls hw hl
      refine q_iload hx hb hl dM_has_5 rfl ?_
      refine q_aload_n hx hb hl dM_has_7 rfl ?_
      refine mg C hw 22 l_M_45 (by decide) rfl dM_has_8 ?_
      refine q_iload_n hx hb hl dM_has_11 rfl ?_
      refine mr_10 C hw (q := q) hq rfl dM_has_12 ?_
      refine lv_icmp_ge (tgt := 46) hx hb dM_has_13 (by decide) (fun c_13 => ?_) (fun q9 => absurd (show σ 3 q 0 ≤ nI k by rw [hs]; exact nI_le (by omega) (by omega)) q9)
      refine q_iload_n hx hb hl dM_has_46 rfl ?_
      exact tr_i hQ C hw hr (Nat.le_of_ble_eq_true rfl) (Nat.le_of_ble_eq_true rfl) dM_has_47 ⟨by rw [← he]; rfl, rfl⟩
    | succ n ih =>
      intro k h hn he H locs ls hw hl
      have hk32 : k < 32 := by omega
      refine q_iload hx hb hl dM_has_5 rfl ?_
      refine q_aload_n hx hb hl dM_has_7 rfl ?_
      refine mg C hw 22 l_M_45 (by decide) rfl dM_has_8 ?_
      refine q_iload_n hx hb hl dM_has_11 rfl ?_
      refine mr_10 C hw (q := q) hq rfl dM_has_12 ?_
      refine lv_icmp_ge (tgt := 46) hx hb dM_has_13 (by decide) (fun q9 => absurd q9 (show ¬ σ 3 q 0 ≤ nI k by rw [hs]; exact nI_ge (by omega) (by omega))) (fun c_13 => ?_)
      refine q_iload_n hx hb hl dM_has_16 rfl ?_
      refine q_aload_n hx hb hl dM_has_17 rfl ?_
      refine mg C hw 23 l_M_48 (by decide) rfl dM_has_18 ?_
      refine lv_bipush (v := 32) hx hb dM_has_21 (by decide) ?_
      refine q_iload_n hx hb hl dM_has_23 rfl ?_
      refine lv_imul hx hb dM_has_24 ?_
      refine q_iload hx hb hl dM_has_25 rfl ?_
      refine lv_iadd hx hb dM_has_27 ?_
      refine mr_11 C hw (q := q) (k := k) (by assumption) (by omega) (i32x q k) dM_has_28 ?_
      refine q_iload_n hx hb hl dM_has_29 rfl ?_
      refine lv_icmp_ne (tgt := 37) hx hb dM_has_30 (by decide) (fun c_30 => ?_) (fun c_30 => ?_)
      · refine lv_iconst (v := 0) hx hb dM_has_37 (by decide) ?_
        refine lv_iadd hx hb dM_has_38 ?_
        refine q_istore_n hx hb hl dM_has_39 (by decide) (fun ls hl => ?_)
        refine q_inc hx hb hl dM_has_40 rfl (by decide) (fun ls hl => ?_)
        refine lv_goto (tgt := 5) hx hb dM_has_43 (by decide) ?_
        exact ih _ _ (by omega) (by rw [← he]; simp [tf_ent, c_30]) _ _ _ hw hl
      refine lv_iconst (v := 1) hx hb dM_has_33 (by decide) ?_
      refine lv_goto (tgt := 38) hx hb dM_has_34 (by decide) ?_
      refine lv_iadd hx hb dM_has_38 ?_
      refine q_istore_n hx hb hl dM_has_39 (by decide) (fun ls hl => ?_)
      refine q_inc hx hb hl dM_has_40 rfl (by decide) (fun ls hl => ?_)
      refine lv_goto (tgt := 5) hx hb dM_has_43 (by decide) ?_
      exact ih _ _ (by omega) (by rw [← he]; simp [tf_ent, c_30]) _ _ _ hw hl
  exact L5 K 0 _ (by omega) rfl _ _ _ hw hl
set_option maxHeartbeats 4000000 in
set_option maxRecDepth 100000 in
theorem mo_put (l : Launch) (hst : l.stackTraces = false) (D : va_G) (ct : Ct) (am : Nat → Nat) (N : Nat) (hN : N ≤ 16) (h0 : 0 < N) (th : Int32) (σ : St) (sz : Nat) (q : Nat) (hq : q < 8) (t : Nat) (ht : t < N) (K : Nat) (hK : K ≤ 32) (hs : σ 3 q 0 = nI K) (p2 : Int32) : Kt l yM_put cM_put 4 (some .int) (r0 2) 0 0 D ct [.ref (am 0), .int (nI q), .int (nI t), .int p2] sz (wM ct am N th σ) (fun v w => v = some (.int (mf_putA σ q t K p2)) ∧ w = wM ct am N 0 (mf_putS σ q t K p2)) (fun E w => False) := by
  refine kt_of hst (by decide) (Nat.le_of_ble_eq_true rfl) (by simp [Value.category]) ?_
  intro p e s m args below meth c A ls C hne hr hw hl Q hQ
  have hx := C.1
  have hb := C.2.1
  have ht16 : t < 16 := by omega
  refine q_aload_n hx hb hl dM_put_0 rfl ?_
  refine q_iload_n hx hb hl dM_put_1 rfl ?_
  refine tc_E (tc_V C hl (iq_ok l hst D ct am N hN h0 th σ _ q hq) hw.1 hw.2.1 hw.2.2 g_M_135 (re_M C hw) hv_M_isQueue rfl rfl ⟨(Nat.le_of_ble_eq_true rfl), (Nat.le_of_ble_eq_true rfl)⟩ (Nat.le_of_ble_eq_true rfl) ⟨(Nat.le_of_ble_eq_true rfl), (Nat.le_of_ble_eq_true rfl)⟩ dM_put_2 rfl) C hw (fun E ce q9 w1 H locs hp hw h1 h2 h3 => ?_) (fun v w1 H locs hp hw => ?_)
  · exact hp.elim
  obtain ⟨rfl, rfl⟩ := hp
  dsimp only [Option.toList_some, Option.toList_none, List.cons_append, List.nil_append]
  refine lv_if_eq (tgt := 16) hx hb dM_put_5 (by decide) (fun q9 => absurd q9 (by decide)) (fun c_5 => ?_)
  refine q_aload_n hx hb hl dM_put_8 rfl ?_
  refine q_iload_n hx hb hl dM_put_9 rfl ?_
  refine tc_E (tc_V C hl (it_ok l hst D ct am N hN h0 0 σ _ t ht) hw.1 hw.2.1 hw.2.2 g_M_84 (re_M C hw) hv_M_isThread rfl rfl ⟨(Nat.le_of_ble_eq_true rfl), (Nat.le_of_ble_eq_true rfl)⟩ (Nat.le_of_ble_eq_true rfl) ⟨(Nat.le_of_ble_eq_true rfl), (Nat.le_of_ble_eq_true rfl)⟩ dM_put_10 rfl) C hw (fun E ce q9 w1 H locs hp hw h1 h2 h3 => ?_) (fun v w1 H locs hp hw => ?_)
  · exact hp.elim
  obtain ⟨rfl, rfl⟩ := hp
  dsimp only [Option.toList_some, Option.toList_none, List.cons_append, List.nil_append]
  refine lv_if_ne (tgt := 18) hx hb dM_put_13 (by decide) (fun c_13 => ?_) (fun q9 => absurd q9 (by decide))
  refine q_aload_n hx hb hl dM_put_18 rfl ?_
  refine q_iload_n hx hb hl dM_put_19 rfl ?_
  refine q_iload_n hx hb hl dM_put_20 rfl ?_
  refine tc_E (tc_V C hl (m_has l hst D ct am N hN h0 0 σ _ q hq K hK hs (nI t)) hw.1 hw.2.1 hw.2.2 g_M_138 (re_M C hw) hv_M_has rfl rfl ⟨(Nat.le_of_ble_eq_true rfl), (Nat.le_of_ble_eq_true rfl)⟩ (Nat.le_of_ble_eq_true rfl) ⟨(Nat.le_of_ble_eq_true rfl), (Nat.le_of_ble_eq_true rfl)⟩ dM_put_21 rfl) C hw (fun E ce q9 w1 H locs hp hw h1 h2 h3 => ?_) (fun v w1 H locs hp hw => ?_)
  · exact hp.elim
  obtain ⟨rfl, rfl⟩ := hp
  dsimp only [Option.toList_some, Option.toList_none, List.cons_append, List.nil_append]
  refine q_aload_n hx hb hl dM_put_24 rfl ?_
  refine mg C hw 25 l_M_54 (by decide) rfl dM_put_25 ?_
  refine lv_bipush (v := 16) hx hb dM_put_28 (by decide) ?_
  refine q_iload_n hx hb hl dM_put_30 rfl ?_
  refine lv_imul hx hb dM_put_31 ?_
  refine q_iload_n hx hb hl dM_put_32 rfl ?_
  refine lv_iadd hx hb dM_put_33 ?_
  refine mr_13 C hw (q := q) (t := t) (by assumption) (by assumption) (i16 q t) dM_put_34 ?_
  refine lv_icmp_ge (tgt := 49) hx hb dM_put_35 (by decide) (fun c_35 => ?_) (fun c_35 => ?_)
  · refine lv_iconst (v := -1) hx hb dM_put_49 (by decide) ?_
    exact tr_i hQ C hw hr (Nat.le_of_ble_eq_true rfl) (Nat.le_of_ble_eq_true rfl) dM_put_50 ⟨by simp only [mf_putA, if_pos c_35], by simp only [mf_putS, if_pos c_35]⟩
  refine q_aload_n hx hb hl dM_put_38 rfl ?_
  refine mg C hw 22 l_M_45 (by decide) rfl dM_put_39 ?_
  refine q_iload_n hx hb hl dM_put_42 rfl ?_
  refine mr_10 C hw (q := q) hq rfl dM_put_43 ?_
  refine lv_bipush (v := 32) hx hb dM_put_44 (by decide) ?_
  refine lv_icmp_ne (tgt := 51) hx hb dM_put_46 (by decide) (fun c_46 => ?_) (fun c_46 => ?_)
  · have hK2 : K < 32 := by
      rcases Nat.lt_or_ge K 32 with q9 | q9
      · exact q9
      · exact absurd (by rw [hs, show K = 32 by omega]; rfl) c_46
    refine q_aload_n hx hb hl dM_put_51 rfl ?_
    refine mg C hw 23 l_M_48 (by decide) rfl dM_put_52 ?_
    refine lv_bipush (v := 32) hx hb dM_put_55 (by decide) ?_
    refine q_iload_n hx hb hl dM_put_57 rfl ?_
    refine lv_imul hx hb dM_put_58 ?_
    refine q_aload_n hx hb hl dM_put_59 rfl ?_
    refine mg C hw 22 l_M_45 (by decide) rfl dM_put_60 ?_
    refine q_iload_n hx hb hl dM_put_63 rfl ?_
    refine mr_10 C hw (q := q) hq rfl dM_put_64 ?_
    refine lv_iadd hx hb dM_put_65 ?_
    refine q_iload_n hx hb hl dM_put_66 rfl ?_
    refine mw_11 C hw (q := q) (k := K) hq hK2 (by rw [hs]; exact i32x q K) dM_put_67 (fun H locs hw => ?_)
    refine q_aload_n hx hb hl dM_put_68 rfl ?_
    refine mg C hw 24 l_M_51 (by decide) rfl dM_put_69 ?_
    refine lv_bipush (v := 32) hx hb dM_put_72 (by decide) ?_
    refine q_iload_n hx hb hl dM_put_74 rfl ?_
    refine lv_imul hx hb dM_put_75 ?_
    refine q_aload_n hx hb hl dM_put_76 rfl ?_
    refine mg C hw 22 l_M_45 (by decide) rfl dM_put_77 ?_
    refine q_iload_n hx hb hl dM_put_80 rfl ?_
    refine mr_10 C hw (q := q) hq rfl dM_put_81 ?_
    refine lv_iadd hx hb dM_put_82 ?_
    refine q_iload_n hx hb hl dM_put_83 rfl ?_
    refine mw_12 C hw (q := q) (k := K) hq hK2 (by rw [su_n1 (by decide), hs]; exact i32x q K) dM_put_84 (fun H locs hw => ?_)
    refine q_aload_n hx hb hl dM_put_85 rfl ?_
    refine mg C hw 22 l_M_45 (by decide) rfl dM_put_86 ?_
    refine q_iload_n hx hb hl dM_put_89 rfl ?_
    refine lv_dup2_11 hx hb dM_put_90 rfl rfl ?_
    refine mr_10 C hw (q := q) hq rfl dM_put_91 ?_
    refine lv_iconst (v := 1) hx hb dM_put_92 (by decide) ?_
    refine lv_iadd hx hb dM_put_93 ?_
    refine mw_10 C hw (q := q) hq rfl dM_put_94 (fun H locs hw => ?_)
    refine q_aload_n hx hb hl dM_put_95 rfl ?_
    refine q_iload_n hx hb hl dM_put_96 rfl ?_
    refine q_iload_n hx hb hl dM_put_97 rfl ?_
    refine tc_E (tc_V C hl (m_has l hst D ct am N hN h0 0 _ _ q hq (K + 1) (by omega) (by rw [su_eq, su_n1 (by decide), su_n1 (by decide), hs]; exact nI_1 K) (nI t)) hw.1 hw.2.1 hw.2.2 g_M_138 (re_M C hw) hv_M_has rfl rfl ⟨(Nat.le_of_ble_eq_true rfl), (Nat.le_of_ble_eq_true rfl)⟩ (Nat.le_of_ble_eq_true rfl) ⟨(Nat.le_of_ble_eq_true rfl), (Nat.le_of_ble_eq_true rfl)⟩ dM_put_98 rfl) C hw (fun E ce q9 w1 H locs hp hw h1 h2 h3 => ?_) (fun v w1 H locs hp hw => ?_)
    · exact hp.elim
    obtain ⟨rfl, rfl⟩ := hp
    dsimp only [Option.toList_some, Option.toList_none, List.cons_append, List.nil_append]
    exact tr_i hQ C hw hr (Nat.le_of_ble_eq_true rfl) (Nat.le_of_ble_eq_true rfl) dM_put_101 ⟨by simp only [mf_putA, tf_app, if_neg c_35, if_neg c_46]; simp [su_n1, hs, nI_1], by simp only [mf_putS, tf_app, if_neg c_35, if_neg c_46]; simp [su_n1, hs, nI_1]⟩
  refine lv_iconst (v := -1) hx hb dM_put_49 (by decide) ?_
  exact tr_i hQ C hw hr (Nat.le_of_ble_eq_true rfl) (Nat.le_of_ble_eq_true rfl) dM_put_50 ⟨by simp only [mf_putA, if_neg c_35, if_pos c_46], by simp only [mf_putS, if_neg c_35, if_pos c_46]⟩
set_option maxHeartbeats 4000000 in
set_option maxRecDepth 100000 in
theorem mo_takeA (l : Launch) (hst : l.stackTraces = false) (D : va_G) (ct : Ct) (am : Nat → Nat) (N : Nat) (hN : N ≤ 16) (h0 : 0 < N) (th : Int32) (σ : St) (sz : Nat) (q : Nat) (hq : q < 8) (K : Nat) (hK : K ≤ 32) (hs : σ 3 q 0 = nI K) : Kt l yM_take cM_take 6 (some .int) (r0 2) 0 0 D ct [.ref (am 0), .int (nI q), .int (-1)] sz (wM ct am N th σ) (fun v w => (mf_tk σ q (-1) K 0 = K ∧ v = some (.int 0) ∧ w = wM ct am N 2 σ) ∨ (mf_tk σ q (-1) K 0 < K ∧ v = some (.int (σ 5 q (mf_tk σ q (-1) K 0))) ∧ w = wM ct am N 0 (tf_cl q (K - 1 - mf_tk σ q (-1) K 0) (mf_tk σ q (-1) K 0) (su σ 3 q 0 (nI (K - 1)))))) (fun E w => False) := by
  refine kt_of hst (by decide) (Nat.le_of_ble_eq_true rfl) (by simp [Value.category]) ?_
  intro p e s m args below meth c A ls C hne hr hw hl Q hQ
  have hx := C.1
  have hb := C.2.1
  refine q_aload_n hx hb hl dM_take_0 rfl ?_
  refine q_iload_n hx hb hl dM_take_1 rfl ?_
  refine tc_E (tc_V C hl (iq_ok l hst D ct am N hN h0 th σ _ q hq) hw.1 hw.2.1 hw.2.2 g_M_135 (re_M C hw) hv_M_isQueue rfl rfl ⟨(Nat.le_of_ble_eq_true rfl), (Nat.le_of_ble_eq_true rfl)⟩ (Nat.le_of_ble_eq_true rfl) ⟨(Nat.le_of_ble_eq_true rfl), (Nat.le_of_ble_eq_true rfl)⟩ dM_take_2 rfl) C hw (fun E ce q9 w1 H locs hp hw h1 h2 h3 => ?_) (fun v w1 H locs hp hw => ?_)
  · exact hp.elim
  obtain ⟨rfl, rfl⟩ := hp
  dsimp only [Option.toList_some, Option.toList_none, List.cons_append, List.nil_append]
  refine lv_if_eq (tgt := 21) hx hb dM_take_5 (by decide) (fun q9 => absurd q9 (by decide)) (fun c_5 => ?_)
  refine q_iload_n hx hb hl dM_take_8 rfl ?_
  refine lv_iconst (v := -1) hx hb dM_take_9 (by decide) ?_
  refine lv_icmp_eq (tgt := 23) hx hb dM_take_10 (by decide) (fun c_10 => ?_) (fun q9 => absurd rfl q9)
  have L61 : ∀ (j : Nat), j ≤ K → mf_tk σ q (-1) K 0 = j → ∀ (H : Heap) (locs : List Loc) (ls : Array Slot), wl D A s (wM ct am N 0 σ) H locs → lq ls 6 [some (.ref (am 0)), some (.int (nI q)), some (.int (-1)), some (.int (nI j)), none, none] → W p l e (r0 2) s m args below meth c H locs 0 0 Q (F0 m 61 ls []) := by
    intro j hj he2 H locs ls hw hl
    refine q_iload_n hx hb hl dM_take_61 rfl ?_
    refine q_aload_n hx hb hl dM_take_62 rfl ?_
    refine mg C hw 22 l_M_45 (by decide) rfl dM_take_63 ?_
    refine q_iload_n hx hb hl dM_take_66 rfl ?_
    refine mr_10 C hw (q := q) hq rfl dM_take_67 ?_
    refine lv_icmp_ne (tgt := 77) hx hb dM_take_68 (by decide) (fun c_68 => ?_) (fun c_68 => ?_)
    · have hjK : j < K := by
        rcases Nat.lt_or_ge j K with q9 | q9
        · exact q9
        · exact absurd (by rw [hs, show j = K by omega]) c_68
      subst he2
      have hs1 : σ 3 q 0 - 1 = nI (K - 1) := by rw [hs, ← nI_pred (K - 1), show K - 1 + 1 = K by omega]
      refine q_aload_n hx hb hl dM_take_77 rfl ?_
      refine mg C hw 24 l_M_51 (by decide) rfl dM_take_78 ?_
      refine lv_bipush (v := 32) hx hb dM_take_81 (by decide) ?_
      refine q_iload_n hx hb hl dM_take_83 rfl ?_
      refine lv_imul hx hb dM_take_84 ?_
      refine q_iload_n hx hb hl dM_take_85 rfl ?_
      refine lv_iadd hx hb dM_take_86 ?_
      refine mr_12 C hw (q := q) (k := (mf_tk σ q (-1) K 0)) (by assumption) (by omega) (i32x q (mf_tk σ q (-1) K 0)) dM_take_87 ?_
      refine q_istore hx hb hl dM_take_88 (by decide) (fun ls hl => ?_)
      refine q_aload_n hx hb hl dM_take_90 rfl ?_
      refine mg C hw 22 l_M_45 (by decide) rfl dM_take_91 ?_
      refine q_iload_n hx hb hl dM_take_94 rfl ?_
      refine lv_dup2_11 hx hb dM_take_95 rfl rfl ?_
      refine mr_10 C hw (q := q) hq rfl dM_take_96 ?_
      refine lv_iconst (v := 1) hx hb dM_take_97 (by decide) ?_
      refine lv_isub hx hb dM_take_98 ?_
      refine mw_10 C hw (q := q) hq rfl dM_take_99 (fun H locs hw => ?_)
      refine q_iload_n hx hb hl dM_take_100 rfl ?_
      refine q_istore hx hb hl dM_take_101 (by decide) (fun ls hl => ?_)
      have L103 : ∀ (n : Nat) (i : Nat) (τ : St), i + n = K - 1 → tf_cl q n i τ = tf_cl q (K - 1 - mf_tk σ q (-1) K 0) (mf_tk σ q (-1) K 0) (su σ 3 q 0 (nI (K - 1))) → τ 3 q 0 = nI (K - 1) → ∀ (H : Heap) (locs : List Loc) (ls : Array Slot), wl D A s (wM ct am N 0 τ) H locs → lq ls 6 [some (.ref (am 0)), some (.int (nI q)), some (.int (-1)), some (.int (nI (mf_tk σ q (-1) K 0))), some (.int (σ 5 q (mf_tk σ q (-1) K 0))), some (.int (nI i))] → W p l e (r0 2) s m args below meth c H locs 0 0 Q (F0 m 103 ls []) := by
        intro n
        induction n with
        | zero =>
          intro i τ hn he hsz H locs ls hw hl
          refine q_iload hx hb hl dM_take_103 rfl ?_
          refine q_aload_n hx hb hl dM_take_105 rfl ?_
          refine mg C hw 22 l_M_45 (by decide) rfl dM_take_106 ?_
          refine q_iload_n hx hb hl dM_take_109 rfl ?_
          refine mr_10 C hw (q := q) hq rfl dM_take_110 ?_
          refine lv_icmp_ge (tgt := 172) hx hb dM_take_111 (by decide) (fun c_111 => ?_) (fun q9 => absurd (show τ 3 q 0 ≤ nI i by rw [hsz]; exact nI_le (by omega) (by omega)) q9)
          refine q_iload hx hb hl dM_take_172 rfl ?_
          exact tr_i hQ C hw hr (Nat.le_of_ble_eq_true rfl) (Nat.le_of_ble_eq_true rfl) dM_take_174 (Or.inr ⟨hjK, rfl, by rw [← he]; rfl⟩)
        | succ n ih =>
          intro i τ hn he hsz H locs ls hw hl
          refine q_iload hx hb hl dM_take_103 rfl ?_
          refine q_aload_n hx hb hl dM_take_105 rfl ?_
          refine mg C hw 22 l_M_45 (by decide) rfl dM_take_106 ?_
          refine q_iload_n hx hb hl dM_take_109 rfl ?_
          refine mr_10 C hw (q := q) hq rfl dM_take_110 ?_
          refine lv_icmp_ge (tgt := 172) hx hb dM_take_111 (by decide) (fun q9 => absurd q9 (show ¬ τ 3 q 0 ≤ nI i by rw [hsz]; exact nI_ge (by omega) (by omega))) (fun c_111 => ?_)
          refine q_aload_n hx hb hl dM_take_114 rfl ?_
          refine mg C hw 23 l_M_48 (by decide) rfl dM_take_115 ?_
          refine lv_bipush (v := 32) hx hb dM_take_118 (by decide) ?_
          refine q_iload_n hx hb hl dM_take_120 rfl ?_
          refine lv_imul hx hb dM_take_121 ?_
          refine q_iload hx hb hl dM_take_122 rfl ?_
          refine lv_iadd hx hb dM_take_124 ?_
          refine q_aload_n hx hb hl dM_take_125 rfl ?_
          refine mg C hw 23 l_M_48 (by decide) rfl dM_take_126 ?_
          refine lv_bipush (v := 32) hx hb dM_take_129 (by decide) ?_
          refine q_iload_n hx hb hl dM_take_131 rfl ?_
          refine lv_imul hx hb dM_take_132 ?_
          refine q_iload hx hb hl dM_take_133 rfl ?_
          refine lv_iadd hx hb dM_take_135 ?_
          refine lv_iconst (v := 1) hx hb dM_take_136 (by decide) ?_
          refine lv_iadd hx hb dM_take_137 ?_
          refine mr_11 C hw (q := q) (k := i + 1) hq (by omega) (i32y q i) dM_take_138 ?_
          refine mw_11 C hw (q := q) (k := i) (by assumption) (by omega) (i32x q i) dM_take_139 (fun H locs hw => ?_)
          refine q_aload_n hx hb hl dM_take_140 rfl ?_
          refine mg C hw 24 l_M_51 (by decide) rfl dM_take_141 ?_
          refine lv_bipush (v := 32) hx hb dM_take_144 (by decide) ?_
          refine q_iload_n hx hb hl dM_take_146 rfl ?_
          refine lv_imul hx hb dM_take_147 ?_
          refine q_iload hx hb hl dM_take_148 rfl ?_
          refine lv_iadd hx hb dM_take_150 ?_
          refine q_aload_n hx hb hl dM_take_151 rfl ?_
          refine mg C hw 24 l_M_51 (by decide) rfl dM_take_152 ?_
          refine lv_bipush (v := 32) hx hb dM_take_155 (by decide) ?_
          refine q_iload_n hx hb hl dM_take_157 rfl ?_
          refine lv_imul hx hb dM_take_158 ?_
          refine q_iload hx hb hl dM_take_159 rfl ?_
          refine lv_iadd hx hb dM_take_161 ?_
          refine lv_iconst (v := 1) hx hb dM_take_162 (by decide) ?_
          refine lv_iadd hx hb dM_take_163 ?_
          refine mr_12 C hw (q := q) (k := i + 1) hq (by omega) (i32y q i) dM_take_164 ?_
          refine mw_12 C hw (q := q) (k := i) (by assumption) (by omega) (i32x q i) dM_take_165 (fun H locs hw => ?_)
          refine q_inc hx hb hl dM_take_166 rfl (by decide) (fun ls hl => ?_)
          refine lv_goto (tgt := 103) hx hb dM_take_169 (by decide) ?_
          exact ih _ _ (by omega) (by rw [← he]; rfl) (by rw [su_n1 (by decide), su_n1 (by decide)]; exact hsz) _ _ _ hw hl
      exact L103 (K - 1 - mf_tk σ q (-1) K 0) (mf_tk σ q (-1) K 0) _ (by omega) rfl (by rw [su_eq]) _ _ _ (by rw [hs1] at hw; exact hw) hl
    have hjK : j = K := by
      rw [hs] at c_68
      exact (nI_eq (by omega) (by omega)).mp c_68
    subst he2
    refine q_aload_n hx hb hl dM_take_71 rfl ?_
    refine lv_iconst (v := 2) hx hb dM_take_72 (by decide) ?_
    refine tc_E (tc_V C hl (m_fail l hst D ct am N hN h0 0 σ _ 2) hw.1 hw.2.1 hw.2.2 g_M_71 (re_M C hw) hv_M_fail rfl rfl ⟨(Nat.le_of_ble_eq_true rfl), (Nat.le_of_ble_eq_true rfl)⟩ (Nat.le_of_ble_eq_true rfl) ⟨(Nat.le_of_ble_eq_true rfl), (Nat.le_of_ble_eq_true rfl)⟩ dM_take_73 rfl) C hw (fun E ce q9 w1 H locs hp hw h1 h2 h3 => ?_) (fun v w1 H locs hp hw => ?_)
    · exact hp.elim
    obtain ⟨rfl, rfl⟩ := hp
    dsimp only [Option.toList_some, Option.toList_none, List.cons_append, List.nil_append]
    exact tr_i hQ C hw hr (Nat.le_of_ble_eq_true rfl) (Nat.le_of_ble_eq_true rfl) dM_take_76 (Or.inl ⟨hjK, rfl, rfl⟩)
  refine lv_iconst (v := 0) hx hb dM_take_23 (by decide) ?_
  refine q_istore_n hx hb hl dM_take_24 (by decide) (fun ls hl => ?_)
  have L25 : ∀ (n : Nat) (k : Nat), k + n = K → mf_tk σ q (-1) n k = mf_tk σ q (-1) K 0 → ∀ (H : Heap) (locs : List Loc) (ls : Array Slot), wl D A s (wM ct am N 0 σ) H locs → lq ls 6 [some (.ref (am 0)), some (.int (nI q)), some (.int (-1)), some (.int (nI k)), none, none] → W p l e (r0 2) s m args below meth c H locs 0 0 Q (F0 m 25 ls []) := by
    intro n
    induction n with
    | zero =>
      intro k hn he H locs ls hw hl
      refine q_iload_n hx hb hl dM_take_25 rfl ?_
      refine q_aload_n hx hb hl dM_take_26 rfl ?_
      refine mg C hw 22 l_M_45 (by decide) rfl dM_take_27 ?_
      refine q_iload_n hx hb hl dM_take_30 rfl ?_
      refine mr_10 C hw (q := q) hq rfl dM_take_31 ?_
      refine lv_icmp_ge (tgt := 61) hx hb dM_take_32 (by decide) (fun c_32 => ?_) (fun q9 => absurd (show σ 3 q 0 ≤ nI k by rw [hs]; exact nI_le (by omega) (by omega)) q9)
      exact L61 k (by omega) (by rw [← he]; first | rfl | (rw [mf_tk, if_pos rfl]) | (rw [mf_tk, if_neg (nI_m1 (by omega))]; simp only []) | simp only [mf_tk]) _ _ _ hw hl
    | succ n ih =>
      intro k hn he H locs ls hw hl
      have hk32 : k < 32 := by omega
      refine q_iload_n hx hb hl dM_take_25 rfl ?_
      refine q_aload_n hx hb hl dM_take_26 rfl ?_
      refine mg C hw 22 l_M_45 (by decide) rfl dM_take_27 ?_
      refine q_iload_n hx hb hl dM_take_30 rfl ?_
      refine mr_10 C hw (q := q) hq rfl dM_take_31 ?_
      refine lv_icmp_ge (tgt := 61) hx hb dM_take_32 (by decide) (fun q9 => absurd q9 (show ¬ σ 3 q 0 ≤ nI k by rw [hs]; exact nI_ge (by omega) (by omega))) (fun c_32 => ?_)
      refine q_iload_n hx hb hl dM_take_35 rfl ?_
      refine lv_iconst (v := -1) hx hb dM_take_36 (by decide) ?_
      refine lv_icmp_eq (tgt := 61) hx hb dM_take_37 (by decide) (fun c_37 => ?_) (fun q9 => absurd rfl q9)
      exact L61 k (by omega) (by rw [← he]; first | rfl | (rw [mf_tk, if_pos rfl]) | (rw [mf_tk, if_neg (nI_m1 (by omega))]; simp only []) | simp only [mf_tk]) _ _ _ hw hl
  exact L25 K 0 (by omega) rfl _ _ _ hw hl
set_option maxHeartbeats 4000000 in
set_option maxRecDepth 100000 in
theorem mo_takeT (l : Launch) (hst : l.stackTraces = false) (D : va_G) (ct : Ct) (am : Nat → Nat) (N : Nat) (hN : N ≤ 16) (h0 : 0 < N) (th : Int32) (σ : St) (sz : Nat) (q : Nat) (hq : q < 8) (K : Nat) (hK : K ≤ 32) (hs : σ 3 q 0 = nI K) (t : Nat) (ht : t < N) : Kt l yM_take cM_take 6 (some .int) (r0 2) 0 0 D ct [.ref (am 0), .int (nI q), .int (nI t)] sz (wM ct am N th σ) (fun v w => (mf_tk σ q (nI t) K 0 = K ∧ v = some (.int 0) ∧ w = wM ct am N 2 σ) ∨ (mf_tk σ q (nI t) K 0 < K ∧ v = some (.int (σ 5 q (mf_tk σ q (nI t) K 0))) ∧ w = wM ct am N 0 (tf_cl q (K - 1 - mf_tk σ q (nI t) K 0) (mf_tk σ q (nI t) K 0) (su σ 3 q 0 (nI (K - 1)))))) (fun E w => False) := by
  refine kt_of hst (by decide) (Nat.le_of_ble_eq_true rfl) (by simp [Value.category]) ?_
  intro p e s m args below meth c A ls C hne hr hw hl Q hQ
  have hx := C.1
  have hb := C.2.1
  refine q_aload_n hx hb hl dM_take_0 rfl ?_
  refine q_iload_n hx hb hl dM_take_1 rfl ?_
  refine tc_E (tc_V C hl (iq_ok l hst D ct am N hN h0 th σ _ q hq) hw.1 hw.2.1 hw.2.2 g_M_135 (re_M C hw) hv_M_isQueue rfl rfl ⟨(Nat.le_of_ble_eq_true rfl), (Nat.le_of_ble_eq_true rfl)⟩ (Nat.le_of_ble_eq_true rfl) ⟨(Nat.le_of_ble_eq_true rfl), (Nat.le_of_ble_eq_true rfl)⟩ dM_take_2 rfl) C hw (fun E ce q9 w1 H locs hp hw h1 h2 h3 => ?_) (fun v w1 H locs hp hw => ?_)
  · exact hp.elim
  obtain ⟨rfl, rfl⟩ := hp
  dsimp only [Option.toList_some, Option.toList_none, List.cons_append, List.nil_append]
  refine lv_if_eq (tgt := 21) hx hb dM_take_5 (by decide) (fun q9 => absurd q9 (by decide)) (fun c_5 => ?_)
  refine q_iload_n hx hb hl dM_take_8 rfl ?_
  refine lv_iconst (v := -1) hx hb dM_take_9 (by decide) ?_
  refine lv_icmp_eq (tgt := 23) hx hb dM_take_10 (by decide) (fun q9 => absurd q9 (nI_m1 (by omega))) (fun c_10 => ?_)
  refine q_aload_n hx hb hl dM_take_13 rfl ?_
  refine q_iload_n hx hb hl dM_take_14 rfl ?_
  refine tc_E (tc_V C hl (it_ok l hst D ct am N hN h0 0 σ _ t ht) hw.1 hw.2.1 hw.2.2 g_M_84 (re_M C hw) hv_M_isThread rfl rfl ⟨(Nat.le_of_ble_eq_true rfl), (Nat.le_of_ble_eq_true rfl)⟩ (Nat.le_of_ble_eq_true rfl) ⟨(Nat.le_of_ble_eq_true rfl), (Nat.le_of_ble_eq_true rfl)⟩ dM_take_15 rfl) C hw (fun E ce q9 w1 H locs hp hw h1 h2 h3 => ?_) (fun v w1 H locs hp hw => ?_)
  · exact hp.elim
  obtain ⟨rfl, rfl⟩ := hp
  dsimp only [Option.toList_some, Option.toList_none, List.cons_append, List.nil_append]
  refine lv_if_ne (tgt := 23) hx hb dM_take_18 (by decide) (fun c_18 => ?_) (fun q9 => absurd q9 (by decide))
  have L61 : ∀ (j : Nat), j ≤ K → mf_tk σ q (nI t) K 0 = j → ∀ (H : Heap) (locs : List Loc) (ls : Array Slot), wl D A s (wM ct am N 0 σ) H locs → lq ls 6 [some (.ref (am 0)), some (.int (nI q)), some (.int (nI t)), some (.int (nI j)), none, none] → W p l e (r0 2) s m args below meth c H locs 0 0 Q (F0 m 61 ls []) := by
    intro j hj he2 H locs ls hw hl
    refine q_iload_n hx hb hl dM_take_61 rfl ?_
    refine q_aload_n hx hb hl dM_take_62 rfl ?_
    refine mg C hw 22 l_M_45 (by decide) rfl dM_take_63 ?_
    refine q_iload_n hx hb hl dM_take_66 rfl ?_
    refine mr_10 C hw (q := q) hq rfl dM_take_67 ?_
    refine lv_icmp_ne (tgt := 77) hx hb dM_take_68 (by decide) (fun c_68 => ?_) (fun c_68 => ?_)
    · have hjK : j < K := by
        rcases Nat.lt_or_ge j K with q9 | q9
        · exact q9
        · exact absurd (by rw [hs, show j = K by omega]) c_68
      subst he2
      have hs1 : σ 3 q 0 - 1 = nI (K - 1) := by rw [hs, ← nI_pred (K - 1), show K - 1 + 1 = K by omega]
      refine q_aload_n hx hb hl dM_take_77 rfl ?_
      refine mg C hw 24 l_M_51 (by decide) rfl dM_take_78 ?_
      refine lv_bipush (v := 32) hx hb dM_take_81 (by decide) ?_
      refine q_iload_n hx hb hl dM_take_83 rfl ?_
      refine lv_imul hx hb dM_take_84 ?_
      refine q_iload_n hx hb hl dM_take_85 rfl ?_
      refine lv_iadd hx hb dM_take_86 ?_
      refine mr_12 C hw (q := q) (k := (mf_tk σ q (nI t) K 0)) (by assumption) (by omega) (i32x q (mf_tk σ q (nI t) K 0)) dM_take_87 ?_
      refine q_istore hx hb hl dM_take_88 (by decide) (fun ls hl => ?_)
      refine q_aload_n hx hb hl dM_take_90 rfl ?_
      refine mg C hw 22 l_M_45 (by decide) rfl dM_take_91 ?_
      refine q_iload_n hx hb hl dM_take_94 rfl ?_
      refine lv_dup2_11 hx hb dM_take_95 rfl rfl ?_
      refine mr_10 C hw (q := q) hq rfl dM_take_96 ?_
      refine lv_iconst (v := 1) hx hb dM_take_97 (by decide) ?_
      refine lv_isub hx hb dM_take_98 ?_
      refine mw_10 C hw (q := q) hq rfl dM_take_99 (fun H locs hw => ?_)
      refine q_iload_n hx hb hl dM_take_100 rfl ?_
      refine q_istore hx hb hl dM_take_101 (by decide) (fun ls hl => ?_)
      have L103 : ∀ (n : Nat) (i : Nat) (τ : St), i + n = K - 1 → tf_cl q n i τ = tf_cl q (K - 1 - mf_tk σ q (nI t) K 0) (mf_tk σ q (nI t) K 0) (su σ 3 q 0 (nI (K - 1))) → τ 3 q 0 = nI (K - 1) → ∀ (H : Heap) (locs : List Loc) (ls : Array Slot), wl D A s (wM ct am N 0 τ) H locs → lq ls 6 [some (.ref (am 0)), some (.int (nI q)), some (.int (nI t)), some (.int (nI (mf_tk σ q (nI t) K 0))), some (.int (σ 5 q (mf_tk σ q (nI t) K 0))), some (.int (nI i))] → W p l e (r0 2) s m args below meth c H locs 0 0 Q (F0 m 103 ls []) := by
        intro n
        induction n with
        | zero =>
          intro i τ hn he hsz H locs ls hw hl
          refine q_iload hx hb hl dM_take_103 rfl ?_
          refine q_aload_n hx hb hl dM_take_105 rfl ?_
          refine mg C hw 22 l_M_45 (by decide) rfl dM_take_106 ?_
          refine q_iload_n hx hb hl dM_take_109 rfl ?_
          refine mr_10 C hw (q := q) hq rfl dM_take_110 ?_
          refine lv_icmp_ge (tgt := 172) hx hb dM_take_111 (by decide) (fun c_111 => ?_) (fun q9 => absurd (show τ 3 q 0 ≤ nI i by rw [hsz]; exact nI_le (by omega) (by omega)) q9)
          refine q_iload hx hb hl dM_take_172 rfl ?_
          exact tr_i hQ C hw hr (Nat.le_of_ble_eq_true rfl) (Nat.le_of_ble_eq_true rfl) dM_take_174 (Or.inr ⟨hjK, rfl, by rw [← he]; rfl⟩)
        | succ n ih =>
          intro i τ hn he hsz H locs ls hw hl
          refine q_iload hx hb hl dM_take_103 rfl ?_
          refine q_aload_n hx hb hl dM_take_105 rfl ?_
          refine mg C hw 22 l_M_45 (by decide) rfl dM_take_106 ?_
          refine q_iload_n hx hb hl dM_take_109 rfl ?_
          refine mr_10 C hw (q := q) hq rfl dM_take_110 ?_
          refine lv_icmp_ge (tgt := 172) hx hb dM_take_111 (by decide) (fun q9 => absurd q9 (show ¬ τ 3 q 0 ≤ nI i by rw [hsz]; exact nI_ge (by omega) (by omega))) (fun c_111 => ?_)
          refine q_aload_n hx hb hl dM_take_114 rfl ?_
          refine mg C hw 23 l_M_48 (by decide) rfl dM_take_115 ?_
          refine lv_bipush (v := 32) hx hb dM_take_118 (by decide) ?_
          refine q_iload_n hx hb hl dM_take_120 rfl ?_
          refine lv_imul hx hb dM_take_121 ?_
          refine q_iload hx hb hl dM_take_122 rfl ?_
          refine lv_iadd hx hb dM_take_124 ?_
          refine q_aload_n hx hb hl dM_take_125 rfl ?_
          refine mg C hw 23 l_M_48 (by decide) rfl dM_take_126 ?_
          refine lv_bipush (v := 32) hx hb dM_take_129 (by decide) ?_
          refine q_iload_n hx hb hl dM_take_131 rfl ?_
          refine lv_imul hx hb dM_take_132 ?_
          refine q_iload hx hb hl dM_take_133 rfl ?_
          refine lv_iadd hx hb dM_take_135 ?_
          refine lv_iconst (v := 1) hx hb dM_take_136 (by decide) ?_
          refine lv_iadd hx hb dM_take_137 ?_
          refine mr_11 C hw (q := q) (k := i + 1) hq (by omega) (i32y q i) dM_take_138 ?_
          refine mw_11 C hw (q := q) (k := i) (by assumption) (by omega) (i32x q i) dM_take_139 (fun H locs hw => ?_)
          refine q_aload_n hx hb hl dM_take_140 rfl ?_
          refine mg C hw 24 l_M_51 (by decide) rfl dM_take_141 ?_
          refine lv_bipush (v := 32) hx hb dM_take_144 (by decide) ?_
          refine q_iload_n hx hb hl dM_take_146 rfl ?_
          refine lv_imul hx hb dM_take_147 ?_
          refine q_iload hx hb hl dM_take_148 rfl ?_
          refine lv_iadd hx hb dM_take_150 ?_
          refine q_aload_n hx hb hl dM_take_151 rfl ?_
          refine mg C hw 24 l_M_51 (by decide) rfl dM_take_152 ?_
          refine lv_bipush (v := 32) hx hb dM_take_155 (by decide) ?_
          refine q_iload_n hx hb hl dM_take_157 rfl ?_
          refine lv_imul hx hb dM_take_158 ?_
          refine q_iload hx hb hl dM_take_159 rfl ?_
          refine lv_iadd hx hb dM_take_161 ?_
          refine lv_iconst (v := 1) hx hb dM_take_162 (by decide) ?_
          refine lv_iadd hx hb dM_take_163 ?_
          refine mr_12 C hw (q := q) (k := i + 1) hq (by omega) (i32y q i) dM_take_164 ?_
          refine mw_12 C hw (q := q) (k := i) (by assumption) (by omega) (i32x q i) dM_take_165 (fun H locs hw => ?_)
          refine q_inc hx hb hl dM_take_166 rfl (by decide) (fun ls hl => ?_)
          refine lv_goto (tgt := 103) hx hb dM_take_169 (by decide) ?_
          exact ih _ _ (by omega) (by rw [← he]; rfl) (by rw [su_n1 (by decide), su_n1 (by decide)]; exact hsz) _ _ _ hw hl
      exact L103 (K - 1 - mf_tk σ q (nI t) K 0) (mf_tk σ q (nI t) K 0) _ (by omega) rfl (by rw [su_eq]) _ _ _ (by rw [hs1] at hw; exact hw) hl
    have hjK : j = K := by
      rw [hs] at c_68
      exact (nI_eq (by omega) (by omega)).mp c_68
    subst he2
    refine q_aload_n hx hb hl dM_take_71 rfl ?_
    refine lv_iconst (v := 2) hx hb dM_take_72 (by decide) ?_
    refine tc_E (tc_V C hl (m_fail l hst D ct am N hN h0 0 σ _ 2) hw.1 hw.2.1 hw.2.2 g_M_71 (re_M C hw) hv_M_fail rfl rfl ⟨(Nat.le_of_ble_eq_true rfl), (Nat.le_of_ble_eq_true rfl)⟩ (Nat.le_of_ble_eq_true rfl) ⟨(Nat.le_of_ble_eq_true rfl), (Nat.le_of_ble_eq_true rfl)⟩ dM_take_73 rfl) C hw (fun E ce q9 w1 H locs hp hw h1 h2 h3 => ?_) (fun v w1 H locs hp hw => ?_)
    · exact hp.elim
    obtain ⟨rfl, rfl⟩ := hp
    dsimp only [Option.toList_some, Option.toList_none, List.cons_append, List.nil_append]
    exact tr_i hQ C hw hr (Nat.le_of_ble_eq_true rfl) (Nat.le_of_ble_eq_true rfl) dM_take_76 (Or.inl ⟨hjK, rfl, rfl⟩)
  refine lv_iconst (v := 0) hx hb dM_take_23 (by decide) ?_
  refine q_istore_n hx hb hl dM_take_24 (by decide) (fun ls hl => ?_)
  have L25 : ∀ (n : Nat) (k : Nat), k + n = K → mf_tk σ q (nI t) n k = mf_tk σ q (nI t) K 0 → ∀ (H : Heap) (locs : List Loc) (ls : Array Slot), wl D A s (wM ct am N 0 σ) H locs → lq ls 6 [some (.ref (am 0)), some (.int (nI q)), some (.int (nI t)), some (.int (nI k)), none, none] → W p l e (r0 2) s m args below meth c H locs 0 0 Q (F0 m 25 ls []) := by
    intro n
    induction n with
    | zero =>
      intro k hn he H locs ls hw hl
      refine q_iload_n hx hb hl dM_take_25 rfl ?_
      refine q_aload_n hx hb hl dM_take_26 rfl ?_
      refine mg C hw 22 l_M_45 (by decide) rfl dM_take_27 ?_
      refine q_iload_n hx hb hl dM_take_30 rfl ?_
      refine mr_10 C hw (q := q) hq rfl dM_take_31 ?_
      refine lv_icmp_ge (tgt := 61) hx hb dM_take_32 (by decide) (fun c_32 => ?_) (fun q9 => absurd (show σ 3 q 0 ≤ nI k by rw [hs]; exact nI_le (by omega) (by omega)) q9)
      exact L61 k (by omega) (by rw [← he]; first | rfl | (rw [mf_tk, if_pos rfl]) | (rw [mf_tk, if_neg (nI_m1 (by omega))]; simp only []) | simp only [mf_tk]) _ _ _ hw hl
    | succ n ih =>
      intro k hn he H locs ls hw hl
      have hk32 : k < 32 := by omega
      refine q_iload_n hx hb hl dM_take_25 rfl ?_
      refine q_aload_n hx hb hl dM_take_26 rfl ?_
      refine mg C hw 22 l_M_45 (by decide) rfl dM_take_27 ?_
      refine q_iload_n hx hb hl dM_take_30 rfl ?_
      refine mr_10 C hw (q := q) hq rfl dM_take_31 ?_
      refine lv_icmp_ge (tgt := 61) hx hb dM_take_32 (by decide) (fun q9 => absurd q9 (show ¬ σ 3 q 0 ≤ nI k by rw [hs]; exact nI_ge (by omega) (by omega))) (fun c_32 => ?_)
      refine q_iload_n hx hb hl dM_take_35 rfl ?_
      refine lv_iconst (v := -1) hx hb dM_take_36 (by decide) ?_
      refine lv_icmp_eq (tgt := 61) hx hb dM_take_37 (by decide) (fun q9 => absurd q9 (nI_m1 (by omega))) (fun c_37 => ?_)
      refine q_aload_n hx hb hl dM_take_40 rfl ?_
      refine mg C hw 23 l_M_48 (by decide) rfl dM_take_41 ?_
      refine lv_bipush (v := 32) hx hb dM_take_44 (by decide) ?_
      refine q_iload_n hx hb hl dM_take_46 rfl ?_
      refine lv_imul hx hb dM_take_47 ?_
      refine q_iload_n hx hb hl dM_take_48 rfl ?_
      refine lv_iadd hx hb dM_take_49 ?_
      refine mr_11 C hw (q := q) (k := k) (by assumption) (by omega) (i32x q k) dM_take_50 ?_
      refine q_iload_n hx hb hl dM_take_51 rfl ?_
      refine lv_icmp_eq (tgt := 61) hx hb dM_take_52 (by decide) (fun c_52 => ?_) (fun c_52 => ?_)
      · exact L61 k (by omega) (by rw [← he]; first | rfl | (rw [mf_tk, if_pos rfl]) | (rw [mf_tk, if_neg (nI_m1 (by omega))]; simp only [if_pos c_52]) | simp only [mf_tk, if_pos c_52]) _ _ _ hw hl
      refine q_inc hx hb hl dM_take_55 rfl (by decide) (fun ls hl => ?_)
      refine lv_goto (tgt := 25) hx hb dM_take_58 (by decide) ?_
      exact ih _ (by omega) (by rw [← he, mf_tk, if_neg (nI_m1 (by omega))]; simp only [if_neg c_52]) _ _ _ hw hl
  exact L25 K 0 (by omega) rfl _ _ _ hw hl
set_option maxHeartbeats 4000000 in
set_option maxRecDepth 100000 in
theorem mq_take (l : Launch) (hst : l.stackTraces = false) (D : va_G) (ct : Ct) (am : Nat → Nat) (N : Nat) (hN : N ≤ 16) (h0 : 0 < N) (th : Int32) (σ : St) (sz : Nat) (p0 p1 : Int32) (h : p0 < 0 ∨ ¬ p0 < nI 8) : Kt l yM_take cM_take 6 (some .int) (r0 2) 0 0 D ct [.ref (am 0), .int p0, .int p1] sz (wM ct am N th σ) (fun v w => v = some (.int 0) ∧ w = wM ct am N 1 σ) (fun E w => False) := by
  refine kt_of hst (by decide) (Nat.le_of_ble_eq_true rfl) (by simp [Value.category]) ?_
  intro p e s m args below meth c A ls C hne hr hw hl Q hQ
  have hx := C.1
  have hb := C.2.1
  refine q_aload_n hx hb hl dM_take_0 rfl ?_
  refine q_iload_n hx hb hl dM_take_1 rfl ?_
  refine tc_E (tc_V C hl (iq_bad l hst D ct am N hN h0 th σ _ p0 h) hw.1 hw.2.1 hw.2.2 g_M_135 (re_M C hw) hv_M_isQueue rfl rfl ⟨(Nat.le_of_ble_eq_true rfl), (Nat.le_of_ble_eq_true rfl)⟩ (Nat.le_of_ble_eq_true rfl) ⟨(Nat.le_of_ble_eq_true rfl), (Nat.le_of_ble_eq_true rfl)⟩ dM_take_2 rfl) C hw (fun E ce q9 w1 H locs hp hw h1 h2 h3 => ?_) (fun v w1 H locs hp hw => ?_)
  · exact hp.elim
  obtain ⟨rfl, rfl⟩ := hp
  dsimp only [Option.toList_some, Option.toList_none, List.cons_append, List.nil_append]
  refine lv_if_eq (tgt := 21) hx hb dM_take_5 (by decide) (fun c_5 => ?_) (fun q9 => absurd rfl q9)
  refine lv_iconst (v := 0) hx hb dM_take_21 (by decide) ?_
  exact tr_i hQ C hw hr (Nat.le_of_ble_eq_true rfl) (Nat.le_of_ble_eq_true rfl) dM_take_22 ⟨rfl, rfl⟩
set_option maxHeartbeats 4000000 in
set_option maxRecDepth 100000 in
theorem mt_take (l : Launch) (hst : l.stackTraces = false) (D : va_G) (ct : Ct) (am : Nat → Nat) (N : Nat) (hN : N ≤ 16) (h0 : 0 < N) (th : Int32) (σ : St) (sz : Nat) (q : Nat) (hq : q < 8) (p1 : Int32) (h : p1 < 0 ∨ ¬ p1 < nI N) (h9 : ¬ p1 = -1) : Kt l yM_take cM_take 6 (some .int) (r0 2) 0 0 D ct [.ref (am 0), .int (nI q), .int p1] sz (wM ct am N th σ) (fun v w => v = some (.int 0) ∧ w = wM ct am N 1 σ) (fun E w => False) := by
  refine kt_of hst (by decide) (Nat.le_of_ble_eq_true rfl) (by simp [Value.category]) ?_
  intro p e s m args below meth c A ls C hne hr hw hl Q hQ
  have hx := C.1
  have hb := C.2.1
  refine q_aload_n hx hb hl dM_take_0 rfl ?_
  refine q_iload_n hx hb hl dM_take_1 rfl ?_
  refine tc_E (tc_V C hl (iq_ok l hst D ct am N hN h0 th σ _ q hq) hw.1 hw.2.1 hw.2.2 g_M_135 (re_M C hw) hv_M_isQueue rfl rfl ⟨(Nat.le_of_ble_eq_true rfl), (Nat.le_of_ble_eq_true rfl)⟩ (Nat.le_of_ble_eq_true rfl) ⟨(Nat.le_of_ble_eq_true rfl), (Nat.le_of_ble_eq_true rfl)⟩ dM_take_2 rfl) C hw (fun E ce q9 w1 H locs hp hw h1 h2 h3 => ?_) (fun v w1 H locs hp hw => ?_)
  · exact hp.elim
  obtain ⟨rfl, rfl⟩ := hp
  dsimp only [Option.toList_some, Option.toList_none, List.cons_append, List.nil_append]
  refine lv_if_eq (tgt := 21) hx hb dM_take_5 (by decide) (fun q9 => absurd q9 (by decide)) (fun c_5 => ?_)
  refine q_iload_n hx hb hl dM_take_8 rfl ?_
  refine lv_iconst (v := -1) hx hb dM_take_9 (by decide) ?_
  refine lv_icmp_eq (tgt := 23) hx hb dM_take_10 (by decide) (fun q9 => absurd q9 h9) (fun c_10 => ?_)
  refine q_aload_n hx hb hl dM_take_13 rfl ?_
  refine q_iload_n hx hb hl dM_take_14 rfl ?_
  refine tc_E (tc_V C hl (it_bad l hst D ct am N hN h0 0 σ _ p1 h) hw.1 hw.2.1 hw.2.2 g_M_84 (re_M C hw) hv_M_isThread rfl rfl ⟨(Nat.le_of_ble_eq_true rfl), (Nat.le_of_ble_eq_true rfl)⟩ (Nat.le_of_ble_eq_true rfl) ⟨(Nat.le_of_ble_eq_true rfl), (Nat.le_of_ble_eq_true rfl)⟩ dM_take_15 rfl) C hw (fun E ce q9 w1 H locs hp hw h1 h2 h3 => ?_) (fun v w1 H locs hp hw => ?_)
  · exact hp.elim
  obtain ⟨rfl, rfl⟩ := hp
  dsimp only [Option.toList_some, Option.toList_none, List.cons_append, List.nil_append]
  refine lv_if_ne (tgt := 23) hx hb dM_take_18 (by decide) (fun q9 => absurd rfl q9) (fun c_18 => ?_)
  refine lv_iconst (v := 0) hx hb dM_take_21 (by decide) ?_
  exact tr_i hQ C hw hr (Nat.le_of_ble_eq_true rfl) (Nat.le_of_ble_eq_true rfl) dM_take_22 ⟨rfl, rfl⟩
