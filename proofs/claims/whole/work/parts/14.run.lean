set_option maxHeartbeats 4000000 in
set_option maxRecDepth 100000 in
theorem c_run (l : Launch) (hst : l.stackTraces = false) (D : va_G) (ct : Ct) (ad : Ad) (N : Nat) (hN : N ≤ 16) (σ : St) (sz : Nat) (h5 : ix N (σ 0 0 5)) (x : Int32) : Kt l yT_run cT_run 4 (some .int) (r1 8) 1 6 D ct [.ref (ad 0 0), .int x] sz (wT ct ad N σ) (fun v w => ∃ k : Nat, (1 ≤ k ∧ k ≤ 2000) ∧ x = nI k ∧ v = some (.int (tf_rn N k σ 0).1) ∧ w = wT ct ad N ((tf_rn N k σ 0).2)) (fun E w => (x < 1 ∨ ¬ x ≤ 2000) ∧ E = "java/lang/IllegalArgumentException" ∧ w = wT ct ad N σ) := by
  refine kt_of hst (by decide) (Nat.le_of_ble_eq_true rfl) (by simp [Value.category]) ?_
  intro p e s m args below meth c A ls C hne hr hw hl Q hQ
  have hx := C.1
  have hb := C.2.1
  rcases argn x 1 2000 (by decide) (by decide) with ⟨k, hk, rfl⟩ | h
  · refine q_iload_n hx hb hl dT_run_0 rfl ?_
    refine lv_iconst (v := 1) hx hb dT_run_1 (by decide) ?_
    refine lv_sipush (v := 2000) hx hb dT_run_2 (by decide) ?_
    refine tc_E (tc_S C hl (c_carg l hst D ct (wT ct ad N σ) _ (nI k) 1 2000 (nI_nlt (a := k) (b := 1) hk.1 (by omega)) (nI_le (b := 2000) hk.2 (by omega))) hw.1 hw.2.1 hw.2.2 g_T_40 hd_T_checkArgument rfl rfl ⟨(Nat.le_of_ble_eq_true rfl), (Nat.le_of_ble_eq_true rfl)⟩ (Nat.le_of_ble_eq_true rfl) ⟨(Nat.le_of_ble_eq_true rfl), (Nat.le_of_ble_eq_true rfl)⟩ dT_run_5 rfl) C hw (fun E ce q9 w1 H locs hp hw h1 h2 h3 => ?_) (fun v w1 H locs hp hw => ?_)
    · exact hp.elim
    obtain ⟨rfl, rfl⟩ := hp
    dsimp only [Option.toList_some, Option.toList_none, List.cons_append, List.nil_append]
    refine lv_iconst (v := 0) hx hb dT_run_8 (by decide) ?_
    refine q_istore_n hx hb hl dT_run_9 (by decide) (fun ls hl => ?_)
    refine lv_iconst (v := 0) hx hb dT_run_10 (by decide) ?_
    refine q_istore_n hx hb hl dT_run_11 (by decide) (fun ls hl => ?_)
    have L12 : ∀ (n : Nat) (t : Nat) (τ : St) (g : Int32), t + n = k → tf_rn N n τ g = tf_rn N k σ 0 → ix N (τ 0 0 5) → ∀ (H : Heap) (locs : List Loc) (ls : Array Slot), wl D A s (wT ct ad N τ) H locs → lq ls 4 [some (.ref (ad 0 0)), some (.int (nI k)), some (.int g), some (.int (nI t))] → W p l e (r1 8) s m args below meth c H locs 0 0 Q (F0 m 12 ls []) := by
      intro n
      induction n with
      | zero =>
        intro t τ g hn he h5 H locs ls hw hl
        refine q_iload_n hx hb hl dT_run_12 rfl ?_
        refine q_iload_n hx hb hl dT_run_13 rfl ?_
        refine lv_icmp_ge (tgt := 34) hx hb dT_run_14 (by decide) (fun c_14 => ?_) (fun q9 => absurd (nI_le (by omega) (by omega)) q9)
        refine q_iload_n hx hb hl dT_run_34 rfl ?_
        exact tr_i hQ C hw hr (Nat.le_of_ble_eq_true rfl) (Nat.le_of_ble_eq_true rfl) dT_run_35 ⟨k, hk, rfl, by rw [← he]; rfl, by rw [← he]; rfl⟩
      | succ n ih =>
        intro t τ g hn he h5 H locs ls hw hl
        refine q_iload_n hx hb hl dT_run_12 rfl ?_
        refine q_iload_n hx hb hl dT_run_13 rfl ?_
        refine lv_icmp_ge (tgt := 34) hx hb dT_run_14 (by decide) (fun q9 => absurd q9 (nI_ge (by omega) (by omega))) (fun c_14 => ?_)
        refine q_aload_n hx hb hl dT_run_17 rfl ?_
        refine tc_E (tc_V C hl (c_play l hst D ct ad N hN τ _ h5) hw.1 hw.2.1 hw.2.2 g_T_71 (re_T C hw) hv_T_playCycle rfl rfl ⟨(Nat.le_of_ble_eq_true rfl), (Nat.le_of_ble_eq_true rfl)⟩ (Nat.le_of_ble_eq_true rfl) ⟨(Nat.le_of_ble_eq_true rfl), (Nat.le_of_ble_eq_true rfl)⟩ dT_run_18 rfl) C hw (fun E ce q9 w1 H locs hp hw h1 h2 h3 => ?_) (fun v w1 H locs hp hw => ?_)
        · exact hp.elim
        obtain ⟨rfl, rfl⟩ := hp
        dsimp only [Option.toList_some, Option.toList_none, List.cons_append, List.nil_append]
        refine lv_iconst (v := -1) hx hb dT_run_21 (by decide) ?_
        refine lv_icmp_eq (tgt := 28) hx hb dT_run_22 (by decide) (fun c_22 => ?_) (fun c_22 => ?_)
        · refine q_inc hx hb hl dT_run_28 rfl (by decide) (fun ls hl => ?_)
          refine lv_goto (tgt := 12) hx hb dT_run_31 (by decide) ?_
          exact ih _ _ _ (by omega) (by rw [← he]; simp [tf_rn, c_22]) (pl_5 hN h5) _ _ _ hw hl
        refine q_inc1 hx hb hl dT_run_25 rfl (by decide) (fun ls hl => ?_)
        refine q_inc hx hb hl dT_run_28 rfl (by decide) (fun ls hl => ?_)
        refine lv_goto (tgt := 12) hx hb dT_run_31 (by decide) ?_
        exact ih _ _ _ (by omega) (by rw [← he]; simp [tf_rn, c_22]) (pl_5 hN h5) _ _ _ hw hl
    exact L12 k 0 σ 0 (by omega) rfl h5 _ _ _ hw hl
  · refine q_iload_n hx hb hl dT_run_0 rfl ?_
    refine lv_iconst (v := 1) hx hb dT_run_1 (by decide) ?_
    refine lv_sipush (v := 2000) hx hb dT_run_2 (by decide) ?_
    refine tc_E (tc_S C hl (x_carg l hst D ct (wT ct ad N σ) _ x 1 2000 h) hw.1 hw.2.1 hw.2.2 g_T_40 hd_T_checkArgument rfl rfl ⟨(Nat.le_of_ble_eq_true rfl), (Nat.le_of_ble_eq_true rfl)⟩ (Nat.le_of_ble_eq_true rfl) ⟨(Nat.le_of_ble_eq_true rfl), (Nat.le_of_ble_eq_true rfl)⟩ dT_run_5 rfl) C hw (fun E ce q9 w1 H locs hp hw h1 h2 h3 => ?_) (fun v w1 H locs hp hw => ?_)
    · obtain ⟨rfl, rfl⟩ := hp
      exact tr_x hQ C hne hw (Nat.le_of_ble_eq_true rfl) (Nat.le_of_ble_eq_true rfl) ⟨h, rfl, rfl⟩ h1 h2 h3
    · exact hp.elim
set_option maxHeartbeats 4000000 in
set_option maxRecDepth 100000 in
theorem c_all (l : Launch) (hst : l.stackTraces = false) (D : va_G) (ct : Ct) (ad : Ad) (N : Nat) (hN : N ≤ 16) (σ : St) (sz : Nat) : Kt l yT_entriesInAll cT_entriesInAll 3 (some .int) (r0 1) 0 0 D ct [.ref (ad 0 0)] sz (wT ct ad N σ) (fun v w => v = some (.int (tf_sum σ 8 0 0)) ∧ w = wT ct ad N σ) (fun E w => False) := by
  refine kt_of hst (by decide) (Nat.le_of_ble_eq_true rfl) (by simp [Value.category]) ?_
  intro p e s m args below meth c A ls C hne hr hw hl Q hQ
  have hx := C.1
  have hb := C.2.1
  refine lv_iconst (v := 0) hx hb dT_entriesInAll_0 (by decide) ?_
  refine q_istore_n hx hb hl dT_entriesInAll_1 (by decide) (fun ls hl => ?_)
  refine lv_iconst (v := 0) hx hb dT_entriesInAll_2 (by decide) ?_
  refine q_istore_n hx hb hl dT_entriesInAll_3 (by decide) (fun ls hl => ?_)
  have L4 : ∀ (n : Nat) (q : Nat) (k : Int32), q + n = 8 → tf_sum σ n q k = tf_sum σ 8 0 0 → ∀ (H : Heap) (locs : List Loc) (ls : Array Slot), wl D A s (wT ct ad N σ) H locs → lq ls 3 [some (.ref (ad 0 0)), some (.int k), some (.int (nI q))] → W p l e (r0 1) s m args below meth c H locs 0 0 Q (F0 m 4 ls []) := by
    intro n
    induction n with
    | zero =>
      intro q k hn he H locs ls hw hl
      refine q_iload_n hx hb hl dT_entriesInAll_4 rfl ?_
      refine q_aload_n hx hb hl dT_entriesInAll_5 rfl ?_
      refine tg_T C hw 1 l_T_31 (by decide) rfl dT_entriesInAll_6 ?_
      refine ta_lenL C hw dT_entriesInAll_9 ?_
      refine lv_icmp_ge (tgt := 31) hx hb dT_entriesInAll_10 (by decide) (fun c_10 => ?_) (fun q9 => absurd (nI_le (by omega) (by omega)) q9)
      refine q_iload_n hx hb hl dT_entriesInAll_31 rfl ?_
      exact tr_i hQ C hw hr (Nat.le_of_ble_eq_true rfl) (Nat.le_of_ble_eq_true rfl) dT_entriesInAll_32 ⟨by rw [← he]; rfl, rfl⟩
    | succ n ih =>
      intro q k hn he H locs ls hw hl
      have hq : q < 8 := by omega
      refine q_iload_n hx hb hl dT_entriesInAll_4 rfl ?_
      refine q_aload_n hx hb hl dT_entriesInAll_5 rfl ?_
      refine tg_T C hw 1 l_T_31 (by decide) rfl dT_entriesInAll_6 ?_
      refine ta_lenL C hw dT_entriesInAll_9 ?_
      refine lv_icmp_ge (tgt := 31) hx hb dT_entriesInAll_10 (by decide) (fun q9 => absurd q9 (nI_ge hq (by omega))) (fun c_10 => ?_)
      refine q_iload_n hx hb hl dT_entriesInAll_13 rfl ?_
      refine q_aload_n hx hb hl dT_entriesInAll_14 rfl ?_
      refine tg_T C hw 1 l_T_31 (by decide) rfl dT_entriesInAll_15 ?_
      refine q_iload_n hx hb hl dT_entriesInAll_18 rfl ?_
      refine ta_L C hw (by assumption) rfl dT_entriesInAll_19 ?_
      refine tg_LN C hw 3 l_T_91 (by decide) (by assumption) rfl dT_entriesInAll_20 ?_
      refine lv_iadd hx hb dT_entriesInAll_23 ?_
      refine q_istore_n hx hb hl dT_entriesInAll_24 (by decide) (fun ls hl => ?_)
      refine q_inc hx hb hl dT_entriesInAll_25 rfl (by decide) (fun ls hl => ?_)
      refine lv_goto (tgt := 4) hx hb dT_entriesInAll_28 (by decide) ?_
      exact ih _ _ (by omega) (by rw [← he]; rfl) _ _ _ hw hl
  exact L4 8 0 _ (by omega) rfl _ _ _ hw hl
