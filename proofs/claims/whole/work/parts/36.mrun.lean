theorem m_step2 (l : Launch) (hst : l.stackTraces = false) (D : va_G) (ct : Ct) (am : Nat → Nat) (N : Nat) (hN : N ≤ 16) (h0 : 0 < N) (th : Int32) (σ : St) (sz : Nat) (mm : Nat) (hI : Iv N mm σ) : Kt l yM_step cM_step 3 (some .int) (r0 4) 0 0 D ct [.ref (am 0)] sz (wM ct am N th σ) (fun v w => v = some (.int (tf_plA N σ)) ∧ w = wM ct am N th (tf_plS N σ)) (fun E w => False) := by
  obtain ⟨a, b, c⟩ := st_hyp hN hI
  rw [wM_eq (st_eq hN h0 hI), (st_go hN h0 hI).1]
  exact m_step l hst D ct am N hN h0 th σ sz a b c
theorem m_cyc2 (l : Launch) (hst : l.stackTraces = false) (D : va_G) (ct : Ct) (am : Nat → Nat) (N : Nat) (hN : N ≤ 16) (h0 : 0 < N) (th : Int32) (σ : St) (sz : Nat) (mm : Nat) (hI : Iv N mm σ) : Kt l yM_cycle cM_cycle 1 (some .int) (r0 5) 0 0 D ct [.ref (am 0)] sz (wM ct am N th σ) (fun v w => v = some (.int (tf_plA N σ)) ∧ w = wM ct am N 0 (tf_plS N σ)) (fun E w => False) := by
  obtain ⟨a, b, c⟩ := st_hyp hN hI
  rw [wM_eq (st_eq hN h0 hI), (st_go hN h0 hI).1]
  exact m_cyc l hst D ct am N hN h0 th σ sz a b c
set_option maxHeartbeats 4000000 in
set_option maxRecDepth 100000 in
theorem mo_run2 (l : Launch) (hst : l.stackTraces = false) (D : va_G) (ct : Ct) (am : Nat → Nat) (N : Nat) (hN : N ≤ 16) (h0 : 0 < N) (th : Int32) (σ : St) (sz : Nat) (mm : Nat) (hmm : mm < 2 ^ 29) (hI : Iv N mm σ) (K : Nat) (hk : 1 ≤ K ∧ K ≤ 2000) : Kt l yM_run cM_run 4 (some .int) (r0 5) 0 0 D ct [.ref (am 0), .int (nI K)] sz (wM ct am N th σ) (fun v w => v = some (.int (tf_rn N K σ 0).1) ∧ w = wM ct am N 0 ((tf_rn N K σ 0).2)) (fun E w => False) := by
  refine kt_of hst (by decide) (Nat.le_of_ble_eq_true rfl) (by simp [Value.category]) ?_
  intro p e s m args below meth c A ls C hne hr hw hl Q hQ
  have hx := C.1
  have hb := C.2.1
  refine q_aload_n hx hb hl dM_run_0 rfl ?_
  refine lv_iconst (v := 0) hx hb dM_run_1 (by decide) ?_
  refine mp_0 C hw l_M_64 dM_run_2 (fun H locs hw => ?_)
  refine q_iload_n hx hb hl dM_run_5 rfl ?_
  refine lv_iconst (v := 1) hx hb dM_run_6 (by decide) ?_
  refine lv_sipush (v := 2000) hx hb dM_run_7 (by decide) ?_
  refine tc_E (tc_S C hl (w_ok l hst D ct (wM ct am N 0 σ) _ (nI K) 1 2000 (nI_nlt (a := K) (b := 1) hk.1 (by omega)) (nI_le (b := 2000) hk.2 (by omega))) hw.1 hw.2.1 hw.2.2 g_M_67 hd_M_within rfl rfl ⟨(Nat.le_of_ble_eq_true rfl), (Nat.le_of_ble_eq_true rfl)⟩ (Nat.le_of_ble_eq_true rfl) ⟨(Nat.le_of_ble_eq_true rfl), (Nat.le_of_ble_eq_true rfl)⟩ dM_run_10 rfl) C hw (fun E ce q9 w1 H locs hp hw h1 h2 h3 => ?_) (fun v w1 H locs hp hw => ?_)
  · exact hp.elim
  obtain ⟨rfl, rfl⟩ := hp
  dsimp only [Option.toList_some, Option.toList_none, List.cons_append, List.nil_append]
  refine lv_if_ne (tgt := 22) hx hb dM_run_13 (by decide) (fun c_13 => ?_) (fun q9 => absurd q9 (by decide))
  refine q_aload_n hx hb hl dM_run_22 rfl ?_
  refine mg C hw 7 l_M_129 (by decide) rfl dM_run_23 ?_
  refine q_istore_n hx hb hl dM_run_26 (by decide) (fun ls hl => ?_)
  refine lv_iconst (v := 0) hx hb dM_run_27 (by decide) ?_
  refine q_istore_n hx hb hl dM_run_28 (by decide) (fun ls hl => ?_)
  have L29 : ∀ (n : Nat) (k : Nat), k + n = K → ∀ (H : Heap) (locs : List Loc) (ls : Array Slot), wl D A s (wM ct am N 0 (pl_it N σ k)) H locs → lq ls 4 [some (.ref (am 0)), some (.int (nI K)), some (.int (σ 0 0 8)), some (.int (nI k))] → W p l e (r0 5) s m args below meth c H locs 0 0 Q (F0 m 29 ls []) := by
    intro n
    induction n with
    | zero =>
      intro k hn H locs ls hw hl
      have hk9 : k = K := by omega
      subst hk9
      refine q_iload_n hx hb hl dM_run_29 rfl ?_
      refine q_iload_n hx hb hl dM_run_30 rfl ?_
      refine lv_icmp_ge (tgt := 45) hx hb dM_run_31 (by decide) (fun c_31 => ?_) (fun q9 => absurd (nI_le (by omega) (by omega)) q9)
      refine q_aload_n hx hb hl dM_run_45 rfl ?_
      refine mg C hw 7 l_M_129 (by decide) rfl dM_run_46 ?_
      refine q_iload_n hx hb hl dM_run_49 rfl ?_
      refine lv_isub hx hb dM_run_50 ?_
      exact tr_i hQ C hw hr (Nat.le_of_ble_eq_true rfl) (Nat.le_of_ble_eq_true rfl) dM_run_51 ⟨by rw [rn_v], by rw [rn_2]⟩
    | succ n ih =>
      intro k hn H locs ls hw hl
      have hk9 : k < K := by omega
      refine q_iload_n hx hb hl dM_run_29 rfl ?_
      refine q_iload_n hx hb hl dM_run_30 rfl ?_
      refine lv_icmp_ge (tgt := 45) hx hb dM_run_31 (by decide) (fun q9 => absurd q9 (nI_ge hk9 (by omega))) (fun c_31 => ?_)
      refine q_aload_n hx hb hl dM_run_34 rfl ?_
      refine tc_E (tc_V C hl (m_step2 l hst D ct am N hN h0 0 (pl_it N σ k) _ (mm + k) (Iv_it hN hI k (by omega))) hw.1 hw.2.1 hw.2.2 g_M_132 (re_M C hw) hv_M_step rfl rfl ⟨(Nat.le_of_ble_eq_true rfl), (Nat.le_of_ble_eq_true rfl)⟩ (Nat.le_of_ble_eq_true rfl) ⟨(Nat.le_of_ble_eq_true rfl), (Nat.le_of_ble_eq_true rfl)⟩ dM_run_35 rfl) C hw (fun E ce q9 w1 H locs hp hw h1 h2 h3 => ?_) (fun v w1 H locs hp hw => ?_)
      · exact hp.elim
      obtain ⟨rfl, rfl⟩ := hp
      dsimp only [Option.toList_some, Option.toList_none, List.cons_append, List.nil_append]
      refine lv_pop hx hb dM_run_38 rfl ?_
      refine q_inc hx hb hl dM_run_39 rfl (by decide) (fun ls hl => ?_)
      refine lv_goto (tgt := 29) hx hb dM_run_42 (by decide) ?_
      exact ih (k + 1) (by omega) _ _ _ hw hl
  exact L29 K 0 (by omega) _ _ _ hw hl
