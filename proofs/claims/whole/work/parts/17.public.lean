set_option maxHeartbeats 4000000 in
set_option maxRecDepth 100000 in
theorem c_part (l : Launch) (hst : l.stackTraces = false) (D : va_G) (ct : Ct) (ad : Ad) (N : Nat) (hN : N ≤ 16) (σ : St) (sz : Nat) (p0 p1 p2 : Int32) : Kt l yT_part cT_part 6 (some .int) (r1 8) 1 6 D ct [.ref (ad 0 0), .int p0, .int p1, .int p2] sz (wT ct ad N σ) (fun v w => ∃ q t, q < 8 ∧ p0 = nI q ∧ t < N ∧ p1 = nI t ∧ (¬ p2 < 0 ∧ p2 ≤ 32) ∧ v = some (.int (σ 6 q t)) ∧ w = wT ct ad N (su σ 6 q t p2)) (fun E w => (((p0 < 0 ∨ ¬ p0 < nI 8) ∨ (∃ q, q < 8 ∧ p0 = nI q) ∧ (p1 < 0 ∨ ¬ p1 < nI N)) ∧ E = "java/lang/IndexOutOfBoundsException" ∨ ((∃ q, q < 8 ∧ p0 = nI q) ∧ (∃ t, t < N ∧ p1 = nI t)) ∧ (p2 < 0 ∨ ¬ p2 ≤ 32) ∧ E = "java/lang/IllegalArgumentException") ∧ w = wT ct ad N σ) := by
  refine kt_of hst (by decide) (Nat.le_of_ble_eq_true rfl) (by simp [Value.category]) ?_
  intro p e s m args below meth c A ls C hne hr hw hl Q hQ
  have hx := C.1
  have hb := C.2.1
  rcases ixc p0 8 (by omega) with ⟨q, hq, rfl⟩ | h
  · rcases ixc p1 N (by omega) with ⟨t, ht, rfl⟩ | h
    · rcases argc p2 0 32 with g | g
      · refine q_aload_n hx hb hl dT_part_0 rfl ?_
        refine q_iload_n hx hb hl dT_part_1 rfl ?_
        refine tc_E (tc_V C hl (c_lin l hst D ct ad N hN σ _ q hq _ rfl) hw.1 hw.2.1 hw.2.2 g_T_75 (re_T C hw) hv_T_lineOf rfl rfl ⟨(Nat.le_of_ble_eq_true rfl), (Nat.le_of_ble_eq_true rfl)⟩ (Nat.le_of_ble_eq_true rfl) ⟨(Nat.le_of_ble_eq_true rfl), (Nat.le_of_ble_eq_true rfl)⟩ dT_part_2 rfl) C hw (fun E ce q9 w1 H locs hp hw h1 h2 h3 => ?_) (fun v w1 H locs hp hw => ?_)
        · exact hp.elim
        obtain ⟨rfl, rfl⟩ := hp
        dsimp only [Option.toList_some, Option.toList_none, List.cons_append, List.nil_append]
        refine q_astore hx hb hl dT_part_5 (by decide) (fun ls hl => ?_)
        refine q_iload_n hx hb hl dT_part_7 rfl ?_
        refine q_aload_n hx hb hl dT_part_8 rfl ?_
        refine tg_T C hw 0 l_T_24 (by decide) rfl dT_part_9 ?_
        refine ta_lenS C hw dT_part_12 ?_
        refine tc_E (tc_S C hl (c_cidx l hst D ct (wT ct ad N σ) _ (nI t) (nI N) (nI_pos (by omega)) (nI_lt (by omega) (by omega))) hw.1 hw.2.1 hw.2.2 g_T_79 hd_T_checkIndex rfl rfl ⟨(Nat.le_of_ble_eq_true rfl), (Nat.le_of_ble_eq_true rfl)⟩ (Nat.le_of_ble_eq_true rfl) ⟨(Nat.le_of_ble_eq_true rfl), (Nat.le_of_ble_eq_true rfl)⟩ dT_part_13 rfl) C hw (fun E ce q9 w1 H locs hp hw h1 h2 h3 => ?_) (fun v w1 H locs hp hw => ?_)
        · exact hp.elim
        obtain ⟨rfl, rfl⟩ := hp
        dsimp only [Option.toList_some, Option.toList_none, List.cons_append, List.nil_append]
        refine q_iload_n hx hb hl dT_part_16 rfl ?_
        refine lv_iconst (v := 0) hx hb dT_part_17 (by decide) ?_
        refine lv_bipush (v := 32) hx hb dT_part_18 (by decide) ?_
        refine tc_E (tc_S C hl (c_carg l hst D ct (wT ct ad N σ) _ p2 0 32 g.1 g.2) hw.1 hw.2.1 hw.2.2 g_T_40 hd_T_checkArgument rfl rfl ⟨(Nat.le_of_ble_eq_true rfl), (Nat.le_of_ble_eq_true rfl)⟩ (Nat.le_of_ble_eq_true rfl) ⟨(Nat.le_of_ble_eq_true rfl), (Nat.le_of_ble_eq_true rfl)⟩ dT_part_20 rfl) C hw (fun E ce q9 w1 H locs hp hw h1 h2 h3 => ?_) (fun v w1 H locs hp hw => ?_)
        · exact hp.elim
        obtain ⟨rfl, rfl⟩ := hp
        dsimp only [Option.toList_some, Option.toList_none, List.cons_append, List.nil_append]
        have ht16 : t < 16 := by omega
        refine q_aload hx hb hl dT_part_23 rfl ?_
        refine tg_LN C hw 2 l_T_83 (by decide) (by assumption) rfl dT_part_25 ?_
        refine q_iload_n hx hb hl dT_part_28 rfl ?_
        refine ta_g6 C hw (by assumption) (by assumption) rfl dT_part_29 ?_
        refine q_istore hx hb hl dT_part_30 (by decide) (fun ls hl => ?_)
        refine q_aload hx hb hl dT_part_32 rfl ?_
        refine tg_LN C hw 2 l_T_83 (by decide) (by assumption) rfl dT_part_34 ?_
        refine q_iload_n hx hb hl dT_part_37 rfl ?_
        refine q_iload_n hx hb hl dT_part_38 rfl ?_
        refine ta_p6 C hw (by assumption) (by assumption) rfl dT_part_39 (fun H locs hw => ?_)
        refine q_iload hx hb hl dT_part_40 rfl ?_
        exact tr_i hQ C hw hr (Nat.le_of_ble_eq_true rfl) (Nat.le_of_ble_eq_true rfl) dT_part_42 ⟨q, t, hq, rfl, ht, rfl, g, rfl, rfl⟩
      · refine q_aload_n hx hb hl dT_part_0 rfl ?_
        refine q_iload_n hx hb hl dT_part_1 rfl ?_
        refine tc_E (tc_V C hl (c_lin l hst D ct ad N hN σ _ q hq _ rfl) hw.1 hw.2.1 hw.2.2 g_T_75 (re_T C hw) hv_T_lineOf rfl rfl ⟨(Nat.le_of_ble_eq_true rfl), (Nat.le_of_ble_eq_true rfl)⟩ (Nat.le_of_ble_eq_true rfl) ⟨(Nat.le_of_ble_eq_true rfl), (Nat.le_of_ble_eq_true rfl)⟩ dT_part_2 rfl) C hw (fun E ce q9 w1 H locs hp hw h1 h2 h3 => ?_) (fun v w1 H locs hp hw => ?_)
        · exact hp.elim
        obtain ⟨rfl, rfl⟩ := hp
        dsimp only [Option.toList_some, Option.toList_none, List.cons_append, List.nil_append]
        refine q_astore hx hb hl dT_part_5 (by decide) (fun ls hl => ?_)
        refine q_iload_n hx hb hl dT_part_7 rfl ?_
        refine q_aload_n hx hb hl dT_part_8 rfl ?_
        refine tg_T C hw 0 l_T_24 (by decide) rfl dT_part_9 ?_
        refine ta_lenS C hw dT_part_12 ?_
        refine tc_E (tc_S C hl (c_cidx l hst D ct (wT ct ad N σ) _ (nI t) (nI N) (nI_pos (by omega)) (nI_lt (by omega) (by omega))) hw.1 hw.2.1 hw.2.2 g_T_79 hd_T_checkIndex rfl rfl ⟨(Nat.le_of_ble_eq_true rfl), (Nat.le_of_ble_eq_true rfl)⟩ (Nat.le_of_ble_eq_true rfl) ⟨(Nat.le_of_ble_eq_true rfl), (Nat.le_of_ble_eq_true rfl)⟩ dT_part_13 rfl) C hw (fun E ce q9 w1 H locs hp hw h1 h2 h3 => ?_) (fun v w1 H locs hp hw => ?_)
        · exact hp.elim
        obtain ⟨rfl, rfl⟩ := hp
        dsimp only [Option.toList_some, Option.toList_none, List.cons_append, List.nil_append]
        refine q_iload_n hx hb hl dT_part_16 rfl ?_
        refine lv_iconst (v := 0) hx hb dT_part_17 (by decide) ?_
        refine lv_bipush (v := 32) hx hb dT_part_18 (by decide) ?_
        refine tc_E (tc_S C hl (x_carg l hst D ct (wT ct ad N σ) _ p2 0 32 g) hw.1 hw.2.1 hw.2.2 g_T_40 hd_T_checkArgument rfl rfl ⟨(Nat.le_of_ble_eq_true rfl), (Nat.le_of_ble_eq_true rfl)⟩ (Nat.le_of_ble_eq_true rfl) ⟨(Nat.le_of_ble_eq_true rfl), (Nat.le_of_ble_eq_true rfl)⟩ dT_part_20 rfl) C hw (fun E ce q9 w1 H locs hp hw h1 h2 h3 => ?_) (fun v w1 H locs hp hw => ?_)
        · obtain ⟨rfl, rfl⟩ := hp
          exact tr_x hQ C hne hw (Nat.le_of_ble_eq_true rfl) (Nat.le_of_ble_eq_true rfl) ⟨Or.inr ⟨⟨⟨q, hq, rfl⟩, ⟨t, ht, rfl⟩⟩, g, rfl⟩, rfl⟩ h1 h2 h3
        · exact hp.elim
    · refine q_aload_n hx hb hl dT_part_0 rfl ?_
      refine q_iload_n hx hb hl dT_part_1 rfl ?_
      refine tc_E (tc_V C hl (c_lin l hst D ct ad N hN σ _ q hq _ rfl) hw.1 hw.2.1 hw.2.2 g_T_75 (re_T C hw) hv_T_lineOf rfl rfl ⟨(Nat.le_of_ble_eq_true rfl), (Nat.le_of_ble_eq_true rfl)⟩ (Nat.le_of_ble_eq_true rfl) ⟨(Nat.le_of_ble_eq_true rfl), (Nat.le_of_ble_eq_true rfl)⟩ dT_part_2 rfl) C hw (fun E ce q9 w1 H locs hp hw h1 h2 h3 => ?_) (fun v w1 H locs hp hw => ?_)
      · exact hp.elim
      obtain ⟨rfl, rfl⟩ := hp
      dsimp only [Option.toList_some, Option.toList_none, List.cons_append, List.nil_append]
      refine q_astore hx hb hl dT_part_5 (by decide) (fun ls hl => ?_)
      refine q_iload_n hx hb hl dT_part_7 rfl ?_
      refine q_aload_n hx hb hl dT_part_8 rfl ?_
      refine tg_T C hw 0 l_T_24 (by decide) rfl dT_part_9 ?_
      refine ta_lenS C hw dT_part_12 ?_
      refine tc_E (tc_S C hl (x_cidx l hst D ct (wT ct ad N σ) _ p1 (nI N) h) hw.1 hw.2.1 hw.2.2 g_T_79 hd_T_checkIndex rfl rfl ⟨(Nat.le_of_ble_eq_true rfl), (Nat.le_of_ble_eq_true rfl)⟩ (Nat.le_of_ble_eq_true rfl) ⟨(Nat.le_of_ble_eq_true rfl), (Nat.le_of_ble_eq_true rfl)⟩ dT_part_13 rfl) C hw (fun E ce q9 w1 H locs hp hw h1 h2 h3 => ?_) (fun v w1 H locs hp hw => ?_)
      · obtain ⟨rfl, rfl⟩ := hp
        exact tr_x hQ C hne hw (Nat.le_of_ble_eq_true rfl) (Nat.le_of_ble_eq_true rfl) ⟨Or.inl ⟨Or.inr ⟨⟨q, hq, rfl⟩, h⟩, rfl⟩, rfl⟩ h1 h2 h3
      · exact hp.elim
  · refine q_aload_n hx hb hl dT_part_0 rfl ?_
    refine q_iload_n hx hb hl dT_part_1 rfl ?_
    refine tc_E (tc_V C hl (x_lin l hst D ct ad N hN σ _ p0 h) hw.1 hw.2.1 hw.2.2 g_T_75 (re_T C hw) hv_T_lineOf rfl rfl ⟨(Nat.le_of_ble_eq_true rfl), (Nat.le_of_ble_eq_true rfl)⟩ (Nat.le_of_ble_eq_true rfl) ⟨(Nat.le_of_ble_eq_true rfl), (Nat.le_of_ble_eq_true rfl)⟩ dT_part_2 rfl) C hw (fun E ce q9 w1 H locs hp hw h1 h2 h3 => ?_) (fun v w1 H locs hp hw => ?_)
    · obtain ⟨rfl, rfl⟩ := hp
      exact tr_x hQ C hne hw (Nat.le_of_ble_eq_true rfl) (Nat.le_of_ble_eq_true rfl) ⟨Or.inl ⟨Or.inl h, rfl⟩, rfl⟩ h1 h2 h3
    · exact hp.elim
set_option maxHeartbeats 4000000 in
set_option maxRecDepth 100000 in
theorem c_put (l : Launch) (hst : l.stackTraces = false) (D : va_G) (ct : Ct) (ad : Ad) (N : Nat) (hN : N ≤ 16) (σ : St) (sz : Nat) (hsz : ∀ q, q < 8 → ∃ K, K ≤ 32 ∧ σ 3 q 0 = nI K) (p0 p1 p2 : Int32) : Kt l yT_put cT_put 6 (some .int) (r1 8) 1 6 D ct [.ref (ad 0 0), .int p0, .int p1, .int p2] sz (wT ct ad N σ) (fun v w => ∃ q t K, q < 8 ∧ p0 = nI q ∧ t < N ∧ p1 = nI t ∧ K ≤ 32 ∧ σ 3 q 0 = nI K ∧ v = some (.int (tf_putA σ q t K)) ∧ w = wT ct ad N (tf_putS σ q t K p2)) (fun E w => ((p0 < 0 ∨ ¬ p0 < nI 8) ∨ (∃ q, q < 8 ∧ p0 = nI q) ∧ (p1 < 0 ∨ ¬ p1 < nI N)) ∧ E = "java/lang/IndexOutOfBoundsException" ∧ w = wT ct ad N σ) := by
  refine kt_of hst (by decide) (Nat.le_of_ble_eq_true rfl) (by simp [Value.category]) ?_
  intro p e s m args below meth c A ls C hne hr hw hl Q hQ
  have hx := C.1
  have hb := C.2.1
  rcases ixc p0 8 (by omega) with ⟨q, hq, rfl⟩ | h
  · rcases ixc p1 N (by omega) with ⟨t, ht, rfl⟩ | h
    · refine q_aload_n hx hb hl dT_put_0 rfl ?_
      refine q_iload_n hx hb hl dT_put_1 rfl ?_
      refine tc_E (tc_V C hl (c_lin l hst D ct ad N hN σ _ q hq _ rfl) hw.1 hw.2.1 hw.2.2 g_T_75 (re_T C hw) hv_T_lineOf rfl rfl ⟨(Nat.le_of_ble_eq_true rfl), (Nat.le_of_ble_eq_true rfl)⟩ (Nat.le_of_ble_eq_true rfl) ⟨(Nat.le_of_ble_eq_true rfl), (Nat.le_of_ble_eq_true rfl)⟩ dT_put_2 rfl) C hw (fun E ce q9 w1 H locs hp hw h1 h2 h3 => ?_) (fun v w1 H locs hp hw => ?_)
      · exact hp.elim
      obtain ⟨rfl, rfl⟩ := hp
      dsimp only [Option.toList_some, Option.toList_none, List.cons_append, List.nil_append]
      refine q_astore hx hb hl dT_put_5 (by decide) (fun ls hl => ?_)
      refine q_iload_n hx hb hl dT_put_7 rfl ?_
      refine q_aload_n hx hb hl dT_put_8 rfl ?_
      refine tg_T C hw 0 l_T_24 (by decide) rfl dT_put_9 ?_
      refine ta_lenS C hw dT_put_12 ?_
      refine tc_E (tc_S C hl (c_cidx l hst D ct (wT ct ad N σ) _ (nI t) (nI N) (nI_pos (by omega)) (nI_lt (by omega) (by omega))) hw.1 hw.2.1 hw.2.2 g_T_79 hd_T_checkIndex rfl rfl ⟨(Nat.le_of_ble_eq_true rfl), (Nat.le_of_ble_eq_true rfl)⟩ (Nat.le_of_ble_eq_true rfl) ⟨(Nat.le_of_ble_eq_true rfl), (Nat.le_of_ble_eq_true rfl)⟩ dT_put_13 rfl) C hw (fun E ce q9 w1 H locs hp hw h1 h2 h3 => ?_) (fun v w1 H locs hp hw => ?_)
      · exact hp.elim
      obtain ⟨rfl, rfl⟩ := hp
      dsimp only [Option.toList_some, Option.toList_none, List.cons_append, List.nil_append]
      obtain ⟨K, hK, hs⟩ := hsz q hq
      have ht16 : t < 16 := by omega
      refine q_aload hx hb hl dT_put_16 rfl ?_
      refine q_iload_n hx hb hl dT_put_18 rfl ?_
      refine tc_E (tc_N C hl (c_ent l hst D ct ad N hN σ _ q hq K hK hs (nI t)) hw.1 hw.2.1 hw.2.2 g_T_87 gn_T_87 gw_T_87 (re_L C hw hq) hd_L_entriesOf rfl rfl ⟨(Nat.le_of_ble_eq_true rfl), (Nat.le_of_ble_eq_true rfl)⟩ (Nat.le_of_ble_eq_true rfl) ⟨(Nat.le_of_ble_eq_true rfl), (Nat.le_of_ble_eq_true rfl)⟩ dT_put_19 rfl) C hw (fun E ce q9 w1 H locs hp hw h1 h2 h3 => ?_) (fun v w1 H locs hp hw => ?_)
      · exact hp.elim
      obtain ⟨rfl, rfl⟩ := hp
      dsimp only [Option.toList_some, Option.toList_none, List.cons_append, List.nil_append]
      refine q_istore hx hb hl dT_put_22 (by decide) (fun ls hl => ?_)
      refine q_iload hx hb hl dT_put_24 rfl ?_
      refine q_aload hx hb hl dT_put_26 rfl ?_
      refine tg_LN C hw 2 l_T_83 (by decide) (by assumption) rfl dT_put_28 ?_
      refine q_iload_n hx hb hl dT_put_31 rfl ?_
      refine ta_g6 C hw (by assumption) (by assumption) rfl dT_put_32 ?_
      refine lv_icmp_ge (tgt := 46) hx hb dT_put_33 (by decide) (fun c_33 => ?_) (fun c_33 => ?_)
      · refine lv_iconst (v := -1) hx hb dT_put_46 (by decide) ?_
        exact tr_i hQ C hw hr (Nat.le_of_ble_eq_true rfl) (Nat.le_of_ble_eq_true rfl) dT_put_47 ⟨q, t, K, hq, rfl, ht, rfl, hK, hs, by simp only [tf_putA, if_pos c_33], by simp only [tf_putS, if_pos c_33]⟩
      refine q_aload hx hb hl dT_put_36 rfl ?_
      refine tg_LN C hw 3 l_T_91 (by decide) (by assumption) rfl dT_put_38 ?_
      refine lv_bipush (v := 32) hx hb dT_put_41 (by decide) ?_
      refine lv_icmp_lt (tgt := 48) hx hb dT_put_43 (by decide) (fun c_43 => ?_) (fun c_43 => ?_)
      · have hK2 : K < 32 := by rw [hs] at c_43; exact (nI_ltI (a := K) (b := 32) (by omega) (by omega)).mp c_43
        refine q_aload hx hb hl dT_put_48 rfl ?_
        refine q_iload_n hx hb hl dT_put_50 rfl ?_
        refine q_iload_n hx hb hl dT_put_51 rfl ?_
        refine tc_E (tc_N C hl (c_app l hst D ct ad N hN σ _ q hq K hK hs hK2 (nI t) p2) hw.1 hw.2.1 hw.2.2 g_T_94 gn_T_94 gw_T_94 (re_L C hw hq) hd_L_append rfl rfl ⟨(Nat.le_of_ble_eq_true rfl), (Nat.le_of_ble_eq_true rfl)⟩ (Nat.le_of_ble_eq_true rfl) ⟨(Nat.le_of_ble_eq_true rfl), (Nat.le_of_ble_eq_true rfl)⟩ dT_put_52 rfl) C hw (fun E ce q9 w1 H locs hp hw h1 h2 h3 => ?_) (fun v w1 H locs hp hw => ?_)
        · exact hp.elim
        obtain ⟨rfl, rfl⟩ := hp
        dsimp only [Option.toList_some, Option.toList_none, List.cons_append, List.nil_append]
        refine q_iload hx hb hl dT_put_55 rfl ?_
        refine lv_iconst (v := 1) hx hb dT_put_57 (by decide) ?_
        refine lv_iadd hx hb dT_put_58 ?_
        exact tr_i hQ C hw hr (Nat.le_of_ble_eq_true rfl) (Nat.le_of_ble_eq_true rfl) dT_put_59 ⟨q, t, K, hq, rfl, ht, rfl, hK, hs, by simp only [tf_putA, if_neg c_33, if_pos c_43], by simp only [tf_putS, if_neg c_33, if_pos c_43]⟩
      refine lv_iconst (v := -1) hx hb dT_put_46 (by decide) ?_
      exact tr_i hQ C hw hr (Nat.le_of_ble_eq_true rfl) (Nat.le_of_ble_eq_true rfl) dT_put_47 ⟨q, t, K, hq, rfl, ht, rfl, hK, hs, by simp only [tf_putA, if_neg c_33, if_neg c_43], by simp only [tf_putS, if_neg c_33, if_neg c_43]⟩
    · refine q_aload_n hx hb hl dT_put_0 rfl ?_
      refine q_iload_n hx hb hl dT_put_1 rfl ?_
      refine tc_E (tc_V C hl (c_lin l hst D ct ad N hN σ _ q hq _ rfl) hw.1 hw.2.1 hw.2.2 g_T_75 (re_T C hw) hv_T_lineOf rfl rfl ⟨(Nat.le_of_ble_eq_true rfl), (Nat.le_of_ble_eq_true rfl)⟩ (Nat.le_of_ble_eq_true rfl) ⟨(Nat.le_of_ble_eq_true rfl), (Nat.le_of_ble_eq_true rfl)⟩ dT_put_2 rfl) C hw (fun E ce q9 w1 H locs hp hw h1 h2 h3 => ?_) (fun v w1 H locs hp hw => ?_)
      · exact hp.elim
      obtain ⟨rfl, rfl⟩ := hp
      dsimp only [Option.toList_some, Option.toList_none, List.cons_append, List.nil_append]
      refine q_astore hx hb hl dT_put_5 (by decide) (fun ls hl => ?_)
      refine q_iload_n hx hb hl dT_put_7 rfl ?_
      refine q_aload_n hx hb hl dT_put_8 rfl ?_
      refine tg_T C hw 0 l_T_24 (by decide) rfl dT_put_9 ?_
      refine ta_lenS C hw dT_put_12 ?_
      refine tc_E (tc_S C hl (x_cidx l hst D ct (wT ct ad N σ) _ p1 (nI N) h) hw.1 hw.2.1 hw.2.2 g_T_79 hd_T_checkIndex rfl rfl ⟨(Nat.le_of_ble_eq_true rfl), (Nat.le_of_ble_eq_true rfl)⟩ (Nat.le_of_ble_eq_true rfl) ⟨(Nat.le_of_ble_eq_true rfl), (Nat.le_of_ble_eq_true rfl)⟩ dT_put_13 rfl) C hw (fun E ce q9 w1 H locs hp hw h1 h2 h3 => ?_) (fun v w1 H locs hp hw => ?_)
      · obtain ⟨rfl, rfl⟩ := hp
        exact tr_x hQ C hne hw (Nat.le_of_ble_eq_true rfl) (Nat.le_of_ble_eq_true rfl) ⟨Or.inr ⟨⟨q, hq, rfl⟩, h⟩, rfl, rfl⟩ h1 h2 h3
      · exact hp.elim
  · refine q_aload_n hx hb hl dT_put_0 rfl ?_
    refine q_iload_n hx hb hl dT_put_1 rfl ?_
    refine tc_E (tc_V C hl (x_lin l hst D ct ad N hN σ _ p0 h) hw.1 hw.2.1 hw.2.2 g_T_75 (re_T C hw) hv_T_lineOf rfl rfl ⟨(Nat.le_of_ble_eq_true rfl), (Nat.le_of_ble_eq_true rfl)⟩ (Nat.le_of_ble_eq_true rfl) ⟨(Nat.le_of_ble_eq_true rfl), (Nat.le_of_ble_eq_true rfl)⟩ dT_put_2 rfl) C hw (fun E ce q9 w1 H locs hp hw h1 h2 h3 => ?_) (fun v w1 H locs hp hw => ?_)
    · obtain ⟨rfl, rfl⟩ := hp
      exact tr_x hQ C hne hw (Nat.le_of_ble_eq_true rfl) (Nat.le_of_ble_eq_true rfl) ⟨Or.inl h, rfl, rfl⟩ h1 h2 h3
    · exact hp.elim
set_option maxHeartbeats 4000000 in
set_option maxRecDepth 100000 in
theorem c_take (l : Launch) (hst : l.stackTraces = false) (D : va_G) (ct : Ct) (ad : Ad) (N : Nat) (hN : N ≤ 16) (σ : St) (sz : Nat) (hsz : ∀ q, q < 8 → ∃ K, K ≤ 32 ∧ σ 3 q 0 = nI K) (p0 p1 : Int32) : Kt l yT_take cT_take 6 (some .int) (r1 8) 1 6 D ct [.ref (ad 0 0), .int p0, .int p1] sz (wT ct ad N σ) (fun v w => ∃ q K j, q < 8 ∧ p0 = nI q ∧ K ≤ 32 ∧ σ 3 q 0 = nI K ∧ j < K ∧ tf_fst σ q p1 K 0 = nI j ∧ (p1 = -1 ∨ (∃ t, t < N ∧ p1 = nI t)) ∧ v = some (.int (σ 5 q j)) ∧ w = wT ct ad N (su (tf_cl q (K - 1 - j) j σ) 3 q 0 (nI (K - 1)))) (fun E w => (((p0 < 0 ∨ ¬ p0 < nI 8) ∨ (∃ q, q < 8 ∧ p0 = nI q) ∧ (p1 < 0 ∨ ¬ p1 < nI N) ∧ ¬ p1 = -1) ∧ E = "java/lang/IndexOutOfBoundsException" ∨ (∃ q K, q < 8 ∧ p0 = nI q ∧ K ≤ 32 ∧ σ 3 q 0 = nI K ∧ (p1 = -1 ∨ (∃ t, t < N ∧ p1 = nI t)) ∧ (tf_fst σ q p1 K 0 < 0 ∨ ¬ tf_fst σ q p1 K 0 < σ 3 q 0)) ∧ E = "java/lang/IllegalStateException") ∧ w = wT ct ad N σ) := by
  refine kt_of hst (by decide) (Nat.le_of_ble_eq_true rfl) (by simp [Value.category]) ?_
  intro p e s m args below meth c A ls C hne hr hw hl Q hQ
  have hx := C.1
  have hb := C.2.1
  rcases ixc p0 8 (by omega) with ⟨q, hq, rfl⟩ | h
  · obtain ⟨K, hK, hs⟩ := hsz q hq
    rcases takec p1 N (by omega) with rfl | ⟨t, ht, rfl⟩ | ⟨h, h9⟩
    · refine q_aload_n hx hb hl dT_take_0 rfl ?_
      refine q_iload_n hx hb hl dT_take_1 rfl ?_
      refine tc_E (tc_V C hl (c_lin l hst D ct ad N hN σ _ q hq _ rfl) hw.1 hw.2.1 hw.2.2 g_T_75 (re_T C hw) hv_T_lineOf rfl rfl ⟨(Nat.le_of_ble_eq_true rfl), (Nat.le_of_ble_eq_true rfl)⟩ (Nat.le_of_ble_eq_true rfl) ⟨(Nat.le_of_ble_eq_true rfl), (Nat.le_of_ble_eq_true rfl)⟩ dT_take_2 rfl) C hw (fun E ce q9 w1 H locs hp hw h1 h2 h3 => ?_) (fun v w1 H locs hp hw => ?_)
      · exact hp.elim
      obtain ⟨rfl, rfl⟩ := hp
      dsimp only [Option.toList_some, Option.toList_none, List.cons_append, List.nil_append]
      refine q_astore_n hx hb hl dT_take_5 (by decide) (fun ls hl => ?_)
      refine q_iload_n hx hb hl dT_take_6 rfl ?_
      refine lv_iconst (v := -1) hx hb dT_take_7 (by decide) ?_
      refine lv_icmp_eq (tgt := 20) hx hb dT_take_8 (by decide) (fun c_8 => ?_) (fun q9 => absurd rfl q9)
      refine q_aload_n hx hb hl dT_take_20 rfl ?_
      refine q_iload_n hx hb hl dT_take_21 rfl ?_
      refine tc_E (tc_N C hl (c_fst l hst D ct ad N hN σ _ q hq K hK hs (-1)) hw.1 hw.2.1 hw.2.2 g_T_97 gn_T_97 gw_T_97 (re_L C hw hq) hd_L_firstOf rfl rfl ⟨(Nat.le_of_ble_eq_true rfl), (Nat.le_of_ble_eq_true rfl)⟩ (Nat.le_of_ble_eq_true rfl) ⟨(Nat.le_of_ble_eq_true rfl), (Nat.le_of_ble_eq_true rfl)⟩ dT_take_22 rfl) C hw (fun E ce q9 w1 H locs hp hw h1 h2 h3 => ?_) (fun v w1 H locs hp hw => ?_)
      · exact hp.elim
      obtain ⟨rfl, rfl⟩ := hp
      dsimp only [Option.toList_some, Option.toList_none, List.cons_append, List.nil_append]
      refine q_istore hx hb hl dT_take_25 (by decide) (fun ls hl => ?_)
      refine q_iload hx hb hl dT_take_27 rfl ?_
      refine lv_if_lt (tgt := 41) hx hb dT_take_29 (by decide) (fun c_29 => ?_) (fun c_29 => ?_)
      · exact tt_S (cls := "java/lang/IllegalStateException") hQ C hne hw hl x_T_entry ⟨dT_take_41, dT_take_44, dT_take_45, dT_take_47, dT_take_50⟩ ⟨(Nat.le_of_ble_eq_true rfl), (Nat.le_of_ble_eq_true rfl), (Nat.le_of_ble_eq_true rfl), (Nat.le_of_ble_eq_true rfl), (Nat.le_of_ble_eq_true rfl), (Nat.le_of_ble_eq_true rfl)⟩ ⟨Or.inr ⟨⟨q, K, hq, rfl, hK, hs, Or.inl rfl, by first | exact Or.inl c_29 | exact Or.inr c_38⟩, rfl⟩, rfl⟩
      refine q_iload hx hb hl dT_take_32 rfl ?_
      refine q_aload_n hx hb hl dT_take_34 rfl ?_
      refine tg_LN C hw 3 l_T_91 (by decide) (by assumption) rfl dT_take_35 ?_
      refine lv_icmp_lt (tgt := 51) hx hb dT_take_38 (by decide) (fun c_38 => ?_) (fun c_38 => ?_)
      · obtain ⟨j, hj, hje⟩ := ix_of c_29 (by rw [hs] at c_38; exact c_38) (by omega)
        refine q_aload_n hx hb hl dT_take_51 rfl ?_
        refine tg_LN C hw 1 l_T_107 (by decide) (by assumption) rfl dT_take_52 ?_
        refine q_iload hx hb hl dT_take_55 rfl ?_
        refine ta_g5 C hw (by assumption) (k := j) (by omega) hje dT_take_57 ?_
        refine q_istore hx hb hl dT_take_58 (by decide) (fun ls hl => ?_)
        refine q_aload_n hx hb hl dT_take_60 rfl ?_
        refine q_iload hx hb hl dT_take_61 rfl ?_
        refine tc_E (tc_N C hl (c_cls l hst D ct ad N hN σ _ q hq K hK hs j hj _ hje) hw.1 hw.2.1 hw.2.2 g_T_110 gn_T_110 gw_T_110 (re_L C hw hq) hd_L_close rfl rfl ⟨(Nat.le_of_ble_eq_true rfl), (Nat.le_of_ble_eq_true rfl)⟩ (Nat.le_of_ble_eq_true rfl) ⟨(Nat.le_of_ble_eq_true rfl), (Nat.le_of_ble_eq_true rfl)⟩ dT_take_63 rfl) C hw (fun E ce q9 w1 H locs hp hw h1 h2 h3 => ?_) (fun v w1 H locs hp hw => ?_)
        · exact hp.elim
        obtain ⟨rfl, rfl⟩ := hp
        dsimp only [Option.toList_some, Option.toList_none, List.cons_append, List.nil_append]
        refine q_iload hx hb hl dT_take_66 rfl ?_
        exact tr_i hQ C hw hr (Nat.le_of_ble_eq_true rfl) (Nat.le_of_ble_eq_true rfl) dT_take_68 ⟨q, K, j, hq, rfl, hK, hs, hj, hje, by first | exact Or.inl rfl | exact Or.inr ⟨t, ht, rfl⟩, rfl, rfl⟩
      exact tt_S (cls := "java/lang/IllegalStateException") hQ C hne hw hl x_T_entry ⟨dT_take_41, dT_take_44, dT_take_45, dT_take_47, dT_take_50⟩ ⟨(Nat.le_of_ble_eq_true rfl), (Nat.le_of_ble_eq_true rfl), (Nat.le_of_ble_eq_true rfl), (Nat.le_of_ble_eq_true rfl), (Nat.le_of_ble_eq_true rfl), (Nat.le_of_ble_eq_true rfl)⟩ ⟨Or.inr ⟨⟨q, K, hq, rfl, hK, hs, Or.inl rfl, by first | exact Or.inl c_29 | exact Or.inr c_38⟩, rfl⟩, rfl⟩
    · refine q_aload_n hx hb hl dT_take_0 rfl ?_
      refine q_iload_n hx hb hl dT_take_1 rfl ?_
      refine tc_E (tc_V C hl (c_lin l hst D ct ad N hN σ _ q hq _ rfl) hw.1 hw.2.1 hw.2.2 g_T_75 (re_T C hw) hv_T_lineOf rfl rfl ⟨(Nat.le_of_ble_eq_true rfl), (Nat.le_of_ble_eq_true rfl)⟩ (Nat.le_of_ble_eq_true rfl) ⟨(Nat.le_of_ble_eq_true rfl), (Nat.le_of_ble_eq_true rfl)⟩ dT_take_2 rfl) C hw (fun E ce q9 w1 H locs hp hw h1 h2 h3 => ?_) (fun v w1 H locs hp hw => ?_)
      · exact hp.elim
      obtain ⟨rfl, rfl⟩ := hp
      dsimp only [Option.toList_some, Option.toList_none, List.cons_append, List.nil_append]
      refine q_astore_n hx hb hl dT_take_5 (by decide) (fun ls hl => ?_)
      refine q_iload_n hx hb hl dT_take_6 rfl ?_
      refine lv_iconst (v := -1) hx hb dT_take_7 (by decide) ?_
      refine lv_icmp_eq (tgt := 20) hx hb dT_take_8 (by decide) (fun q9 => absurd q9 (nI_m1 (by omega))) (fun c_8 => ?_)
      refine q_iload_n hx hb hl dT_take_11 rfl ?_
      refine q_aload_n hx hb hl dT_take_12 rfl ?_
      refine tg_T C hw 0 l_T_24 (by decide) rfl dT_take_13 ?_
      refine ta_lenS C hw dT_take_16 ?_
      refine tc_E (tc_S C hl (c_cidx l hst D ct (wT ct ad N σ) _ (nI t) (nI N) (nI_pos (by omega)) (nI_lt (by omega) (by omega))) hw.1 hw.2.1 hw.2.2 g_T_79 hd_T_checkIndex rfl rfl ⟨(Nat.le_of_ble_eq_true rfl), (Nat.le_of_ble_eq_true rfl)⟩ (Nat.le_of_ble_eq_true rfl) ⟨(Nat.le_of_ble_eq_true rfl), (Nat.le_of_ble_eq_true rfl)⟩ dT_take_17 rfl) C hw (fun E ce q9 w1 H locs hp hw h1 h2 h3 => ?_) (fun v w1 H locs hp hw => ?_)
      · exact hp.elim
      obtain ⟨rfl, rfl⟩ := hp
      dsimp only [Option.toList_some, Option.toList_none, List.cons_append, List.nil_append]
      refine q_aload_n hx hb hl dT_take_20 rfl ?_
      refine q_iload_n hx hb hl dT_take_21 rfl ?_
      refine tc_E (tc_N C hl (c_fst l hst D ct ad N hN σ _ q hq K hK hs (nI t)) hw.1 hw.2.1 hw.2.2 g_T_97 gn_T_97 gw_T_97 (re_L C hw hq) hd_L_firstOf rfl rfl ⟨(Nat.le_of_ble_eq_true rfl), (Nat.le_of_ble_eq_true rfl)⟩ (Nat.le_of_ble_eq_true rfl) ⟨(Nat.le_of_ble_eq_true rfl), (Nat.le_of_ble_eq_true rfl)⟩ dT_take_22 rfl) C hw (fun E ce q9 w1 H locs hp hw h1 h2 h3 => ?_) (fun v w1 H locs hp hw => ?_)
      · exact hp.elim
      obtain ⟨rfl, rfl⟩ := hp
      dsimp only [Option.toList_some, Option.toList_none, List.cons_append, List.nil_append]
      refine q_istore hx hb hl dT_take_25 (by decide) (fun ls hl => ?_)
      refine q_iload hx hb hl dT_take_27 rfl ?_
      refine lv_if_lt (tgt := 41) hx hb dT_take_29 (by decide) (fun c_29 => ?_) (fun c_29 => ?_)
      · exact tt_S (cls := "java/lang/IllegalStateException") hQ C hne hw hl x_T_entry ⟨dT_take_41, dT_take_44, dT_take_45, dT_take_47, dT_take_50⟩ ⟨(Nat.le_of_ble_eq_true rfl), (Nat.le_of_ble_eq_true rfl), (Nat.le_of_ble_eq_true rfl), (Nat.le_of_ble_eq_true rfl), (Nat.le_of_ble_eq_true rfl), (Nat.le_of_ble_eq_true rfl)⟩ ⟨Or.inr ⟨⟨q, K, hq, rfl, hK, hs, Or.inr ⟨t, ht, rfl⟩, by first | exact Or.inl c_29 | exact Or.inr c_38⟩, rfl⟩, rfl⟩
      refine q_iload hx hb hl dT_take_32 rfl ?_
      refine q_aload_n hx hb hl dT_take_34 rfl ?_
      refine tg_LN C hw 3 l_T_91 (by decide) (by assumption) rfl dT_take_35 ?_
      refine lv_icmp_lt (tgt := 51) hx hb dT_take_38 (by decide) (fun c_38 => ?_) (fun c_38 => ?_)
      · obtain ⟨j, hj, hje⟩ := ix_of c_29 (by rw [hs] at c_38; exact c_38) (by omega)
        refine q_aload_n hx hb hl dT_take_51 rfl ?_
        refine tg_LN C hw 1 l_T_107 (by decide) (by assumption) rfl dT_take_52 ?_
        refine q_iload hx hb hl dT_take_55 rfl ?_
        refine ta_g5 C hw (by assumption) (k := j) (by omega) hje dT_take_57 ?_
        refine q_istore hx hb hl dT_take_58 (by decide) (fun ls hl => ?_)
        refine q_aload_n hx hb hl dT_take_60 rfl ?_
        refine q_iload hx hb hl dT_take_61 rfl ?_
        refine tc_E (tc_N C hl (c_cls l hst D ct ad N hN σ _ q hq K hK hs j hj _ hje) hw.1 hw.2.1 hw.2.2 g_T_110 gn_T_110 gw_T_110 (re_L C hw hq) hd_L_close rfl rfl ⟨(Nat.le_of_ble_eq_true rfl), (Nat.le_of_ble_eq_true rfl)⟩ (Nat.le_of_ble_eq_true rfl) ⟨(Nat.le_of_ble_eq_true rfl), (Nat.le_of_ble_eq_true rfl)⟩ dT_take_63 rfl) C hw (fun E ce q9 w1 H locs hp hw h1 h2 h3 => ?_) (fun v w1 H locs hp hw => ?_)
        · exact hp.elim
        obtain ⟨rfl, rfl⟩ := hp
        dsimp only [Option.toList_some, Option.toList_none, List.cons_append, List.nil_append]
        refine q_iload hx hb hl dT_take_66 rfl ?_
        exact tr_i hQ C hw hr (Nat.le_of_ble_eq_true rfl) (Nat.le_of_ble_eq_true rfl) dT_take_68 ⟨q, K, j, hq, rfl, hK, hs, hj, hje, by first | exact Or.inl rfl | exact Or.inr ⟨t, ht, rfl⟩, rfl, rfl⟩
      exact tt_S (cls := "java/lang/IllegalStateException") hQ C hne hw hl x_T_entry ⟨dT_take_41, dT_take_44, dT_take_45, dT_take_47, dT_take_50⟩ ⟨(Nat.le_of_ble_eq_true rfl), (Nat.le_of_ble_eq_true rfl), (Nat.le_of_ble_eq_true rfl), (Nat.le_of_ble_eq_true rfl), (Nat.le_of_ble_eq_true rfl), (Nat.le_of_ble_eq_true rfl)⟩ ⟨Or.inr ⟨⟨q, K, hq, rfl, hK, hs, Or.inr ⟨t, ht, rfl⟩, by first | exact Or.inl c_29 | exact Or.inr c_38⟩, rfl⟩, rfl⟩
    · refine q_aload_n hx hb hl dT_take_0 rfl ?_
      refine q_iload_n hx hb hl dT_take_1 rfl ?_
      refine tc_E (tc_V C hl (c_lin l hst D ct ad N hN σ _ q hq _ rfl) hw.1 hw.2.1 hw.2.2 g_T_75 (re_T C hw) hv_T_lineOf rfl rfl ⟨(Nat.le_of_ble_eq_true rfl), (Nat.le_of_ble_eq_true rfl)⟩ (Nat.le_of_ble_eq_true rfl) ⟨(Nat.le_of_ble_eq_true rfl), (Nat.le_of_ble_eq_true rfl)⟩ dT_take_2 rfl) C hw (fun E ce q9 w1 H locs hp hw h1 h2 h3 => ?_) (fun v w1 H locs hp hw => ?_)
      · exact hp.elim
      obtain ⟨rfl, rfl⟩ := hp
      dsimp only [Option.toList_some, Option.toList_none, List.cons_append, List.nil_append]
      refine q_astore_n hx hb hl dT_take_5 (by decide) (fun ls hl => ?_)
      refine q_iload_n hx hb hl dT_take_6 rfl ?_
      refine lv_iconst (v := -1) hx hb dT_take_7 (by decide) ?_
      refine lv_icmp_eq (tgt := 20) hx hb dT_take_8 (by decide) (fun q9 => absurd q9 h9) (fun c_8 => ?_)
      refine q_iload_n hx hb hl dT_take_11 rfl ?_
      refine q_aload_n hx hb hl dT_take_12 rfl ?_
      refine tg_T C hw 0 l_T_24 (by decide) rfl dT_take_13 ?_
      refine ta_lenS C hw dT_take_16 ?_
      refine tc_E (tc_S C hl (x_cidx l hst D ct (wT ct ad N σ) _ p1 (nI N) h) hw.1 hw.2.1 hw.2.2 g_T_79 hd_T_checkIndex rfl rfl ⟨(Nat.le_of_ble_eq_true rfl), (Nat.le_of_ble_eq_true rfl)⟩ (Nat.le_of_ble_eq_true rfl) ⟨(Nat.le_of_ble_eq_true rfl), (Nat.le_of_ble_eq_true rfl)⟩ dT_take_17 rfl) C hw (fun E ce q9 w1 H locs hp hw h1 h2 h3 => ?_) (fun v w1 H locs hp hw => ?_)
      · obtain ⟨rfl, rfl⟩ := hp
        exact tr_x hQ C hne hw (Nat.le_of_ble_eq_true rfl) (Nat.le_of_ble_eq_true rfl) ⟨Or.inl ⟨Or.inr ⟨⟨q, hq, rfl⟩, h, h9⟩, rfl⟩, rfl⟩ h1 h2 h3
      · exact hp.elim
  · refine q_aload_n hx hb hl dT_take_0 rfl ?_
    refine q_iload_n hx hb hl dT_take_1 rfl ?_
    refine tc_E (tc_V C hl (x_lin l hst D ct ad N hN σ _ p0 h) hw.1 hw.2.1 hw.2.2 g_T_75 (re_T C hw) hv_T_lineOf rfl rfl ⟨(Nat.le_of_ble_eq_true rfl), (Nat.le_of_ble_eq_true rfl)⟩ (Nat.le_of_ble_eq_true rfl) ⟨(Nat.le_of_ble_eq_true rfl), (Nat.le_of_ble_eq_true rfl)⟩ dT_take_2 rfl) C hw (fun E ce q9 w1 H locs hp hw h1 h2 h3 => ?_) (fun v w1 H locs hp hw => ?_)
    · obtain ⟨rfl, rfl⟩ := hp
      exact tr_x hQ C hne hw (Nat.le_of_ble_eq_true rfl) (Nat.le_of_ble_eq_true rfl) ⟨Or.inl ⟨Or.inl h, rfl⟩, rfl⟩ h1 h2 h3
    · exact hp.elim
set_option maxHeartbeats 4000000 in
set_option maxRecDepth 100000 in
theorem c_entry (l : Launch) (hst : l.stackTraces = false) (D : va_G) (ct : Ct) (ad : Ad) (N : Nat) (hN : N ≤ 16) (σ : St) (sz : Nat) (hsz : ∀ q, q < 8 → ∃ K, K ≤ 32 ∧ σ 3 q 0 = nI K) (p0 p1 p2 : Int32) : Kt l yT_entry cT_entry 5 (some .int) (r1 8) 1 6 D ct [.ref (ad 0 0), .int p0, .int p1, .int p2] sz (wT ct ad N σ) (fun v w => ∃ q K j u, q < 8 ∧ p0 = nI q ∧ K ≤ 32 ∧ σ 3 q 0 = nI K ∧ j < K ∧ p1 = nI j ∧ u < 2 ∧ p2 = nI u ∧ v = some (.int (if nI u = 0 then σ 4 q j else σ 5 q j)) ∧ w = wT ct ad N σ) (fun E w => ((p0 < 0 ∨ ¬ p0 < nI 8) ∨ ∃ q K, q < 8 ∧ p0 = nI q ∧ K ≤ 32 ∧ σ 3 q 0 = nI K ∧ ((p1 < 0 ∨ ¬ p1 < nI K) ∨ (∃ j, j < K ∧ p1 = nI j) ∧ (p2 < 0 ∨ ¬ p2 < nI 2))) ∧ E = "java/lang/IndexOutOfBoundsException" ∧ w = wT ct ad N σ) := by
  refine kt_of hst (by decide) (Nat.le_of_ble_eq_true rfl) (by simp [Value.category]) ?_
  intro p e s m args below meth c A ls C hne hr hw hl Q hQ
  have hx := C.1
  have hb := C.2.1
  rcases ixc p0 8 (by omega) with ⟨q, hq, rfl⟩ | h
  · obtain ⟨K, hK, hs⟩ := hsz q hq
    rcases ixc p1 K (by omega) with ⟨j, hj, rfl⟩ | h
    · have hj32 : j < 32 := by omega
      rcases ixc p2 2 (by omega) with ⟨u, hu, rfl⟩ | g
      · refine q_aload_n hx hb hl dT_entry_0 rfl ?_
        refine q_iload_n hx hb hl dT_entry_1 rfl ?_
        refine tc_E (tc_V C hl (c_lin l hst D ct ad N hN σ _ q hq _ rfl) hw.1 hw.2.1 hw.2.2 g_T_75 (re_T C hw) hv_T_lineOf rfl rfl ⟨(Nat.le_of_ble_eq_true rfl), (Nat.le_of_ble_eq_true rfl)⟩ (Nat.le_of_ble_eq_true rfl) ⟨(Nat.le_of_ble_eq_true rfl), (Nat.le_of_ble_eq_true rfl)⟩ dT_entry_2 rfl) C hw (fun E ce q9 w1 H locs hp hw h1 h2 h3 => ?_) (fun v w1 H locs hp hw => ?_)
        · exact hp.elim
        obtain ⟨rfl, rfl⟩ := hp
        dsimp only [Option.toList_some, Option.toList_none, List.cons_append, List.nil_append]
        refine q_astore hx hb hl dT_entry_5 (by decide) (fun ls hl => ?_)
        refine q_iload_n hx hb hl dT_entry_7 rfl ?_
        refine q_aload hx hb hl dT_entry_8 rfl ?_
        refine tg_LN C hw 3 l_T_91 (by decide) (by assumption) rfl dT_entry_10 ?_
        refine tc_E (tc_S C hl (c_cidx l hst D ct (wT ct ad N σ) _ (nI j) (σ 3 q 0) (nI_pos (by omega)) (by rw [hs]; exact nI_lt hj (by omega))) hw.1 hw.2.1 hw.2.2 g_T_79 hd_T_checkIndex rfl rfl ⟨(Nat.le_of_ble_eq_true rfl), (Nat.le_of_ble_eq_true rfl)⟩ (Nat.le_of_ble_eq_true rfl) ⟨(Nat.le_of_ble_eq_true rfl), (Nat.le_of_ble_eq_true rfl)⟩ dT_entry_13 rfl) C hw (fun E ce q9 w1 H locs hp hw h1 h2 h3 => ?_) (fun v w1 H locs hp hw => ?_)
        · exact hp.elim
        obtain ⟨rfl, rfl⟩ := hp
        dsimp only [Option.toList_some, Option.toList_none, List.cons_append, List.nil_append]
        refine q_iload_n hx hb hl dT_entry_16 rfl ?_
        refine lv_iconst (v := 2) hx hb dT_entry_17 (by decide) ?_
        refine tc_E (tc_S C hl (c_cidx l hst D ct (wT ct ad N σ) _ (nI u) (nI 2) (nI_pos (by omega)) (nI_lt (by omega) (by omega))) hw.1 hw.2.1 hw.2.2 g_T_79 hd_T_checkIndex rfl rfl ⟨(Nat.le_of_ble_eq_true rfl), (Nat.le_of_ble_eq_true rfl)⟩ (Nat.le_of_ble_eq_true rfl) ⟨(Nat.le_of_ble_eq_true rfl), (Nat.le_of_ble_eq_true rfl)⟩ dT_entry_18 rfl) C hw (fun E ce q9 w1 H locs hp hw h1 h2 h3 => ?_) (fun v w1 H locs hp hw => ?_)
        · exact hp.elim
        obtain ⟨rfl, rfl⟩ := hp
        dsimp only [Option.toList_some, Option.toList_none, List.cons_append, List.nil_append]
        refine q_iload_n hx hb hl dT_entry_21 rfl ?_
        refine lv_if_ne (tgt := 35) hx hb dT_entry_22 (by decide) (fun c_22 => ?_) (fun c_22 => ?_)
        · refine q_aload hx hb hl dT_entry_35 rfl ?_
          refine tg_LN C hw 1 l_T_107 (by decide) (by assumption) rfl dT_entry_37 ?_
          refine q_iload_n hx hb hl dT_entry_40 rfl ?_
          refine ta_g5 C hw (by assumption) (by assumption) rfl dT_entry_41 ?_
          exact tr_i hQ C hw hr (Nat.le_of_ble_eq_true rfl) (Nat.le_of_ble_eq_true rfl) dT_entry_42 ⟨q, K, j, u, hq, rfl, hK, hs, hj, rfl, hu, rfl, by simp only [if_neg c_22], rfl⟩
        refine q_aload hx hb hl dT_entry_25 rfl ?_
        refine tg_LN C hw 0 l_T_114 (by decide) (by assumption) rfl dT_entry_27 ?_
        refine q_iload_n hx hb hl dT_entry_30 rfl ?_
        refine ta_g4 C hw (by assumption) (by assumption) rfl dT_entry_31 ?_
        refine lv_goto (tgt := 42) hx hb dT_entry_32 (by decide) ?_
        exact tr_i hQ C hw hr (Nat.le_of_ble_eq_true rfl) (Nat.le_of_ble_eq_true rfl) dT_entry_42 ⟨q, K, j, u, hq, rfl, hK, hs, hj, rfl, hu, rfl, by simp only [if_pos c_22], rfl⟩
      · refine q_aload_n hx hb hl dT_entry_0 rfl ?_
        refine q_iload_n hx hb hl dT_entry_1 rfl ?_
        refine tc_E (tc_V C hl (c_lin l hst D ct ad N hN σ _ q hq _ rfl) hw.1 hw.2.1 hw.2.2 g_T_75 (re_T C hw) hv_T_lineOf rfl rfl ⟨(Nat.le_of_ble_eq_true rfl), (Nat.le_of_ble_eq_true rfl)⟩ (Nat.le_of_ble_eq_true rfl) ⟨(Nat.le_of_ble_eq_true rfl), (Nat.le_of_ble_eq_true rfl)⟩ dT_entry_2 rfl) C hw (fun E ce q9 w1 H locs hp hw h1 h2 h3 => ?_) (fun v w1 H locs hp hw => ?_)
        · exact hp.elim
        obtain ⟨rfl, rfl⟩ := hp
        dsimp only [Option.toList_some, Option.toList_none, List.cons_append, List.nil_append]
        refine q_astore hx hb hl dT_entry_5 (by decide) (fun ls hl => ?_)
        refine q_iload_n hx hb hl dT_entry_7 rfl ?_
        refine q_aload hx hb hl dT_entry_8 rfl ?_
        refine tg_LN C hw 3 l_T_91 (by decide) (by assumption) rfl dT_entry_10 ?_
        refine tc_E (tc_S C hl (c_cidx l hst D ct (wT ct ad N σ) _ (nI j) (σ 3 q 0) (nI_pos (by omega)) (by rw [hs]; exact nI_lt hj (by omega))) hw.1 hw.2.1 hw.2.2 g_T_79 hd_T_checkIndex rfl rfl ⟨(Nat.le_of_ble_eq_true rfl), (Nat.le_of_ble_eq_true rfl)⟩ (Nat.le_of_ble_eq_true rfl) ⟨(Nat.le_of_ble_eq_true rfl), (Nat.le_of_ble_eq_true rfl)⟩ dT_entry_13 rfl) C hw (fun E ce q9 w1 H locs hp hw h1 h2 h3 => ?_) (fun v w1 H locs hp hw => ?_)
        · exact hp.elim
        obtain ⟨rfl, rfl⟩ := hp
        dsimp only [Option.toList_some, Option.toList_none, List.cons_append, List.nil_append]
        refine q_iload_n hx hb hl dT_entry_16 rfl ?_
        refine lv_iconst (v := 2) hx hb dT_entry_17 (by decide) ?_
        refine tc_E (tc_S C hl (x_cidx l hst D ct (wT ct ad N σ) _ p2 (nI 2) g) hw.1 hw.2.1 hw.2.2 g_T_79 hd_T_checkIndex rfl rfl ⟨(Nat.le_of_ble_eq_true rfl), (Nat.le_of_ble_eq_true rfl)⟩ (Nat.le_of_ble_eq_true rfl) ⟨(Nat.le_of_ble_eq_true rfl), (Nat.le_of_ble_eq_true rfl)⟩ dT_entry_18 rfl) C hw (fun E ce q9 w1 H locs hp hw h1 h2 h3 => ?_) (fun v w1 H locs hp hw => ?_)
        · obtain ⟨rfl, rfl⟩ := hp
          exact tr_x hQ C hne hw (Nat.le_of_ble_eq_true rfl) (Nat.le_of_ble_eq_true rfl) ⟨Or.inr ⟨q, K, hq, rfl, hK, hs, Or.inr ⟨⟨j, hj, rfl⟩, g⟩⟩, rfl, rfl⟩ h1 h2 h3
        · exact hp.elim
    · refine q_aload_n hx hb hl dT_entry_0 rfl ?_
      refine q_iload_n hx hb hl dT_entry_1 rfl ?_
      refine tc_E (tc_V C hl (c_lin l hst D ct ad N hN σ _ q hq _ rfl) hw.1 hw.2.1 hw.2.2 g_T_75 (re_T C hw) hv_T_lineOf rfl rfl ⟨(Nat.le_of_ble_eq_true rfl), (Nat.le_of_ble_eq_true rfl)⟩ (Nat.le_of_ble_eq_true rfl) ⟨(Nat.le_of_ble_eq_true rfl), (Nat.le_of_ble_eq_true rfl)⟩ dT_entry_2 rfl) C hw (fun E ce q9 w1 H locs hp hw h1 h2 h3 => ?_) (fun v w1 H locs hp hw => ?_)
      · exact hp.elim
      obtain ⟨rfl, rfl⟩ := hp
      dsimp only [Option.toList_some, Option.toList_none, List.cons_append, List.nil_append]
      refine q_astore hx hb hl dT_entry_5 (by decide) (fun ls hl => ?_)
      refine q_iload_n hx hb hl dT_entry_7 rfl ?_
      refine q_aload hx hb hl dT_entry_8 rfl ?_
      refine tg_LN C hw 3 l_T_91 (by decide) (by assumption) rfl dT_entry_10 ?_
      refine tc_E (tc_S C hl (x_cidx l hst D ct (wT ct ad N σ) _ p1 (σ 3 q 0) (by rw [hs]; exact h)) hw.1 hw.2.1 hw.2.2 g_T_79 hd_T_checkIndex rfl rfl ⟨(Nat.le_of_ble_eq_true rfl), (Nat.le_of_ble_eq_true rfl)⟩ (Nat.le_of_ble_eq_true rfl) ⟨(Nat.le_of_ble_eq_true rfl), (Nat.le_of_ble_eq_true rfl)⟩ dT_entry_13 rfl) C hw (fun E ce q9 w1 H locs hp hw h1 h2 h3 => ?_) (fun v w1 H locs hp hw => ?_)
      · obtain ⟨rfl, rfl⟩ := hp
        exact tr_x hQ C hne hw (Nat.le_of_ble_eq_true rfl) (Nat.le_of_ble_eq_true rfl) ⟨Or.inr ⟨q, K, hq, rfl, hK, hs, Or.inl h⟩, rfl, rfl⟩ h1 h2 h3
      · exact hp.elim
  · refine q_aload_n hx hb hl dT_entry_0 rfl ?_
    refine q_iload_n hx hb hl dT_entry_1 rfl ?_
    refine tc_E (tc_V C hl (x_lin l hst D ct ad N hN σ _ p0 h) hw.1 hw.2.1 hw.2.2 g_T_75 (re_T C hw) hv_T_lineOf rfl rfl ⟨(Nat.le_of_ble_eq_true rfl), (Nat.le_of_ble_eq_true rfl)⟩ (Nat.le_of_ble_eq_true rfl) ⟨(Nat.le_of_ble_eq_true rfl), (Nat.le_of_ble_eq_true rfl)⟩ dT_entry_2 rfl) C hw (fun E ce q9 w1 H locs hp hw h1 h2 h3 => ?_) (fun v w1 H locs hp hw => ?_)
    · obtain ⟨rfl, rfl⟩ := hp
      exact tr_x hQ C hne hw (Nat.le_of_ble_eq_true rfl) (Nat.le_of_ble_eq_true rfl) ⟨Or.inl h, rfl, rfl⟩ h1 h2 h3
    · exact hp.elim
set_option maxHeartbeats 4000000 in
set_option maxRecDepth 100000 in
theorem c_set (l : Launch) (hst : l.stackTraces = false) (D : va_G) (ct : Ct) (ad : Ad) (N : Nat) (hN : N ≤ 16) (σ : St) (sz : Nat) (h4 : ix N (σ 0 0 4)) (hcore : tf_core σ < N) (p0 p1 : Int32) : Kt l yT_set cT_set 5 (some .int) (r1 8) 1 6 D ct [.ref (ad 0 0), .int p0, .int p1] sz (wT ct ad N σ) (fun v w => ∃ k, k < 16 ∧ p0 = nI k ∧ v = some (.int (σ 2 (tf_core σ) k)) ∧ w = wT ct ad N (su σ 2 (tf_core σ) k p1)) (fun E w => (p0 < 0 ∨ ¬ p0 < nI 16) ∧ E = "java/lang/IndexOutOfBoundsException" ∧ w = wT ct ad N σ) := by
  refine kt_of hst (by decide) (Nat.le_of_ble_eq_true rfl) (by simp [Value.category]) ?_
  intro p e s m args below meth c A ls C hne hr hw hl Q hQ
  have hx := C.1
  have hb := C.2.1
  rcases ixc p0 16 (by omega) with ⟨k, hk, rfl⟩ | h
  · refine q_iload_n hx hb hl dT_set_0 rfl ?_
    refine lv_bipush (v := 16) hx hb dT_set_1 (by decide) ?_
    refine tc_E (tc_S C hl (c_cidx l hst D ct (wT ct ad N σ) _ (nI k) (nI 16) (nI_pos (by omega)) (nI_lt (by omega) (by omega))) hw.1 hw.2.1 hw.2.2 g_T_79 hd_T_checkIndex rfl rfl ⟨(Nat.le_of_ble_eq_true rfl), (Nat.le_of_ble_eq_true rfl)⟩ (Nat.le_of_ble_eq_true rfl) ⟨(Nat.le_of_ble_eq_true rfl), (Nat.le_of_ble_eq_true rfl)⟩ dT_set_3 rfl) C hw (fun E ce q9 w1 H locs hp hw h1 h2 h3 => ?_) (fun v w1 H locs hp hw => ?_)
    · exact hp.elim
    obtain ⟨rfl, rfl⟩ := hp
    dsimp only [Option.toList_some, Option.toList_none, List.cons_append, List.nil_append]
    refine q_aload_n hx hb hl dT_set_6 rfl ?_
    refine q_aload_n hx hb hl dT_set_7 rfl ?_
    refine tg_T C hw 6 l_T_9 (by decide) rfl dT_set_8 ?_
    refine lv_iconst (v := -1) hx hb dT_set_11 (by decide) ?_
    refine lv_icmp_ne (tgt := 19) hx hb dT_set_12 (by decide) (fun c_12 => ?_) (fun c_12 => ?_)
    · refine q_aload_n hx hb hl dT_set_19 rfl ?_
      refine tg_T C hw 6 l_T_9 (by decide) rfl dT_set_20 ?_
      refine tc_E (tc_V C hl (c_str l hst D ct ad N hN σ _ (tf_core σ) hcore _ (by simp only [tf_core, if_neg c_12]; first | rfl | exact (ix_cl hN h4 c_12).2)) hw.1 hw.2.1 hw.2.2 g_T_53 (re_T C hw) hv_T_strandOf rfl rfl ⟨(Nat.le_of_ble_eq_true rfl), (Nat.le_of_ble_eq_true rfl)⟩ (Nat.le_of_ble_eq_true rfl) ⟨(Nat.le_of_ble_eq_true rfl), (Nat.le_of_ble_eq_true rfl)⟩ dT_set_23 rfl) C hw (fun E ce q9 w1 H locs hp hw h1 h2 h3 => ?_) (fun v w1 H locs hp hw => ?_)
      · exact hp.elim
      obtain ⟨rfl, rfl⟩ := hp
      dsimp only [Option.toList_some, Option.toList_none, List.cons_append, List.nil_append]
      refine q_astore_n hx hb hl dT_set_26 (by decide) (fun ls hl => ?_)
      refine q_aload_n hx hb hl dT_set_27 rfl ?_
      refine tg_S C hw 0 l_T_117 (by decide) (by assumption) rfl dT_set_28 ?_
      refine q_iload_n hx hb hl dT_set_31 rfl ?_
      refine ta_g2 C hw (by assumption) (by assumption) rfl dT_set_32 ?_
      refine q_istore hx hb hl dT_set_33 (by decide) (fun ls hl => ?_)
      refine q_aload_n hx hb hl dT_set_35 rfl ?_
      refine tg_S C hw 0 l_T_117 (by decide) (by assumption) rfl dT_set_36 ?_
      refine q_iload_n hx hb hl dT_set_39 rfl ?_
      refine q_iload_n hx hb hl dT_set_40 rfl ?_
      refine ta_p2 C hw (by assumption) (by assumption) rfl dT_set_41 (fun H locs hw => ?_)
      refine q_iload hx hb hl dT_set_42 rfl ?_
      exact tr_i hQ C hw hr (Nat.le_of_ble_eq_true rfl) (Nat.le_of_ble_eq_true rfl) dT_set_44 ⟨k, hk, rfl, rfl, rfl⟩
    refine lv_iconst (v := 0) hx hb dT_set_15 (by decide) ?_
    refine lv_goto (tgt := 23) hx hb dT_set_16 (by decide) ?_
    refine tc_E (tc_V C hl (c_str l hst D ct ad N hN σ _ (tf_core σ) hcore _ (by simp only [tf_core, if_pos c_12]; first | rfl | exact (ix_cl hN h4 c_12).2)) hw.1 hw.2.1 hw.2.2 g_T_53 (re_T C hw) hv_T_strandOf rfl rfl ⟨(Nat.le_of_ble_eq_true rfl), (Nat.le_of_ble_eq_true rfl)⟩ (Nat.le_of_ble_eq_true rfl) ⟨(Nat.le_of_ble_eq_true rfl), (Nat.le_of_ble_eq_true rfl)⟩ dT_set_23 rfl) C hw (fun E ce q9 w1 H locs hp hw h1 h2 h3 => ?_) (fun v w1 H locs hp hw => ?_)
    · exact hp.elim
    obtain ⟨rfl, rfl⟩ := hp
    dsimp only [Option.toList_some, Option.toList_none, List.cons_append, List.nil_append]
    refine q_astore_n hx hb hl dT_set_26 (by decide) (fun ls hl => ?_)
    refine q_aload_n hx hb hl dT_set_27 rfl ?_
    refine tg_S C hw 0 l_T_117 (by decide) (by assumption) rfl dT_set_28 ?_
    refine q_iload_n hx hb hl dT_set_31 rfl ?_
    refine ta_g2 C hw (by assumption) (by assumption) rfl dT_set_32 ?_
    refine q_istore hx hb hl dT_set_33 (by decide) (fun ls hl => ?_)
    refine q_aload_n hx hb hl dT_set_35 rfl ?_
    refine tg_S C hw 0 l_T_117 (by decide) (by assumption) rfl dT_set_36 ?_
    refine q_iload_n hx hb hl dT_set_39 rfl ?_
    refine q_iload_n hx hb hl dT_set_40 rfl ?_
    refine ta_p2 C hw (by assumption) (by assumption) rfl dT_set_41 (fun H locs hw => ?_)
    refine q_iload hx hb hl dT_set_42 rfl ?_
    exact tr_i hQ C hw hr (Nat.le_of_ble_eq_true rfl) (Nat.le_of_ble_eq_true rfl) dT_set_44 ⟨k, hk, rfl, rfl, rfl⟩
  · refine q_iload_n hx hb hl dT_set_0 rfl ?_
    refine lv_bipush (v := 16) hx hb dT_set_1 (by decide) ?_
    refine tc_E (tc_S C hl (x_cidx l hst D ct (wT ct ad N σ) _ p0 (nI 16) h) hw.1 hw.2.1 hw.2.2 g_T_79 hd_T_checkIndex rfl rfl ⟨(Nat.le_of_ble_eq_true rfl), (Nat.le_of_ble_eq_true rfl)⟩ (Nat.le_of_ble_eq_true rfl) ⟨(Nat.le_of_ble_eq_true rfl), (Nat.le_of_ble_eq_true rfl)⟩ dT_set_3 rfl) C hw (fun E ce q9 w1 H locs hp hw h1 h2 h3 => ?_) (fun v w1 H locs hp hw => ?_)
    · obtain ⟨rfl, rfl⟩ := hp
      exact tr_x hQ C hne hw (Nat.le_of_ble_eq_true rfl) (Nat.le_of_ble_eq_true rfl) ⟨h, rfl, rfl⟩ h1 h2 h3
    · exact hp.elim
set_option maxHeartbeats 4000000 in
set_option maxRecDepth 100000 in
theorem c_thr (l : Launch) (hst : l.stackTraces = false) (D : va_G) (ct : Ct) (ad : Ad) (N : Nat) (hN : N ≤ 16) (σ : St) (sz : Nat) (p0 p1 : Int32) : Kt l yT_thread cT_thread 4 (some .int) (r1 8) 1 6 D ct [.ref (ad 0 0), .int p0, .int p1] sz (wT ct ad N σ) (fun v w => ∃ t, t < N ∧ p0 = nI t ∧ (∃ j, j < 6 ∧ p1 = nI j ∧ v = some (.int (σ 1 t (tf_col j)))) ∧ w = wT ct ad N σ) (fun E w => ((p0 < 0 ∨ ¬ p0 < nI N) ∨ (∃ t, t < N ∧ p0 = nI t) ∧ (p1.toInt < 0 ∨ 5 < p1.toInt)) ∧ E = "java/lang/IndexOutOfBoundsException" ∧ w = wT ct ad N σ) := by
  refine kt_of hst (by decide) (Nat.le_of_ble_eq_true rfl) (by simp [Value.category]) ?_
  intro p e s m args below meth c A ls C hne hr hw hl Q hQ
  have hx := C.1
  have hb := C.2.1
  rcases ixc p0 N (by omega) with ⟨t, ht, rfl⟩ | h
  · rcases sw6 p1 with rfl | rfl | rfl | rfl | rfl | rfl | g
    · refine q_aload_n hx hb hl dT_thread_0 rfl ?_
      refine q_iload_n hx hb hl dT_thread_1 rfl ?_
      refine tc_E (tc_V C hl (c_str l hst D ct ad N hN σ _ t ht _ rfl) hw.1 hw.2.1 hw.2.2 g_T_53 (re_T C hw) hv_T_strandOf rfl rfl ⟨(Nat.le_of_ble_eq_true rfl), (Nat.le_of_ble_eq_true rfl)⟩ (Nat.le_of_ble_eq_true rfl) ⟨(Nat.le_of_ble_eq_true rfl), (Nat.le_of_ble_eq_true rfl)⟩ dT_thread_2 rfl) C hw (fun E ce q9 w1 H locs hp hw h1 h2 h3 => ?_) (fun v w1 H locs hp hw => ?_)
      · exact hp.elim
      obtain ⟨rfl, rfl⟩ := hp
      dsimp only [Option.toList_some, Option.toList_none, List.cons_append, List.nil_append]
      refine q_astore_n hx hb hl dT_thread_5 (by decide) (fun ls hl => ?_)
      refine q_iload_n hx hb hl dT_thread_6 rfl ?_
      refine lv_tableIn (tgt := 44) hx hb dT_thread_7 (by decide) (by decide) rfl (by decide) ?_
      refine q_aload_n hx hb hl dT_thread_44 rfl ?_
      refine tg_S C hw 5 l_T_120 (by decide) (by assumption) rfl dT_thread_45 ?_
      exact tr_i hQ C hw hr (Nat.le_of_ble_eq_true rfl) (Nat.le_of_ble_eq_true rfl) dT_thread_48 ⟨t, ht, rfl, ⟨0, by decide, rfl, rfl⟩, rfl⟩
    · refine q_aload_n hx hb hl dT_thread_0 rfl ?_
      refine q_iload_n hx hb hl dT_thread_1 rfl ?_
      refine tc_E (tc_V C hl (c_str l hst D ct ad N hN σ _ t ht _ rfl) hw.1 hw.2.1 hw.2.2 g_T_53 (re_T C hw) hv_T_strandOf rfl rfl ⟨(Nat.le_of_ble_eq_true rfl), (Nat.le_of_ble_eq_true rfl)⟩ (Nat.le_of_ble_eq_true rfl) ⟨(Nat.le_of_ble_eq_true rfl), (Nat.le_of_ble_eq_true rfl)⟩ dT_thread_2 rfl) C hw (fun E ce q9 w1 H locs hp hw h1 h2 h3 => ?_) (fun v w1 H locs hp hw => ?_)
      · exact hp.elim
      obtain ⟨rfl, rfl⟩ := hp
      dsimp only [Option.toList_some, Option.toList_none, List.cons_append, List.nil_append]
      refine q_astore_n hx hb hl dT_thread_5 (by decide) (fun ls hl => ?_)
      refine q_iload_n hx hb hl dT_thread_6 rfl ?_
      refine lv_tableIn (tgt := 49) hx hb dT_thread_7 (by decide) (by decide) rfl (by decide) ?_
      refine q_aload_n hx hb hl dT_thread_49 rfl ?_
      refine tg_S C hw 6 l_T_123 (by decide) (by assumption) rfl dT_thread_50 ?_
      exact tr_i hQ C hw hr (Nat.le_of_ble_eq_true rfl) (Nat.le_of_ble_eq_true rfl) dT_thread_53 ⟨t, ht, rfl, ⟨1, by decide, rfl, rfl⟩, rfl⟩
    · refine q_aload_n hx hb hl dT_thread_0 rfl ?_
      refine q_iload_n hx hb hl dT_thread_1 rfl ?_
      refine tc_E (tc_V C hl (c_str l hst D ct ad N hN σ _ t ht _ rfl) hw.1 hw.2.1 hw.2.2 g_T_53 (re_T C hw) hv_T_strandOf rfl rfl ⟨(Nat.le_of_ble_eq_true rfl), (Nat.le_of_ble_eq_true rfl)⟩ (Nat.le_of_ble_eq_true rfl) ⟨(Nat.le_of_ble_eq_true rfl), (Nat.le_of_ble_eq_true rfl)⟩ dT_thread_2 rfl) C hw (fun E ce q9 w1 H locs hp hw h1 h2 h3 => ?_) (fun v w1 H locs hp hw => ?_)
      · exact hp.elim
      obtain ⟨rfl, rfl⟩ := hp
      dsimp only [Option.toList_some, Option.toList_none, List.cons_append, List.nil_append]
      refine q_astore_n hx hb hl dT_thread_5 (by decide) (fun ls hl => ?_)
      refine q_iload_n hx hb hl dT_thread_6 rfl ?_
      refine lv_tableIn (tgt := 54) hx hb dT_thread_7 (by decide) (by decide) rfl (by decide) ?_
      refine q_aload_n hx hb hl dT_thread_54 rfl ?_
      refine tg_S C hw 7 l_T_126 (by decide) (by assumption) rfl dT_thread_55 ?_
      exact tr_i hQ C hw hr (Nat.le_of_ble_eq_true rfl) (Nat.le_of_ble_eq_true rfl) dT_thread_58 ⟨t, ht, rfl, ⟨2, by decide, rfl, rfl⟩, rfl⟩
    · refine q_aload_n hx hb hl dT_thread_0 rfl ?_
      refine q_iload_n hx hb hl dT_thread_1 rfl ?_
      refine tc_E (tc_V C hl (c_str l hst D ct ad N hN σ _ t ht _ rfl) hw.1 hw.2.1 hw.2.2 g_T_53 (re_T C hw) hv_T_strandOf rfl rfl ⟨(Nat.le_of_ble_eq_true rfl), (Nat.le_of_ble_eq_true rfl)⟩ (Nat.le_of_ble_eq_true rfl) ⟨(Nat.le_of_ble_eq_true rfl), (Nat.le_of_ble_eq_true rfl)⟩ dT_thread_2 rfl) C hw (fun E ce q9 w1 H locs hp hw h1 h2 h3 => ?_) (fun v w1 H locs hp hw => ?_)
      · exact hp.elim
      obtain ⟨rfl, rfl⟩ := hp
      dsimp only [Option.toList_some, Option.toList_none, List.cons_append, List.nil_append]
      refine q_astore_n hx hb hl dT_thread_5 (by decide) (fun ls hl => ?_)
      refine q_iload_n hx hb hl dT_thread_6 rfl ?_
      refine lv_tableIn (tgt := 59) hx hb dT_thread_7 (by decide) (by decide) rfl (by decide) ?_
      refine q_aload_n hx hb hl dT_thread_59 rfl ?_
      refine tg_S C hw 4 l_T_68 (by decide) (by assumption) rfl dT_thread_60 ?_
      exact tr_i hQ C hw hr (Nat.le_of_ble_eq_true rfl) (Nat.le_of_ble_eq_true rfl) dT_thread_63 ⟨t, ht, rfl, ⟨3, by decide, rfl, rfl⟩, rfl⟩
    · refine q_aload_n hx hb hl dT_thread_0 rfl ?_
      refine q_iload_n hx hb hl dT_thread_1 rfl ?_
      refine tc_E (tc_V C hl (c_str l hst D ct ad N hN σ _ t ht _ rfl) hw.1 hw.2.1 hw.2.2 g_T_53 (re_T C hw) hv_T_strandOf rfl rfl ⟨(Nat.le_of_ble_eq_true rfl), (Nat.le_of_ble_eq_true rfl)⟩ (Nat.le_of_ble_eq_true rfl) ⟨(Nat.le_of_ble_eq_true rfl), (Nat.le_of_ble_eq_true rfl)⟩ dT_thread_2 rfl) C hw (fun E ce q9 w1 H locs hp hw h1 h2 h3 => ?_) (fun v w1 H locs hp hw => ?_)
      · exact hp.elim
      obtain ⟨rfl, rfl⟩ := hp
      dsimp only [Option.toList_some, Option.toList_none, List.cons_append, List.nil_append]
      refine q_astore_n hx hb hl dT_thread_5 (by decide) (fun ls hl => ?_)
      refine q_iload_n hx hb hl dT_thread_6 rfl ?_
      refine lv_tableIn (tgt := 64) hx hb dT_thread_7 (by decide) (by decide) rfl (by decide) ?_
      refine q_aload_n hx hb hl dT_thread_64 rfl ?_
      refine tg_S C hw 3 l_T_65 (by decide) (by assumption) rfl dT_thread_65 ?_
      exact tr_i hQ C hw hr (Nat.le_of_ble_eq_true rfl) (Nat.le_of_ble_eq_true rfl) dT_thread_68 ⟨t, ht, rfl, ⟨4, by decide, rfl, rfl⟩, rfl⟩
    · refine q_aload_n hx hb hl dT_thread_0 rfl ?_
      refine q_iload_n hx hb hl dT_thread_1 rfl ?_
      refine tc_E (tc_V C hl (c_str l hst D ct ad N hN σ _ t ht _ rfl) hw.1 hw.2.1 hw.2.2 g_T_53 (re_T C hw) hv_T_strandOf rfl rfl ⟨(Nat.le_of_ble_eq_true rfl), (Nat.le_of_ble_eq_true rfl)⟩ (Nat.le_of_ble_eq_true rfl) ⟨(Nat.le_of_ble_eq_true rfl), (Nat.le_of_ble_eq_true rfl)⟩ dT_thread_2 rfl) C hw (fun E ce q9 w1 H locs hp hw h1 h2 h3 => ?_) (fun v w1 H locs hp hw => ?_)
      · exact hp.elim
      obtain ⟨rfl, rfl⟩ := hp
      dsimp only [Option.toList_some, Option.toList_none, List.cons_append, List.nil_append]
      refine q_astore_n hx hb hl dT_thread_5 (by decide) (fun ls hl => ?_)
      refine q_iload_n hx hb hl dT_thread_6 rfl ?_
      refine lv_tableIn (tgt := 69) hx hb dT_thread_7 (by decide) (by decide) rfl (by decide) ?_
      refine q_aload_n hx hb hl dT_thread_69 rfl ?_
      refine tg_S C hw 8 l_T_129 (by decide) (by assumption) rfl dT_thread_70 ?_
      exact tr_i hQ C hw hr (Nat.le_of_ble_eq_true rfl) (Nat.le_of_ble_eq_true rfl) dT_thread_73 ⟨t, ht, rfl, ⟨5, by decide, rfl, rfl⟩, rfl⟩
    · refine q_aload_n hx hb hl dT_thread_0 rfl ?_
      refine q_iload_n hx hb hl dT_thread_1 rfl ?_
      refine tc_E (tc_V C hl (c_str l hst D ct ad N hN σ _ t ht _ rfl) hw.1 hw.2.1 hw.2.2 g_T_53 (re_T C hw) hv_T_strandOf rfl rfl ⟨(Nat.le_of_ble_eq_true rfl), (Nat.le_of_ble_eq_true rfl)⟩ (Nat.le_of_ble_eq_true rfl) ⟨(Nat.le_of_ble_eq_true rfl), (Nat.le_of_ble_eq_true rfl)⟩ dT_thread_2 rfl) C hw (fun E ce q9 w1 H locs hp hw h1 h2 h3 => ?_) (fun v w1 H locs hp hw => ?_)
      · exact hp.elim
      obtain ⟨rfl, rfl⟩ := hp
      dsimp only [Option.toList_some, Option.toList_none, List.cons_append, List.nil_append]
      refine q_astore_n hx hb hl dT_thread_5 (by decide) (fun ls hl => ?_)
      refine q_iload_n hx hb hl dT_thread_6 rfl ?_
      refine lv_tableOut (tgt := 74) hx hb dT_thread_7 g (by decide) ?_
      exact tt_S (cls := "java/lang/IndexOutOfBoundsException") hQ C hne hw hl x_T_what ⟨dT_thread_74, dT_thread_77, dT_thread_78, dT_thread_80, dT_thread_83⟩ ⟨(Nat.le_of_ble_eq_true rfl), (Nat.le_of_ble_eq_true rfl), (Nat.le_of_ble_eq_true rfl), (Nat.le_of_ble_eq_true rfl), (Nat.le_of_ble_eq_true rfl), (Nat.le_of_ble_eq_true rfl)⟩ ⟨Or.inr ⟨⟨t, ht, rfl⟩, g⟩, rfl, rfl⟩
  · refine q_aload_n hx hb hl dT_thread_0 rfl ?_
    refine q_iload_n hx hb hl dT_thread_1 rfl ?_
    refine tc_E (tc_V C hl (x_str l hst D ct ad N hN σ _ p0 h) hw.1 hw.2.1 hw.2.2 g_T_53 (re_T C hw) hv_T_strandOf rfl rfl ⟨(Nat.le_of_ble_eq_true rfl), (Nat.le_of_ble_eq_true rfl)⟩ (Nat.le_of_ble_eq_true rfl) ⟨(Nat.le_of_ble_eq_true rfl), (Nat.le_of_ble_eq_true rfl)⟩ dT_thread_2 rfl) C hw (fun E ce q9 w1 H locs hp hw h1 h2 h3 => ?_) (fun v w1 H locs hp hw => ?_)
    · obtain ⟨rfl, rfl⟩ := hp
      exact tr_x hQ C hne hw (Nat.le_of_ble_eq_true rfl) (Nat.le_of_ble_eq_true rfl) ⟨Or.inl h, rfl, rfl⟩ h1 h2 h3
    · exact hp.elim
set_option maxHeartbeats 4000000 in
set_option maxRecDepth 100000 in
theorem c_shr (l : Launch) (hst : l.stackTraces = false) (D : va_G) (ct : Ct) (ad : Ad) (N : Nat) (hN : N ≤ 16) (σ : St) (sz : Nat) (p0 p1 : Int32) : Kt l yT_share cT_share 5 (some .int) (r1 8) 1 6 D ct [.ref (ad 0 0), .int p0, .int p1] sz (wT ct ad N σ) (fun v w => ∃ t, t < N ∧ p0 = nI t ∧ (∃ u, u < 2 ∧ p1 = nI u ∧ v = some (.int (tf_shA σ t (nI u)))) ∧ w = wT ct ad N σ) (fun E w => ((p0 < 0 ∨ ¬ p0 < nI N) ∨ (∃ t, t < N ∧ p0 = nI t) ∧ (p1 < 0 ∨ ¬ p1 < nI 2)) ∧ E = "java/lang/IndexOutOfBoundsException" ∧ w = wT ct ad N σ) := by
  refine kt_of hst (by decide) (Nat.le_of_ble_eq_true rfl) (by simp [Value.category]) ?_
  intro p e s m args below meth c A ls C hne hr hw hl Q hQ
  have hx := C.1
  have hb := C.2.1
  rcases ixc p0 N (by omega) with ⟨t, ht, rfl⟩ | h
  · rcases ixc p1 2 (by omega) with ⟨u, hu, rfl⟩ | g
    · refine q_aload_n hx hb hl dT_share_0 rfl ?_
      refine q_iload_n hx hb hl dT_share_1 rfl ?_
      refine tc_E (tc_V C hl (c_str l hst D ct ad N hN σ _ t ht _ rfl) hw.1 hw.2.1 hw.2.2 g_T_53 (re_T C hw) hv_T_strandOf rfl rfl ⟨(Nat.le_of_ble_eq_true rfl), (Nat.le_of_ble_eq_true rfl)⟩ (Nat.le_of_ble_eq_true rfl) ⟨(Nat.le_of_ble_eq_true rfl), (Nat.le_of_ble_eq_true rfl)⟩ dT_share_2 rfl) C hw (fun E ce q9 w1 H locs hp hw h1 h2 h3 => ?_) (fun v w1 H locs hp hw => ?_)
      · exact hp.elim
      obtain ⟨rfl, rfl⟩ := hp
      dsimp only [Option.toList_some, Option.toList_none, List.cons_append, List.nil_append]
      refine q_astore_n hx hb hl dT_share_5 (by decide) (fun ls hl => ?_)
      refine q_iload_n hx hb hl dT_share_6 rfl ?_
      refine lv_iconst (v := 2) hx hb dT_share_7 (by decide) ?_
      refine tc_E (tc_S C hl (c_cidx l hst D ct (wT ct ad N σ) _ (nI u) (nI 2) (nI_pos (by omega)) (nI_lt (by omega) (by omega))) hw.1 hw.2.1 hw.2.2 g_T_79 hd_T_checkIndex rfl rfl ⟨(Nat.le_of_ble_eq_true rfl), (Nat.le_of_ble_eq_true rfl)⟩ (Nat.le_of_ble_eq_true rfl) ⟨(Nat.le_of_ble_eq_true rfl), (Nat.le_of_ble_eq_true rfl)⟩ dT_share_8 rfl) C hw (fun E ce q9 w1 H locs hp hw h1 h2 h3 => ?_) (fun v w1 H locs hp hw => ?_)
      · exact hp.elim
      obtain ⟨rfl, rfl⟩ := hp
      dsimp only [Option.toList_some, Option.toList_none, List.cons_append, List.nil_append]
      refine q_aload_n hx hb hl dT_share_11 rfl ?_
      refine tg_S C hw 7 l_T_126 (by decide) (by assumption) rfl dT_share_12 ?_
      refine q_aload_n hx hb hl dT_share_15 rfl ?_
      refine tg_T C hw 10 l_T_137 (by decide) rfl dT_share_16 ?_
      refine tc_E (tc_S C hl (c_gcd l hst D ct (wT ct ad N σ) _ (σ 1 t 6) (σ 0 0 8)) hw.1 hw.2.1 hw.2.2 g_T_138 hd_T_greatestDivisor rfl rfl ⟨(Nat.le_of_ble_eq_true rfl), (Nat.le_of_ble_eq_true rfl)⟩ (Nat.le_of_ble_eq_true rfl) ⟨(Nat.le_of_ble_eq_true rfl), (Nat.le_of_ble_eq_true rfl)⟩ dT_share_19 rfl) C hw (fun E ce q9 w1 H locs hp hw h1 h2 h3 => ?_) (fun v w1 H locs hp hw => ?_)
      · exact hp.elim
      obtain ⟨rfl, rfl⟩ := hp
      dsimp only [Option.toList_some, Option.toList_none, List.cons_append, List.nil_append]
      refine q_istore hx hb hl dT_share_22 (by decide) (fun ls hl => ?_)
      refine q_iload hx hb hl dT_share_24 rfl ?_
      refine lv_if_ne (tgt := 39) hx hb dT_share_26 (by decide) (fun c_26 => ?_) (fun c_26 => ?_)
      · refine q_iload_n hx hb hl dT_share_39 rfl ?_
        refine lv_if_ne (tgt := 50) hx hb dT_share_40 (by decide) (fun c_40 => ?_) (fun c_40 => ?_)
        · refine q_aload_n hx hb hl dT_share_50 rfl ?_
          refine tg_T C hw 10 l_T_137 (by decide) rfl dT_share_51 ?_
          refine q_iload hx hb hl dT_share_54 rfl ?_
          refine lv_idiv hx hb dT_share_56 c_26 ?_
          exact tr_i hQ C hw hr (Nat.le_of_ble_eq_true rfl) (Nat.le_of_ble_eq_true rfl) dT_share_57 ⟨t, ht, rfl, ⟨u, hu, rfl, by simp only [tf_shA, if_neg c_26, if_neg c_40]⟩, rfl⟩
        refine q_aload_n hx hb hl dT_share_43 rfl ?_
        refine tg_S C hw 7 l_T_126 (by decide) (by assumption) rfl dT_share_44 ?_
        refine lv_goto (tgt := 54) hx hb dT_share_47 (by decide) ?_
        refine q_iload hx hb hl dT_share_54 rfl ?_
        refine lv_idiv hx hb dT_share_56 c_26 ?_
        exact tr_i hQ C hw hr (Nat.le_of_ble_eq_true rfl) (Nat.le_of_ble_eq_true rfl) dT_share_57 ⟨t, ht, rfl, ⟨u, hu, rfl, by simp only [tf_shA, if_neg c_26, if_pos c_40]⟩, rfl⟩
      refine q_iload_n hx hb hl dT_share_29 rfl ?_
      refine lv_if_ne (tgt := 37) hx hb dT_share_30 (by decide) (fun c_30 => ?_) (fun c_30 => ?_)
      · refine lv_iconst (v := 1) hx hb dT_share_37 (by decide) ?_
        exact tr_i hQ C hw hr (Nat.le_of_ble_eq_true rfl) (Nat.le_of_ble_eq_true rfl) dT_share_38 ⟨t, ht, rfl, ⟨u, hu, rfl, by simp only [tf_shA, if_pos c_26, if_neg c_30]⟩, rfl⟩
      refine lv_iconst (v := 0) hx hb dT_share_33 (by decide) ?_
      refine lv_goto (tgt := 38) hx hb dT_share_34 (by decide) ?_
      exact tr_i hQ C hw hr (Nat.le_of_ble_eq_true rfl) (Nat.le_of_ble_eq_true rfl) dT_share_38 ⟨t, ht, rfl, ⟨u, hu, rfl, by simp only [tf_shA, if_pos c_26, if_pos c_30]⟩, rfl⟩
    · refine q_aload_n hx hb hl dT_share_0 rfl ?_
      refine q_iload_n hx hb hl dT_share_1 rfl ?_
      refine tc_E (tc_V C hl (c_str l hst D ct ad N hN σ _ t ht _ rfl) hw.1 hw.2.1 hw.2.2 g_T_53 (re_T C hw) hv_T_strandOf rfl rfl ⟨(Nat.le_of_ble_eq_true rfl), (Nat.le_of_ble_eq_true rfl)⟩ (Nat.le_of_ble_eq_true rfl) ⟨(Nat.le_of_ble_eq_true rfl), (Nat.le_of_ble_eq_true rfl)⟩ dT_share_2 rfl) C hw (fun E ce q9 w1 H locs hp hw h1 h2 h3 => ?_) (fun v w1 H locs hp hw => ?_)
      · exact hp.elim
      obtain ⟨rfl, rfl⟩ := hp
      dsimp only [Option.toList_some, Option.toList_none, List.cons_append, List.nil_append]
      refine q_astore_n hx hb hl dT_share_5 (by decide) (fun ls hl => ?_)
      refine q_iload_n hx hb hl dT_share_6 rfl ?_
      refine lv_iconst (v := 2) hx hb dT_share_7 (by decide) ?_
      refine tc_E (tc_S C hl (x_cidx l hst D ct (wT ct ad N σ) _ p1 (nI 2) g) hw.1 hw.2.1 hw.2.2 g_T_79 hd_T_checkIndex rfl rfl ⟨(Nat.le_of_ble_eq_true rfl), (Nat.le_of_ble_eq_true rfl)⟩ (Nat.le_of_ble_eq_true rfl) ⟨(Nat.le_of_ble_eq_true rfl), (Nat.le_of_ble_eq_true rfl)⟩ dT_share_8 rfl) C hw (fun E ce q9 w1 H locs hp hw h1 h2 h3 => ?_) (fun v w1 H locs hp hw => ?_)
      · obtain ⟨rfl, rfl⟩ := hp
        exact tr_x hQ C hne hw (Nat.le_of_ble_eq_true rfl) (Nat.le_of_ble_eq_true rfl) ⟨Or.inr ⟨⟨t, ht, rfl⟩, g⟩, rfl, rfl⟩ h1 h2 h3
      · exact hp.elim
  · refine q_aload_n hx hb hl dT_share_0 rfl ?_
    refine q_iload_n hx hb hl dT_share_1 rfl ?_
    refine tc_E (tc_V C hl (x_str l hst D ct ad N hN σ _ p0 h) hw.1 hw.2.1 hw.2.2 g_T_53 (re_T C hw) hv_T_strandOf rfl rfl ⟨(Nat.le_of_ble_eq_true rfl), (Nat.le_of_ble_eq_true rfl)⟩ (Nat.le_of_ble_eq_true rfl) ⟨(Nat.le_of_ble_eq_true rfl), (Nat.le_of_ble_eq_true rfl)⟩ dT_share_2 rfl) C hw (fun E ce q9 w1 H locs hp hw h1 h2 h3 => ?_) (fun v w1 H locs hp hw => ?_)
    · obtain ⟨rfl, rfl⟩ := hp
      exact tr_x hQ C hne hw (Nat.le_of_ble_eq_true rfl) (Nat.le_of_ble_eq_true rfl) ⟨Or.inl h, rfl, rfl⟩ h1 h2 h3
    · exact hp.elim
set_option maxHeartbeats 4000000 in
set_option maxRecDepth 100000 in
theorem c_cnt (l : Launch) (hst : l.stackTraces = false) (D : va_G) (ct : Ct) (ad : Ad) (N : Nat) (hN : N ≤ 16) (σ : St) (sz : Nat) (p0 : Int32) : Kt l yT_count cT_count 2 (some .int) (r0 2) 0 0 D ct [.ref (ad 0 0), .int p0] sz (wT ct ad N σ) (fun v w => v = some (.int (tf_cntA N σ p0)) ∧ w = wT ct ad N σ) (fun E w => False) := by
  refine kt_of hst (by decide) (Nat.le_of_ble_eq_true rfl) (by simp [Value.category]) ?_
  intro p e s m args below meth c A ls C hne hr hw hl Q hQ
  have hx := C.1
  have hb := C.2.1
  rcases sw8 p0 with rfl | rfl | rfl | rfl | rfl | rfl | rfl | rfl | ⟨g, g9⟩
  · refine q_iload_n hx hb hl dT_count_0 rfl ?_
    refine lv_tableIn (tgt := 48) hx hb dT_count_1 (by decide) (by decide) rfl (by decide) ?_
    refine q_aload_n hx hb hl dT_count_48 rfl ?_
    refine tg_T C hw 9 l_T_141 (by decide) rfl dT_count_49 ?_
    exact tr_i hQ C hw hr (Nat.le_of_ble_eq_true rfl) (Nat.le_of_ble_eq_true rfl) dT_count_52 ⟨rfl, rfl⟩
  · refine q_iload_n hx hb hl dT_count_0 rfl ?_
    refine lv_tableIn (tgt := 53) hx hb dT_count_1 (by decide) (by decide) rfl (by decide) ?_
    refine q_aload_n hx hb hl dT_count_53 rfl ?_
    refine tg_T C hw 10 l_T_137 (by decide) rfl dT_count_54 ?_
    exact tr_i hQ C hw hr (Nat.le_of_ble_eq_true rfl) (Nat.le_of_ble_eq_true rfl) dT_count_57 ⟨rfl, rfl⟩
  · refine q_iload_n hx hb hl dT_count_0 rfl ?_
    refine lv_tableIn (tgt := 58) hx hb dT_count_1 (by decide) (by decide) rfl (by decide) ?_
    refine q_aload_n hx hb hl dT_count_58 rfl ?_
    refine tg_T C hw 11 l_T_144 (by decide) rfl dT_count_59 ?_
    exact tr_i hQ C hw hr (Nat.le_of_ble_eq_true rfl) (Nat.le_of_ble_eq_true rfl) dT_count_62 ⟨rfl, rfl⟩
  · refine q_iload_n hx hb hl dT_count_0 rfl ?_
    refine lv_tableIn (tgt := 63) hx hb dT_count_1 (by decide) (by decide) rfl (by decide) ?_
    refine q_aload_n hx hb hl dT_count_63 rfl ?_
    refine tg_T C hw 12 l_T_147 (by decide) rfl dT_count_64 ?_
    exact tr_i hQ C hw hr (Nat.le_of_ble_eq_true rfl) (Nat.le_of_ble_eq_true rfl) dT_count_67 ⟨rfl, rfl⟩
  · refine q_iload_n hx hb hl dT_count_0 rfl ?_
    refine lv_tableIn (tgt := 68) hx hb dT_count_1 (by decide) (by decide) rfl (by decide) ?_
    refine q_aload_n hx hb hl dT_count_68 rfl ?_
    refine tg_T C hw 0 l_T_24 (by decide) rfl dT_count_69 ?_
    refine ta_lenS C hw dT_count_72 ?_
    exact tr_i hQ C hw hr (Nat.le_of_ble_eq_true rfl) (Nat.le_of_ble_eq_true rfl) dT_count_73 ⟨rfl, rfl⟩
  · refine q_iload_n hx hb hl dT_count_0 rfl ?_
    refine lv_tableIn (tgt := 74) hx hb dT_count_1 (by decide) (by decide) rfl (by decide) ?_
    refine q_aload_n hx hb hl dT_count_74 rfl ?_
    refine tg_T C hw 6 l_T_9 (by decide) rfl dT_count_75 ?_
    exact tr_i hQ C hw hr (Nat.le_of_ble_eq_true rfl) (Nat.le_of_ble_eq_true rfl) dT_count_78 ⟨rfl, rfl⟩
  · refine q_iload_n hx hb hl dT_count_0 rfl ?_
    refine lv_tableIn (tgt := 79) hx hb dT_count_1 (by decide) (by decide) rfl (by decide) ?_
    refine q_aload_n hx hb hl dT_count_79 rfl ?_
    refine tg_T C hw 7 l_T_13 (by decide) rfl dT_count_80 ?_
    exact tr_i hQ C hw hr (Nat.le_of_ble_eq_true rfl) (Nat.le_of_ble_eq_true rfl) dT_count_83 ⟨rfl, rfl⟩
  · refine q_iload_n hx hb hl dT_count_0 rfl ?_
    refine lv_tableIn (tgt := 84) hx hb dT_count_1 (by decide) (by decide) rfl (by decide) ?_
    refine q_aload_n hx hb hl dT_count_84 rfl ?_
    refine tc_E (tc_V C hl (c_all l hst D ct ad N hN σ _) hw.1 hw.2.1 hw.2.2 g_T_150 (re_T C hw) hv_T_entriesInAll rfl rfl ⟨(Nat.le_of_ble_eq_true rfl), (Nat.le_of_ble_eq_true rfl)⟩ (Nat.le_of_ble_eq_true rfl) ⟨(Nat.le_of_ble_eq_true rfl), (Nat.le_of_ble_eq_true rfl)⟩ dT_count_85 rfl) C hw (fun E ce q9 w1 H locs hp hw h1 h2 h3 => ?_) (fun v w1 H locs hp hw => ?_)
    · exact hp.elim
    obtain ⟨rfl, rfl⟩ := hp
    dsimp only [Option.toList_some, Option.toList_none, List.cons_append, List.nil_append]
    exact tr_i hQ C hw hr (Nat.le_of_ble_eq_true rfl) (Nat.le_of_ble_eq_true rfl) dT_count_88 ⟨rfl, rfl⟩
  · refine q_iload_n hx hb hl dT_count_0 rfl ?_
    refine lv_tableOut (tgt := 89) hx hb dT_count_1 g9 (by decide) ?_
    refine lv_iconst (v := -1) hx hb dT_count_89 (by decide) ?_
    exact tr_i hQ C hw hr (Nat.le_of_ble_eq_true rfl) (Nat.le_of_ble_eq_true rfl) dT_count_90 ⟨by rw [tf_cntA, if_neg g.1, if_neg g.2.1, if_neg g.2.2.1, if_neg g.2.2.2.1, if_neg g.2.2.2.2.1, if_neg g.2.2.2.2.2.1, if_neg g.2.2.2.2.2.2.1, if_neg g.2.2.2.2.2.2.2], rfl⟩
