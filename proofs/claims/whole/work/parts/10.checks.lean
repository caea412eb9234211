set_option maxHeartbeats 4000000 in
set_option maxRecDepth 100000 in
theorem c_cidx (l : Launch) (hst : l.stackTraces = false) (D : va_G) (ct : Ct) (w0 : va_W) (sz : Nat) (i n : Int32) (h0 : ¬ i < 0) (h1 : i < n) : Kt l yT_checkIndex cT_checkIndex 2 none (r0 0) 0 0 D ct [.int i, .int n] sz (w0) (fun v w => v = none ∧ w = w0) (fun E w => False) := by
  refine kt_of hst (by decide) (Nat.le_of_ble_eq_true rfl) (by simp [Value.category]) ?_
  intro p e s m args below meth c A ls C hne hr hw hl Q hQ
  have hx := C.1
  have hb := C.2.1
  refine q_iload_n hx hb hl dT_checkIndex_0 rfl ?_
  refine lv_if_lt (tgt := 9) hx hb dT_checkIndex_1 (by decide) (fun q9 => absurd q9 h0) (fun c_1 => ?_)
  refine q_iload_n hx hb hl dT_checkIndex_4 rfl ?_
  refine q_iload_n hx hb hl dT_checkIndex_5 rfl ?_
  refine lv_icmp_lt (tgt := 19) hx hb dT_checkIndex_6 (by decide) (fun c_6 => ?_) (fun q9 => absurd h1 q9)
  exact tr_v hQ C hw hr (Nat.le_of_ble_eq_true rfl) (Nat.le_of_ble_eq_true rfl) dT_checkIndex_19 ⟨rfl, rfl⟩
set_option maxHeartbeats 4000000 in
set_option maxRecDepth 100000 in
theorem x_cidx (l : Launch) (hst : l.stackTraces = false) (D : va_G) (ct : Ct) (w0 : va_W) (sz : Nat) (i n : Int32) (h : i < 0 ∨ ¬ i < n) : Kt l yT_checkIndex cT_checkIndex 2 none (r1 6) 1 6 D ct [.int i, .int n] sz (w0) (fun v w => False) (fun E w => E = "java/lang/IndexOutOfBoundsException" ∧ w = w0) := by
  refine kt_of hst (by decide) (Nat.le_of_ble_eq_true rfl) (by simp [Value.category]) ?_
  intro p e s m args below meth c A ls C hne hr hw hl Q hQ
  have hx := C.1
  have hb := C.2.1
  refine q_iload_n hx hb hl dT_checkIndex_0 rfl ?_
  refine lv_if_lt (tgt := 9) hx hb dT_checkIndex_1 (by decide) (fun c_1 => ?_) (fun c_1 => ?_)
  · exact tt_S (cls := "java/lang/IndexOutOfBoundsException") hQ C hne hw hl x_T_cidx ⟨dT_checkIndex_9, dT_checkIndex_12, dT_checkIndex_13, dT_checkIndex_15, dT_checkIndex_18⟩ ⟨(Nat.le_of_ble_eq_true rfl), (Nat.le_of_ble_eq_true rfl), (Nat.le_of_ble_eq_true rfl), (Nat.le_of_ble_eq_true rfl), (Nat.le_of_ble_eq_true rfl), (Nat.le_of_ble_eq_true rfl)⟩ ⟨rfl, rfl⟩
  refine q_iload_n hx hb hl dT_checkIndex_4 rfl ?_
  refine q_iload_n hx hb hl dT_checkIndex_5 rfl ?_
  refine lv_icmp_lt (tgt := 19) hx hb dT_checkIndex_6 (by decide) (fun q9 => absurd q9 (h.resolve_left c_1)) (fun c_6 => ?_)
  exact tt_S (cls := "java/lang/IndexOutOfBoundsException") hQ C hne hw hl x_T_cidx ⟨dT_checkIndex_9, dT_checkIndex_12, dT_checkIndex_13, dT_checkIndex_15, dT_checkIndex_18⟩ ⟨(Nat.le_of_ble_eq_true rfl), (Nat.le_of_ble_eq_true rfl), (Nat.le_of_ble_eq_true rfl), (Nat.le_of_ble_eq_true rfl), (Nat.le_of_ble_eq_true rfl), (Nat.le_of_ble_eq_true rfl)⟩ ⟨rfl, rfl⟩
set_option maxHeartbeats 4000000 in
set_option maxRecDepth 100000 in
theorem c_carg (l : Launch) (hst : l.stackTraces = false) (D : va_G) (ct : Ct) (w0 : va_W) (sz : Nat) (x lo hi : Int32) (h0 : ¬ x < lo) (h1 : x ≤ hi) : Kt l yT_checkArgument cT_checkArgument 3 none (r0 0) 0 0 D ct [.int x, .int lo, .int hi] sz (w0) (fun v w => v = none ∧ w = w0) (fun E w => False) := by
  refine kt_of hst (by decide) (Nat.le_of_ble_eq_true rfl) (by simp [Value.category]) ?_
  intro p e s m args below meth c A ls C hne hr hw hl Q hQ
  have hx := C.1
  have hb := C.2.1
  refine q_iload_n hx hb hl dT_checkArgument_0 rfl ?_
  refine q_iload_n hx hb hl dT_checkArgument_1 rfl ?_
  refine lv_icmp_lt (tgt := 10) hx hb dT_checkArgument_2 (by decide) (fun q9 => absurd q9 h0) (fun c_2 => ?_)
  refine q_iload_n hx hb hl dT_checkArgument_5 rfl ?_
  refine q_iload_n hx hb hl dT_checkArgument_6 rfl ?_
  refine lv_icmp_le (tgt := 20) hx hb dT_checkArgument_7 (by decide) (fun c_7 => ?_) (fun q9 => absurd h1 q9)
  exact tr_v hQ C hw hr (Nat.le_of_ble_eq_true rfl) (Nat.le_of_ble_eq_true rfl) dT_checkArgument_20 ⟨rfl, rfl⟩
set_option maxHeartbeats 4000000 in
set_option maxRecDepth 100000 in
theorem x_carg (l : Launch) (hst : l.stackTraces = false) (D : va_G) (ct : Ct) (w0 : va_W) (sz : Nat) (x lo hi : Int32) (h : x < lo ∨ ¬ x ≤ hi) : Kt l yT_checkArgument cT_checkArgument 3 none (r1 6) 1 6 D ct [.int x, .int lo, .int hi] sz (w0) (fun v w => False) (fun E w => E = "java/lang/IllegalArgumentException" ∧ w = w0) := by
  refine kt_of hst (by decide) (Nat.le_of_ble_eq_true rfl) (by simp [Value.category]) ?_
  intro p e s m args below meth c A ls C hne hr hw hl Q hQ
  have hx := C.1
  have hb := C.2.1
  refine q_iload_n hx hb hl dT_checkArgument_0 rfl ?_
  refine q_iload_n hx hb hl dT_checkArgument_1 rfl ?_
  refine lv_icmp_lt (tgt := 10) hx hb dT_checkArgument_2 (by decide) (fun c_2 => ?_) (fun c_2 => ?_)
  · exact tt_S (cls := "java/lang/IllegalArgumentException") hQ C hne hw hl x_T_carg ⟨dT_checkArgument_10, dT_checkArgument_13, dT_checkArgument_14, dT_checkArgument_16, dT_checkArgument_19⟩ ⟨(Nat.le_of_ble_eq_true rfl), (Nat.le_of_ble_eq_true rfl), (Nat.le_of_ble_eq_true rfl), (Nat.le_of_ble_eq_true rfl), (Nat.le_of_ble_eq_true rfl), (Nat.le_of_ble_eq_true rfl)⟩ ⟨rfl, rfl⟩
  refine q_iload_n hx hb hl dT_checkArgument_5 rfl ?_
  refine q_iload_n hx hb hl dT_checkArgument_6 rfl ?_
  refine lv_icmp_le (tgt := 20) hx hb dT_checkArgument_7 (by decide) (fun q9 => absurd q9 (h.resolve_left c_2)) (fun c_7 => ?_)
  exact tt_S (cls := "java/lang/IllegalArgumentException") hQ C hne hw hl x_T_carg ⟨dT_checkArgument_10, dT_checkArgument_13, dT_checkArgument_14, dT_checkArgument_16, dT_checkArgument_19⟩ ⟨(Nat.le_of_ble_eq_true rfl), (Nat.le_of_ble_eq_true rfl), (Nat.le_of_ble_eq_true rfl), (Nat.le_of_ble_eq_true rfl), (Nat.le_of_ble_eq_true rfl), (Nat.le_of_ble_eq_true rfl)⟩ ⟨rfl, rfl⟩
set_option maxHeartbeats 4000000 in
set_option maxRecDepth 100000 in
theorem c_str (l : Launch) (hst : l.stackTraces = false) (D : va_G) (ct : Ct) (ad : Ad) (N : Nat) (hN : N ≤ 16) (σ : St) (sz : Nat) (t : Nat) (ht : t < N) (i : Int32) (hi : i = nI t) : Kt l yT_strandOf cT_strandOf 2 (some (.object "ThreadSlots$Strand")) (r0 1) 0 0 D ct [.ref (ad 0 0), .int i] sz (wT ct ad N σ) (fun v w => v = some (.ref (ad 1 t)) ∧ w = wT ct ad N σ) (fun E w => False) := by
  refine kt_of hst (by decide) (Nat.le_of_ble_eq_true rfl) (by simp [Value.category]) ?_
  intro p e s m args below meth c A ls C hne hr hw hl Q hQ
  have hx := C.1
  have hb := C.2.1
  subst hi
  refine q_iload_n hx hb hl dT_strandOf_0 rfl ?_
  refine q_aload_n hx hb hl dT_strandOf_1 rfl ?_
  refine tg_T C hw 0 l_T_24 (by decide) rfl dT_strandOf_2 ?_
  refine ta_lenS C hw dT_strandOf_5 ?_
  refine tc_E (tc_S C hl (c_cidx l hst D ct (wT ct ad N σ) _ (nI t) (nI N) (nI_pos (by omega)) (nI_lt (by omega) (by omega))) hw.1 hw.2.1 hw.2.2 g_T_79 hd_T_checkIndex rfl rfl ⟨(Nat.le_of_ble_eq_true rfl), (Nat.le_of_ble_eq_true rfl)⟩ (Nat.le_of_ble_eq_true rfl) ⟨(Nat.le_of_ble_eq_true rfl), (Nat.le_of_ble_eq_true rfl)⟩ dT_strandOf_6 rfl) C hw (fun E ce q9 w1 H locs hp hw h1 h2 h3 => ?_) (fun v w1 H locs hp hw => ?_)
  · exact hp.elim
  obtain ⟨rfl, rfl⟩ := hp
  dsimp only [Option.toList_some, Option.toList_none, List.cons_append, List.nil_append]
  refine q_aload_n hx hb hl dT_strandOf_9 rfl ?_
  refine tg_T C hw 0 l_T_24 (by decide) rfl dT_strandOf_10 ?_
  refine q_iload_n hx hb hl dT_strandOf_13 rfl ?_
  refine ta_S C hw hN (by assumption) rfl dT_strandOf_14 ?_
  exact tr_a hQ C hw hr (Nat.le_of_ble_eq_true rfl) (Nat.le_of_ble_eq_true rfl) dT_strandOf_15 ⟨rfl, rfl⟩
set_option maxHeartbeats 4000000 in
set_option maxRecDepth 100000 in
theorem x_str (l : Launch) (hst : l.stackTraces = false) (D : va_G) (ct : Ct) (ad : Ad) (N : Nat) (hN : N ≤ 16) (σ : St) (sz : Nat) (i : Int32) (h : i < 0 ∨ ¬ i < nI N) : Kt l yT_strandOf cT_strandOf 2 (some (.object "ThreadSlots$Strand")) (r1 7) 1 6 D ct [.ref (ad 0 0), .int i] sz (wT ct ad N σ) (fun v w => False) (fun E w => E = "java/lang/IndexOutOfBoundsException" ∧ w = wT ct ad N σ) := by
  refine kt_of hst (by decide) (Nat.le_of_ble_eq_true rfl) (by simp [Value.category]) ?_
  intro p e s m args below meth c A ls C hne hr hw hl Q hQ
  have hx := C.1
  have hb := C.2.1
  refine q_iload_n hx hb hl dT_strandOf_0 rfl ?_
  refine q_aload_n hx hb hl dT_strandOf_1 rfl ?_
  refine tg_T C hw 0 l_T_24 (by decide) rfl dT_strandOf_2 ?_
  refine ta_lenS C hw dT_strandOf_5 ?_
  refine tc_E (tc_S C hl (x_cidx l hst D ct (wT ct ad N σ) _ i (nI N) h) hw.1 hw.2.1 hw.2.2 g_T_79 hd_T_checkIndex rfl rfl ⟨(Nat.le_of_ble_eq_true rfl), (Nat.le_of_ble_eq_true rfl)⟩ (Nat.le_of_ble_eq_true rfl) ⟨(Nat.le_of_ble_eq_true rfl), (Nat.le_of_ble_eq_true rfl)⟩ dT_strandOf_6 rfl) C hw (fun E ce q9 w1 H locs hp hw h1 h2 h3 => ?_) (fun v w1 H locs hp hw => ?_)
  · obtain ⟨rfl, rfl⟩ := hp
    exact tr_x hQ C hne hw (Nat.le_of_ble_eq_true rfl) (Nat.le_of_ble_eq_true rfl) ⟨rfl, rfl⟩ h1 h2 h3
  · exact hp.elim
set_option maxHeartbeats 4000000 in
set_option maxRecDepth 100000 in
theorem c_lin (l : Launch) (hst : l.stackTraces = false) (D : va_G) (ct : Ct) (ad : Ad) (N : Nat) (hN : N ≤ 16) (σ : St) (sz : Nat) (q : Nat) (hq : q < 8) (i : Int32) (hi : i = nI q) : Kt l yT_lineOf cT_lineOf 2 (some (.object "ThreadSlots$Line")) (r0 1) 0 0 D ct [.ref (ad 0 0), .int i] sz (wT ct ad N σ) (fun v w => v = some (.ref (ad 3 q)) ∧ w = wT ct ad N σ) (fun E w => False) := by
  refine kt_of hst (by decide) (Nat.le_of_ble_eq_true rfl) (by simp [Value.category]) ?_
  intro p e s m args below meth c A ls C hne hr hw hl Q hQ
  have hx := C.1
  have hb := C.2.1
  subst hi
  refine q_iload_n hx hb hl dT_lineOf_0 rfl ?_
  refine q_aload_n hx hb hl dT_lineOf_1 rfl ?_
  refine tg_T C hw 1 l_T_31 (by decide) rfl dT_lineOf_2 ?_
  refine ta_lenL C hw dT_lineOf_5 ?_
  refine tc_E (tc_S C hl (c_cidx l hst D ct (wT ct ad N σ) _ (nI q) (nI 8) (nI_pos (by omega)) (nI_lt (by omega) (by omega))) hw.1 hw.2.1 hw.2.2 g_T_79 hd_T_checkIndex rfl rfl ⟨(Nat.le_of_ble_eq_true rfl), (Nat.le_of_ble_eq_true rfl)⟩ (Nat.le_of_ble_eq_true rfl) ⟨(Nat.le_of_ble_eq_true rfl), (Nat.le_of_ble_eq_true rfl)⟩ dT_lineOf_6 rfl) C hw (fun E ce q9 w1 H locs hp hw h1 h2 h3 => ?_) (fun v w1 H locs hp hw => ?_)
  · exact hp.elim
  obtain ⟨rfl, rfl⟩ := hp
  dsimp only [Option.toList_some, Option.toList_none, List.cons_append, List.nil_append]
  refine q_aload_n hx hb hl dT_lineOf_9 rfl ?_
  refine tg_T C hw 1 l_T_31 (by decide) rfl dT_lineOf_10 ?_
  refine q_iload_n hx hb hl dT_lineOf_13 rfl ?_
  refine ta_L C hw (by assumption) rfl dT_lineOf_14 ?_
  exact tr_a hQ C hw hr (Nat.le_of_ble_eq_true rfl) (Nat.le_of_ble_eq_true rfl) dT_lineOf_15 ⟨rfl, rfl⟩
set_option maxHeartbeats 4000000 in
set_option maxRecDepth 100000 in
theorem x_lin (l : Launch) (hst : l.stackTraces = false) (D : va_G) (ct : Ct) (ad : Ad) (N : Nat) (hN : N ≤ 16) (σ : St) (sz : Nat) (i : Int32) (h : i < 0 ∨ ¬ i < nI 8) : Kt l yT_lineOf cT_lineOf 2 (some (.object "ThreadSlots$Line")) (r1 7) 1 6 D ct [.ref (ad 0 0), .int i] sz (wT ct ad N σ) (fun v w => False) (fun E w => E = "java/lang/IndexOutOfBoundsException" ∧ w = wT ct ad N σ) := by
  refine kt_of hst (by decide) (Nat.le_of_ble_eq_true rfl) (by simp [Value.category]) ?_
  intro p e s m args below meth c A ls C hne hr hw hl Q hQ
  have hx := C.1
  have hb := C.2.1
  refine q_iload_n hx hb hl dT_lineOf_0 rfl ?_
  refine q_aload_n hx hb hl dT_lineOf_1 rfl ?_
  refine tg_T C hw 1 l_T_31 (by decide) rfl dT_lineOf_2 ?_
  refine ta_lenL C hw dT_lineOf_5 ?_
  refine tc_E (tc_S C hl (x_cidx l hst D ct (wT ct ad N σ) _ i (nI 8) h) hw.1 hw.2.1 hw.2.2 g_T_79 hd_T_checkIndex rfl rfl ⟨(Nat.le_of_ble_eq_true rfl), (Nat.le_of_ble_eq_true rfl)⟩ (Nat.le_of_ble_eq_true rfl) ⟨(Nat.le_of_ble_eq_true rfl), (Nat.le_of_ble_eq_true rfl)⟩ dT_lineOf_6 rfl) C hw (fun E ce q9 w1 H locs hp hw h1 h2 h3 => ?_) (fun v w1 H locs hp hw => ?_)
  · obtain ⟨rfl, rfl⟩ := hp
    exact tr_x hQ C hne hw (Nat.le_of_ble_eq_true rfl) (Nat.le_of_ble_eq_true rfl) ⟨rfl, rfl⟩ h1 h2 h3
  · exact hp.elim
