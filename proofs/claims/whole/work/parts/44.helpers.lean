set_option maxHeartbeats 4000000 in
set_option maxRecDepth 100000 in
theorem h_rule (l : Launch) (hst : l.stackTraces = false) (D : va_G) (ct : Ct) (ad : Ad) (N : Nat) (σ : St) (o : Nat) (f : Nat → Int64) (p0 : Int32) (sz : Nat) {Φ : Option Value → va_W → Prop} {Ψ : String → va_W → Prop} (hM : ∀ sz, Kt l yT_rule cT_rule 3 (some .int) (r1 8) 1 6 D ct [.ref (ad 0 0), .int p0] sz (wT ct ad N σ) Φ Ψ) (Z : Int32 → Int32 → St → Prop) (hok : ∀ v w, Φ v w → ∃ B σ', v = some (.int B) ∧ w = wT ct ad N σ' ∧ Z 0 B σ') (hex : ∀ E w, Ψ E w → w = wT ct ad N σ ∧ (E = "java/lang/IllegalArgumentException" ∧ Z 1 0 σ)) : KtH l yW_rule cW_rule 4 (some .int) [(0, 9, 12, 13)] (r1 9) 1 6 D ct [.ref (ad 0 0), .int p0, .ref o] sz (wT ct ad N σ ++ [(o, eJ (ct 3) f)]) (fun v w => ∃ (k B : Int32) (g : Nat → Int64) (σ' : St), v = some (.int k) ∧ w = wT ct ad N σ' ++ [(o, eJ (ct 3) g)] ∧ (k = 0 → g 0 = B.toInt64) ∧ Z k B σ') := by
  refine kt_ofH hst (by decide) (Nat.le_of_ble_eq_true rfl) (by simp [Value.category]) ?_
  intro p e s m args below meth c A ls C ht hr hw hl Q hQ
  have hx := C.1
  have hb := C.2.1
  refine q_aload_n hx hb hl dW_rule_0 rfl ?_
  refine lv_iconst (v := 0) hx hb dW_rule_1 (by decide) ?_
  refine q_aload_n hx hb hl dW_rule_2 rfl ?_
  refine q_iload_n hx hb hl dW_rule_3 rfl ?_
  have hw9 := wl_L hw
  refine tc_L (tc_V C hl (hM _) hw9.1 hw9.2.1 hw9.2.2 g_W_7 (re_T C hw9) hv_T_rule rfl rfl ⟨(Nat.le_of_ble_eq_true rfl), (Nat.le_of_ble_eq_true rfl)⟩ (Nat.le_of_ble_eq_true rfl) ⟨(Nat.le_of_ble_eq_true rfl), (Nat.le_of_ble_eq_true rfl)⟩ dW_rule_4 rfl) C hw (fun E ce q9 w1 H locs hp hw h1 h2 h3 => ?_) (fun v w1 H locs hp hw => ?_)
  · obtain ⟨rfl, rfl, hz⟩ := hex _ _ hp
    refine q_c1 C ht (by decide) (by decide) x_W_13 h1 h2 h3 ?_
    refine q_astore_n hx hb hl dW_rule_12 (by decide) (fun ls hl => ?_)
    refine lv_iconst (v := 1) hx hb dW_rule_13 (by decide) ?_
    exact tr_i hQ C hw hr (Nat.le_of_ble_eq_true rfl) (Nat.le_of_ble_eq_true rfl) dW_rule_14 ⟨_, 0, f, σ, rfl, rfl, fun q => absurd q (by decide), hz⟩
  obtain ⟨B, σ', rfl, rfl, hz⟩ := hok _ _ hp
  dsimp only [Option.toList_some, List.cons_append, List.nil_append]
  refine lv_i2l hx hb dW_rule_7 rfl ?_
  refine q_last C hw dW_rule_8 (fun H locs g hg hw => ?_)
  refine lv_goto (tgt := 15) hx hb dW_rule_9 (by decide) ?_
  refine lv_iconst (v := 0) hx hb dW_rule_15 (by decide) ?_
  exact tr_i hQ C hw hr (Nat.le_of_ble_eq_true rfl) (Nat.le_of_ble_eq_true rfl) dW_rule_16 ⟨_, B, g, σ', rfl, rfl, fun _ => hg, hz⟩

set_option maxHeartbeats 4000000 in
set_option maxRecDepth 100000 in
theorem h_bound (l : Launch) (hst : l.stackTraces = false) (D : va_G) (ct : Ct) (ad : Ad) (N : Nat) (σ : St) (o : Nat) (f : Nat → Int64) (p0 : Int32) (sz : Nat) {Φ : Option Value → va_W → Prop} {Ψ : String → va_W → Prop} (hM : ∀ sz, Kt l yT_bound cT_bound 3 (some .int) (r1 8) 1 6 D ct [.ref (ad 0 0), .int p0] sz (wT ct ad N σ) Φ Ψ) (Z : Int32 → Int32 → St → Prop) (hok : ∀ v w, Φ v w → ∃ B σ', v = some (.int B) ∧ w = wT ct ad N σ' ∧ Z 0 B σ') (hex : ∀ E w, Ψ E w → w = wT ct ad N σ ∧ (E = "java/lang/IllegalArgumentException" ∧ Z 1 0 σ)) : KtH l yW_bound cW_bound 4 (some .int) [(0, 9, 12, 13)] (r1 9) 1 6 D ct [.ref (ad 0 0), .int p0, .ref o] sz (wT ct ad N σ ++ [(o, eJ (ct 3) f)]) (fun v w => ∃ (k B : Int32) (g : Nat → Int64) (σ' : St), v = some (.int k) ∧ w = wT ct ad N σ' ++ [(o, eJ (ct 3) g)] ∧ (k = 0 → g 0 = B.toInt64) ∧ Z k B σ') := by
  refine kt_ofH hst (by decide) (Nat.le_of_ble_eq_true rfl) (by simp [Value.category]) ?_
  intro p e s m args below meth c A ls C ht hr hw hl Q hQ
  have hx := C.1
  have hb := C.2.1
  refine q_aload_n hx hb hl dW_bound_0 rfl ?_
  refine lv_iconst (v := 0) hx hb dW_bound_1 (by decide) ?_
  refine q_aload_n hx hb hl dW_bound_2 rfl ?_
  refine q_iload_n hx hb hl dW_bound_3 rfl ?_
  have hw9 := wl_L hw
  refine tc_L (tc_V C hl (hM _) hw9.1 hw9.2.1 hw9.2.2 g_W_15 (re_T C hw9) hv_T_bound rfl rfl ⟨(Nat.le_of_ble_eq_true rfl), (Nat.le_of_ble_eq_true rfl)⟩ (Nat.le_of_ble_eq_true rfl) ⟨(Nat.le_of_ble_eq_true rfl), (Nat.le_of_ble_eq_true rfl)⟩ dW_bound_4 rfl) C hw (fun E ce q9 w1 H locs hp hw h1 h2 h3 => ?_) (fun v w1 H locs hp hw => ?_)
  · obtain ⟨rfl, rfl, hz⟩ := hex _ _ hp
    refine q_c1 C ht (by decide) (by decide) x_W_13 h1 h2 h3 ?_
    refine q_astore_n hx hb hl dW_bound_12 (by decide) (fun ls hl => ?_)
    refine lv_iconst (v := 1) hx hb dW_bound_13 (by decide) ?_
    exact tr_i hQ C hw hr (Nat.le_of_ble_eq_true rfl) (Nat.le_of_ble_eq_true rfl) dW_bound_14 ⟨_, 0, f, σ, rfl, rfl, fun q => absurd q (by decide), hz⟩
  obtain ⟨B, σ', rfl, rfl, hz⟩ := hok _ _ hp
  dsimp only [Option.toList_some, List.cons_append, List.nil_append]
  refine lv_i2l hx hb dW_bound_7 rfl ?_
  refine q_last C hw dW_bound_8 (fun H locs g hg hw => ?_)
  refine lv_goto (tgt := 15) hx hb dW_bound_9 (by decide) ?_
  refine lv_iconst (v := 0) hx hb dW_bound_15 (by decide) ?_
  exact tr_i hQ C hw hr (Nat.le_of_ble_eq_true rfl) (Nat.le_of_ble_eq_true rfl) dW_bound_16 ⟨_, B, g, σ', rfl, rfl, fun _ => hg, hz⟩

set_option maxHeartbeats 4000000 in
set_option maxRecDepth 100000 in
theorem h_cost (l : Launch) (hst : l.stackTraces = false) (D : va_G) (ct : Ct) (ad : Ad) (N : Nat) (σ : St) (o : Nat) (f : Nat → Int64) (p0 : Int32) (sz : Nat) {Φ : Option Value → va_W → Prop} {Ψ : String → va_W → Prop} (hM : ∀ sz, Kt l yT_cost cT_cost 3 (some .int) (r1 8) 1 6 D ct [.ref (ad 0 0), .int p0] sz (wT ct ad N σ) Φ Ψ) (Z : Int32 → Int32 → St → Prop) (hok : ∀ v w, Φ v w → ∃ B σ', v = some (.int B) ∧ w = wT ct ad N σ' ∧ Z 0 B σ') (hex : ∀ E w, Ψ E w → w = wT ct ad N σ ∧ (E = "java/lang/IllegalArgumentException" ∧ Z 1 0 σ)) : KtH l yW_cost cW_cost 4 (some .int) [(0, 9, 12, 13)] (r1 9) 1 6 D ct [.ref (ad 0 0), .int p0, .ref o] sz (wT ct ad N σ ++ [(o, eJ (ct 3) f)]) (fun v w => ∃ (k B : Int32) (g : Nat → Int64) (σ' : St), v = some (.int k) ∧ w = wT ct ad N σ' ++ [(o, eJ (ct 3) g)] ∧ (k = 0 → g 0 = B.toInt64) ∧ Z k B σ') := by
  refine kt_ofH hst (by decide) (Nat.le_of_ble_eq_true rfl) (by simp [Value.category]) ?_
  intro p e s m args below meth c A ls C ht hr hw hl Q hQ
  have hx := C.1
  have hb := C.2.1
  refine q_aload_n hx hb hl dW_cost_0 rfl ?_
  refine lv_iconst (v := 0) hx hb dW_cost_1 (by decide) ?_
  refine q_aload_n hx hb hl dW_cost_2 rfl ?_
  refine q_iload_n hx hb hl dW_cost_3 rfl ?_
  have hw9 := wl_L hw
  refine tc_L (tc_V C hl (hM _) hw9.1 hw9.2.1 hw9.2.2 g_W_18 (re_T C hw9) hv_T_cost rfl rfl ⟨(Nat.le_of_ble_eq_true rfl), (Nat.le_of_ble_eq_true rfl)⟩ (Nat.le_of_ble_eq_true rfl) ⟨(Nat.le_of_ble_eq_true rfl), (Nat.le_of_ble_eq_true rfl)⟩ dW_cost_4 rfl) C hw (fun E ce q9 w1 H locs hp hw h1 h2 h3 => ?_) (fun v w1 H locs hp hw => ?_)
  · obtain ⟨rfl, rfl, hz⟩ := hex _ _ hp
    refine q_c1 C ht (by decide) (by decide) x_W_13 h1 h2 h3 ?_
    refine q_astore_n hx hb hl dW_cost_12 (by decide) (fun ls hl => ?_)
    refine lv_iconst (v := 1) hx hb dW_cost_13 (by decide) ?_
    exact tr_i hQ C hw hr (Nat.le_of_ble_eq_true rfl) (Nat.le_of_ble_eq_true rfl) dW_cost_14 ⟨_, 0, f, σ, rfl, rfl, fun q => absurd q (by decide), hz⟩
  obtain ⟨B, σ', rfl, rfl, hz⟩ := hok _ _ hp
  dsimp only [Option.toList_some, List.cons_append, List.nil_append]
  refine lv_i2l hx hb dW_cost_7 rfl ?_
  refine q_last C hw dW_cost_8 (fun H locs g hg hw => ?_)
  refine lv_goto (tgt := 15) hx hb dW_cost_9 (by decide) ?_
  refine lv_iconst (v := 0) hx hb dW_cost_15 (by decide) ?_
  exact tr_i hQ C hw hr (Nat.le_of_ble_eq_true rfl) (Nat.le_of_ble_eq_true rfl) dW_cost_16 ⟨_, B, g, σ', rfl, rfl, fun _ => hg, hz⟩

set_option maxHeartbeats 4000000 in
set_option maxRecDepth 100000 in
theorem h_ready (l : Launch) (hst : l.stackTraces = false) (D : va_G) (ct : Ct) (ad : Ad) (N : Nat) (σ : St) (o : Nat) (f : Nat → Int64) (p0 p1 : Int32) (sz : Nat) {Φ : Option Value → va_W → Prop} {Ψ : String → va_W → Prop} (hM : ∀ sz, Kt l yT_ready cT_ready 5 (some .boolean) (r1 8) 1 6 D ct [.ref (ad 0 0), .int p0, .int p1] sz (wT ct ad N σ) Φ Ψ) (Z : Int32 → Int32 → St → Prop) (hok : ∀ v w, Φ v w → ∃ B σ', v = some (.int B) ∧ w = wT ct ad N σ' ∧ Z 0 B σ') (hex : ∀ E w, Ψ E w → w = wT ct ad N σ ∧ (E = "java/lang/IndexOutOfBoundsException" ∧ Z 1 0 σ)) : KtH l yW_ready cW_ready 5 (some .int) [(0, 17, 20, 25)] (r1 9) 1 6 D ct [.ref (ad 0 0), .int p0, .int p1, .ref o] sz (wT ct ad N σ ++ [(o, eJ (ct 3) f)]) (fun v w => ∃ (k B : Int32) (g : Nat → Int64) (σ' : St), v = some (.int k) ∧ w = wT ct ad N σ' ++ [(o, eJ (ct 3) g)] ∧ (k = 0 → g 0 = (if B = 0 then (0 : Int64) else 1)) ∧ Z k B σ') := by
  refine kt_ofH hst (by decide) (Nat.le_of_ble_eq_true rfl) (by simp [Value.category]) ?_
  intro p e s m args below meth c A ls C ht hr hw hl Q hQ
  have hx := C.1
  have hb := C.2.1
  refine q_aload_n hx hb hl dW_ready_0 rfl ?_
  refine lv_iconst (v := 0) hx hb dW_ready_1 (by decide) ?_
  refine q_aload_n hx hb hl dW_ready_2 rfl ?_
  refine q_iload_n hx hb hl dW_ready_3 rfl ?_
  refine q_iload_n hx hb hl dW_ready_4 rfl ?_
  have hw9 := wl_L hw
  refine tc_L (tc_V C hl (hM _) hw9.1 hw9.2.1 hw9.2.2 g_W_21 (re_T C hw9) hv_T_ready rfl rfl ⟨(Nat.le_of_ble_eq_true rfl), (Nat.le_of_ble_eq_true rfl)⟩ (Nat.le_of_ble_eq_true rfl) ⟨(Nat.le_of_ble_eq_true rfl), (Nat.le_of_ble_eq_true rfl)⟩ dW_ready_5 rfl) C hw (fun E ce q9 w1 H locs hp hw h1 h2 h3 => ?_) (fun v w1 H locs hp hw => ?_)
  · obtain ⟨rfl, rfl, hz⟩ := hex _ _ hp
    refine q_c1 C ht (by decide) (by decide) x_W_25 h1 h2 h3 ?_
    refine q_astore hx hb hl dW_ready_20 (by decide) (fun ls hl => ?_)
    refine lv_iconst (v := 1) hx hb dW_ready_22 (by decide) ?_
    exact tr_i hQ C hw hr (Nat.le_of_ble_eq_true rfl) (Nat.le_of_ble_eq_true rfl) dW_ready_23 ⟨_, 0, f, σ, rfl, rfl, fun q => absurd q (by decide), hz⟩
  obtain ⟨B, σ', rfl, rfl, hz⟩ := hok _ _ hp
  dsimp only [Option.toList_some, List.cons_append, List.nil_append]
  refine lv_if_eq (tgt := 15) hx hb dW_ready_8 (by decide) (fun c1 => ?_) (fun c1 => ?_)
  · refine lv_lconst (v := 0) hx hb dW_ready_15 (by decide) ?_
    refine q_last C hw dW_ready_16 (fun H locs g hg hw => ?_)
    refine lv_goto (tgt := 24) hx hb dW_ready_17 (by decide) ?_
    refine lv_iconst (v := 0) hx hb dW_ready_24 (by decide) ?_
    exact tr_i hQ C hw hr (Nat.le_of_ble_eq_true rfl) (Nat.le_of_ble_eq_true rfl) dW_ready_25 ⟨_, B, g, σ', rfl, rfl, fun _ => by rw [hg, if_pos c1], hz⟩
  · refine lv_lconst (v := 1) hx hb dW_ready_11 (by decide) ?_
    refine lv_goto (tgt := 16) hx hb dW_ready_12 (by decide) ?_
    refine q_last C hw dW_ready_16 (fun H locs g hg hw => ?_)
    refine lv_goto (tgt := 24) hx hb dW_ready_17 (by decide) ?_
    refine lv_iconst (v := 0) hx hb dW_ready_24 (by decide) ?_
    exact tr_i hQ C hw hr (Nat.le_of_ble_eq_true rfl) (Nat.le_of_ble_eq_true rfl) dW_ready_25 ⟨_, B, g, σ', rfl, rfl, fun _ => by rw [hg, if_neg c1], hz⟩

set_option maxHeartbeats 4000000 in
set_option maxRecDepth 100000 in
theorem h_rank (l : Launch) (hst : l.stackTraces = false) (D : va_G) (ct : Ct) (ad : Ad) (N : Nat) (σ : St) (o : Nat) (f : Nat → Int64) (p0 p1 : Int32) (sz : Nat) {Φ : Option Value → va_W → Prop} {Ψ : String → va_W → Prop} (hM : ∀ sz, Kt l yT_rank cT_rank 5 (some .int) (r1 8) 1 6 D ct [.ref (ad 0 0), .int p0, .int p1] sz (wT ct ad N σ) Φ Ψ) (Z : Int32 → Int32 → St → Prop) (hok : ∀ v w, Φ v w → ∃ B σ', v = some (.int B) ∧ w = wT ct ad N σ' ∧ Z 0 B σ') (hex : ∀ E w, Ψ E w → w = wT ct ad N σ ∧ (E = "java/lang/IndexOutOfBoundsException" ∧ Z 1 0 σ ∨ E = "java/lang/IllegalArgumentException" ∧ Z 2 0 σ)) : KtH l yW_rank cW_rank 5 (some .int) [(0, 10, 13, 25), (0, 10, 17, 13)] (r1 9) 1 6 D ct [.ref (ad 0 0), .int p0, .int p1, .ref o] sz (wT ct ad N σ ++ [(o, eJ (ct 3) f)]) (fun v w => ∃ (k B : Int32) (g : Nat → Int64) (σ' : St), v = some (.int k) ∧ w = wT ct ad N σ' ++ [(o, eJ (ct 3) g)] ∧ (k = 0 → g 0 = B.toInt64) ∧ Z k B σ') := by
  refine kt_ofH hst (by decide) (Nat.le_of_ble_eq_true rfl) (by simp [Value.category]) ?_
  intro p e s m args below meth c A ls C ht hr hw hl Q hQ
  have hx := C.1
  have hb := C.2.1
  refine q_aload_n hx hb hl dW_rank_0 rfl ?_
  refine lv_iconst (v := 0) hx hb dW_rank_1 (by decide) ?_
  refine q_aload_n hx hb hl dW_rank_2 rfl ?_
  refine q_iload_n hx hb hl dW_rank_3 rfl ?_
  refine q_iload_n hx hb hl dW_rank_4 rfl ?_
  have hw9 := wl_L hw
  refine tc_L (tc_V C hl (hM _) hw9.1 hw9.2.1 hw9.2.2 g_W_27 (re_T C hw9) hv_T_rank rfl rfl ⟨(Nat.le_of_ble_eq_true rfl), (Nat.le_of_ble_eq_true rfl)⟩ (Nat.le_of_ble_eq_true rfl) ⟨(Nat.le_of_ble_eq_true rfl), (Nat.le_of_ble_eq_true rfl)⟩ dW_rank_5 rfl) C hw (fun E ce q9 w1 H locs hp hw h1 h2 h3 => ?_) (fun v w1 H locs hp hw => ?_)
  · obtain ⟨rfl, ⟨rfl, hz⟩ | ⟨rfl, hz⟩⟩ := hex _ _ hp
    · refine q_c1 C ht (by decide) (by decide) x_W_25 h1 h2 h3 ?_
      refine q_astore hx hb hl dW_rank_13 (by decide) (fun ls hl => ?_)
      refine lv_iconst (v := 1) hx hb dW_rank_15 (by decide) ?_
      exact tr_i hQ C hw hr (Nat.le_of_ble_eq_true rfl) (Nat.le_of_ble_eq_true rfl) dW_rank_16 ⟨_, 0, f, σ, rfl, rfl, fun q => absurd q (by decide), hz⟩
    · refine q_c2 C ht (by decide) (by decide) x_W_13 (by decide) x_W_25.1 (by decide) h1 h2 h3 ?_
      refine q_astore hx hb hl dW_rank_17 (by decide) (fun ls hl => ?_)
      refine lv_iconst (v := 2) hx hb dW_rank_19 (by decide) ?_
      exact tr_i hQ C hw hr (Nat.le_of_ble_eq_true rfl) (Nat.le_of_ble_eq_true rfl) dW_rank_20 ⟨_, 0, f, σ, rfl, rfl, fun q => absurd q (by decide), hz⟩
  obtain ⟨B, σ', rfl, rfl, hz⟩ := hok _ _ hp
  dsimp only [Option.toList_some, List.cons_append, List.nil_append]
  refine lv_i2l hx hb dW_rank_8 rfl ?_
  refine q_last C hw dW_rank_9 (fun H locs g hg hw => ?_)
  refine lv_goto (tgt := 21) hx hb dW_rank_10 (by decide) ?_
  refine lv_iconst (v := 0) hx hb dW_rank_21 (by decide) ?_
  exact tr_i hQ C hw hr (Nat.le_of_ble_eq_true rfl) (Nat.le_of_ble_eq_true rfl) dW_rank_22 ⟨_, B, g, σ', rfl, rfl, fun _ => hg, hz⟩

set_option maxHeartbeats 4000000 in
set_option maxRecDepth 100000 in
theorem h_sleep (l : Launch) (hst : l.stackTraces = false) (D : va_G) (ct : Ct) (ad : Ad) (N : Nat) (σ : St) (o : Nat) (f : Nat → Int64) (p0 p1 : Int32) (sz : Nat) {Φ : Option Value → va_W → Prop} {Ψ : String → va_W → Prop} (hM : ∀ sz, Kt l yT_sleep cT_sleep 5 (some .int) (r1 8) 1 6 D ct [.ref (ad 0 0), .int p0, .int p1] sz (wT ct ad N σ) Φ Ψ) (Z : Int32 → Int32 → St → Prop) (hok : ∀ v w, Φ v w → ∃ B σ', v = some (.int B) ∧ w = wT ct ad N σ' ∧ Z 0 B σ') (hex : ∀ E w, Ψ E w → w = wT ct ad N σ ∧ (E = "java/lang/IndexOutOfBoundsException" ∧ Z 1 0 σ ∨ E = "java/lang/IllegalArgumentException" ∧ Z 2 0 σ)) : KtH l yW_sleep cW_sleep 5 (some .int) [(0, 10, 13, 25), (0, 10, 17, 13)] (r1 9) 1 6 D ct [.ref (ad 0 0), .int p0, .int p1, .ref o] sz (wT ct ad N σ ++ [(o, eJ (ct 3) f)]) (fun v w => ∃ (k B : Int32) (g : Nat → Int64) (σ' : St), v = some (.int k) ∧ w = wT ct ad N σ' ++ [(o, eJ (ct 3) g)] ∧ (k = 0 → g 0 = B.toInt64) ∧ Z k B σ') := by
  refine kt_ofH hst (by decide) (Nat.le_of_ble_eq_true rfl) (by simp [Value.category]) ?_
  intro p e s m args below meth c A ls C ht hr hw hl Q hQ
  have hx := C.1
  have hb := C.2.1
  refine q_aload_n hx hb hl dW_sleep_0 rfl ?_
  refine lv_iconst (v := 0) hx hb dW_sleep_1 (by decide) ?_
  refine q_aload_n hx hb hl dW_sleep_2 rfl ?_
  refine q_iload_n hx hb hl dW_sleep_3 rfl ?_
  refine q_iload_n hx hb hl dW_sleep_4 rfl ?_
  have hw9 := wl_L hw
  refine tc_L (tc_V C hl (hM _) hw9.1 hw9.2.1 hw9.2.2 g_W_31 (re_T C hw9) hv_T_sleep rfl rfl ⟨(Nat.le_of_ble_eq_true rfl), (Nat.le_of_ble_eq_true rfl)⟩ (Nat.le_of_ble_eq_true rfl) ⟨(Nat.le_of_ble_eq_true rfl), (Nat.le_of_ble_eq_true rfl)⟩ dW_sleep_5 rfl) C hw (fun E ce q9 w1 H locs hp hw h1 h2 h3 => ?_) (fun v w1 H locs hp hw => ?_)
  · obtain ⟨rfl, ⟨rfl, hz⟩ | ⟨rfl, hz⟩⟩ := hex _ _ hp
    · refine q_c1 C ht (by decide) (by decide) x_W_25 h1 h2 h3 ?_
      refine q_astore hx hb hl dW_sleep_13 (by decide) (fun ls hl => ?_)
      refine lv_iconst (v := 1) hx hb dW_sleep_15 (by decide) ?_
      exact tr_i hQ C hw hr (Nat.le_of_ble_eq_true rfl) (Nat.le_of_ble_eq_true rfl) dW_sleep_16 ⟨_, 0, f, σ, rfl, rfl, fun q => absurd q (by decide), hz⟩
    · refine q_c2 C ht (by decide) (by decide) x_W_13 (by decide) x_W_25.1 (by decide) h1 h2 h3 ?_
      refine q_astore hx hb hl dW_sleep_17 (by decide) (fun ls hl => ?_)
      refine lv_iconst (v := 2) hx hb dW_sleep_19 (by decide) ?_
      exact tr_i hQ C hw hr (Nat.le_of_ble_eq_true rfl) (Nat.le_of_ble_eq_true rfl) dW_sleep_20 ⟨_, 0, f, σ, rfl, rfl, fun q => absurd q (by decide), hz⟩
  obtain ⟨B, σ', rfl, rfl, hz⟩ := hok _ _ hp
  dsimp only [Option.toList_some, List.cons_append, List.nil_append]
  refine lv_i2l hx hb dW_sleep_8 rfl ?_
  refine q_last C hw dW_sleep_9 (fun H locs g hg hw => ?_)
  refine lv_goto (tgt := 21) hx hb dW_sleep_10 (by decide) ?_
  refine lv_iconst (v := 0) hx hb dW_sleep_21 (by decide) ?_
  exact tr_i hQ C hw hr (Nat.le_of_ble_eq_true rfl) (Nat.le_of_ble_eq_true rfl) dW_sleep_22 ⟨_, B, g, σ', rfl, rfl, fun _ => hg, hz⟩

set_option maxHeartbeats 4000000 in
set_option maxRecDepth 100000 in
theorem h_miss (l : Launch) (hst : l.stackTraces = false) (D : va_G) (ct : Ct) (ad : Ad) (N : Nat) (σ : St) (o : Nat) (f : Nat → Int64) (p0 : Int32) (sz : Nat) {Φ : Option Value → va_W → Prop} {Ψ : String → va_W → Prop} (hM : ∀ sz, Kt l yT_miss cT_miss 3 (some .int) (r1 8) 1 6 D ct [.ref (ad 0 0), .int p0] sz (wT ct ad N σ) Φ Ψ) (Z : Int32 → Int32 → St → Prop) (hok : ∀ v w, Φ v w → ∃ B σ', v = some (.int B) ∧ w = wT ct ad N σ' ∧ Z 0 B σ') (hex : ∀ E w, Ψ E w → w = wT ct ad N σ ∧ (E = "java/lang/IndexOutOfBoundsException" ∧ Z 1 0 σ)) : KtH l yW_miss cW_miss 4 (some .int) [(0, 9, 12, 25)] (r1 9) 1 6 D ct [.ref (ad 0 0), .int p0, .ref o] sz (wT ct ad N σ ++ [(o, eJ (ct 3) f)]) (fun v w => ∃ (k B : Int32) (g : Nat → Int64) (σ' : St), v = some (.int k) ∧ w = wT ct ad N σ' ++ [(o, eJ (ct 3) g)] ∧ (k = 0 → g 0 = B.toInt64) ∧ Z k B σ') := by
  refine kt_ofH hst (by decide) (Nat.le_of_ble_eq_true rfl) (by simp [Value.category]) ?_
  intro p e s m args below meth c A ls C ht hr hw hl Q hQ
  have hx := C.1
  have hb := C.2.1
  refine q_aload_n hx hb hl dW_miss_0 rfl ?_
  refine lv_iconst (v := 0) hx hb dW_miss_1 (by decide) ?_
  refine q_aload_n hx hb hl dW_miss_2 rfl ?_
  refine q_iload_n hx hb hl dW_miss_3 rfl ?_
  have hw9 := wl_L hw
  refine tc_L (tc_V C hl (hM _) hw9.1 hw9.2.1 hw9.2.2 g_W_34 (re_T C hw9) hv_T_miss rfl rfl ⟨(Nat.le_of_ble_eq_true rfl), (Nat.le_of_ble_eq_true rfl)⟩ (Nat.le_of_ble_eq_true rfl) ⟨(Nat.le_of_ble_eq_true rfl), (Nat.le_of_ble_eq_true rfl)⟩ dW_miss_4 rfl) C hw (fun E ce q9 w1 H locs hp hw h1 h2 h3 => ?_) (fun v w1 H locs hp hw => ?_)
  · obtain ⟨rfl, rfl, hz⟩ := hex _ _ hp
    refine q_c1 C ht (by decide) (by decide) x_W_25 h1 h2 h3 ?_
    refine q_astore_n hx hb hl dW_miss_12 (by decide) (fun ls hl => ?_)
    refine lv_iconst (v := 1) hx hb dW_miss_13 (by decide) ?_
    exact tr_i hQ C hw hr (Nat.le_of_ble_eq_true rfl) (Nat.le_of_ble_eq_true rfl) dW_miss_14 ⟨_, 0, f, σ, rfl, rfl, fun q => absurd q (by decide), hz⟩
  obtain ⟨B, σ', rfl, rfl, hz⟩ := hok _ _ hp
  dsimp only [Option.toList_some, List.cons_append, List.nil_append]
  refine lv_i2l hx hb dW_miss_7 rfl ?_
  refine q_last C hw dW_miss_8 (fun H locs g hg hw => ?_)
  refine lv_goto (tgt := 15) hx hb dW_miss_9 (by decide) ?_
  refine lv_iconst (v := 0) hx hb dW_miss_15 (by decide) ?_
  exact tr_i hQ C hw hr (Nat.le_of_ble_eq_true rfl) (Nat.le_of_ble_eq_true rfl) dW_miss_16 ⟨_, B, g, σ', rfl, rfl, fun _ => hg, hz⟩

set_option maxHeartbeats 4000000 in
set_option maxRecDepth 100000 in
theorem h_run (l : Launch) (hst : l.stackTraces = false) (D : va_G) (ct : Ct) (ad : Ad) (N : Nat) (σ : St) (o : Nat) (f : Nat → Int64) (p0 : Int32) (sz : Nat) {Φ : Option Value → va_W → Prop} {Ψ : String → va_W → Prop} (hM : ∀ sz, Kt l yT_run cT_run 4 (some .int) (r1 8) 1 6 D ct [.ref (ad 0 0), .int p0] sz (wT ct ad N σ) Φ Ψ) (Z : Int32 → Int32 → St → Prop) (hok : ∀ v w, Φ v w → ∃ B σ', v = some (.int B) ∧ w = wT ct ad N σ' ∧ Z 0 B σ') (hex : ∀ E w, Ψ E w → w = wT ct ad N σ ∧ (E = "java/lang/IllegalArgumentException" ∧ Z 1 0 σ)) : KtH l yW_run cW_run 4 (some .int) [(0, 9, 12, 13)] (r1 9) 1 6 D ct [.ref (ad 0 0), .int p0, .ref o] sz (wT ct ad N σ ++ [(o, eJ (ct 3) f)]) (fun v w => ∃ (k B : Int32) (g : Nat → Int64) (σ' : St), v = some (.int k) ∧ w = wT ct ad N σ' ++ [(o, eJ (ct 3) g)] ∧ (k = 0 → g 0 = B.toInt64) ∧ Z k B σ') := by
  refine kt_ofH hst (by decide) (Nat.le_of_ble_eq_true rfl) (by simp [Value.category]) ?_
  intro p e s m args below meth c A ls C ht hr hw hl Q hQ
  have hx := C.1
  have hb := C.2.1
  refine q_aload_n hx hb hl dW_run_0 rfl ?_
  refine lv_iconst (v := 0) hx hb dW_run_1 (by decide) ?_
  refine q_aload_n hx hb hl dW_run_2 rfl ?_
  refine q_iload_n hx hb hl dW_run_3 rfl ?_
  have hw9 := wl_L hw
  refine tc_L (tc_V C hl (hM _) hw9.1 hw9.2.1 hw9.2.2 g_W_37 (re_T C hw9) hv_T_run rfl rfl ⟨(Nat.le_of_ble_eq_true rfl), (Nat.le_of_ble_eq_true rfl)⟩ (Nat.le_of_ble_eq_true rfl) ⟨(Nat.le_of_ble_eq_true rfl), (Nat.le_of_ble_eq_true rfl)⟩ dW_run_4 rfl) C hw (fun E ce q9 w1 H locs hp hw h1 h2 h3 => ?_) (fun v w1 H locs hp hw => ?_)
  · obtain ⟨rfl, rfl, hz⟩ := hex _ _ hp
    refine q_c1 C ht (by decide) (by decide) x_W_13 h1 h2 h3 ?_
    refine q_astore_n hx hb hl dW_run_12 (by decide) (fun ls hl => ?_)
    refine lv_iconst (v := 1) hx hb dW_run_13 (by decide) ?_
    exact tr_i hQ C hw hr (Nat.le_of_ble_eq_true rfl) (Nat.le_of_ble_eq_true rfl) dW_run_14 ⟨_, 0, f, σ, rfl, rfl, fun q => absurd q (by decide), hz⟩
  obtain ⟨B, σ', rfl, rfl, hz⟩ := hok _ _ hp
  dsimp only [Option.toList_some, List.cons_append, List.nil_append]
  refine lv_i2l hx hb dW_run_7 rfl ?_
  refine q_last C hw dW_run_8 (fun H locs g hg hw => ?_)
  refine lv_goto (tgt := 15) hx hb dW_run_9 (by decide) ?_
  refine lv_iconst (v := 0) hx hb dW_run_15 (by decide) ?_
  exact tr_i hQ C hw hr (Nat.le_of_ble_eq_true rfl) (Nat.le_of_ble_eq_true rfl) dW_run_16 ⟨_, B, g, σ', rfl, rfl, fun _ => hg, hz⟩

set_option maxHeartbeats 4000000 in
set_option maxRecDepth 100000 in
theorem h_part (l : Launch) (hst : l.stackTraces = false) (D : va_G) (ct : Ct) (ad : Ad) (N : Nat) (σ : St) (o : Nat) (f : Nat → Int64) (p0 p1 p2 : Int32) (sz : Nat) {Φ : Option Value → va_W → Prop} {Ψ : String → va_W → Prop} (hM : ∀ sz, Kt l yT_part cT_part 6 (some .int) (r1 8) 1 6 D ct [.ref (ad 0 0), .int p0, .int p1, .int p2] sz (wT ct ad N σ) Φ Ψ) (Z : Int32 → Int32 → St → Prop) (hok : ∀ v w, Φ v w → ∃ B σ', v = some (.int B) ∧ w = wT ct ad N σ' ∧ Z 0 B σ') (hex : ∀ E w, Ψ E w → w = wT ct ad N σ ∧ (E = "java/lang/IndexOutOfBoundsException" ∧ Z 1 0 σ ∨ E = "java/lang/IllegalArgumentException" ∧ Z 2 0 σ)) : KtH l yW_part cW_part 6 (some .int) [(0, 12, 15, 25), (0, 12, 19, 13)] (r1 9) 1 6 D ct [.ref (ad 0 0), .int p0, .int p1, .int p2, .ref o] sz (wT ct ad N σ ++ [(o, eJ (ct 3) f)]) (fun v w => ∃ (k B : Int32) (g : Nat → Int64) (σ' : St), v = some (.int k) ∧ w = wT ct ad N σ' ++ [(o, eJ (ct 3) g)] ∧ (k = 0 → g 0 = B.toInt64) ∧ Z k B σ') := by
  refine kt_ofH hst (by decide) (Nat.le_of_ble_eq_true rfl) (by simp [Value.category]) ?_
  intro p e s m args below meth c A ls C ht hr hw hl Q hQ
  have hx := C.1
  have hb := C.2.1
  refine q_aload hx hb hl dW_part_0 rfl ?_
  refine lv_iconst (v := 0) hx hb dW_part_2 (by decide) ?_
  refine q_aload_n hx hb hl dW_part_3 rfl ?_
  refine q_iload_n hx hb hl dW_part_4 rfl ?_
  refine q_iload_n hx hb hl dW_part_5 rfl ?_
  refine q_iload_n hx hb hl dW_part_6 rfl ?_
  have hw9 := wl_L hw
  refine tc_L (tc_V C hl (hM _) hw9.1 hw9.2.1 hw9.2.2 g_W_40 (re_T C hw9) hv_T_part rfl rfl ⟨(Nat.le_of_ble_eq_true rfl), (Nat.le_of_ble_eq_true rfl)⟩ (Nat.le_of_ble_eq_true rfl) ⟨(Nat.le_of_ble_eq_true rfl), (Nat.le_of_ble_eq_true rfl)⟩ dW_part_7 rfl) C hw (fun E ce q9 w1 H locs hp hw h1 h2 h3 => ?_) (fun v w1 H locs hp hw => ?_)
  · obtain ⟨rfl, ⟨rfl, hz⟩ | ⟨rfl, hz⟩⟩ := hex _ _ hp
    · refine q_c1 C ht (by decide) (by decide) x_W_25 h1 h2 h3 ?_
      refine q_astore hx hb hl dW_part_15 (by decide) (fun ls hl => ?_)
      refine lv_iconst (v := 1) hx hb dW_part_17 (by decide) ?_
      exact tr_i hQ C hw hr (Nat.le_of_ble_eq_true rfl) (Nat.le_of_ble_eq_true rfl) dW_part_18 ⟨_, 0, f, σ, rfl, rfl, fun q => absurd q (by decide), hz⟩
    · refine q_c2 C ht (by decide) (by decide) x_W_13 (by decide) x_W_25.1 (by decide) h1 h2 h3 ?_
      refine q_astore hx hb hl dW_part_19 (by decide) (fun ls hl => ?_)
      refine lv_iconst (v := 2) hx hb dW_part_21 (by decide) ?_
      exact tr_i hQ C hw hr (Nat.le_of_ble_eq_true rfl) (Nat.le_of_ble_eq_true rfl) dW_part_22 ⟨_, 0, f, σ, rfl, rfl, fun q => absurd q (by decide), hz⟩
  obtain ⟨B, σ', rfl, rfl, hz⟩ := hok _ _ hp
  dsimp only [Option.toList_some, List.cons_append, List.nil_append]
  refine lv_i2l hx hb dW_part_10 rfl ?_
  refine q_last C hw dW_part_11 (fun H locs g hg hw => ?_)
  refine lv_goto (tgt := 23) hx hb dW_part_12 (by decide) ?_
  refine lv_iconst (v := 0) hx hb dW_part_23 (by decide) ?_
  exact tr_i hQ C hw hr (Nat.le_of_ble_eq_true rfl) (Nat.le_of_ble_eq_true rfl) dW_part_24 ⟨_, B, g, σ', rfl, rfl, fun _ => hg, hz⟩

set_option maxHeartbeats 4000000 in
set_option maxRecDepth 100000 in
theorem h_put (l : Launch) (hst : l.stackTraces = false) (D : va_G) (ct : Ct) (ad : Ad) (N : Nat) (σ : St) (o : Nat) (f : Nat → Int64) (p0 p1 p2 : Int32) (sz : Nat) {Φ : Option Value → va_W → Prop} {Ψ : String → va_W → Prop} (hM : ∀ sz, Kt l yT_put cT_put 6 (some .int) (r1 8) 1 6 D ct [.ref (ad 0 0), .int p0, .int p1, .int p2] sz (wT ct ad N σ) Φ Ψ) (Z : Int32 → Int32 → St → Prop) (hok : ∀ v w, Φ v w → ∃ B σ', v = some (.int B) ∧ w = wT ct ad N σ' ∧ Z 0 B σ') (hex : ∀ E w, Ψ E w → w = wT ct ad N σ ∧ (E = "java/lang/IndexOutOfBoundsException" ∧ Z 1 0 σ)) : KtH l yW_put cW_put 6 (some .int) [(0, 12, 15, 25)] (r1 9) 1 6 D ct [.ref (ad 0 0), .int p0, .int p1, .int p2, .ref o] sz (wT ct ad N σ ++ [(o, eJ (ct 3) f)]) (fun v w => ∃ (k B : Int32) (g : Nat → Int64) (σ' : St), v = some (.int k) ∧ w = wT ct ad N σ' ++ [(o, eJ (ct 3) g)] ∧ (k = 0 → g 0 = B.toInt64) ∧ Z k B σ') := by
  refine kt_ofH hst (by decide) (Nat.le_of_ble_eq_true rfl) (by simp [Value.category]) ?_
  intro p e s m args below meth c A ls C ht hr hw hl Q hQ
  have hx := C.1
  have hb := C.2.1
  refine q_aload hx hb hl dW_put_0 rfl ?_
  refine lv_iconst (v := 0) hx hb dW_put_2 (by decide) ?_
  refine q_aload_n hx hb hl dW_put_3 rfl ?_
  refine q_iload_n hx hb hl dW_put_4 rfl ?_
  refine q_iload_n hx hb hl dW_put_5 rfl ?_
  refine q_iload_n hx hb hl dW_put_6 rfl ?_
  have hw9 := wl_L hw
  refine tc_L (tc_V C hl (hM _) hw9.1 hw9.2.1 hw9.2.2 g_W_44 (re_T C hw9) hv_T_put rfl rfl ⟨(Nat.le_of_ble_eq_true rfl), (Nat.le_of_ble_eq_true rfl)⟩ (Nat.le_of_ble_eq_true rfl) ⟨(Nat.le_of_ble_eq_true rfl), (Nat.le_of_ble_eq_true rfl)⟩ dW_put_7 rfl) C hw (fun E ce q9 w1 H locs hp hw h1 h2 h3 => ?_) (fun v w1 H locs hp hw => ?_)
  · obtain ⟨rfl, rfl, hz⟩ := hex _ _ hp
    refine q_c1 C ht (by decide) (by decide) x_W_25 h1 h2 h3 ?_
    refine q_astore hx hb hl dW_put_15 (by decide) (fun ls hl => ?_)
    refine lv_iconst (v := 1) hx hb dW_put_17 (by decide) ?_
    exact tr_i hQ C hw hr (Nat.le_of_ble_eq_true rfl) (Nat.le_of_ble_eq_true rfl) dW_put_18 ⟨_, 0, f, σ, rfl, rfl, fun q => absurd q (by decide), hz⟩
  obtain ⟨B, σ', rfl, rfl, hz⟩ := hok _ _ hp
  dsimp only [Option.toList_some, List.cons_append, List.nil_append]
  refine lv_i2l hx hb dW_put_10 rfl ?_
  refine q_last C hw dW_put_11 (fun H locs g hg hw => ?_)
  refine lv_goto (tgt := 19) hx hb dW_put_12 (by decide) ?_
  refine lv_iconst (v := 0) hx hb dW_put_19 (by decide) ?_
  exact tr_i hQ C hw hr (Nat.le_of_ble_eq_true rfl) (Nat.le_of_ble_eq_true rfl) dW_put_20 ⟨_, B, g, σ', rfl, rfl, fun _ => hg, hz⟩

set_option maxHeartbeats 4000000 in
set_option maxRecDepth 100000 in
theorem h_take (l : Launch) (hst : l.stackTraces = false) (D : va_G) (ct : Ct) (ad : Ad) (N : Nat) (σ : St) (o : Nat) (f : Nat → Int64) (p0 p1 : Int32) (sz : Nat) {Φ : Option Value → va_W → Prop} {Ψ : String → va_W → Prop} (hM : ∀ sz, Kt l yT_take cT_take 6 (some .int) (r1 8) 1 6 D ct [.ref (ad 0 0), .int p0, .int p1] sz (wT ct ad N σ) Φ Ψ) (Z : Int32 → Int32 → St → Prop) (hok : ∀ v w, Φ v w → ∃ B σ', v = some (.int B) ∧ w = wT ct ad N σ' ∧ Z 0 B σ') (hex : ∀ E w, Ψ E w → w = wT ct ad N σ ∧ (E = "java/lang/IndexOutOfBoundsException" ∧ Z 1 0 σ ∨ E = "java/lang/IllegalStateException" ∧ Z 2 0 σ)) : KtH l yW_take cW_take 5 (some .int) [(0, 10, 13, 25), (0, 10, 17, 50)] (r1 9) 1 6 D ct [.ref (ad 0 0), .int p0, .int p1, .ref o] sz (wT ct ad N σ ++ [(o, eJ (ct 3) f)]) (fun v w => ∃ (k B : Int32) (g : Nat → Int64) (σ' : St), v = some (.int k) ∧ w = wT ct ad N σ' ++ [(o, eJ (ct 3) g)] ∧ (k = 0 → g 0 = B.toInt64) ∧ Z k B σ') := by
  refine kt_ofH hst (by decide) (Nat.le_of_ble_eq_true rfl) (by simp [Value.category]) ?_
  intro p e s m args below meth c A ls C ht hr hw hl Q hQ
  have hx := C.1
  have hb := C.2.1
  refine q_aload_n hx hb hl dW_take_0 rfl ?_
  refine lv_iconst (v := 0) hx hb dW_take_1 (by decide) ?_
  refine q_aload_n hx hb hl dW_take_2 rfl ?_
  refine q_iload_n hx hb hl dW_take_3 rfl ?_
  refine q_iload_n hx hb hl dW_take_4 rfl ?_
  have hw9 := wl_L hw
  refine tc_L (tc_V C hl (hM _) hw9.1 hw9.2.1 hw9.2.2 g_W_47 (re_T C hw9) hv_T_take rfl rfl ⟨(Nat.le_of_ble_eq_true rfl), (Nat.le_of_ble_eq_true rfl)⟩ (Nat.le_of_ble_eq_true rfl) ⟨(Nat.le_of_ble_eq_true rfl), (Nat.le_of_ble_eq_true rfl)⟩ dW_take_5 rfl) C hw (fun E ce q9 w1 H locs hp hw h1 h2 h3 => ?_) (fun v w1 H locs hp hw => ?_)
  · obtain ⟨rfl, ⟨rfl, hz⟩ | ⟨rfl, hz⟩⟩ := hex _ _ hp
    · refine q_c1 C ht (by decide) (by decide) x_W_25 h1 h2 h3 ?_
      refine q_astore hx hb hl dW_take_13 (by decide) (fun ls hl => ?_)
      refine lv_iconst (v := 1) hx hb dW_take_15 (by decide) ?_
      exact tr_i hQ C hw hr (Nat.le_of_ble_eq_true rfl) (Nat.le_of_ble_eq_true rfl) dW_take_16 ⟨_, 0, f, σ, rfl, rfl, fun q => absurd q (by decide), hz⟩
    · refine q_c2 C ht (by decide) (by decide) x_W_50 (by decide) x_W_25.1 (by decide) h1 h2 h3 ?_
      refine q_astore hx hb hl dW_take_17 (by decide) (fun ls hl => ?_)
      refine lv_iconst (v := 2) hx hb dW_take_19 (by decide) ?_
      exact tr_i hQ C hw hr (Nat.le_of_ble_eq_true rfl) (Nat.le_of_ble_eq_true rfl) dW_take_20 ⟨_, 0, f, σ, rfl, rfl, fun q => absurd q (by decide), hz⟩
  obtain ⟨B, σ', rfl, rfl, hz⟩ := hok _ _ hp
  dsimp only [Option.toList_some, List.cons_append, List.nil_append]
  refine lv_i2l hx hb dW_take_8 rfl ?_
  refine q_last C hw dW_take_9 (fun H locs g hg hw => ?_)
  refine lv_goto (tgt := 21) hx hb dW_take_10 (by decide) ?_
  refine lv_iconst (v := 0) hx hb dW_take_21 (by decide) ?_
  exact tr_i hQ C hw hr (Nat.le_of_ble_eq_true rfl) (Nat.le_of_ble_eq_true rfl) dW_take_22 ⟨_, B, g, σ', rfl, rfl, fun _ => hg, hz⟩

set_option maxHeartbeats 4000000 in
set_option maxRecDepth 100000 in
theorem h_entry (l : Launch) (hst : l.stackTraces = false) (D : va_G) (ct : Ct) (ad : Ad) (N : Nat) (σ : St) (o : Nat) (f : Nat → Int64) (p0 p1 p2 : Int32) (sz : Nat) {Φ : Option Value → va_W → Prop} {Ψ : String → va_W → Prop} (hM : ∀ sz, Kt l yT_entry cT_entry 5 (some .int) (r1 8) 1 6 D ct [.ref (ad 0 0), .int p0, .int p1, .int p2] sz (wT ct ad N σ) Φ Ψ) (Z : Int32 → Int32 → St → Prop) (hok : ∀ v w, Φ v w → ∃ B σ', v = some (.int B) ∧ w = wT ct ad N σ' ∧ Z 0 B σ') (hex : ∀ E w, Ψ E w → w = wT ct ad N σ ∧ (E = "java/lang/IndexOutOfBoundsException" ∧ Z 1 0 σ)) : KtH l yW_entry cW_entry 6 (some .int) [(0, 12, 15, 25)] (r1 9) 1 6 D ct [.ref (ad 0 0), .int p0, .int p1, .int p2, .ref o] sz (wT ct ad N σ ++ [(o, eJ (ct 3) f)]) (fun v w => ∃ (k B : Int32) (g : Nat → Int64) (σ' : St), v = some (.int k) ∧ w = wT ct ad N σ' ++ [(o, eJ (ct 3) g)] ∧ (k = 0 → g 0 = B.toInt64) ∧ Z k B σ') := by
  refine kt_ofH hst (by decide) (Nat.le_of_ble_eq_true rfl) (by simp [Value.category]) ?_
  intro p e s m args below meth c A ls C ht hr hw hl Q hQ
  have hx := C.1
  have hb := C.2.1
  refine q_aload hx hb hl dW_entry_0 rfl ?_
  refine lv_iconst (v := 0) hx hb dW_entry_2 (by decide) ?_
  refine q_aload_n hx hb hl dW_entry_3 rfl ?_
  refine q_iload_n hx hb hl dW_entry_4 rfl ?_
  refine q_iload_n hx hb hl dW_entry_5 rfl ?_
  refine q_iload_n hx hb hl dW_entry_6 rfl ?_
  have hw9 := wl_L hw
  refine tc_L (tc_V C hl (hM _) hw9.1 hw9.2.1 hw9.2.2 g_W_52 (re_T C hw9) hv_T_entry rfl rfl ⟨(Nat.le_of_ble_eq_true rfl), (Nat.le_of_ble_eq_true rfl)⟩ (Nat.le_of_ble_eq_true rfl) ⟨(Nat.le_of_ble_eq_true rfl), (Nat.le_of_ble_eq_true rfl)⟩ dW_entry_7 rfl) C hw (fun E ce q9 w1 H locs hp hw h1 h2 h3 => ?_) (fun v w1 H locs hp hw => ?_)
  · obtain ⟨rfl, rfl, hz⟩ := hex _ _ hp
    refine q_c1 C ht (by decide) (by decide) x_W_25 h1 h2 h3 ?_
    refine q_astore hx hb hl dW_entry_15 (by decide) (fun ls hl => ?_)
    refine lv_iconst (v := 1) hx hb dW_entry_17 (by decide) ?_
    exact tr_i hQ C hw hr (Nat.le_of_ble_eq_true rfl) (Nat.le_of_ble_eq_true rfl) dW_entry_18 ⟨_, 0, f, σ, rfl, rfl, fun q => absurd q (by decide), hz⟩
  obtain ⟨B, σ', rfl, rfl, hz⟩ := hok _ _ hp
  dsimp only [Option.toList_some, List.cons_append, List.nil_append]
  refine lv_i2l hx hb dW_entry_10 rfl ?_
  refine q_last C hw dW_entry_11 (fun H locs g hg hw => ?_)
  refine lv_goto (tgt := 19) hx hb dW_entry_12 (by decide) ?_
  refine lv_iconst (v := 0) hx hb dW_entry_19 (by decide) ?_
  exact tr_i hQ C hw hr (Nat.le_of_ble_eq_true rfl) (Nat.le_of_ble_eq_true rfl) dW_entry_20 ⟨_, B, g, σ', rfl, rfl, fun _ => hg, hz⟩

set_option maxHeartbeats 4000000 in
set_option maxRecDepth 100000 in
theorem h_set (l : Launch) (hst : l.stackTraces = false) (D : va_G) (ct : Ct) (ad : Ad) (N : Nat) (σ : St) (o : Nat) (f : Nat → Int64) (p0 p1 : Int32) (sz : Nat) {Φ : Option Value → va_W → Prop} {Ψ : String → va_W → Prop} (hM : ∀ sz, Kt l yT_set cT_set 5 (some .int) (r1 8) 1 6 D ct [.ref (ad 0 0), .int p0, .int p1] sz (wT ct ad N σ) Φ Ψ) (Z : Int32 → Int32 → St → Prop) (hok : ∀ v w, Φ v w → ∃ B σ', v = some (.int B) ∧ w = wT ct ad N σ' ∧ Z 0 B σ') (hex : ∀ E w, Ψ E w → w = wT ct ad N σ ∧ (E = "java/lang/IndexOutOfBoundsException" ∧ Z 1 0 σ)) : KtH l yW_set cW_set 5 (some .int) [(0, 10, 13, 25)] (r1 9) 1 6 D ct [.ref (ad 0 0), .int p0, .int p1, .ref o] sz (wT ct ad N σ ++ [(o, eJ (ct 3) f)]) (fun v w => ∃ (k B : Int32) (g : Nat → Int64) (σ' : St), v = some (.int k) ∧ w = wT ct ad N σ' ++ [(o, eJ (ct 3) g)] ∧ (k = 0 → g 0 = B.toInt64) ∧ Z k B σ') := by
  refine kt_ofH hst (by decide) (Nat.le_of_ble_eq_true rfl) (by simp [Value.category]) ?_
  intro p e s m args below meth c A ls C ht hr hw hl Q hQ
  have hx := C.1
  have hb := C.2.1
  refine q_aload_n hx hb hl dW_set_0 rfl ?_
  refine lv_iconst (v := 0) hx hb dW_set_1 (by decide) ?_
  refine q_aload_n hx hb hl dW_set_2 rfl ?_
  refine q_iload_n hx hb hl dW_set_3 rfl ?_
  refine q_iload_n hx hb hl dW_set_4 rfl ?_
  have hw9 := wl_L hw
  refine tc_L (tc_V C hl (hM _) hw9.1 hw9.2.1 hw9.2.2 g_W_55 (re_T C hw9) hv_T_set rfl rfl ⟨(Nat.le_of_ble_eq_true rfl), (Nat.le_of_ble_eq_true rfl)⟩ (Nat.le_of_ble_eq_true rfl) ⟨(Nat.le_of_ble_eq_true rfl), (Nat.le_of_ble_eq_true rfl)⟩ dW_set_5 rfl) C hw (fun E ce q9 w1 H locs hp hw h1 h2 h3 => ?_) (fun v w1 H locs hp hw => ?_)
  · obtain ⟨rfl, rfl, hz⟩ := hex _ _ hp
    refine q_c1 C ht (by decide) (by decide) x_W_25 h1 h2 h3 ?_
    refine q_astore hx hb hl dW_set_13 (by decide) (fun ls hl => ?_)
    refine lv_iconst (v := 1) hx hb dW_set_15 (by decide) ?_
    exact tr_i hQ C hw hr (Nat.le_of_ble_eq_true rfl) (Nat.le_of_ble_eq_true rfl) dW_set_16 ⟨_, 0, f, σ, rfl, rfl, fun q => absurd q (by decide), hz⟩
  obtain ⟨B, σ', rfl, rfl, hz⟩ := hok _ _ hp
  dsimp only [Option.toList_some, List.cons_append, List.nil_append]
  refine lv_i2l hx hb dW_set_8 rfl ?_
  refine q_last C hw dW_set_9 (fun H locs g hg hw => ?_)
  refine lv_goto (tgt := 17) hx hb dW_set_10 (by decide) ?_
  refine lv_iconst (v := 0) hx hb dW_set_17 (by decide) ?_
  exact tr_i hQ C hw hr (Nat.le_of_ble_eq_true rfl) (Nat.le_of_ble_eq_true rfl) dW_set_18 ⟨_, B, g, σ', rfl, rfl, fun _ => hg, hz⟩

set_option maxHeartbeats 4000000 in
set_option maxRecDepth 100000 in
theorem h_register (l : Launch) (hst : l.stackTraces = false) (D : va_G) (ct : Ct) (ad : Ad) (N : Nat) (σ : St) (o : Nat) (f : Nat → Int64) (p0 p1 : Int32) (sz : Nat) {Φ : Option Value → va_W → Prop} {Ψ : String → va_W → Prop} (hM : ∀ sz, Kt l yT_register cT_register 4 (some .int) (r1 8) 1 6 D ct [.ref (ad 0 0), .int p0, .int p1] sz (wT ct ad N σ) Φ Ψ) (Z : Int32 → Int32 → St → Prop) (hok : ∀ v w, Φ v w → ∃ B σ', v = some (.int B) ∧ w = wT ct ad N σ' ∧ Z 0 B σ') (hex : ∀ E w, Ψ E w → w = wT ct ad N σ ∧ (E = "java/lang/IndexOutOfBoundsException" ∧ Z 1 0 σ)) : KtH l yW_register cW_register 5 (some .int) [(0, 10, 13, 25)] (r1 9) 1 6 D ct [.ref (ad 0 0), .int p0, .int p1, .ref o] sz (wT ct ad N σ ++ [(o, eJ (ct 3) f)]) (fun v w => ∃ (k B : Int32) (g : Nat → Int64) (σ' : St), v = some (.int k) ∧ w = wT ct ad N σ' ++ [(o, eJ (ct 3) g)] ∧ (k = 0 → g 0 = B.toInt64) ∧ Z k B σ') := by
  refine kt_ofH hst (by decide) (Nat.le_of_ble_eq_true rfl) (by simp [Value.category]) ?_
  intro p e s m args below meth c A ls C ht hr hw hl Q hQ
  have hx := C.1
  have hb := C.2.1
  refine q_aload_n hx hb hl dW_register_0 rfl ?_
  refine lv_iconst (v := 0) hx hb dW_register_1 (by decide) ?_
  refine q_aload_n hx hb hl dW_register_2 rfl ?_
  refine q_iload_n hx hb hl dW_register_3 rfl ?_
  refine q_iload_n hx hb hl dW_register_4 rfl ?_
  have hw9 := wl_L hw
  refine tc_L (tc_V C hl (hM _) hw9.1 hw9.2.1 hw9.2.2 g_W_58 (re_T C hw9) hv_T_register rfl rfl ⟨(Nat.le_of_ble_eq_true rfl), (Nat.le_of_ble_eq_true rfl)⟩ (Nat.le_of_ble_eq_true rfl) ⟨(Nat.le_of_ble_eq_true rfl), (Nat.le_of_ble_eq_true rfl)⟩ dW_register_5 rfl) C hw (fun E ce q9 w1 H locs hp hw h1 h2 h3 => ?_) (fun v w1 H locs hp hw => ?_)
  · obtain ⟨rfl, rfl, hz⟩ := hex _ _ hp
    refine q_c1 C ht (by decide) (by decide) x_W_25 h1 h2 h3 ?_
    refine q_astore hx hb hl dW_register_13 (by decide) (fun ls hl => ?_)
    refine lv_iconst (v := 1) hx hb dW_register_15 (by decide) ?_
    exact tr_i hQ C hw hr (Nat.le_of_ble_eq_true rfl) (Nat.le_of_ble_eq_true rfl) dW_register_16 ⟨_, 0, f, σ, rfl, rfl, fun q => absurd q (by decide), hz⟩
  obtain ⟨B, σ', rfl, rfl, hz⟩ := hok _ _ hp
  dsimp only [Option.toList_some, List.cons_append, List.nil_append]
  refine lv_i2l hx hb dW_register_8 rfl ?_
  refine q_last C hw dW_register_9 (fun H locs g hg hw => ?_)
  refine lv_goto (tgt := 17) hx hb dW_register_10 (by decide) ?_
  refine lv_iconst (v := 0) hx hb dW_register_17 (by decide) ?_
  exact tr_i hQ C hw hr (Nat.le_of_ble_eq_true rfl) (Nat.le_of_ble_eq_true rfl) dW_register_18 ⟨_, B, g, σ', rfl, rfl, fun _ => hg, hz⟩

set_option maxHeartbeats 4000000 in
set_option maxRecDepth 100000 in
theorem h_thread (l : Launch) (hst : l.stackTraces = false) (D : va_G) (ct : Ct) (ad : Ad) (N : Nat) (σ : St) (o : Nat) (f : Nat → Int64) (p0 p1 : Int32) (sz : Nat) {Φ : Option Value → va_W → Prop} {Ψ : String → va_W → Prop} (hM : ∀ sz, Kt l yT_thread cT_thread 4 (some .int) (r1 8) 1 6 D ct [.ref (ad 0 0), .int p0, .int p1] sz (wT ct ad N σ) Φ Ψ) (Z : Int32 → Int32 → St → Prop) (hok : ∀ v w, Φ v w → ∃ B σ', v = some (.int B) ∧ w = wT ct ad N σ' ∧ Z 0 B σ') (hex : ∀ E w, Ψ E w → w = wT ct ad N σ ∧ (E = "java/lang/IndexOutOfBoundsException" ∧ Z 1 0 σ)) : KtH l yW_thread cW_thread 5 (some .int) [(0, 10, 13, 25)] (r1 9) 1 6 D ct [.ref (ad 0 0), .int p0, .int p1, .ref o] sz (wT ct ad N σ ++ [(o, eJ (ct 3) f)]) (fun v w => ∃ (k B : Int32) (g : Nat → Int64) (σ' : St), v = some (.int k) ∧ w = wT ct ad N σ' ++ [(o, eJ (ct 3) g)] ∧ (k = 0 → g 0 = B.toInt64) ∧ Z k B σ') := by
  refine kt_ofH hst (by decide) (Nat.le_of_ble_eq_true rfl) (by simp [Value.category]) ?_
  intro p e s m args below meth c A ls C ht hr hw hl Q hQ
  have hx := C.1
  have hb := C.2.1
  refine q_aload_n hx hb hl dW_thread_0 rfl ?_
  refine lv_iconst (v := 0) hx hb dW_thread_1 (by decide) ?_
  refine q_aload_n hx hb hl dW_thread_2 rfl ?_
  refine q_iload_n hx hb hl dW_thread_3 rfl ?_
  refine q_iload_n hx hb hl dW_thread_4 rfl ?_
  have hw9 := wl_L hw
  refine tc_L (tc_V C hl (hM _) hw9.1 hw9.2.1 hw9.2.2 g_W_61 (re_T C hw9) hv_T_thread rfl rfl ⟨(Nat.le_of_ble_eq_true rfl), (Nat.le_of_ble_eq_true rfl)⟩ (Nat.le_of_ble_eq_true rfl) ⟨(Nat.le_of_ble_eq_true rfl), (Nat.le_of_ble_eq_true rfl)⟩ dW_thread_5 rfl) C hw (fun E ce q9 w1 H locs hp hw h1 h2 h3 => ?_) (fun v w1 H locs hp hw => ?_)
  · obtain ⟨rfl, rfl, hz⟩ := hex _ _ hp
    refine q_c1 C ht (by decide) (by decide) x_W_25 h1 h2 h3 ?_
    refine q_astore hx hb hl dW_thread_13 (by decide) (fun ls hl => ?_)
    refine lv_iconst (v := 1) hx hb dW_thread_15 (by decide) ?_
    exact tr_i hQ C hw hr (Nat.le_of_ble_eq_true rfl) (Nat.le_of_ble_eq_true rfl) dW_thread_16 ⟨_, 0, f, σ, rfl, rfl, fun q => absurd q (by decide), hz⟩
  obtain ⟨B, σ', rfl, rfl, hz⟩ := hok _ _ hp
  dsimp only [Option.toList_some, List.cons_append, List.nil_append]
  refine lv_i2l hx hb dW_thread_8 rfl ?_
  refine q_last C hw dW_thread_9 (fun H locs g hg hw => ?_)
  refine lv_goto (tgt := 17) hx hb dW_thread_10 (by decide) ?_
  refine lv_iconst (v := 0) hx hb dW_thread_17 (by decide) ?_
  exact tr_i hQ C hw hr (Nat.le_of_ble_eq_true rfl) (Nat.le_of_ble_eq_true rfl) dW_thread_18 ⟨_, B, g, σ', rfl, rfl, fun _ => hg, hz⟩

set_option maxHeartbeats 4000000 in
set_option maxRecDepth 100000 in
theorem h_share (l : Launch) (hst : l.stackTraces = false) (D : va_G) (ct : Ct) (ad : Ad) (N : Nat) (σ : St) (o : Nat) (f : Nat → Int64) (p0 p1 : Int32) (sz : Nat) {Φ : Option Value → va_W → Prop} {Ψ : String → va_W → Prop} (hM : ∀ sz, Kt l yT_share cT_share 5 (some .int) (r1 8) 1 6 D ct [.ref (ad 0 0), .int p0, .int p1] sz (wT ct ad N σ) Φ Ψ) (Z : Int32 → Int32 → St → Prop) (hok : ∀ v w, Φ v w → ∃ B σ', v = some (.int B) ∧ w = wT ct ad N σ' ∧ Z 0 B σ') (hex : ∀ E w, Ψ E w → w = wT ct ad N σ ∧ (E = "java/lang/IndexOutOfBoundsException" ∧ Z 1 0 σ)) : KtH l yW_share cW_share 5 (some .int) [(0, 10, 13, 25)] (r1 9) 1 6 D ct [.ref (ad 0 0), .int p0, .int p1, .ref o] sz (wT ct ad N σ ++ [(o, eJ (ct 3) f)]) (fun v w => ∃ (k B : Int32) (g : Nat → Int64) (σ' : St), v = some (.int k) ∧ w = wT ct ad N σ' ++ [(o, eJ (ct 3) g)] ∧ (k = 0 → g 0 = B.toInt64) ∧ Z k B σ') := by
  refine kt_ofH hst (by decide) (Nat.le_of_ble_eq_true rfl) (by simp [Value.category]) ?_
  intro p e s m args below meth c A ls C ht hr hw hl Q hQ
  have hx := C.1
  have hb := C.2.1
  refine q_aload_n hx hb hl dW_share_0 rfl ?_
  refine lv_iconst (v := 0) hx hb dW_share_1 (by decide) ?_
  refine q_aload_n hx hb hl dW_share_2 rfl ?_
  refine q_iload_n hx hb hl dW_share_3 rfl ?_
  refine q_iload_n hx hb hl dW_share_4 rfl ?_
  have hw9 := wl_L hw
  refine tc_L (tc_V C hl (hM _) hw9.1 hw9.2.1 hw9.2.2 g_W_64 (re_T C hw9) hv_T_share rfl rfl ⟨(Nat.le_of_ble_eq_true rfl), (Nat.le_of_ble_eq_true rfl)⟩ (Nat.le_of_ble_eq_true rfl) ⟨(Nat.le_of_ble_eq_true rfl), (Nat.le_of_ble_eq_true rfl)⟩ dW_share_5 rfl) C hw (fun E ce q9 w1 H locs hp hw h1 h2 h3 => ?_) (fun v w1 H locs hp hw => ?_)
  · obtain ⟨rfl, rfl, hz⟩ := hex _ _ hp
    refine q_c1 C ht (by decide) (by decide) x_W_25 h1 h2 h3 ?_
    refine q_astore hx hb hl dW_share_13 (by decide) (fun ls hl => ?_)
    refine lv_iconst (v := 1) hx hb dW_share_15 (by decide) ?_
    exact tr_i hQ C hw hr (Nat.le_of_ble_eq_true rfl) (Nat.le_of_ble_eq_true rfl) dW_share_16 ⟨_, 0, f, σ, rfl, rfl, fun q => absurd q (by decide), hz⟩
  obtain ⟨B, σ', rfl, rfl, hz⟩ := hok _ _ hp
  dsimp only [Option.toList_some, List.cons_append, List.nil_append]
  refine lv_i2l hx hb dW_share_8 rfl ?_
  refine q_last C hw dW_share_9 (fun H locs g hg hw => ?_)
  refine lv_goto (tgt := 17) hx hb dW_share_10 (by decide) ?_
  refine lv_iconst (v := 0) hx hb dW_share_17 (by decide) ?_
  exact tr_i hQ C hw hr (Nat.le_of_ble_eq_true rfl) (Nat.le_of_ble_eq_true rfl) dW_share_18 ⟨_, B, g, σ', rfl, rfl, fun _ => hg, hz⟩

