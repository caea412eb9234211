set_option maxHeartbeats 4000000 in
set_option maxRecDepth 100000 in
theorem c_ent (l : Launch) (hst : l.stackTraces = false) (D : va_G) (ct : Ct) (ad : Ad) (N : Nat) (hN : N ≤ 16) (σ : St) (sz : Nat) (q : Nat) (hq : q < 8) (K : Nat) (hK : K ≤ 32) (hs : σ 3 q 0 = nI K) (th : Int32) : Kt l yL_entriesOf cL_entriesOf 4 (some .int) (r0 0) 0 0 D ct [.ref (ad 3 q), .int th] sz (wT ct ad N σ) (fun v w => v = some (.int (tf_ent σ q th K 0 0)) ∧ w = wT ct ad N σ) (fun E w => False) := by
  refine kt_of hst (by decide) (Nat.le_of_ble_eq_true rfl) (by simp [Value.category]) ?_
  intro p e s m args below meth c A ls C hne hr hw hl Q hQ
  have hx := C.1
  have hb := C.2.1
  refine lv_iconst (v := 0) hx hb dL_entriesOf_0 (by decide) ?_
  refine q_istore_n hx hb hl dL_entriesOf_1 (by decide) (fun ls hl => ?_)
  refine lv_iconst (v := 0) hx hb dL_entriesOf_2 (by decide) ?_
  refine q_istore_n hx hb hl dL_entriesOf_3 (by decide) (fun ls hl => ?_)
  have L4 : ∀ (n : Nat) (k : Nat) (h : Int32), k + n = K → tf_ent σ q th n k h = tf_ent σ q th K 0 0 → ∀ (H : Heap) (locs : List Loc) (ls : Array Slot), wl D A s (wT ct ad N σ) H locs → lq ls 4 [some (.ref (ad 3 q)), some (.int th), some (.int h), some (.int (nI k))] → W p l e (r0 0) s m args below meth c H locs 0 0 Q (F0 m 4 ls []) := by
    intro n
    induction n with
    | zero =>
      intro k h hn he H locs ls hw hl
      refine q_iload_n hx hb hl dL_entriesOf_4 rfl ?_
      refine q_aload_n hx hb hl dL_entriesOf_5 rfl ?_
      refine tg_L C hw 3 l_L_21 (by decide) (by assumption) rfl dL_entriesOf_6 ?_
      refine lv_icmp_ge (tgt := 31) hx hb dL_entriesOf_9 (by decide) (fun c_9 => ?_) (fun q9 => absurd (show σ 3 q 0 ≤ nI k by rw [hs]; exact nI_le (by omega) (by omega)) q9)
      refine q_iload_n hx hb hl dL_entriesOf_31 rfl ?_
      exact tr_i hQ C hw hr (Nat.le_of_ble_eq_true rfl) (Nat.le_of_ble_eq_true rfl) dL_entriesOf_32 ⟨by rw [← he]; rfl, rfl⟩
    | succ n ih =>
      intro k h hn he H locs ls hw hl
      have hk : k < 32 := by omega
      refine q_iload_n hx hb hl dL_entriesOf_4 rfl ?_
      refine q_aload_n hx hb hl dL_entriesOf_5 rfl ?_
      refine tg_L C hw 3 l_L_21 (by decide) (by assumption) rfl dL_entriesOf_6 ?_
      refine lv_icmp_ge (tgt := 31) hx hb dL_entriesOf_9 (by decide) (fun q9 => absurd q9 (show ¬ σ 3 q 0 ≤ nI k by rw [hs]; exact nI_ge (by omega) (by omega))) (fun c_9 => ?_)
      refine q_aload_n hx hb hl dL_entriesOf_12 rfl ?_
      refine tg_L C hw 0 l_L_9 (by decide) (by assumption) rfl dL_entriesOf_13 ?_
      refine q_iload_n hx hb hl dL_entriesOf_16 rfl ?_
      refine ta_g4 C hw (by assumption) (by assumption) rfl dL_entriesOf_17 ?_
      refine q_iload_n hx hb hl dL_entriesOf_18 rfl ?_
      refine lv_icmp_ne (tgt := 25) hx hb dL_entriesOf_19 (by decide) (fun c_19 => ?_) (fun c_19 => ?_)
      · refine q_inc hx hb hl dL_entriesOf_25 rfl (by decide) (fun ls hl => ?_)
        refine lv_goto (tgt := 4) hx hb dL_entriesOf_28 (by decide) ?_
        exact ih _ _ (by omega) (by rw [← he]; simp [tf_ent, c_19]) _ _ _ hw hl
      refine q_inc1 hx hb hl dL_entriesOf_22 rfl (by decide) (fun ls hl => ?_)
      refine q_inc hx hb hl dL_entriesOf_25 rfl (by decide) (fun ls hl => ?_)
      refine lv_goto (tgt := 4) hx hb dL_entriesOf_28 (by decide) ?_
      exact ih _ _ (by omega) (by rw [← he]; simp [tf_ent, c_19]) _ _ _ hw hl
  exact L4 K 0 _ (by omega) rfl _ _ _ hw hl
set_option maxHeartbeats 4000000 in
set_option maxRecDepth 100000 in
theorem c_fst (l : Launch) (hst : l.stackTraces = false) (D : va_G) (ct : Ct) (ad : Ad) (N : Nat) (hN : N ≤ 16) (σ : St) (sz : Nat) (q : Nat) (hq : q < 8) (K : Nat) (hK : K ≤ 32) (hs : σ 3 q 0 = nI K) (th : Int32) : Kt l yL_firstOf cL_firstOf 3 (some .int) (r0 0) 0 0 D ct [.ref (ad 3 q), .int th] sz (wT ct ad N σ) (fun v w => v = some (.int (tf_fst σ q th K 0)) ∧ w = wT ct ad N σ) (fun E w => False) := by
  refine kt_of hst (by decide) (Nat.le_of_ble_eq_true rfl) (by simp [Value.category]) ?_
  intro p e s m args below meth c A ls C hne hr hw hl Q hQ
  have hx := C.1
  have hb := C.2.1
  refine lv_iconst (v := 0) hx hb dL_firstOf_0 (by decide) ?_
  refine q_istore_n hx hb hl dL_firstOf_1 (by decide) (fun ls hl => ?_)
  have L2 : ∀ (n : Nat) (k : Nat), k + n = K → tf_fst σ q th n k = tf_fst σ q th K 0 → ∀ (H : Heap) (locs : List Loc) (ls : Array Slot), wl D A s (wT ct ad N σ) H locs → lq ls 3 [some (.ref (ad 3 q)), some (.int th), some (.int (nI k))] → W p l e (r0 0) s m args below meth c H locs 0 0 Q (F0 m 2 ls []) := by
    intro n
    induction n with
    | zero =>
      intro k hn he H locs ls hw hl
      refine q_iload_n hx hb hl dL_firstOf_2 rfl ?_
      refine q_aload_n hx hb hl dL_firstOf_3 rfl ?_
      refine tg_L C hw 3 l_L_21 (by decide) (by assumption) rfl dL_firstOf_4 ?_
      refine lv_icmp_ge (tgt := 33) hx hb dL_firstOf_7 (by decide) (fun c_7 => ?_) (fun q9 => absurd (show σ 3 q 0 ≤ nI k by rw [hs]; exact nI_le (by omega) (by omega)) q9)
      refine lv_iconst (v := -1) hx hb dL_firstOf_33 (by decide) ?_
      exact tr_i hQ C hw hr (Nat.le_of_ble_eq_true rfl) (Nat.le_of_ble_eq_true rfl) dL_firstOf_34 ⟨by rw [← he]; rfl, rfl⟩
    | succ n ih =>
      intro k hn he H locs ls hw hl
      have hk : k < 32 := by omega
      refine q_iload_n hx hb hl dL_firstOf_2 rfl ?_
      refine q_aload_n hx hb hl dL_firstOf_3 rfl ?_
      refine tg_L C hw 3 l_L_21 (by decide) (by assumption) rfl dL_firstOf_4 ?_
      refine lv_icmp_ge (tgt := 33) hx hb dL_firstOf_7 (by decide) (fun q9 => absurd q9 (show ¬ σ 3 q 0 ≤ nI k by rw [hs]; exact nI_ge (by omega) (by omega))) (fun c_7 => ?_)
      refine q_iload_n hx hb hl dL_firstOf_10 rfl ?_
      refine lv_iconst (v := -1) hx hb dL_firstOf_11 (by decide) ?_
      refine lv_icmp_eq (tgt := 25) hx hb dL_firstOf_12 (by decide) (fun c_12 => ?_) (fun c_12 => ?_)
      · refine q_iload_n hx hb hl dL_firstOf_25 rfl ?_
        exact tr_i hQ C hw hr (Nat.le_of_ble_eq_true rfl) (Nat.le_of_ble_eq_true rfl) dL_firstOf_26 ⟨by rw [← he]; simp [tf_fst, c_12], rfl⟩
      refine q_aload_n hx hb hl dL_firstOf_15 rfl ?_
      refine tg_L C hw 0 l_L_9 (by decide) (by assumption) rfl dL_firstOf_16 ?_
      refine q_iload_n hx hb hl dL_firstOf_19 rfl ?_
      refine ta_g4 C hw (by assumption) (by assumption) rfl dL_firstOf_20 ?_
      refine q_iload_n hx hb hl dL_firstOf_21 rfl ?_
      refine lv_icmp_ne (tgt := 27) hx hb dL_firstOf_22 (by decide) (fun c_22 => ?_) (fun c_22 => ?_)
      · refine q_inc hx hb hl dL_firstOf_27 rfl (by decide) (fun ls hl => ?_)
        refine lv_goto (tgt := 2) hx hb dL_firstOf_30 (by decide) ?_
        exact ih _ (by omega) (by rw [← he]; simp [tf_fst, c_12, c_22]) _ _ _ hw hl
      refine q_iload_n hx hb hl dL_firstOf_25 rfl ?_
      exact tr_i hQ C hw hr (Nat.le_of_ble_eq_true rfl) (Nat.le_of_ble_eq_true rfl) dL_firstOf_26 ⟨by rw [← he]; simp [tf_fst, c_12, c_22], rfl⟩
  exact L2 K 0 (by omega) rfl _ _ _ hw hl
set_option maxHeartbeats 4000000 in
set_option maxRecDepth 100000 in
theorem c_app (l : Launch) (hst : l.stackTraces = false) (D : va_G) (ct : Ct) (ad : Ad) (N : Nat) (hN : N ≤ 16) (σ : St) (sz : Nat) (q : Nat) (hq : q < 8) (K : Nat) (hK : K ≤ 32) (hs : σ 3 q 0 = nI K) (hK2 : K < 32) (th v0 : Int32) : Kt l yL_append cL_append 3 none (r0 0) 0 0 D ct [.ref (ad 3 q), .int th, .int v0] sz (wT ct ad N σ) (fun v w => v = none ∧ w = wT ct ad N (tf_app σ q K th v0)) (fun E w => False) := by
  refine kt_of hst (by decide) (Nat.le_of_ble_eq_true rfl) (by simp [Value.category]) ?_
  intro p e s m args below meth c A ls C hne hr hw hl Q hQ
  have hx := C.1
  have hb := C.2.1
  refine q_aload_n hx hb hl dL_append_0 rfl ?_
  refine tg_L C hw 3 l_L_21 (by decide) (by assumption) rfl dL_append_1 ?_
  refine lv_bipush (v := 32) hx hb dL_append_4 (by decide) ?_
  refine lv_icmp_ge (tgt := 39) hx hb dL_append_6 (by decide) (fun q9 => absurd q9 (show ¬ nI 32 ≤ σ 3 q 0 by rw [hs]; exact nI_ge hK2 (by omega))) (fun c_6 => ?_)
  refine q_aload_n hx hb hl dL_append_9 rfl ?_
  refine tg_L C hw 0 l_L_9 (by decide) (by assumption) rfl dL_append_10 ?_
  refine q_aload_n hx hb hl dL_append_13 rfl ?_
  refine tg_L C hw 3 l_L_21 (by decide) (by assumption) rfl dL_append_14 ?_
  refine q_iload_n hx hb hl dL_append_17 rfl ?_
  refine ta_p4 C hw (by assumption) hK2 hs dL_append_18 (fun H locs hw => ?_)
  refine q_aload_n hx hb hl dL_append_19 rfl ?_
  refine tg_L C hw 1 l_L_15 (by decide) (by assumption) rfl dL_append_20 ?_
  refine q_aload_n hx hb hl dL_append_23 rfl ?_
  refine tg_L C hw 3 l_L_21 (by decide) (by assumption) rfl dL_append_24 ?_
  refine q_iload_n hx hb hl dL_append_27 rfl ?_
  refine ta_p5 C hw (by assumption) hK2 ((su_n1 (by decide)).trans hs) dL_append_28 (fun H locs hw => ?_)
  refine q_aload_n hx hb hl dL_append_29 rfl ?_
  refine lv_dup hx hb dL_append_30 rfl ?_
  refine tg_L C hw 3 l_L_21 (by decide) (by assumption) rfl dL_append_31 ?_
  refine lv_iconst (v := 1) hx hb dL_append_34 (by decide) ?_
  refine lv_iadd hx hb dL_append_35 ?_
  refine tp_L C hw l_L_21 (by assumption) dL_append_36 (fun H locs hw => ?_)
  exact tr_v hQ C hw hr (Nat.le_of_ble_eq_true rfl) (Nat.le_of_ble_eq_true rfl) dL_append_39 ⟨rfl, by simp [tf_app, su_n1, hs, nI_1]⟩
set_option maxHeartbeats 4000000 in
set_option maxRecDepth 100000 in
theorem c_cls (l : Launch) (hst : l.stackTraces = false) (D : va_G) (ct : Ct) (ad : Ad) (N : Nat) (hN : N ≤ 16) (σ : St) (sz : Nat) (q : Nat) (hq : q < 8) (K : Nat) (hK : K ≤ 32) (hs : σ 3 q 0 = nI K) (g : Nat) (hg : g < K) (i : Int32) (hi : i = nI g) : Kt l yL_close cL_close 3 none (r0 0) 0 0 D ct [.ref (ad 3 q), .int i] sz (wT ct ad N σ) (fun v w => v = none ∧ w = wT ct ad N (su (tf_cl q (K - 1 - g) g σ) 3 q 0 (nI (K - 1)))) (fun E w => False) := by
  refine kt_of hst (by decide) (Nat.le_of_ble_eq_true rfl) (by simp [Value.category]) ?_
  intro p e s m args below meth c A ls C hne hr hw hl Q hQ
  have hx := C.1
  have hb := C.2.1
  subst hi
  refine q_iload_n hx hb hl dL_close_0 rfl ?_
  refine q_istore_n hx hb hl dL_close_1 (by decide) (fun ls hl => ?_)
  have L2 : ∀ (n : Nat) (k : Nat) (τ : St), k + n = K - 1 → tf_cl q n k τ = tf_cl q (K - 1 - g) g σ → τ 3 q 0 = nI K → ∀ (H : Heap) (locs : List Loc) (ls : Array Slot), wl D A s (wT ct ad N τ) H locs → lq ls 3 [some (.ref (ad 3 q)), some (.int (nI g)), some (.int (nI k))] → W p l e (r0 0) s m args below meth c H locs 0 0 Q (F0 m 2 ls []) := by
    intro n
    induction n with
    | zero =>
      intro k τ hn he hs H locs ls hw hl
      have hs1 : τ 3 q 0 - 1 = nI (K - 1) := by rw [hs, ← nI_pred (K - 1), show K - 1 + 1 = K by omega]
      refine q_iload_n hx hb hl dL_close_2 rfl ?_
      refine q_aload_n hx hb hl dL_close_3 rfl ?_
      refine tg_L C hw 3 l_L_21 (by decide) (by assumption) rfl dL_close_4 ?_
      refine lv_iconst (v := 1) hx hb dL_close_7 (by decide) ?_
      refine lv_isub hx hb dL_close_8 ?_
      refine lv_icmp_ge (tgt := 46) hx hb dL_close_9 (by decide) (fun c_9 => ?_) (fun q9 => absurd (show τ 3 q 0 - 1 ≤ nI k by rw [hs1]; exact nI_le (by omega) (by omega)) q9)
      refine q_aload_n hx hb hl dL_close_46 rfl ?_
      refine lv_dup hx hb dL_close_47 rfl ?_
      refine tg_L C hw 3 l_L_21 (by decide) (by assumption) rfl dL_close_48 ?_
      refine lv_iconst (v := 1) hx hb dL_close_51 (by decide) ?_
      refine lv_isub hx hb dL_close_52 ?_
      refine tp_L C hw l_L_21 (by assumption) dL_close_53 (fun H locs hw => ?_)
      exact tr_v hQ C hw hr (Nat.le_of_ble_eq_true rfl) (Nat.le_of_ble_eq_true rfl) dL_close_56 ⟨rfl, by rw [hs1, ← he]; rfl⟩
    | succ n ih =>
      intro k τ hn he hs H locs ls hw hl
      have hs1 : τ 3 q 0 - 1 = nI (K - 1) := by rw [hs, ← nI_pred (K - 1), show K - 1 + 1 = K by omega]
      have hk : k < 32 := by omega
      refine q_iload_n hx hb hl dL_close_2 rfl ?_
      refine q_aload_n hx hb hl dL_close_3 rfl ?_
      refine tg_L C hw 3 l_L_21 (by decide) (by assumption) rfl dL_close_4 ?_
      refine lv_iconst (v := 1) hx hb dL_close_7 (by decide) ?_
      refine lv_isub hx hb dL_close_8 ?_
      refine lv_icmp_ge (tgt := 46) hx hb dL_close_9 (by decide) (fun q9 => absurd q9 (show ¬ τ 3 q 0 - 1 ≤ nI k by rw [hs1]; exact nI_ge (by omega) (by omega))) (fun c_9 => ?_)
      refine q_aload_n hx hb hl dL_close_12 rfl ?_
      refine tg_L C hw 0 l_L_9 (by decide) (by assumption) rfl dL_close_13 ?_
      refine q_iload_n hx hb hl dL_close_16 rfl ?_
      refine q_aload_n hx hb hl dL_close_17 rfl ?_
      refine tg_L C hw 0 l_L_9 (by decide) (by assumption) rfl dL_close_18 ?_
      refine q_iload_n hx hb hl dL_close_21 rfl ?_
      refine lv_iconst (v := 1) hx hb dL_close_22 (by decide) ?_
      refine lv_iadd hx hb dL_close_23 ?_
      refine ta_g4 C hw (by assumption) (k := k + 1) (by omega) (nI_1 k) dL_close_24 ?_
      refine ta_p4 C hw (by assumption) (by assumption) rfl dL_close_25 (fun H locs hw => ?_)
      refine q_aload_n hx hb hl dL_close_26 rfl ?_
      refine tg_L C hw 1 l_L_15 (by decide) (by assumption) rfl dL_close_27 ?_
      refine q_iload_n hx hb hl dL_close_30 rfl ?_
      refine q_aload_n hx hb hl dL_close_31 rfl ?_
      refine tg_L C hw 1 l_L_15 (by decide) (by assumption) rfl dL_close_32 ?_
      refine q_iload_n hx hb hl dL_close_35 rfl ?_
      refine lv_iconst (v := 1) hx hb dL_close_36 (by decide) ?_
      refine lv_iadd hx hb dL_close_37 ?_
      refine ta_g5 C hw (by assumption) (k := k + 1) (by omega) (nI_1 k) dL_close_38 ?_
      refine ta_p5 C hw (by assumption) (by assumption) rfl dL_close_39 (fun H locs hw => ?_)
      refine q_inc hx hb hl dL_close_40 rfl (by decide) (fun ls hl => ?_)
      refine lv_goto (tgt := 2) hx hb dL_close_43 (by decide) ?_
      exact ih _ _ (by omega) (by rw [← he]; rfl) (by rw [su_n1 (by decide), su_n1 (by decide)]; exact hs) _ _ _ hw hl
  exact L2 (K - 1 - g) g σ (by omega) rfl hs _ _ _ hw hl
set_option maxHeartbeats 4000000 in
set_option maxRecDepth 100000 in
theorem c_gcd (l : Launch) (hst : l.stackTraces = false) (D : va_G) (ct : Ct) (w0 : va_W) (sz : Nat) (x y : Int32) : Kt l yT_greatestDivisor cT_greatestDivisor 6 (some .int) (r0 0) 0 0 D ct [.int x, .int y] sz (w0) (fun v w => v = some (.int (tf_gcd 64 x y)) ∧ w = w0) (fun E w => False) := by
  refine kt_of hst (by decide) (Nat.le_of_ble_eq_true rfl) (by simp [Value.category]) ?_
  intro p e s m args below meth c A ls C hne hr hw hl Q hQ
  have hx := C.1
  have hb := C.2.1
  refine q_iload_n hx hb hl dT_greatestDivisor_0 rfl ?_
  refine q_istore_n hx hb hl dT_greatestDivisor_1 (by decide) (fun ls hl => ?_)
  refine q_iload_n hx hb hl dT_greatestDivisor_2 rfl ?_
  refine q_istore_n hx hb hl dT_greatestDivisor_3 (by decide) (fun ls hl => ?_)
  refine lv_iconst (v := 0) hx hb dT_greatestDivisor_4 (by decide) ?_
  refine q_istore hx hb hl dT_greatestDivisor_5 (by decide) (fun ls hl => ?_)
  have L7 : ∀ (n : Nat) (i : Nat) (a b : Int32), i + n = 64 → tf_gcd n a b = tf_gcd 64 x y → ∀ (H : Heap) (locs : List Loc) (ls : Array Slot), wl D A s (w0) H locs → lq ls 6 [some (.int x), some (.int y), some (.int a), some (.int b), some (.int (nI i)), none] → W p l e (r0 0) s m args below meth c H locs 0 0 Q (F0 m 7 ls []) := by
    intro n
    induction n with
    | zero =>
      intro i a b hn he H locs ls hw hl
      refine q_iload hx hb hl dT_greatestDivisor_7 rfl ?_
      refine lv_bipush (v := 64) hx hb dT_greatestDivisor_9 (by decide) ?_
      refine lv_icmp_ge (tgt := 34) hx hb dT_greatestDivisor_11 (by decide) (fun c_11 => ?_) (fun q9 => absurd (show nI 64 ≤ nI i from nI_le (by omega) (by omega)) q9)
      refine q_iload_n hx hb hl dT_greatestDivisor_34 rfl ?_
      exact tr_i hQ C hw hr (Nat.le_of_ble_eq_true rfl) (Nat.le_of_ble_eq_true rfl) dT_greatestDivisor_35 ⟨by rw [← he]; rfl, rfl⟩
    | succ n ih =>
      intro i a b hn he H locs ls hw hl
      refine q_iload hx hb hl dT_greatestDivisor_7 rfl ?_
      refine lv_bipush (v := 64) hx hb dT_greatestDivisor_9 (by decide) ?_
      refine lv_icmp_ge (tgt := 34) hx hb dT_greatestDivisor_11 (by decide) (fun q9 => absurd q9 (show ¬ nI 64 ≤ nI i from nI_ge (by omega) (by omega))) (fun c_11 => ?_)
      refine q_iload_n hx hb hl dT_greatestDivisor_14 rfl ?_
      refine lv_if_eq (tgt := 34) hx hb dT_greatestDivisor_15 (by decide) (fun c_15 => ?_) (fun c_15 => ?_)
      · refine q_iload_n hx hb hl dT_greatestDivisor_34 rfl ?_
        exact tr_i hQ C hw hr (Nat.le_of_ble_eq_true rfl) (Nat.le_of_ble_eq_true rfl) dT_greatestDivisor_35 ⟨by rw [← he]; simp [tf_gcd, c_15], rfl⟩
      refine q_iload_n hx hb hl dT_greatestDivisor_18 rfl ?_
      refine q_iload_n hx hb hl dT_greatestDivisor_19 rfl ?_
      refine lv_irem hx hb dT_greatestDivisor_20 c_15 ?_
      refine q_istore hx hb hl dT_greatestDivisor_21 (by decide) (fun ls hl => ?_)
      refine q_iload_n hx hb hl dT_greatestDivisor_23 rfl ?_
      refine q_istore_n hx hb hl dT_greatestDivisor_24 (by decide) (fun ls hl => ?_)
      refine q_iload hx hb hl dT_greatestDivisor_25 rfl ?_
      refine q_istore_n hx hb hl dT_greatestDivisor_27 (by decide) (fun ls hl => ?_)
      refine q_inc hx hb hl dT_greatestDivisor_28 rfl (by decide) (fun ls hl => ?_)
      refine lv_goto (tgt := 7) hx hb dT_greatestDivisor_31 (by decide) ?_
      exact ih _ _ _ (by omega) (by rw [← he]; simp [tf_gcd, c_15]) _ _ _ hw (hl.drop 5)
  exact L7 64 0 _ _ (by omega) rfl _ _ _ hw hl
