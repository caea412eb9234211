def zM : List Value := [.int 0, .int 0, .int 0, .int 0, .int 0, .int 0, .int 0, .int 0, .int 0, .int 0, .int 0, .int 0, .int 0, .null, .null, .null, .null, .null, .null, .null, .null, .null, .null, .null, .null, .null]
theorem zM_ok : ∀ j, j < 26 → defaultValue (tM j) = vp_V zM j := by
  intro j hj
  rcases (show j = 0 ∨ j = 1 ∨ j = 2 ∨ j = 3 ∨ j = 4 ∨ j = 5 ∨ j = 6 ∨ j = 7 ∨ j = 8 ∨ j = 9 ∨ j = 10 ∨ j = 11 ∨ j = 12 ∨ j = 13 ∨ j = 14 ∨ j = 15 ∨ j = 16 ∨ j = 17 ∨ j = 18 ∨ j = 19 ∨ j = 20 ∨ j = 21 ∨ j = 22 ∨ j = 23 ∨ j = 24 ∨ j = 25 by omega) with rfl | rfl | rfl | rfl | rfl | rfl | rfl | rfl | rfl | rfl | rfl | rfl | rfl | rfl | rfl | rfl | rfl | rfl | rfl | rfl | rfl | rfl | rfl | rfl | rfl | rfl <;> rfl
def amL (l : List Nat) : Nat → Nat := fun i => l.getD i 0
set_option maxHeartbeats 4000000 in
set_option maxRecDepth 100000 in
theorem m_init (l : Launch) (hst : l.stackTraces = false) (D : va_G) (ct : Ct) (h sz : Nat) (x1 x2 : Int32) (N : Nat) (hf : 1 + ((x1 - 1) - (x1 - 1) / 16 * 16 + 16 - ((x1 - 1) - (x1 - 1) / 16 * 16 + 16) / 16 * 16) = nI N) : Kt l yM_init cM_init 4 none (rk 1 13 1032) 13 1032 D ct [.ref h, .int x1, .int x2] sz [(h, .inr (kM, zM))] (fun v w => v = none ∧ ∃ am : Nat → Nat, am 0 = h ∧ w = wM ct am N 0 (s0 (x2 &&& 2147483647))) (fun _ _ => False) := by
  refine kt_ofI hst (by decide) (Nat.le_of_ble_eq_true rfl) (by simp [Value.category]) ?_
  intro p e s m args below meth c A ls C hin hr hw hl Q hQ
  have hx := C.1
  have hb := C.2.1
  have L150 : ∀ n t (H : Heap) (locs : List Loc) (ls : Array Slot) (b1 b2 b3 b4 b5 b6 b7 b8 b9 b10 b11 b12 b13 : Nat), n + t = 128 → lq ls 4 [some (.ref h), some (.int x1), some (.int x2), some (.int (nI t))] → wl D A s [(h, .inr (kM, [.int 0, .int (nI N), .int (x2 &&& 2147483647), .int 0, .int 0, .int 0, .int 0, .int 0, .int 0, .int 0, .int (-1), .int (-1), .int 0, .ref b1, .ref b2, .ref b3, .ref b4, .ref b5, .ref b6, .ref b7, .ref b8, .ref b9, .ref b10, .ref b11, .ref b12, .ref b13])), (b1, eI (ct 4) 16 (fun _ => 0)), (b2, eI (ct 0) 16 (fun _ => 0)), (b3, eI (ct 0) 16 (fun _ => 0)), (b4, eI (ct 0) 16 (fun _ => 0)), (b5, eI (ct 0) 16 (fun _ => 0)), (b6, eI (ct 0) 16 (fun _ => 0)), (b7, eI (ct 0) 16 (fun _ => 0)), (b8, eI (ct 0) 16 (fun _ => 0)), (b9, eI (ct 0) 256 (fun _ => 0)), (b10, eI (ct 0) 8 (fun _ => 0)), (b11, eI (ct 0) 256 (fun _ => 0)), (b12, eI (ct 0) 256 (fun _ => 0)), (b13, eI (ct 0) 128 (fi t 32))] H locs → W p l e (rk 1 13 1032) s m args below meth c H locs 13 1032 Q (F0 m 150 ls []) := by
    intro n
    induction n with
    | zero =>
      intro t H locs ls b1 b2 b3 b4 b5 b6 b7 b8 b9 b10 b11 b12 b13 ht hl hw
      obtain rfl : t = 128 := by omega
      refine q_iload_n hx hb hl dM_init_150 rfl ?_
      refine lv_sipush (v := 128) hx hb dM_init_151 (by decide) ?_
      refine lv_icmp_ge (tgt := 171) hx hb dM_init_154 (by decide) (fun _ => ?_) (fun q9 => absurd (by decide) q9)
      have hw2 := wl_arr hw 13 (y := (128, .inl (fun _ => 32))) rfl (by rw [vp_cell_i, vp_cell_i]; exact arrV_eq (fun i hi => by simp [fi, hi]))
      exact tr_v hQ C hw2 hr (Nat.le_of_ble_eq_true rfl) (Nat.le_of_ble_eq_true rfl) dM_init_171 ⟨rfl, amL [h, b1, b2, b3, b4, b5, b6, b7, b8, b9, b10, b11, b12, b13], rfl, rfl⟩
    | succ n ih =>
      intro t H locs ls b1 b2 b3 b4 b5 b6 b7 b8 b9 b10 b11 b12 b13 ht hl hw
      refine q_iload_n hx hb hl dM_init_150 rfl ?_
      refine lv_sipush (v := 128) hx hb dM_init_151 (by decide) ?_
      refine lv_icmp_ge (tgt := 171) hx hb dM_init_154 (by decide) (fun q9 => absurd q9 (nI_ge (b := 128) (by omega) (by decide))) (fun _ => ?_)
      refine q_aload_n hx hb hl dM_init_157 rfl ?_
      refine gO C hw 0 kM 25 rfl rfl iM (by decide) l_M_54 (fM_same 25 (by decide) _) rfl dM_init_158 ?_
      refine q_iload_n hx hb hl dM_init_161 rfl ?_
      refine lv_bipush (v := 32) hx hb dM_init_162 (by decide) ?_
      refine q_iast C hw 13 rfl rfl (by omega) (by decide) dM_init_164 (fun H locs hw => ?_)
      refine q_inc hx hb hl dM_init_165 rfl (by decide) (fun ls hl => ?_)
      refine lv_goto (tgt := 150) hx hb dM_init_168 (by decide) ?_
      rw [fi_up] at hw
      exact ih (t + 1) H locs ls b1 b2 b3 b4 b5 b6 b7 b8 b9 b10 b11 b12 b13 (by omega) hl hw
  refine q_aload_n hx hb hl dM_init_0 rfl ?_
  refine q_obj C hl ob_M dM_init_1 (by decide) (by decide) ?_
  refine q_aload_n hx hb hl dM_init_4 rfl ?_
  refine lv_iconst (v := -1) hx hb dM_init_5 (by decide) ?_
  refine pN C hw 0 kM 10 rfl rfl iM tM_ok nM (by decide) l_M_7 (fM_same 10 (by decide) _) rfl (tM_ok 10 (by decide)) rfl rfl (Nat.le_of_ble_eq_true rfl) dM_init_6 (fun H locs hw => ?_)
  replace hw : wl D A s [(h, .inr (kM, [.int 0, .int 0, .int 0, .int 0, .int 0, .int 0, .int 0, .int 0, .int 0, .int 0, .int (-1), .int 0, .int 0, .null, .null, .null, .null, .null, .null, .null, .null, .null, .null, .null, .null, .null]))] H locs := hw
  refine q_aload_n hx hb hl dM_init_9 rfl ?_
  refine lv_iconst (v := -1) hx hb dM_init_10 (by decide) ?_
  refine pN C hw 0 kM 11 rfl rfl iM tM_ok nM (by decide) l_M_13 (fM_same 11 (by decide) _) rfl (tM_ok 11 (by decide)) rfl rfl (Nat.le_of_ble_eq_true rfl) dM_init_11 (fun H locs hw => ?_)
  replace hw : wl D A s [(h, .inr (kM, [.int 0, .int 0, .int 0, .int 0, .int 0, .int 0, .int 0, .int 0, .int 0, .int 0, .int (-1), .int (-1), .int 0, .null, .null, .null, .null, .null, .null, .null, .null, .null, .null, .null, .null, .null]))] H locs := hw
  refine q_aload_n hx hb hl dM_init_14 rfl ?_
  refine lv_bipush (v := 16) hx hb dM_init_15 (by decide) ?_
  refine nw_z (k := 16) C hw rfl (by decide) (Nat.le_of_ble_eq_true rfl) (Nat.le_of_ble_eq_true rfl) dM_init_17 (fun b1 H hw => ?_)
  refine pF C hin hw 0 kM 13 rfl rfl iM tM_ok nM (by decide) l_M_16 (fM_same 13 (by decide) _) ⟨rfl, rfl⟩ (tM_ok 13 (by decide)) rfl rfl (Nat.le_of_ble_eq_true rfl) dM_init_19 (fun H locs hw => ?_)
  replace hw : wl D A s [(h, .inr (kM, [.int 0, .int 0, .int 0, .int 0, .int 0, .int 0, .int 0, .int 0, .int 0, .int 0, .int (-1), .int (-1), .int 0, .ref b1, .null, .null, .null, .null, .null, .null, .null, .null, .null, .null, .null, .null])), (b1, eI (ct 4) 16 (fun _ => 0))] H locs := hw
  refine q_aload_n hx hb hl dM_init_22 rfl ?_
  refine lv_bipush (v := 16) hx hb dM_init_23 (by decide) ?_
  refine nw_i (k := 16) C hw rfl (by decide) (Nat.le_of_ble_eq_true rfl) (Nat.le_of_ble_eq_true rfl) dM_init_25 (fun b2 H hw => ?_)
  refine pF C hin hw 0 kM 14 rfl rfl iM tM_ok nM (by decide) l_M_20 (fM_same 14 (by decide) _) ⟨rfl, rfl⟩ (tM_ok 14 (by decide)) rfl rfl (Nat.le_of_ble_eq_true rfl) dM_init_27 (fun H locs hw => ?_)
  replace hw : wl D A s [(h, .inr (kM, [.int 0, .int 0, .int 0, .int 0, .int 0, .int 0, .int 0, .int 0, .int 0, .int 0, .int (-1), .int (-1), .int 0, .ref b1, .ref b2, .null, .null, .null, .null, .null, .null, .null, .null, .null, .null, .null])), (b1, eI (ct 4) 16 (fun _ => 0)), (b2, eI (ct 0) 16 (fun _ => 0))] H locs := hw
  refine q_aload_n hx hb hl dM_init_30 rfl ?_
  refine lv_bipush (v := 16) hx hb dM_init_31 (by decide) ?_
  refine nw_i (k := 16) C hw rfl (by decide) (Nat.le_of_ble_eq_true rfl) (Nat.le_of_ble_eq_true rfl) dM_init_33 (fun b3 H hw => ?_)
  refine pF C hin hw 0 kM 15 rfl rfl iM tM_ok nM (by decide) l_M_24 (fM_same 15 (by decide) _) ⟨rfl, rfl⟩ (tM_ok 15 (by decide)) rfl rfl (Nat.le_of_ble_eq_true rfl) dM_init_35 (fun H locs hw => ?_)
  replace hw : wl D A s [(h, .inr (kM, [.int 0, .int 0, .int 0, .int 0, .int 0, .int 0, .int 0, .int 0, .int 0, .int 0, .int (-1), .int (-1), .int 0, .ref b1, .ref b2, .ref b3, .null, .null, .null, .null, .null, .null, .null, .null, .null, .null])), (b1, eI (ct 4) 16 (fun _ => 0)), (b2, eI (ct 0) 16 (fun _ => 0)), (b3, eI (ct 0) 16 (fun _ => 0))] H locs := hw
  refine q_aload_n hx hb hl dM_init_38 rfl ?_
  refine lv_bipush (v := 16) hx hb dM_init_39 (by decide) ?_
  refine nw_i (k := 16) C hw rfl (by decide) (Nat.le_of_ble_eq_true rfl) (Nat.le_of_ble_eq_true rfl) dM_init_41 (fun b4 H hw => ?_)
  refine pF C hin hw 0 kM 16 rfl rfl iM tM_ok nM (by decide) l_M_27 (fM_same 16 (by decide) _) ⟨rfl, rfl⟩ (tM_ok 16 (by decide)) rfl rfl (Nat.le_of_ble_eq_true rfl) dM_init_43 (fun H locs hw => ?_)
  replace hw : wl D A s [(h, .inr (kM, [.int 0, .int 0, .int 0, .int 0, .int 0, .int 0, .int 0, .int 0, .int 0, .int 0, .int (-1), .int (-1), .int 0, .ref b1, .ref b2, .ref b3, .ref b4, .null, .null, .null, .null, .null, .null, .null, .null, .null])), (b1, eI (ct 4) 16 (fun _ => 0)), (b2, eI (ct 0) 16 (fun _ => 0)), (b3, eI (ct 0) 16 (fun _ => 0)), (b4, eI (ct 0) 16 (fun _ => 0))] H locs := hw
  refine q_aload_n hx hb hl dM_init_46 rfl ?_
  refine lv_bipush (v := 16) hx hb dM_init_47 (by decide) ?_
  refine nw_i (k := 16) C hw rfl (by decide) (Nat.le_of_ble_eq_true rfl) (Nat.le_of_ble_eq_true rfl) dM_init_49 (fun b5 H hw => ?_)
  refine pF C hin hw 0 kM 17 rfl rfl iM tM_ok nM (by decide) l_M_30 (fM_same 17 (by decide) _) ⟨rfl, rfl⟩ (tM_ok 17 (by decide)) rfl rfl (Nat.le_of_ble_eq_true rfl) dM_init_51 (fun H locs hw => ?_)
  replace hw : wl D A s [(h, .inr (kM, [.int 0, .int 0, .int 0, .int 0, .int 0, .int 0, .int 0, .int 0, .int 0, .int 0, .int (-1), .int (-1), .int 0, .ref b1, .ref b2, .ref b3, .ref b4, .ref b5, .null, .null, .null, .null, .null, .null, .null, .null])), (b1, eI (ct 4) 16 (fun _ => 0)), (b2, eI (ct 0) 16 (fun _ => 0)), (b3, eI (ct 0) 16 (fun _ => 0)), (b4, eI (ct 0) 16 (fun _ => 0)), (b5, eI (ct 0) 16 (fun _ => 0))] H locs := hw
  refine q_aload_n hx hb hl dM_init_54 rfl ?_
  refine lv_bipush (v := 16) hx hb dM_init_55 (by decide) ?_
  refine nw_i (k := 16) C hw rfl (by decide) (Nat.le_of_ble_eq_true rfl) (Nat.le_of_ble_eq_true rfl) dM_init_57 (fun b6 H hw => ?_)
  refine pF C hin hw 0 kM 18 rfl rfl iM tM_ok nM (by decide) l_M_33 (fM_same 18 (by decide) _) ⟨rfl, rfl⟩ (tM_ok 18 (by decide)) rfl rfl (Nat.le_of_ble_eq_true rfl) dM_init_59 (fun H locs hw => ?_)
  replace hw : wl D A s [(h, .inr (kM, [.int 0, .int 0, .int 0, .int 0, .int 0, .int 0, .int 0, .int 0, .int 0, .int 0, .int (-1), .int (-1), .int 0, .ref b1, .ref b2, .ref b3, .ref b4, .ref b5, .ref b6, .null, .null, .null, .null, .null, .null, .null])), (b1, eI (ct 4) 16 (fun _ => 0)), (b2, eI (ct 0) 16 (fun _ => 0)), (b3, eI (ct 0) 16 (fun _ => 0)), (b4, eI (ct 0) 16 (fun _ => 0)), (b5, eI (ct 0) 16 (fun _ => 0)), (b6, eI (ct 0) 16 (fun _ => 0))] H locs := hw
  refine q_aload_n hx hb hl dM_init_62 rfl ?_
  refine lv_bipush (v := 16) hx hb dM_init_63 (by decide) ?_
  refine nw_i (k := 16) C hw rfl (by decide) (Nat.le_of_ble_eq_true rfl) (Nat.le_of_ble_eq_true rfl) dM_init_65 (fun b7 H hw => ?_)
  refine pF C hin hw 0 kM 19 rfl rfl iM tM_ok nM (by decide) l_M_36 (fM_same 19 (by decide) _) ⟨rfl, rfl⟩ (tM_ok 19 (by decide)) rfl rfl (Nat.le_of_ble_eq_true rfl) dM_init_67 (fun H locs hw => ?_)
  replace hw : wl D A s [(h, .inr (kM, [.int 0, .int 0, .int 0, .int 0, .int 0, .int 0, .int 0, .int 0, .int 0, .int 0, .int (-1), .int (-1), .int 0, .ref b1, .ref b2, .ref b3, .ref b4, .ref b5, .ref b6, .ref b7, .null, .null, .null, .null, .null, .null])), (b1, eI (ct 4) 16 (fun _ => 0)), (b2, eI (ct 0) 16 (fun _ => 0)), (b3, eI (ct 0) 16 (fun _ => 0)), (b4, eI (ct 0) 16 (fun _ => 0)), (b5, eI (ct 0) 16 (fun _ => 0)), (b6, eI (ct 0) 16 (fun _ => 0)), (b7, eI (ct 0) 16 (fun _ => 0))] H locs := hw
  refine q_aload_n hx hb hl dM_init_70 rfl ?_
  refine lv_bipush (v := 16) hx hb dM_init_71 (by decide) ?_
  refine nw_i (k := 16) C hw rfl (by decide) (Nat.le_of_ble_eq_true rfl) (Nat.le_of_ble_eq_true rfl) dM_init_73 (fun b8 H hw => ?_)
  refine pF C hin hw 0 kM 20 rfl rfl iM tM_ok nM (by decide) l_M_39 (fM_same 20 (by decide) _) ⟨rfl, rfl⟩ (tM_ok 20 (by decide)) rfl rfl (Nat.le_of_ble_eq_true rfl) dM_init_75 (fun H locs hw => ?_)
  replace hw : wl D A s [(h, .inr (kM, [.int 0, .int 0, .int 0, .int 0, .int 0, .int 0, .int 0, .int 0, .int 0, .int 0, .int (-1), .int (-1), .int 0, .ref b1, .ref b2, .ref b3, .ref b4, .ref b5, .ref b6, .ref b7, .ref b8, .null, .null, .null, .null, .null])), (b1, eI (ct 4) 16 (fun _ => 0)), (b2, eI (ct 0) 16 (fun _ => 0)), (b3, eI (ct 0) 16 (fun _ => 0)), (b4, eI (ct 0) 16 (fun _ => 0)), (b5, eI (ct 0) 16 (fun _ => 0)), (b6, eI (ct 0) 16 (fun _ => 0)), (b7, eI (ct 0) 16 (fun _ => 0)), (b8, eI (ct 0) 16 (fun _ => 0))] H locs := hw
  refine q_aload_n hx hb hl dM_init_78 rfl ?_
  refine lv_sipush (v := 256) hx hb dM_init_79 (by decide) ?_
  refine nw_i (k := 256) C hw rfl (by decide) (Nat.le_of_ble_eq_true rfl) (Nat.le_of_ble_eq_true rfl) dM_init_82 (fun b9 H hw => ?_)
  refine pF C hin hw 0 kM 21 rfl rfl iM tM_ok nM (by decide) l_M_42 (fM_same 21 (by decide) _) ⟨rfl, rfl⟩ (tM_ok 21 (by decide)) rfl rfl (Nat.le_of_ble_eq_true rfl) dM_init_84 (fun H locs hw => ?_)
  replace hw : wl D A s [(h, .inr (kM, [.int 0, .int 0, .int 0, .int 0, .int 0, .int 0, .int 0, .int 0, .int 0, .int 0, .int (-1), .int (-1), .int 0, .ref b1, .ref b2, .ref b3, .ref b4, .ref b5, .ref b6, .ref b7, .ref b8, .ref b9, .null, .null, .null, .null])), (b1, eI (ct 4) 16 (fun _ => 0)), (b2, eI (ct 0) 16 (fun _ => 0)), (b3, eI (ct 0) 16 (fun _ => 0)), (b4, eI (ct 0) 16 (fun _ => 0)), (b5, eI (ct 0) 16 (fun _ => 0)), (b6, eI (ct 0) 16 (fun _ => 0)), (b7, eI (ct 0) 16 (fun _ => 0)), (b8, eI (ct 0) 16 (fun _ => 0)), (b9, eI (ct 0) 256 (fun _ => 0))] H locs := hw
  refine q_aload_n hx hb hl dM_init_87 rfl ?_
  refine lv_bipush (v := 8) hx hb dM_init_88 (by decide) ?_
  refine nw_i (k := 8) C hw rfl (by decide) (Nat.le_of_ble_eq_true rfl) (Nat.le_of_ble_eq_true rfl) dM_init_90 (fun b10 H hw => ?_)
  refine pF C hin hw 0 kM 22 rfl rfl iM tM_ok nM (by decide) l_M_45 (fM_same 22 (by decide) _) ⟨rfl, rfl⟩ (tM_ok 22 (by decide)) rfl rfl (Nat.le_of_ble_eq_true rfl) dM_init_92 (fun H locs hw => ?_)
  replace hw : wl D A s [(h, .inr (kM, [.int 0, .int 0, .int 0, .int 0, .int 0, .int 0, .int 0, .int 0, .int 0, .int 0, .int (-1), .int (-1), .int 0, .ref b1, .ref b2, .ref b3, .ref b4, .ref b5, .ref b6, .ref b7, .ref b8, .ref b9, .ref b10, .null, .null, .null])), (b1, eI (ct 4) 16 (fun _ => 0)), (b2, eI (ct 0) 16 (fun _ => 0)), (b3, eI (ct 0) 16 (fun _ => 0)), (b4, eI (ct 0) 16 (fun _ => 0)), (b5, eI (ct 0) 16 (fun _ => 0)), (b6, eI (ct 0) 16 (fun _ => 0)), (b7, eI (ct 0) 16 (fun _ => 0)), (b8, eI (ct 0) 16 (fun _ => 0)), (b9, eI (ct 0) 256 (fun _ => 0)), (b10, eI (ct 0) 8 (fun _ => 0))] H locs := hw
  refine q_aload_n hx hb hl dM_init_95 rfl ?_
  refine lv_sipush (v := 256) hx hb dM_init_96 (by decide) ?_
  refine nw_i (k := 256) C hw rfl (by decide) (Nat.le_of_ble_eq_true rfl) (Nat.le_of_ble_eq_true rfl) dM_init_99 (fun b11 H hw => ?_)
  refine pF C hin hw 0 kM 23 rfl rfl iM tM_ok nM (by decide) l_M_48 (fM_same 23 (by decide) _) ⟨rfl, rfl⟩ (tM_ok 23 (by decide)) rfl rfl (Nat.le_of_ble_eq_true rfl) dM_init_101 (fun H locs hw => ?_)
  replace hw : wl D A s [(h, .inr (kM, [.int 0, .int 0, .int 0, .int 0, .int 0, .int 0, .int 0, .int 0, .int 0, .int 0, .int (-1), .int (-1), .int 0, .ref b1, .ref b2, .ref b3, .ref b4, .ref b5, .ref b6, .ref b7, .ref b8, .ref b9, .ref b10, .ref b11, .null, .null])), (b1, eI (ct 4) 16 (fun _ => 0)), (b2, eI (ct 0) 16 (fun _ => 0)), (b3, eI (ct 0) 16 (fun _ => 0)), (b4, eI (ct 0) 16 (fun _ => 0)), (b5, eI (ct 0) 16 (fun _ => 0)), (b6, eI (ct 0) 16 (fun _ => 0)), (b7, eI (ct 0) 16 (fun _ => 0)), (b8, eI (ct 0) 16 (fun _ => 0)), (b9, eI (ct 0) 256 (fun _ => 0)), (b10, eI (ct 0) 8 (fun _ => 0)), (b11, eI (ct 0) 256 (fun _ => 0))] H locs := hw
  refine q_aload_n hx hb hl dM_init_104 rfl ?_
  refine lv_sipush (v := 256) hx hb dM_init_105 (by decide) ?_
  refine nw_i (k := 256) C hw rfl (by decide) (Nat.le_of_ble_eq_true rfl) (Nat.le_of_ble_eq_true rfl) dM_init_108 (fun b12 H hw => ?_)
  refine pF C hin hw 0 kM 24 rfl rfl iM tM_ok nM (by decide) l_M_51 (fM_same 24 (by decide) _) ⟨rfl, rfl⟩ (tM_ok 24 (by decide)) rfl rfl (Nat.le_of_ble_eq_true rfl) dM_init_110 (fun H locs hw => ?_)
  replace hw : wl D A s [(h, .inr (kM, [.int 0, .int 0, .int 0, .int 0, .int 0, .int 0, .int 0, .int 0, .int 0, .int 0, .int (-1), .int (-1), .int 0, .ref b1, .ref b2, .ref b3, .ref b4, .ref b5, .ref b6, .ref b7, .ref b8, .ref b9, .ref b10, .ref b11, .ref b12, .null])), (b1, eI (ct 4) 16 (fun _ => 0)), (b2, eI (ct 0) 16 (fun _ => 0)), (b3, eI (ct 0) 16 (fun _ => 0)), (b4, eI (ct 0) 16 (fun _ => 0)), (b5, eI (ct 0) 16 (fun _ => 0)), (b6, eI (ct 0) 16 (fun _ => 0)), (b7, eI (ct 0) 16 (fun _ => 0)), (b8, eI (ct 0) 16 (fun _ => 0)), (b9, eI (ct 0) 256 (fun _ => 0)), (b10, eI (ct 0) 8 (fun _ => 0)), (b11, eI (ct 0) 256 (fun _ => 0)), (b12, eI (ct 0) 256 (fun _ => 0))] H locs := hw
  refine q_aload_n hx hb hl dM_init_113 rfl ?_
  refine lv_sipush (v := 128) hx hb dM_init_114 (by decide) ?_
  refine nw_i (k := 128) C hw rfl (by decide) (Nat.le_of_ble_eq_true rfl) (Nat.le_of_ble_eq_true rfl) dM_init_117 (fun b13 H hw => ?_)
  refine pF C hin hw 0 kM 25 rfl rfl iM tM_ok nM (by decide) l_M_54 (fM_same 25 (by decide) _) ⟨rfl, rfl⟩ (tM_ok 25 (by decide)) rfl rfl (Nat.le_of_ble_eq_true rfl) dM_init_119 (fun H locs hw => ?_)
  replace hw : wl D A s [(h, .inr (kM, [.int 0, .int 0, .int 0, .int 0, .int 0, .int 0, .int 0, .int 0, .int 0, .int 0, .int (-1), .int (-1), .int 0, .ref b1, .ref b2, .ref b3, .ref b4, .ref b5, .ref b6, .ref b7, .ref b8, .ref b9, .ref b10, .ref b11, .ref b12, .ref b13])), (b1, eI (ct 4) 16 (fun _ => 0)), (b2, eI (ct 0) 16 (fun _ => 0)), (b3, eI (ct 0) 16 (fun _ => 0)), (b4, eI (ct 0) 16 (fun _ => 0)), (b5, eI (ct 0) 16 (fun _ => 0)), (b6, eI (ct 0) 16 (fun _ => 0)), (b7, eI (ct 0) 16 (fun _ => 0)), (b8, eI (ct 0) 16 (fun _ => 0)), (b9, eI (ct 0) 256 (fun _ => 0)), (b10, eI (ct 0) 8 (fun _ => 0)), (b11, eI (ct 0) 256 (fun _ => 0)), (b12, eI (ct 0) 256 (fun _ => 0)), (b13, eI (ct 0) 128 (fun _ => 0))] H locs := hw
  refine q_aload_n hx hb hl dM_init_122 rfl ?_
  refine lv_iconst (v := 1) hx hb dM_init_123 (by decide) ?_
  refine q_iload_n hx hb hl dM_init_124 rfl ?_
  refine lv_iconst (v := 1) hx hb dM_init_125 (by decide) ?_
  refine lv_isub hx hb dM_init_126 ?_
  refine lv_bipush (v := 16) hx hb dM_init_127 (by decide) ?_
  refine lv_irem hx hb dM_init_129 (by decide) ?_
  refine lv_bipush (v := 16) hx hb dM_init_130 (by decide) ?_
  refine lv_iadd hx hb dM_init_132 ?_
  refine lv_bipush (v := 16) hx hb dM_init_133 (by decide) ?_
  refine lv_irem hx hb dM_init_135 (by decide) ?_
  refine lv_iadd hx hb dM_init_136 ?_
  rw [hf]
  refine pF C hin hw 0 kM 1 rfl rfl iM tM_ok nM (by decide) l_M_57 (fM_same 1 (by decide) _) ⟨rfl, rfl⟩ (tM_ok 1 (by decide)) rfl rfl (Nat.le_of_ble_eq_true rfl) dM_init_137 (fun H locs hw => ?_)
  replace hw : wl D A s [(h, .inr (kM, [.int 0, .int (nI N), .int 0, .int 0, .int 0, .int 0, .int 0, .int 0, .int 0, .int 0, .int (-1), .int (-1), .int 0, .ref b1, .ref b2, .ref b3, .ref b4, .ref b5, .ref b6, .ref b7, .ref b8, .ref b9, .ref b10, .ref b11, .ref b12, .ref b13])), (b1, eI (ct 4) 16 (fun _ => 0)), (b2, eI (ct 0) 16 (fun _ => 0)), (b3, eI (ct 0) 16 (fun _ => 0)), (b4, eI (ct 0) 16 (fun _ => 0)), (b5, eI (ct 0) 16 (fun _ => 0)), (b6, eI (ct 0) 16 (fun _ => 0)), (b7, eI (ct 0) 16 (fun _ => 0)), (b8, eI (ct 0) 16 (fun _ => 0)), (b9, eI (ct 0) 256 (fun _ => 0)), (b10, eI (ct 0) 8 (fun _ => 0)), (b11, eI (ct 0) 256 (fun _ => 0)), (b12, eI (ct 0) 256 (fun _ => 0)), (b13, eI (ct 0) 128 (fun _ => 0))] H locs := hw
  refine q_aload_n hx hb hl dM_init_140 rfl ?_
  refine q_iload_n hx hb hl dM_init_141 rfl ?_
  refine lv_ldc hx hb C.2.2.2.1 (C.2.2.2.2.1 _ k_M_60) dM_init_142 ?_
  refine lv_iand hx hb dM_init_144 ?_
  refine pN C hw 0 kM 2 rfl rfl iM tM_ok nM (by decide) l_M_61 (fM_same 2 (by decide) _) rfl (tM_ok 2 (by decide)) rfl rfl (Nat.le_of_ble_eq_true rfl) dM_init_145 (fun H locs hw => ?_)
  replace hw : wl D A s [(h, .inr (kM, [.int 0, .int (nI N), .int (x2 &&& 2147483647), .int 0, .int 0, .int 0, .int 0, .int 0, .int 0, .int 0, .int (-1), .int (-1), .int 0, .ref b1, .ref b2, .ref b3, .ref b4, .ref b5, .ref b6, .ref b7, .ref b8, .ref b9, .ref b10, .ref b11, .ref b12, .ref b13])), (b1, eI (ct 4) 16 (fun _ => 0)), (b2, eI (ct 0) 16 (fun _ => 0)), (b3, eI (ct 0) 16 (fun _ => 0)), (b4, eI (ct 0) 16 (fun _ => 0)), (b5, eI (ct 0) 16 (fun _ => 0)), (b6, eI (ct 0) 16 (fun _ => 0)), (b7, eI (ct 0) 16 (fun _ => 0)), (b8, eI (ct 0) 16 (fun _ => 0)), (b9, eI (ct 0) 256 (fun _ => 0)), (b10, eI (ct 0) 8 (fun _ => 0)), (b11, eI (ct 0) 256 (fun _ => 0)), (b12, eI (ct 0) 256 (fun _ => 0)), (b13, eI (ct 0) 128 (fun _ => 0))] H locs := hw
  refine lv_iconst (v := 0) hx hb dM_init_148 (by decide) ?_
  refine q_istore_n hx hb hl dM_init_149 (by decide) (fun ls hl => ?_)
  have hw2 := wl_arr hw 13 (y := (128, .inl (fi 0 32))) rfl (by rw [← fi_0])
  exact L150 128 0 _ _ _ b1 b2 b3 b4 b5 b6 b7 b8 b9 b10 b11 b12 b13 rfl hl hw2
