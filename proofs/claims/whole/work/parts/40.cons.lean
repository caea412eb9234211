def s0 (x : Int32) : St := fun a b c => if a = 0 ∧ b = 0 ∧ c = 3 then x else if a = 0 ∧ b = 0 ∧ (c = 4 ∨ c = 5) then -1 else if a = 6 then 32 else 0
def adT (h sa la : Nat) (a1 a2 b1 b2 b3 b4 : Nat → Nat) : Ad := fun k i => match k with
  | 0 => (match i with
    | 0 => h
    | 1 => sa
    | _ => la)
  | 1 => a1 i
  | 2 => a2 i
  | 3 => b1 i
  | 4 => b2 i
  | 5 => b3 i
  | _ => b4 i
theorem cnt2 {α : Type} [BEq α] [LawfulBEq α] (f g : Nat → α) (x : α) : ∀ n, ((List.range n).flatMap fun i => [f i, g i]).count x = ((List.range n).map f).count x + ((List.range n).map g).count x := by
  intro n
  induction n with
  | zero => simp
  | succ n ih =>
    simp only [List.range_succ, List.flatMap_append, List.map_append, List.count_append, ih, List.flatMap_cons, List.flatMap_nil, List.map_cons, List.map_nil, List.count_cons, List.count_nil, List.append_nil]
    omega
theorem cnt4 {α : Type} [BEq α] [LawfulBEq α] (f g f3 g3 : Nat → α) (x : α) : ∀ n, ((List.range n).flatMap fun i => [f i, g i, f3 i, g3 i]).count x = ((List.range n).map f).count x + (((List.range n).map g).count x + (((List.range n).map f3).count x + ((List.range n).map g3).count x)) := by
  intro n
  induction n with
  | zero => simp
  | succ n ih =>
    simp only [List.range_succ, List.flatMap_append, List.map_append, List.count_append, ih, List.flatMap_cons, List.flatMap_nil, List.map_cons, List.map_nil, List.count_cons, List.count_nil, List.append_nil]
    omega
theorem wT_0 (ct : Ct) (h sa la N : Nat) (a1 a2 b1 b2 b3 b4 : Nat → Nat) (x : Int32) : ((h, .inr (kT, qT (.ref sa) (.ref la) x)) :: (sa, eQ (ct 1) N (fun t => some (a1 t))) :: (la, eQ (ct 2) 8 (fun q => some (b1 q))) :: (f2 ct a1 a2 N ++ f4 ct b1 b2 b3 b4 8)).Perm (wT ct (adT h sa la a1 a2 b1 b2 b3 b4) N (s0 x)) := by
  refine perm_of (fun y => ?_)
  have e2 : (f2 ct a1 a2 N).count y = ((List.range N).map fun t => ((adT h sa la a1 a2 b1 b2 b3 b4 1 t, .inr (kS, fS (adT h sa la a1 a2 b1 b2 b3 b4) (s0 x) t)) : Nat × va_E)).count y + ((List.range N).map fun t => ((adT h sa la a1 a2 b1 b2 b3 b4 2 t, eI (ct 0) 16 (s0 x 2 t)) : Nat × va_E)).count y := cnt2 _ _ y N
  have e4 : (f4 ct b1 b2 b3 b4 8).count y = ((List.range 8).map fun q => ((adT h sa la a1 a2 b1 b2 b3 b4 3 q, .inr (kL, fL (adT h sa la a1 a2 b1 b2 b3 b4) (s0 x) q)) : Nat × va_E)).count y + (((List.range 8).map fun q => ((adT h sa la a1 a2 b1 b2 b3 b4 4 q, eI (ct 0) 32 (s0 x 4 q)) : Nat × va_E)).count y + (((List.range 8).map fun q => ((adT h sa la a1 a2 b1 b2 b3 b4 5 q, eI (ct 0) 32 (s0 x 5 q)) : Nat × va_E)).count y + ((List.range 8).map fun q => ((adT h sa la a1 a2 b1 b2 b3 b4 6 q, eI (ct 0) 16 (s0 x 6 q)) : Nat × va_E)).count y)) := cnt4 _ _ _ _ y 8
  show List.count y ([((h, .inr (kT, qT (.ref sa) (.ref la) x)) : Nat × va_E)] ++ ([((sa, eQ (ct 1) N (fun t => some (a1 t))) : Nat × va_E)] ++ ([((la, eQ (ct 2) 8 (fun q => some (b1 q))) : Nat × va_E)] ++ (f2 ct a1 a2 N ++ f4 ct b1 b2 b3 b4 8)))) = List.count y ([((h, .inr (kT, qT (.ref sa) (.ref la) x)) : Nat × va_E)] ++ ([((sa, eQ (ct 1) N (fun t => some (a1 t))) : Nat × va_E)] ++ ([((la, eQ (ct 2) 8 (fun q => some (b1 q))) : Nat × va_E)] ++ (((List.range N).map fun t => ((adT h sa la a1 a2 b1 b2 b3 b4 1 t, .inr (kS, fS (adT h sa la a1 a2 b1 b2 b3 b4) (s0 x) t)) : Nat × va_E)) ++ (((List.range N).map fun t => ((adT h sa la a1 a2 b1 b2 b3 b4 2 t, eI (ct 0) 16 (s0 x 2 t)) : Nat × va_E)) ++ (((List.range 8).map fun q => ((adT h sa la a1 a2 b1 b2 b3 b4 3 q, .inr (kL, fL (adT h sa la a1 a2 b1 b2 b3 b4) (s0 x) q)) : Nat × va_E)) ++ (((List.range 8).map fun q => ((adT h sa la a1 a2 b1 b2 b3 b4 4 q, eI (ct 0) 32 (s0 x 4 q)) : Nat × va_E)) ++ (((List.range 8).map fun q => ((adT h sa la a1 a2 b1 b2 b3 b4 5 q, eI (ct 0) 32 (s0 x 5 q)) : Nat × va_E)) ++ (((List.range 8).map fun q => ((adT h sa la a1 a2 b1 b2 b3 b4 6 q, eI (ct 0) 16 (s0 x 6 q)) : Nat × va_E)) ++ [])))))))))
  simp only [List.count_append, e2, e4, List.append_nil]
  omega
theorem wl_R {D : va_G} {A : Nat → Prop} {s : State} {wa wb : va_W} {H : Heap} {locs : List Loc} (h : wl D A s (wa ++ wb) H locs) : wl D A s wb H locs := by
  have hk : ∀ (k : Nat) (q : Nat × va_E), wb[k]? = some q → (wa ++ wb)[wa.length + k]? = some q := fun k q hk => by rw [List.getElem?_append_right (by omega), Nat.add_sub_cancel_left]; exact hk
  exact ⟨h.1.by (fun k => wa.length + k) hk, h.2.1.by (fun k => wa.length + k) hk (fun i j _ _ q => by omega), h.2.2⟩
theorem wl_L {D : va_G} {A : Nat → Prop} {s : State} {wa wb : va_W} {H : Heap} {locs : List Loc} (h : wl D A s (wa ++ wb) H locs) : wl D A s wa H locs := by
  have hk : ∀ (k : Nat) (q : Nat × va_E), wa[k]? = some q → (wa ++ wb)[k]? = some q := fun k q hk => by rw [List.getElem?_append_left (List.getElem?_eq_some_iff.mp hk).1]; exact hk
  exact ⟨h.1.by (fun k => k) hk, h.2.1.by (fun k => k) hk (fun i j _ _ q => q), h.2.2⟩
theorem zL_ok : ∀ j, j < 4 → defaultValue (tL j) = vp_V zL j := by
  intro j hj
  rcases (show j = 0 ∨ j = 1 ∨ j = 2 ∨ j = 3 by omega) with rfl | rfl | rfl | rfl <;> rfl
theorem zS_ok : ∀ j, j < 10 → defaultValue (tS j) = vp_V zS j := by
  intro j hj
  rcases (show j = 0 ∨ j = 1 ∨ j = 2 ∨ j = 3 ∨ j = 4 ∨ j = 5 ∨ j = 6 ∨ j = 7 ∨ j = 8 ∨ j = 9 by omega) with rfl | rfl | rfl | rfl | rfl | rfl | rfl | rfl | rfl | rfl <;> rfl
theorem zT_ok : ∀ j, j < 13 → defaultValue (tT j) = vp_V zT j := by
  intro j hj
  rcases (show j = 0 ∨ j = 1 ∨ j = 2 ∨ j = 3 ∨ j = 4 ∨ j = 5 ∨ j = 6 ∨ j = 7 ∨ j = 8 ∨ j = 9 ∨ j = 10 ∨ j = 11 ∨ j = 12 by omega) with rfl | rfl | rfl | rfl | rfl | rfl | rfl | rfl | rfl | rfl | rfl | rfl | rfl <;> rfl
set_option maxHeartbeats 4000000 in
set_option maxRecDepth 100000 in
theorem c_Tinit (l : Launch) (hst : l.stackTraces = false) (D : va_G) (ct : Ct) (h sz : Nat) (x1 x2 : Int32) (N : Nat) (h1N : 1 ≤ N) (hN : N ≤ 16) (hf : 1 + fmod (x1 - 1) = nI N) : Kt l yT_init cT_init 4 none (rk 2 66 1112) 66 1112 D ct [.ref h, .int x1, .int x2] sz [(h, .inr (kT, zT))] (fun v w => v = none ∧ ∃ ad : Ad, ad 0 0 = h ∧ w = wT ct ad N (s0 (x2 &&& 2147483647))) (fun _ _ => False) := by
  refine kt_ofI hst (by decide) (Nat.le_of_ble_eq_true rfl) (by simp [Value.category]) ?_
  intro p e s m args below meth c A ls C hin hr hw hl Q hQ
  have hx := C.1
  have hb := C.2.1
  have aoS := C.2.2.2.2.2.2.1.2.1.2.2.1
  have aoL := C.2.2.2.2.2.2.1.2.1.2.2.2
  have L72 : ∀ n t (H : Heap) (locs : List Loc) (ls : Array Slot) (sa la : Nat) (a1 a2 b1 b2 b3 b4 : Nat → Nat) (cells slots : Nat), n + t = 8 → cells ≤ 34 + 4 * t → slots ≤ 440 + 84 * t → lq ls 4 [some (.ref h), some (.int x1), some (.int x2), some (.int (nI t))] → wl D A s ((h, .inr (kT, qT (.ref sa) (.ref la) 0)) :: (sa, eQ (ct 1) N (fo a1 N)) :: (la, eQ (ct 2) 8 (fo b1 t)) :: (f2 ct a1 a2 N ++ f4 ct b1 b2 b3 b4 t)) H locs → W p l e (rk 2 66 1112) s m args below meth c H locs cells slots Q (F0 m 72 ls []) := by
    intro n
    induction n with
    | zero =>
      intro t H locs ls sa la a1 a2 b1 b2 b3 b4 cells slots ht hc hs hl hw
      obtain rfl : t = 8 := by omega
      refine q_iload_n hx hb hl dT_init_72 rfl ?_
      refine q_aload_n hx hb hl dT_init_73 rfl ?_
      refine gO C hw 0 kT 1 rfl rfl iT (by decide) l_T_31 (fT_same 1 (by decide) _) rfl dT_init_74 ?_
      refine q_alen C hw 2 2 rfl rfl dT_init_77 ?_
      refine lv_icmp_ge (tgt := 100) hx hb dT_init_78 (by decide) (fun _ => ?_) (fun q9 => absurd (Int32.le_refl (nI 8)) q9)
      refine q_aload_n hx hb hl dT_init_100 rfl ?_
      refine q_iload_n hx hb hl dT_init_101 rfl ?_
      refine lv_ldc hx hb C.2.2.2.1 (C.2.2.2.2.1 _ k_T_36) dT_init_102 ?_
      refine lv_iand hx hb dT_init_104 ?_
      refine pN C hw 0 kT 5 rfl rfl iT tT_ok nT (by decide) l_T_37 (fT_same 5 (by decide) _) rfl (tT_ok 5 (by decide)) rfl rfl (by simp [qT]) dT_init_105 (fun H locs hw => ?_)
      have hw1 := wl_arr hw 1 (y := (N, .inr (.inr (.inr (.inr (fun t => some (a1 t))))))) rfl (by rw [vp_cell_q, vp_cell_q]; exact arrV_eq (fun i hi => by simp [fo, hi]))
      have hw2 := wl_arr hw1 2 (y := (8, .inr (.inr (.inr (.inr (fun q => some (b1 q))))))) rfl (by rw [vp_cell_q, vp_cell_q]; exact arrV_eq (fun i hi => by simp [fo, hi]))
      have hw3 := wl_perm hw2 (wT_0 ct h sa la N a1 a2 b1 b2 b3 b4 (x2 &&& 2147483647))
      exact tr_v hQ C hw3 hr (by omega) (by omega) dT_init_108 ⟨rfl, _, rfl, rfl⟩
    | succ n ih =>
      intro t H locs ls sa la a1 a2 b1 b2 b3 b4 cells slots ht hc hs hl hw
      refine q_iload_n hx hb hl dT_init_72 rfl ?_
      refine q_aload_n hx hb hl dT_init_73 rfl ?_
      refine gO C hw 0 kT 1 rfl rfl iT (by decide) l_T_31 (fT_same 1 (by decide) _) rfl dT_init_74 ?_
      refine q_alen C hw 2 2 rfl rfl dT_init_77 ?_
      refine lv_icmp_ge (tgt := 100) hx hb dT_init_78 (by decide) (fun q9 => absurd q9 (nI_ge (b := 8) (by omega) (by decide))) (fun _ => ?_)
      refine q_aload_n hx hb hl dT_init_81 rfl ?_
      refine gO C hw 0 kT 1 rfl rfl iT (by decide) l_T_31 (fT_same 1 (by decide) _) rfl dT_init_82 ?_
      refine q_iload_n hx hb hl dT_init_85 rfl ?_
      refine q_new C hw kL rfl iL tL_ok nk_L zL zL_ok (by show _ + 1 ≤ 66; omega) (by show _ + 4 ≤ 1112; omega) dT_init_86 (fun q H hw => ?_)
      refine lv_dup hx hb dT_init_89 rfl ?_
      have hw9 := wl_R hw
      refine tc_R (tc_IN C hl (c_Linit l hst D ct q _) hw9.1 hw9.2.1 hw9.2.2 ic_L in_L iw_L rfl hd_L_init rfl rfl ⟨(Nat.le_of_ble_eq_true rfl), (Nat.le_of_ble_eq_true rfl)⟩ (Nat.le_of_ble_eq_true rfl) ⟨by show _ ≤ 66; omega, by show _ ≤ 1112; omega⟩ dT_init_90 rfl) C hw (fun E ce q9 w1 H locs hp hw h1 h2 h3 => ?_) (fun v w1 H locs hp hw => ?_)
      · exact hp.elim
      obtain ⟨rfl, y2, y3, y4, rfl⟩ := hp
      dsimp only [Option.toList_some, Option.toList_none, List.nil_append]
      refine q_astq C hw 2 2 kL rfl rfl (List.mem_append_right _ List.mem_cons_self) rfl rfl (by omega) (by decide) dT_init_93 (fun H locs hw => ?_)
      refine q_inc hx hb hl dT_init_94 rfl (by decide) (fun ls hl => ?_)
      refine lv_goto (tgt := 72) hx hb dT_init_97 (by decide) ?_
      refine ih (t + 1) _ _ _ sa la a1 a2 (up b1 t q) (up b2 t y2) (up b3 t y3) (up b4 t y4) _ _ (by omega) (by omega) (by omega) hl ?_
      rw [← fo_up, f4_up, ← List.append_assoc]
      exact hw
  have L33 : ∀ n t (H : Heap) (locs : List Loc) (ls : Array Slot) (sa : Nat) (a1 a2 : Nat → Nat) (cells slots : Nat), n + t = N → cells ≤ 1 + 2 * t → slots ≤ N + 26 * t → lq ls 4 [some (.ref h), some (.int x1), some (.int x2), some (.int (nI t))] → wl D A s ((h, .inr (kT, qT (.ref sa) .null 0)) :: (sa, eQ (ct 1) N (fo a1 t)) :: f2 ct a1 a2 t) H locs → W p l e (rk 2 66 1112) s m args below meth c H locs cells slots Q (F0 m 33 ls []) := by
    intro n
    induction n with
    | zero =>
      intro t H locs ls sa a1 a2 cells slots ht hc hs hl hw
      obtain rfl : t = N := by omega
      refine q_iload_n hx hb hl dT_init_33 rfl ?_
      refine q_aload_n hx hb hl dT_init_34 rfl ?_
      refine gO C hw 0 kT 0 rfl rfl iT (by decide) l_T_24 (fT_same 0 (by decide) _) rfl dT_init_35 ?_
      refine q_alen C hw 1 1 rfl rfl dT_init_38 ?_
      refine lv_icmp_ge (tgt := 61) hx hb dT_init_39 (by decide) (fun _ => ?_) (fun q9 => absurd (Int32.le_refl _) q9)
      refine q_aload_n hx hb hl dT_init_61 rfl ?_
      refine lv_bipush (v := 8) hx hb dT_init_62 (by decide) ?_
      refine nw_q (ti := 2) (k := 8) C hw rfl nk_L.1 aoL rfl (by decide) (by show _ + 1 ≤ 66; omega) (by show _ + 8 ≤ 1112; omega) dT_init_64 (fun la H hw => ?_)
      refine pF C hin hw 0 kT 1 rfl rfl iT tT_ok nT (by decide) l_T_31 (fT_same 1 (by decide) _) ⟨rfl, rfl⟩ (tT_ok 1 (by decide)) rfl rfl (by simp [qT]) dT_init_67 (fun H locs hw => ?_)
      refine lv_iconst (v := 0) hx hb dT_init_70 (by decide) ?_
      refine q_istore_n hx hb hl dT_init_71 (by decide) (fun ls hl => ?_)
      rw [fo_0 a1] at hw
      have hw2 := wl_perm hw (List.Perm.cons _ (List.Perm.cons _ (List.perm_append_comm (l₁ := f2 ct a1 a2 t))))
      refine L72 8 0 _ _ _ sa la a1 a2 a1 a1 a1 a1 _ _ rfl (by omega) (by omega) hl ?_
      rw [show f4 ct a1 a1 a1 a1 0 = [] from rfl, List.append_nil]
      exact hw2
    | succ n ih =>
      intro t H locs ls sa a1 a2 cells slots ht hc hs hl hw
      refine q_iload_n hx hb hl dT_init_33 rfl ?_
      refine q_aload_n hx hb hl dT_init_34 rfl ?_
      refine gO C hw 0 kT 0 rfl rfl iT (by decide) l_T_24 (fT_same 0 (by decide) _) rfl dT_init_35 ?_
      refine q_alen C hw 1 1 rfl rfl dT_init_38 ?_
      refine lv_icmp_ge (tgt := 61) hx hb dT_init_39 (by decide) (fun q9 => absurd q9 (nI_ge (b := N) (by omega) (by omega))) (fun _ => ?_)
      refine q_aload_n hx hb hl dT_init_42 rfl ?_
      refine gO C hw 0 kT 0 rfl rfl iT (by decide) l_T_24 (fT_same 0 (by decide) _) rfl dT_init_43 ?_
      refine q_iload_n hx hb hl dT_init_46 rfl ?_
      refine q_new C hw kS rfl iS tS_ok nk_S zS zS_ok (by show _ + 1 ≤ 66; omega) (by show _ + 10 ≤ 1112; omega) dT_init_47 (fun q H hw => ?_)
      refine lv_dup hx hb dT_init_50 rfl ?_
      have hw9 := wl_R hw
      refine tc_R (tc_IN C hl (c_Sinit l hst D ct q _) hw9.1 hw9.2.1 hw9.2.2 ic_S in_S iw_S rfl hd_S_init rfl rfl ⟨(Nat.le_of_ble_eq_true rfl), (Nat.le_of_ble_eq_true rfl)⟩ (Nat.le_of_ble_eq_true rfl) ⟨by show _ ≤ 66; omega, by show _ ≤ 1112; omega⟩ dT_init_51 rfl) C hw (fun E ce q9 w1 H locs hp hw h1 h2 h3 => ?_) (fun v w1 H locs hp hw => ?_)
      · exact hp.elim
      obtain ⟨rfl, y2, rfl⟩ := hp
      dsimp only [Option.toList_some, Option.toList_none, List.nil_append]
      refine q_astq C hw 1 1 kS rfl rfl (List.mem_append_right _ List.mem_cons_self) rfl rfl (by omega) (by omega) dT_init_54 (fun H locs hw => ?_)
      refine q_inc hx hb hl dT_init_55 rfl (by decide) (fun ls hl => ?_)
      refine lv_goto (tgt := 33) hx hb dT_init_58 (by decide) ?_
      refine ih (t + 1) _ _ _ sa (up a1 t q) (up a2 t y2) _ _ (by omega) (by omega) (by omega) hl ?_
      rw [← fo_up, f2_up]
      exact hw
  refine q_aload_n hx hb hl dT_init_0 rfl ?_
  refine q_obj C hl ob_T dT_init_1 (by decide) (by decide) ?_
  refine q_aload_n hx hb hl dT_init_4 rfl ?_
  refine lv_iconst (v := -1) hx hb dT_init_5 (by decide) ?_
  refine pN C hw 0 kT 6 rfl rfl iT tT_ok nT (by decide) l_T_9 (fT_same 6 (by decide) _) rfl (tT_ok 6 (by decide)) rfl rfl (by simp [zT]) dT_init_6 (fun H locs hw => ?_)
  refine q_aload_n hx hb hl dT_init_9 rfl ?_
  refine lv_iconst (v := -1) hx hb dT_init_10 (by decide) ?_
  refine pN C hw 0 kT 7 rfl rfl iT tT_ok nT (by decide) l_T_13 (fT_same 7 (by decide) _) rfl (tT_ok 7 (by decide)) rfl rfl (by simp [zT]) dT_init_11 (fun H locs hw => ?_)
  refine q_aload_n hx hb hl dT_init_14 rfl ?_
  refine lv_iconst (v := 1) hx hb dT_init_15 (by decide) ?_
  refine q_iload_n hx hb hl dT_init_16 rfl ?_
  refine lv_iconst (v := 1) hx hb dT_init_17 (by decide) ?_
  refine lv_isub hx hb dT_init_18 ?_
  refine lv_bipush (v := 16) hx hb dT_init_19 (by decide) ?_
  refine tc_E (tc_S C hl (c_fmod l hst D ct _ _ (x1 - 1)) hw.1 hw.2.1 hw.2.2 g_T_16 hd_J_floorMod rfl rfl ⟨(Nat.le_of_ble_eq_true rfl), (Nat.le_of_ble_eq_true rfl)⟩ (Nat.le_of_ble_eq_true rfl) ⟨(Nat.le_of_ble_eq_true rfl), (Nat.le_of_ble_eq_true rfl)⟩ dT_init_21 rfl) C hw (fun E ce q9 w1 H locs hp hw h1 h2 h3 => ?_) (fun v w1 H locs hp hw => ?_)
  · exact hp.elim
  obtain ⟨rfl, rfl⟩ := hp
  dsimp only [Option.toList_some, Option.toList_none, List.cons_append, List.nil_append]
  refine lv_iadd hx hb dT_init_24 ?_
  refine nw_q (ti := 1) (k := N) C hw rfl nk_S.1 aoS hf (by omega) (Nat.le_of_ble_eq_true rfl) (by show 0 + 0 + N ≤ 1112; omega) dT_init_25 (fun sa H hw => ?_)
  refine pF C hin hw 0 kT 0 rfl rfl iT tT_ok nT (by decide) l_T_24 (fT_same 0 (by decide) _) ⟨rfl, rfl⟩ (tT_ok 0 (by decide)) rfl rfl (by simp [zT]) dT_init_28 (fun H locs hw => ?_)
  refine lv_iconst (v := 0) hx hb dT_init_31 (by decide) ?_
  refine q_istore_n hx hb hl dT_init_32 (by decide) (fun ls hl => ?_)
  rw [fo_0 (fun _ => 0)] at hw
  exact L33 N 0 _ _ _ sa (fun _ => 0) (fun _ => 0) _ _ (by omega) (by omega) (by omega) hl hw
