def zS : List Value := [.null, .int 0, .int 0, .int 0, .int 0, .int 0, .int 0, .int 0, .int 0, .int 0]
def qS (b : Nat) : List Value := [.ref b, .int 0, .int 0, .int 0, .int 0, .int 0, .int 0, .int 0, .int 0, .int 0]
def zL : List Value := [.null, .null, .null, .int 0]
def qL (a b c : Nat) : List Value := [.ref a, .ref b, .ref c, .int 0]
def zT : List Value := [.null, .null, .int 0, .int 0, .int 0, .int 0, .int 0, .int 0, .int 0, .int 0, .int 0, .int 0, .int 0]
def qT (a b : Value) (x : Int32) : List Value := [a, b, .int 0, .int 0, .int 0, .int x, .int (-1), .int (-1), .int 0, .int 0, .int 0, .int 0, .int 0]
abbrev e0 (ct : Ct) (n : Nat) : va_E := eI (ct 0) n (fun _ => 0)
def g2 (ct : Ct) (a1 a2 : Nat → Nat) (i : Nat) : va_W := [(a1 i, .inr (kS, qS (a2 i))), (a2 i, e0 ct 16)]
def f2 (ct : Ct) (a1 a2 : Nat → Nat) (n : Nat) : va_W := (List.range n).flatMap (g2 ct a1 a2)
def g4 (ct : Ct) (b1 b2 b3 b4 : Nat → Nat) (i : Nat) : va_W := [(b1 i, .inr (kL, qL (b2 i) (b3 i) (b4 i))), (b2 i, e0 ct 32), (b3 i, e0 ct 32), (b4 i, eI (ct 0) 16 (fun _ => 32))]
def f4 (ct : Ct) (b1 b2 b3 b4 : Nat → Nat) (n : Nat) : va_W := (List.range n).flatMap (g4 ct b1 b2 b3 b4)
def up (a : Nat → Nat) (t v : Nat) : Nat → Nat := fun i => if i = t then v else a i
theorem up_eq (a : Nat → Nat) (t v : Nat) : up a t v t = v := if_pos rfl
theorem up_ne {a : Nat → Nat} {t v i : Nat} (h : i ≠ t) : up a t v i = a i := if_neg h
theorem fm_congr {α β : Type} {f g : α → List β} {l : List α} (h : ∀ x ∈ l, f x = g x) : l.flatMap f = l.flatMap g := by
  induction l with
  | nil => rfl
  | cons a r ih => rw [List.flatMap_cons, List.flatMap_cons, h a List.mem_cons_self, ih (fun x hx => h x (List.mem_cons_of_mem _ hx))]
theorem f2_up (ct : Ct) (a1 a2 : Nat → Nat) (t v w : Nat) : f2 ct (up a1 t v) (up a2 t w) (t + 1) = f2 ct a1 a2 t ++ [(v, .inr (kS, qS w)), (w, e0 ct 16)] := by
  unfold f2
  rw [List.range_succ, List.flatMap_append]
  congr 1
  · refine fm_congr (fun i hi => ?_)
    have : i ≠ t := by have := List.mem_range.mp hi; omega
    simp [g2, up_ne this]
  · simp [g2, up_eq]
theorem f4_up (ct : Ct) (b1 b2 b3 b4 : Nat → Nat) (t v1 v2 v3 v4 : Nat) : f4 ct (up b1 t v1) (up b2 t v2) (up b3 t v3) (up b4 t v4) (t + 1) = f4 ct b1 b2 b3 b4 t ++ [(v1, .inr (kL, qL v2 v3 v4)), (v2, e0 ct 32), (v3, e0 ct 32), (v4, eI (ct 0) 16 (fun _ => 32))] := by
  unfold f4
  rw [List.range_succ, List.flatMap_append]
  congr 1
  · refine fm_congr (fun i hi => ?_)
    have : i ≠ t := by have := List.mem_range.mp hi; omega
    simp [g4, up_ne this]
  · simp [g4, up_eq]
def fo (a : Nat → Nat) (t : Nat) : Nat → Option Nat := fun i => if i < t then some (a i) else none
theorem fo_up (a : Nat → Nat) (t v : Nat) : va_up (fo a t) t (some v) = fo (up a t v) (t + 1) := by
  funext i
  unfold va_up fo up
  rcases Nat.lt_trichotomy i t with h | h | h
  · rw [if_neg (by omega), if_pos h, if_pos (by omega), if_neg (by omega)]
  · subst h; simp
  · rw [if_neg (by omega), if_neg (by omega), if_neg (by omega)]
def fi (t : Nat) (v : Int32) : Nat → Int32 := fun i => if i < t then v else 0
theorem fi_up (t : Nat) (v : Int32) : upd (fi t v) t v = fi (t + 1) v := by
  funext i
  unfold upd fi
  rcases Nat.lt_trichotomy i t with h | h | h
  · rw [if_neg (by omega), if_pos h, if_pos (by omega)]
  · subst h; simp
  · rw [if_neg (by omega), if_neg (by omega), if_neg (by omega)]
theorem fi_0 (v : Int32) : (fun _ => 0) = fi 0 v := by funext i; simp [fi]
theorem fo_0 (a : Nat → Nat) : (fun _ => none) = fo a 0 := by funext i; simp [fo]
set_option maxHeartbeats 4000000 in
set_option maxRecDepth 100000 in
theorem c_Sinit (l : Launch) (hst : l.stackTraces = false) (D : va_G) (ct : Ct) (h sz : Nat) : Kt l yS_init cS_init 1 none (rk 1 1 16) 1 16 D ct [.ref h] sz [(h, .inr (kS, zS))] (fun v w => v = none ∧ ∃ b, w = [(h, .inr (kS, qS b)), (b, e0 ct 16)]) (fun _ _ => False) := by
  refine kt_ofI hst (by decide) (Nat.le_of_ble_eq_true rfl) (by simp [Value.category]) ?_
  intro p e s m args below meth c A ls C hin hr hw hl Q hQ
  have hx := C.1
  have hb := C.2.1
  refine q_aload_n hx hb hl dS_init_0 rfl ?_
  refine q_obj C hl ob_S dS_init_1 (by decide) (by decide) ?_
  refine q_aload_n hx hb hl dS_init_4 rfl ?_
  refine lv_bipush (v := 16) hx hb dS_init_5 (by decide) ?_
  refine nw_i (k := 16) C hw rfl (by decide) (Nat.le_of_ble_eq_true rfl) (Nat.le_of_ble_eq_true rfl) dS_init_7 (fun b H hw => ?_)
  refine pF C hin hw 0 kS 0 rfl rfl iS tS_ok nS (by decide) l_S_9 (fS_same 0 (by decide) _) ⟨rfl, rfl⟩ (tS_ok 0 (by decide)) rfl rfl (by decide) dS_init_9 (fun H locs hw => ?_)
  exact tr_v hQ C hw hr (Nat.le_of_ble_eq_true rfl) (Nat.le_of_ble_eq_true rfl) dS_init_12 ⟨rfl, b, rfl⟩
set_option maxHeartbeats 4000000 in
set_option maxRecDepth 100000 in
theorem c_Linit (l : Launch) (hst : l.stackTraces = false) (D : va_G) (ct : Ct) (h sz : Nat) : Kt l yL_init cL_init 2 none (rk 1 3 80) 3 80 D ct [.ref h] sz [(h, .inr (kL, zL))] (fun v w => v = none ∧ ∃ b1 b2 b3, w = [(h, .inr (kL, qL b1 b2 b3)), (b1, e0 ct 32), (b2, e0 ct 32), (b3, eI (ct 0) 16 (fun _ => 32))]) (fun _ _ => False) := by
  refine kt_ofI hst (by decide) (Nat.le_of_ble_eq_true rfl) (by simp [Value.category]) ?_
  intro p e s m args below meth c A ls C hin hr hw hl Q hQ
  have hx := C.1
  have hb := C.2.1
  have L30 : ∀ n t (H : Heap) (locs : List Loc) (ls : Array Slot) (b1 b2 b3 : Nat), n + t = 16 → lq ls 2 [some (.ref h), some (.int (nI t))] → wl D A s [(h, .inr (kL, qL b1 b2 b3)), (b1, e0 ct 32), (b2, e0 ct 32), (b3, eI (ct 0) 16 (fi t 32))] H locs → W p l e (rk 1 3 80) s m args below meth c H locs 3 80 Q (F0 m 30 ls []) := by
    intro n
    induction n with
    | zero =>
      intro t H locs ls b1 b2 b3 ht hl hw
      obtain rfl : t = 16 := by omega
      refine q_iload_n hx hb hl dL_init_30 rfl ?_
      refine q_aload_n hx hb hl dL_init_31 rfl ?_
      refine gO C hw 0 kL 2 rfl rfl iL (by decide) l_L_18 (fL_same 2 (by decide) _) rfl dL_init_32 ?_
      refine q_alen C hw 3 0 rfl rfl dL_init_35 ?_
      refine lv_icmp_ge (tgt := 53) hx hb dL_init_36 (by decide) (fun _ => ?_) (fun q9 => absurd (by decide) q9)
      have hw2 := wl_arr hw 3 (y := (16, .inl (fun _ => 32))) rfl (by rw [vp_cell_i, vp_cell_i]; exact arrV_eq (fun i hi => by simp [fi, hi]))
      exact tr_v hQ C hw2 hr (Nat.le_of_ble_eq_true rfl) (Nat.le_of_ble_eq_true rfl) dL_init_53 ⟨rfl, b1, b2, b3, rfl⟩
    | succ n ih =>
      intro t H locs ls b1 b2 b3 ht hl hw
      refine q_iload_n hx hb hl dL_init_30 rfl ?_
      refine q_aload_n hx hb hl dL_init_31 rfl ?_
      refine gO C hw 0 kL 2 rfl rfl iL (by decide) l_L_18 (fL_same 2 (by decide) _) rfl dL_init_32 ?_
      refine q_alen C hw 3 0 rfl rfl dL_init_35 ?_
      refine lv_icmp_ge (tgt := 53) hx hb dL_init_36 (by decide) (fun q9 => absurd q9 (nI_ge (b := 16) (by omega) (by decide))) (fun _ => ?_)
      refine q_aload_n hx hb hl dL_init_39 rfl ?_
      refine gO C hw 0 kL 2 rfl rfl iL (by decide) l_L_18 (fL_same 2 (by decide) _) rfl dL_init_40 ?_
      refine q_iload_n hx hb hl dL_init_43 rfl ?_
      refine lv_bipush (v := 32) hx hb dL_init_44 (by decide) ?_
      refine q_iast C hw 3 rfl rfl (by omega) (by decide) dL_init_46 (fun H locs hw => ?_)
      refine q_inc hx hb hl dL_init_47 rfl (by decide) (fun ls hl => ?_)
      refine lv_goto (tgt := 30) hx hb dL_init_50 (by decide) ?_
      rw [fi_up] at hw
      exact ih (t + 1) H locs ls b1 b2 b3 (by omega) hl hw
  refine q_aload_n hx hb hl dL_init_0 rfl ?_
  refine q_obj C hl ob_L dL_init_1 (by decide) (by decide) ?_
  refine q_aload_n hx hb hl dL_init_4 rfl ?_
  refine lv_bipush (v := 32) hx hb dL_init_5 (by decide) ?_
  refine nw_i (k := 32) C hw rfl (by decide) (Nat.le_of_ble_eq_true rfl) (Nat.le_of_ble_eq_true rfl) dL_init_7 (fun b1 H hw => ?_)
  refine pF C hin hw 0 kL 0 rfl rfl iL tL_ok nL_ (by decide) l_L_9 (fL_same 0 (by decide) _) ⟨rfl, rfl⟩ (tL_ok 0 (by decide)) rfl rfl (by simp [zL]) dL_init_9 (fun H locs hw => ?_)
  refine q_aload_n hx hb hl dL_init_12 rfl ?_
  refine lv_bipush (v := 32) hx hb dL_init_13 (by decide) ?_
  refine nw_i (k := 32) C hw rfl (by decide) (Nat.le_of_ble_eq_true rfl) (Nat.le_of_ble_eq_true rfl) dL_init_15 (fun b2 H hw => ?_)
  refine pF C hin hw 0 kL 1 rfl rfl iL tL_ok nL_ (by decide) l_L_15 (fL_same 1 (by decide) _) ⟨rfl, rfl⟩ (tL_ok 1 (by decide)) rfl rfl (by simp [zL]) dL_init_17 (fun H locs hw => ?_)
  refine q_aload_n hx hb hl dL_init_20 rfl ?_
  refine lv_bipush (v := 16) hx hb dL_init_21 (by decide) ?_
  refine nw_i (k := 16) C hw rfl (by decide) (Nat.le_of_ble_eq_true rfl) (Nat.le_of_ble_eq_true rfl) dL_init_23 (fun b3 H hw => ?_)
  refine pF C hin hw 0 kL 2 rfl rfl iL tL_ok nL_ (by decide) l_L_18 (fL_same 2 (by decide) _) ⟨rfl, rfl⟩ (tL_ok 2 (by decide)) rfl rfl (by simp [zL]) dL_init_25 (fun H locs hw => ?_)
  refine lv_iconst (v := 0) hx hb dL_init_28 (by decide) ?_
  refine q_istore_n hx hb hl dL_init_29 (by decide) (fun ls hl => ?_)
  rw [show (eI (ct 0) 16 (fun _ => 0) : va_E) = eI (ct 0) 16 (fi 0 32) by rw [← fi_0]] at hw
  exact L30 16 0 _ _ _ b1 b2 b3 rfl hl hw
set_option maxHeartbeats 4000000 in
set_option maxRecDepth 100000 in
theorem c_fmod (l : Launch) (hst : l.stackTraces = false) (D : va_G) (ct : Ct) (w0 : va_W) (sz : Nat) (a : Int32) : Kt l yJ_floorMod cJ_floorMod 3 (some .int) (r0 0) 0 0 D ct [.int a, .int 16] sz w0 (fun v w => v = some (.int (fmod a)) ∧ w = w0) (fun _ _ => False) := by
  refine kt_ofJ hst (by decide +kernel) (Nat.le_of_ble_eq_true rfl) (by simp [Value.category]) ?_
  intro p e s m args below meth c A ls C hne hr hw hl Q hQ
  have hx := C.1
  have hb := C.2.1
  refine q_iload_n hx hb hl dJ_floorMod_0 rfl ?_
  refine q_iload_n hx hb hl dJ_floorMod_1 rfl ?_
  refine lv_irem hx hb dJ_floorMod_2 (by decide) ?_
  refine q_istore_n hx hb hl dJ_floorMod_3 (by decide) (fun ls hl => ?_)
  refine q_iload_n hx hb hl dJ_floorMod_4 rfl ?_
  refine q_iload_n hx hb hl dJ_floorMod_5 rfl ?_
  refine lv_ixor hx hb dJ_floorMod_6 ?_
  refine lv_if_ge (tgt := 18) hx hb dJ_floorMod_7 (by decide) (fun c1 => ?_) (fun c1 => ?_)
  · refine q_iload_n hx hb hl dJ_floorMod_18 rfl ?_
    exact tr_i hQ C hw hr (Nat.le_of_ble_eq_true rfl) (Nat.le_of_ble_eq_true rfl) dJ_floorMod_19 ⟨by rw [fmod, if_pos c1], rfl⟩
  · refine q_iload_n hx hb hl dJ_floorMod_10 rfl ?_
    refine lv_if_eq (tgt := 18) hx hb dJ_floorMod_11 (by decide) (fun c2 => ?_) (fun c2 => ?_)
    · refine q_iload_n hx hb hl dJ_floorMod_18 rfl ?_
      exact tr_i hQ C hw hr (Nat.le_of_ble_eq_true rfl) (Nat.le_of_ble_eq_true rfl) dJ_floorMod_19 ⟨by rw [fmod, if_neg c1, if_pos c2], rfl⟩
    · refine q_iload_n hx hb hl dJ_floorMod_14 rfl ?_
      refine q_iload_n hx hb hl dJ_floorMod_15 rfl ?_
      refine lv_iadd hx hb dJ_floorMod_16 ?_
      exact tr_i hQ C hw hr (Nat.le_of_ble_eq_true rfl) (Nat.le_of_ble_eq_true rfl) dJ_floorMod_17 ⟨by rw [fmod, if_neg c1, if_neg c2], rfl⟩
