section Cases
variable {p : Program} {l : Launch} {e : Env} {s : State} {m : MethodId} {below : List Frame} {meth : Method} {c : Code} {H : Heap} {locs : List Loc} {cells slots : Nat} {Q : State → Prop} {ls : Array Slot} {ct : Ct} {D : va_G} {A : Nat → Prop} {b L o N mm i : Nat} {xs : Nat → Int32} {ad : Ad} {am : Nat → Nat} {σ : St} {f : Nat → Int64} {th : Int32}

set_option maxHeartbeats 4000000 in
set_option maxRecDepth 100000 in
theorem k_rule (C : cx p l s m #[Value.ref b] meth c cW_law 7 "ThreadSlotsLaw" ct D A) (hst : l.stackTraces = false) (hL : L ≤ 2050) (hX : va_X b L xs s s.heap) (hbl : b < s.heap.size) (hbA : ¬ A b) (hN : N ≤ 16) (h0 : 0 < N) (hmm : mm < 2 ^ 29) (hI : Iv N mm σ) (hi : i + 4 ≤ L) (hc : cells + 1 ≤ 601024) (hs : slots + 6 ≤ 7293000) (hl : lq ls 7 [some (.ref b), some (.ref (ad 0 0)), some (.ref (am 0)), some (.ref o), some (.int (nI i)), none, none]) (hw : wl D A s ((wT ct ad N σ ++ [(o, eJ (ct 3) f)]) ++ wM ct am N th σ) H locs)
    (nx : ∀ (H : Heap) (locs : List Loc) (ls : Array Slot) (f : Nat → Int64) (th : Int32) (σ' : St) (cells' slots' : Nat), cells' ≤ cells + 1 → slots' ≤ slots + 6 → Iv N (mm + 2000) σ' → lq ls 7 [some (.ref b), some (.ref (ad 0 0)), some (.ref (am 0)), some (.ref o), some (.int (nI i)), none, none] → wl D A s ((wT ct ad N σ' ++ [(o, eJ (ct 3) f)]) ++ wM ct am N th σ') H locs → W p l e room_1 s m #[Value.ref b] below meth c H locs cells' slots' Q (F0 m 1269 ls [])) : W p l e room_1 s m #[Value.ref b] below meth c H locs cells slots Q (F0 m 144 ls []) := by
  have hx := C.1
  have hb := C.2.1
  refine q_aload_n hx hb hl dW_law_144 rfl ?_
  refine q_aload_n hx hb hl dW_law_145 rfl ?_
  refine q_iload hx hb hl dW_law_146 rfl ?_
  refine lv_iconst (v := 1) hx hb dW_law_148 (by decide) ?_
  refine lv_iadd hx hb dW_law_149 ?_
  refine q_scr C hw hL hX hbl hbA (k := i + 1) (by omega) (nI_add i 1) dW_law_150 ?_
  refine q_aload_n hx hb hl dW_law_151 rfl ?_
  have hw9 := wl_L hw
  refine tc_L (tc_SH C hl (z_rule l hst D ct ad N hN h0 σ mm hmm hI o f (xs (i + 1)) _) hw9.1 hw9.2.1 hw9.2.2 g_W_79 hd_W_rule rfl rfl ⟨(Nat.le_of_ble_eq_true rfl), (Nat.le_of_ble_eq_true rfl)⟩ (Nat.le_of_ble_eq_true rfl) ⟨by show _ ≤ 601024; omega, by show _ ≤ 7293000; omega⟩ dW_law_152 rfl) C hw (fun E ce q9 w1 H locs hp hw h1 h2 h3 => ?_) (fun v w1 H locs hp hw => ?_)
  · exact hp.elim
  obtain ⟨k, B, g, σ', rfl, rfl, hg, hI9, hm⟩ := hp
  dsimp only [Option.toList_some, List.cons_append, List.nil_append]
  refine q_istore hx hb hl dW_law_155 (by decide) (fun ls hl => ?_)
  refine q_aload_n hx hb hl dW_law_157 rfl ?_
  refine q_aload_n hx hb hl dW_law_158 rfl ?_
  refine q_iload hx hb hl dW_law_159 rfl ?_
  refine lv_iconst (v := 1) hx hb dW_law_161 (by decide) ?_
  refine lv_iadd hx hb dW_law_162 ?_
  refine q_scr C hw hL hX hbl hbA (k := i + 1) (by omega) (nI_add i 1) dW_law_163 ?_
  replace hw := wl_perm hw List.perm_append_comm
  have hw9 := wl_L hw
  refine tc_L (tc_V C hl (hm am th _) hw9.1 hw9.2.1 hw9.2.2 g_W_82 (re_M C hw9) hv_M_rule rfl rfl ⟨(Nat.le_of_ble_eq_true rfl), (Nat.le_of_ble_eq_true rfl)⟩ (Nat.le_of_ble_eq_true rfl) ⟨by show _ ≤ 601024; omega, by show _ ≤ 7293000; omega⟩ dW_law_164 rfl) C hw (fun E ce q9 w1 H locs hp hw h1 h2 h3 => ?_) (fun v w1 H locs hp hw => ?_)
  · exact hp.elim
  obtain ⟨rfl, rfl⟩ := hp
  dsimp only [Option.toList_some, List.cons_append, List.nil_append]
  refine q_istore hx hb hl dW_law_167 (by decide) (fun ls hl => ?_)
  refine q_aload_n hx hb hl dW_law_169 rfl ?_
  have hw9 := wl_L hw
  refine tc_L (tc_V C hl (m_thrown l hst D ct am N hN h0 k σ' _) hw9.1 hw9.2.1 hw9.2.2 g_W_83 (re_M C hw9) hv_M_thrown rfl rfl ⟨(Nat.le_of_ble_eq_true rfl), (Nat.le_of_ble_eq_true rfl)⟩ (Nat.le_of_ble_eq_true rfl) ⟨by show _ ≤ 601024; omega, by show _ ≤ 7293000; omega⟩ dW_law_170 rfl) C hw (fun E ce q9 w1 H locs hp hw h1 h2 h3 => ?_) (fun v w1 H locs hp hw => ?_)
  · exact hp.elim
  obtain ⟨rfl, rfl⟩ := hp
  dsimp only [Option.toList_some, List.cons_append, List.nil_append]
  refine q_iload hx hb hl dW_law_173 rfl ?_
  refine lv_icmp_eq (tgt := 180) hx hb dW_law_175 (by decide) (fun _ => ?_) (fun q9 => absurd rfl q9)
  refine q_iload hx hb hl dW_law_180 rfl ?_
  refine lv_if_ne (tgt := 197) hx hb dW_law_182 (by decide) (fun c1 => ?_) (fun c1 => ?_)
  · refine lv_goto (tgt := 1269) hx hb dW_law_197 (by decide) ?_
    exact nx _ _ _ g k σ' _ _ (by omega) (by omega) hI9 ((hl.drop 5).drop 6) (wl_perm hw List.perm_append_comm)
  · refine q_aload_n hx hb hl dW_law_185 rfl ?_
    refine lv_iconst (v := 0) hx hb dW_law_186 (by decide) ?_
    refine q_lald C hw (List.mem_append_right _ (List.mem_append_right _ List.mem_cons_self)) dW_law_187 ?_
    refine q_iload hx hb hl dW_law_188 rfl ?_
    refine lv_i2l hx hb dW_law_190 rfl ?_
    refine q_lcmpE hx hb (hg c1) dW_law_191 ?_
    refine lv_if_eq (tgt := 197) hx hb dW_law_192 (by decide) (fun _ => ?_) (fun q9 => absurd rfl q9)
    refine lv_goto (tgt := 1269) hx hb dW_law_197 (by decide) ?_
    exact nx _ _ _ g k σ' _ _ (by omega) (by omega) hI9 ((hl.drop 5).drop 6) (wl_perm hw List.perm_append_comm)

set_option maxHeartbeats 4000000 in
set_option maxRecDepth 100000 in
theorem k_bound (C : cx p l s m #[Value.ref b] meth c cW_law 7 "ThreadSlotsLaw" ct D A) (hst : l.stackTraces = false) (hL : L ≤ 2050) (hX : va_X b L xs s s.heap) (hbl : b < s.heap.size) (hbA : ¬ A b) (hN : N ≤ 16) (h0 : 0 < N) (hmm : mm < 2 ^ 29) (hI : Iv N mm σ) (hi : i + 4 ≤ L) (hc : cells + 1 ≤ 601024) (hs : slots + 6 ≤ 7293000) (hl : lq ls 7 [some (.ref b), some (.ref (ad 0 0)), some (.ref (am 0)), some (.ref o), some (.int (nI i)), none, none]) (hw : wl D A s ((wT ct ad N σ ++ [(o, eJ (ct 3) f)]) ++ wM ct am N th σ) H locs)
    (nx : ∀ (H : Heap) (locs : List Loc) (ls : Array Slot) (f : Nat → Int64) (th : Int32) (σ' : St) (cells' slots' : Nat), cells' ≤ cells + 1 → slots' ≤ slots + 6 → Iv N (mm + 2000) σ' → lq ls 7 [some (.ref b), some (.ref (ad 0 0)), some (.ref (am 0)), some (.ref o), some (.int (nI i)), none, none] → wl D A s ((wT ct ad N σ' ++ [(o, eJ (ct 3) f)]) ++ wM ct am N th σ') H locs → W p l e room_1 s m #[Value.ref b] below meth c H locs cells' slots' Q (F0 m 1269 ls [])) : W p l e room_1 s m #[Value.ref b] below meth c H locs cells slots Q (F0 m 200 ls []) := by
  have hx := C.1
  have hb := C.2.1
  refine q_aload_n hx hb hl dW_law_200 rfl ?_
  refine q_aload_n hx hb hl dW_law_201 rfl ?_
  refine q_iload hx hb hl dW_law_202 rfl ?_
  refine lv_iconst (v := 1) hx hb dW_law_204 (by decide) ?_
  refine lv_iadd hx hb dW_law_205 ?_
  refine q_scr C hw hL hX hbl hbA (k := i + 1) (by omega) (nI_add i 1) dW_law_206 ?_
  refine q_aload_n hx hb hl dW_law_207 rfl ?_
  have hw9 := wl_L hw
  refine tc_L (tc_SH C hl (z_bound l hst D ct ad N hN h0 σ mm hmm hI o f (xs (i + 1)) _) hw9.1 hw9.2.1 hw9.2.2 g_W_87 hd_W_bound rfl rfl ⟨(Nat.le_of_ble_eq_true rfl), (Nat.le_of_ble_eq_true rfl)⟩ (Nat.le_of_ble_eq_true rfl) ⟨by show _ ≤ 601024; omega, by show _ ≤ 7293000; omega⟩ dW_law_208 rfl) C hw (fun E ce q9 w1 H locs hp hw h1 h2 h3 => ?_) (fun v w1 H locs hp hw => ?_)
  · exact hp.elim
  obtain ⟨k, B, g, σ', rfl, rfl, hg, hI9, hm⟩ := hp
  dsimp only [Option.toList_some, List.cons_append, List.nil_append]
  refine q_istore hx hb hl dW_law_211 (by decide) (fun ls hl => ?_)
  refine q_aload_n hx hb hl dW_law_213 rfl ?_
  refine q_aload_n hx hb hl dW_law_214 rfl ?_
  refine q_iload hx hb hl dW_law_215 rfl ?_
  refine lv_iconst (v := 1) hx hb dW_law_217 (by decide) ?_
  refine lv_iadd hx hb dW_law_218 ?_
  refine q_scr C hw hL hX hbl hbA (k := i + 1) (by omega) (nI_add i 1) dW_law_219 ?_
  replace hw := wl_perm hw List.perm_append_comm
  have hw9 := wl_L hw
  refine tc_L (tc_V C hl (hm am th _) hw9.1 hw9.2.1 hw9.2.2 g_W_89 (re_M C hw9) hv_M_bound rfl rfl ⟨(Nat.le_of_ble_eq_true rfl), (Nat.le_of_ble_eq_true rfl)⟩ (Nat.le_of_ble_eq_true rfl) ⟨by show _ ≤ 601024; omega, by show _ ≤ 7293000; omega⟩ dW_law_220 rfl) C hw (fun E ce q9 w1 H locs hp hw h1 h2 h3 => ?_) (fun v w1 H locs hp hw => ?_)
  · exact hp.elim
  obtain ⟨rfl, rfl⟩ := hp
  dsimp only [Option.toList_some, List.cons_append, List.nil_append]
  refine q_istore hx hb hl dW_law_223 (by decide) (fun ls hl => ?_)
  refine q_aload_n hx hb hl dW_law_225 rfl ?_
  have hw9 := wl_L hw
  refine tc_L (tc_V C hl (m_thrown l hst D ct am N hN h0 k σ' _) hw9.1 hw9.2.1 hw9.2.2 g_W_83 (re_M C hw9) hv_M_thrown rfl rfl ⟨(Nat.le_of_ble_eq_true rfl), (Nat.le_of_ble_eq_true rfl)⟩ (Nat.le_of_ble_eq_true rfl) ⟨by show _ ≤ 601024; omega, by show _ ≤ 7293000; omega⟩ dW_law_226 rfl) C hw (fun E ce q9 w1 H locs hp hw h1 h2 h3 => ?_) (fun v w1 H locs hp hw => ?_)
  · exact hp.elim
  obtain ⟨rfl, rfl⟩ := hp
  dsimp only [Option.toList_some, List.cons_append, List.nil_append]
  refine q_iload hx hb hl dW_law_229 rfl ?_
  refine lv_icmp_eq (tgt := 236) hx hb dW_law_231 (by decide) (fun _ => ?_) (fun q9 => absurd rfl q9)
  refine q_iload hx hb hl dW_law_236 rfl ?_
  refine lv_if_ne (tgt := 253) hx hb dW_law_238 (by decide) (fun c1 => ?_) (fun c1 => ?_)
  · refine lv_goto (tgt := 1269) hx hb dW_law_253 (by decide) ?_
    exact nx _ _ _ g k σ' _ _ (by omega) (by omega) hI9 ((hl.drop 5).drop 6) (wl_perm hw List.perm_append_comm)
  · refine q_aload_n hx hb hl dW_law_241 rfl ?_
    refine lv_iconst (v := 0) hx hb dW_law_242 (by decide) ?_
    refine q_lald C hw (List.mem_append_right _ (List.mem_append_right _ List.mem_cons_self)) dW_law_243 ?_
    refine q_iload hx hb hl dW_law_244 rfl ?_
    refine lv_i2l hx hb dW_law_246 rfl ?_
    refine q_lcmpE hx hb (hg c1) dW_law_247 ?_
    refine lv_if_eq (tgt := 253) hx hb dW_law_248 (by decide) (fun _ => ?_) (fun q9 => absurd rfl q9)
    refine lv_goto (tgt := 1269) hx hb dW_law_253 (by decide) ?_
    exact nx _ _ _ g k σ' _ _ (by omega) (by omega) hI9 ((hl.drop 5).drop 6) (wl_perm hw List.perm_append_comm)

set_option maxHeartbeats 4000000 in
set_option maxRecDepth 100000 in
theorem k_cost (C : cx p l s m #[Value.ref b] meth c cW_law 7 "ThreadSlotsLaw" ct D A) (hst : l.stackTraces = false) (hL : L ≤ 2050) (hX : va_X b L xs s s.heap) (hbl : b < s.heap.size) (hbA : ¬ A b) (hN : N ≤ 16) (h0 : 0 < N) (hmm : mm < 2 ^ 29) (hI : Iv N mm σ) (hi : i + 4 ≤ L) (hc : cells + 1 ≤ 601024) (hs : slots + 6 ≤ 7293000) (hl : lq ls 7 [some (.ref b), some (.ref (ad 0 0)), some (.ref (am 0)), some (.ref o), some (.int (nI i)), none, none]) (hw : wl D A s ((wT ct ad N σ ++ [(o, eJ (ct 3) f)]) ++ wM ct am N th σ) H locs)
    (nx : ∀ (H : Heap) (locs : List Loc) (ls : Array Slot) (f : Nat → Int64) (th : Int32) (σ' : St) (cells' slots' : Nat), cells' ≤ cells + 1 → slots' ≤ slots + 6 → Iv N (mm + 2000) σ' → lq ls 7 [some (.ref b), some (.ref (ad 0 0)), some (.ref (am 0)), some (.ref o), some (.int (nI i)), none, none] → wl D A s ((wT ct ad N σ' ++ [(o, eJ (ct 3) f)]) ++ wM ct am N th σ') H locs → W p l e room_1 s m #[Value.ref b] below meth c H locs cells' slots' Q (F0 m 1269 ls [])) : W p l e room_1 s m #[Value.ref b] below meth c H locs cells slots Q (F0 m 256 ls []) := by
  have hx := C.1
  have hb := C.2.1
  refine q_aload_n hx hb hl dW_law_256 rfl ?_
  refine q_aload_n hx hb hl dW_law_257 rfl ?_
  refine q_iload hx hb hl dW_law_258 rfl ?_
  refine lv_iconst (v := 1) hx hb dW_law_260 (by decide) ?_
  refine lv_iadd hx hb dW_law_261 ?_
  refine q_scr C hw hL hX hbl hbA (k := i + 1) (by omega) (nI_add i 1) dW_law_262 ?_
  refine q_aload_n hx hb hl dW_law_263 rfl ?_
  have hw9 := wl_L hw
  refine tc_L (tc_SH C hl (z_cost l hst D ct ad N hN h0 σ mm hmm hI o f (xs (i + 1)) _) hw9.1 hw9.2.1 hw9.2.2 g_W_90 hd_W_cost rfl rfl ⟨(Nat.le_of_ble_eq_true rfl), (Nat.le_of_ble_eq_true rfl)⟩ (Nat.le_of_ble_eq_true rfl) ⟨by show _ ≤ 601024; omega, by show _ ≤ 7293000; omega⟩ dW_law_264 rfl) C hw (fun E ce q9 w1 H locs hp hw h1 h2 h3 => ?_) (fun v w1 H locs hp hw => ?_)
  · exact hp.elim
  obtain ⟨k, B, g, σ', rfl, rfl, hg, hI9, hm⟩ := hp
  dsimp only [Option.toList_some, List.cons_append, List.nil_append]
  refine q_istore hx hb hl dW_law_267 (by decide) (fun ls hl => ?_)
  refine q_aload_n hx hb hl dW_law_269 rfl ?_
  refine q_aload_n hx hb hl dW_law_270 rfl ?_
  refine q_iload hx hb hl dW_law_271 rfl ?_
  refine lv_iconst (v := 1) hx hb dW_law_273 (by decide) ?_
  refine lv_iadd hx hb dW_law_274 ?_
  refine q_scr C hw hL hX hbl hbA (k := i + 1) (by omega) (nI_add i 1) dW_law_275 ?_
  replace hw := wl_perm hw List.perm_append_comm
  have hw9 := wl_L hw
  refine tc_L (tc_V C hl (hm am th _) hw9.1 hw9.2.1 hw9.2.2 g_W_92 (re_M C hw9) hv_M_cost rfl rfl ⟨(Nat.le_of_ble_eq_true rfl), (Nat.le_of_ble_eq_true rfl)⟩ (Nat.le_of_ble_eq_true rfl) ⟨by show _ ≤ 601024; omega, by show _ ≤ 7293000; omega⟩ dW_law_276 rfl) C hw (fun E ce q9 w1 H locs hp hw h1 h2 h3 => ?_) (fun v w1 H locs hp hw => ?_)
  · exact hp.elim
  obtain ⟨rfl, rfl⟩ := hp
  dsimp only [Option.toList_some, List.cons_append, List.nil_append]
  refine q_istore hx hb hl dW_law_279 (by decide) (fun ls hl => ?_)
  refine q_aload_n hx hb hl dW_law_281 rfl ?_
  have hw9 := wl_L hw
  refine tc_L (tc_V C hl (m_thrown l hst D ct am N hN h0 k σ' _) hw9.1 hw9.2.1 hw9.2.2 g_W_83 (re_M C hw9) hv_M_thrown rfl rfl ⟨(Nat.le_of_ble_eq_true rfl), (Nat.le_of_ble_eq_true rfl)⟩ (Nat.le_of_ble_eq_true rfl) ⟨by show _ ≤ 601024; omega, by show _ ≤ 7293000; omega⟩ dW_law_282 rfl) C hw (fun E ce q9 w1 H locs hp hw h1 h2 h3 => ?_) (fun v w1 H locs hp hw => ?_)
  · exact hp.elim
  obtain ⟨rfl, rfl⟩ := hp
  dsimp only [Option.toList_some, List.cons_append, List.nil_append]
  refine q_iload hx hb hl dW_law_285 rfl ?_
  refine lv_icmp_eq (tgt := 292) hx hb dW_law_287 (by decide) (fun _ => ?_) (fun q9 => absurd rfl q9)
  refine q_iload hx hb hl dW_law_292 rfl ?_
  refine lv_if_ne (tgt := 309) hx hb dW_law_294 (by decide) (fun c1 => ?_) (fun c1 => ?_)
  · refine lv_goto (tgt := 1269) hx hb dW_law_309 (by decide) ?_
    exact nx _ _ _ g k σ' _ _ (by omega) (by omega) hI9 ((hl.drop 5).drop 6) (wl_perm hw List.perm_append_comm)
  · refine q_aload_n hx hb hl dW_law_297 rfl ?_
    refine lv_iconst (v := 0) hx hb dW_law_298 (by decide) ?_
    refine q_lald C hw (List.mem_append_right _ (List.mem_append_right _ List.mem_cons_self)) dW_law_299 ?_
    refine q_iload hx hb hl dW_law_300 rfl ?_
    refine lv_i2l hx hb dW_law_302 rfl ?_
    refine q_lcmpE hx hb (hg c1) dW_law_303 ?_
    refine lv_if_eq (tgt := 309) hx hb dW_law_304 (by decide) (fun _ => ?_) (fun q9 => absurd rfl q9)
    refine lv_goto (tgt := 1269) hx hb dW_law_309 (by decide) ?_
    exact nx _ _ _ g k σ' _ _ (by omega) (by omega) hI9 ((hl.drop 5).drop 6) (wl_perm hw List.perm_append_comm)

set_option maxHeartbeats 4000000 in
set_option maxRecDepth 100000 in
theorem k_ready (C : cx p l s m #[Value.ref b] meth c cW_law 7 "ThreadSlotsLaw" ct D A) (hst : l.stackTraces = false) (hL : L ≤ 2050) (hX : va_X b L xs s s.heap) (hbl : b < s.heap.size) (hbA : ¬ A b) (hN : N ≤ 16) (h0 : 0 < N) (hmm : mm < 2 ^ 29) (hI : Iv N mm σ) (hi : i + 4 ≤ L) (hc : cells + 1 ≤ 601024) (hs : slots + 6 ≤ 7293000) (hl : lq ls 7 [some (.ref b), some (.ref (ad 0 0)), some (.ref (am 0)), some (.ref o), some (.int (nI i)), none, none]) (hw : wl D A s ((wT ct ad N σ ++ [(o, eJ (ct 3) f)]) ++ wM ct am N th σ) H locs)
    (nx : ∀ (H : Heap) (locs : List Loc) (ls : Array Slot) (f : Nat → Int64) (th : Int32) (σ' : St) (cells' slots' : Nat), cells' ≤ cells + 1 → slots' ≤ slots + 6 → Iv N (mm + 2000) σ' → lq ls 7 [some (.ref b), some (.ref (ad 0 0)), some (.ref (am 0)), some (.ref o), some (.int (nI i)), none, none] → wl D A s ((wT ct ad N σ' ++ [(o, eJ (ct 3) f)]) ++ wM ct am N th σ') H locs → W p l e room_1 s m #[Value.ref b] below meth c H locs cells' slots' Q (F0 m 1269 ls [])) : W p l e room_1 s m #[Value.ref b] below meth c H locs cells slots Q (F0 m 312 ls []) := by
  have hx := C.1
  have hb := C.2.1
  by_cases hz : xs (i + 2) = 0
  · refine q_aload_n hx hb hl dW_law_312 rfl ?_
    refine q_aload_n hx hb hl dW_law_313 rfl ?_
    refine q_iload hx hb hl dW_law_314 rfl ?_
    refine lv_iconst (v := 1) hx hb dW_law_316 (by decide) ?_
    refine lv_iadd hx hb dW_law_317 ?_
    refine q_scr C hw hL hX hbl hbA (k := i + 1) (by omega) (nI_add i 1) dW_law_318 ?_
    refine q_aload_n hx hb hl dW_law_319 rfl ?_
    refine q_iload hx hb hl dW_law_320 rfl ?_
    refine lv_iconst (v := 2) hx hb dW_law_322 (by decide) ?_
    refine lv_iadd hx hb dW_law_323 ?_
    refine q_scr C hw hL hX hbl hbA (k := i + 2) (by omega) (nI_add i 2) dW_law_324 ?_
    refine lv_if_eq (tgt := 332) hx hb dW_law_325 (by decide) (fun _ => ?_) (fun q9 => absurd hz q9)
    refine lv_iconst (v := 0) hx hb dW_law_332 (by decide) ?_
    refine q_aload_n hx hb hl dW_law_333 rfl ?_
    have hw9 := wl_L hw
    refine tc_L (tc_SH C hl (z_ready l hst D ct ad N hN h0 σ mm hmm hI o f (xs (i + 1)) 0 (Or.inl rfl) _) hw9.1 hw9.2.1 hw9.2.2 g_W_93 hd_W_ready rfl rfl ⟨(Nat.le_of_ble_eq_true rfl), (Nat.le_of_ble_eq_true rfl)⟩ (Nat.le_of_ble_eq_true rfl) ⟨by show _ ≤ 601024; omega, by show _ ≤ 7293000; omega⟩ dW_law_334 rfl) C hw (fun E ce q9 w1 H locs hp hw h1 h2 h3 => ?_) (fun v w1 H locs hp hw => ?_)
    · exact hp.elim
    obtain ⟨k, B, g, σ', rfl, rfl, hg, hI9, hm⟩ := hp
    dsimp only [Option.toList_some, List.cons_append, List.nil_append]
    refine q_istore hx hb hl dW_law_337 (by decide) (fun ls hl => ?_)
    refine q_aload_n hx hb hl dW_law_339 rfl ?_
    refine q_aload_n hx hb hl dW_law_340 rfl ?_
    refine q_iload hx hb hl dW_law_341 rfl ?_
    refine lv_iconst (v := 1) hx hb dW_law_343 (by decide) ?_
    refine lv_iadd hx hb dW_law_344 ?_
    refine q_scr C hw hL hX hbl hbA (k := i + 1) (by omega) (nI_add i 1) dW_law_345 ?_
    refine q_aload_n hx hb hl dW_law_346 rfl ?_
    refine q_iload hx hb hl dW_law_347 rfl ?_
    refine lv_iconst (v := 2) hx hb dW_law_349 (by decide) ?_
    refine lv_iadd hx hb dW_law_350 ?_
    refine q_scr C hw hL hX hbl hbA (k := i + 2) (by omega) (nI_add i 2) dW_law_351 ?_
    refine lv_if_eq (tgt := 359) hx hb dW_law_352 (by decide) (fun _ => ?_) (fun q9 => absurd hz q9)
    refine lv_iconst (v := 0) hx hb dW_law_359 (by decide) ?_
    replace hw := wl_perm hw List.perm_append_comm
    have hw9 := wl_L hw
    refine tc_L (tc_V C hl (hm am th _) hw9.1 hw9.2.1 hw9.2.2 g_W_96 (re_M C hw9) hv_M_ready rfl rfl ⟨(Nat.le_of_ble_eq_true rfl), (Nat.le_of_ble_eq_true rfl)⟩ (Nat.le_of_ble_eq_true rfl) ⟨by show _ ≤ 601024; omega, by show _ ≤ 7293000; omega⟩ dW_law_360 rfl) C hw (fun E ce q9 w1 H locs hp hw h1 h2 h3 => ?_) (fun v w1 H locs hp hw => ?_)
    · exact hp.elim
    obtain ⟨rfl, rfl⟩ := hp
    dsimp only [Option.toList_some, List.cons_append, List.nil_append]
    refine q_istore hx hb hl dW_law_363 (by decide) (fun ls hl => ?_)
    refine q_aload_n hx hb hl dW_law_365 rfl ?_
    have hw9 := wl_L hw
    refine tc_L (tc_V C hl (m_thrown l hst D ct am N hN h0 k σ' _) hw9.1 hw9.2.1 hw9.2.2 g_W_83 (re_M C hw9) hv_M_thrown rfl rfl ⟨(Nat.le_of_ble_eq_true rfl), (Nat.le_of_ble_eq_true rfl)⟩ (Nat.le_of_ble_eq_true rfl) ⟨by show _ ≤ 601024; omega, by show _ ≤ 7293000; omega⟩ dW_law_366 rfl) C hw (fun E ce q9 w1 H locs hp hw h1 h2 h3 => ?_) (fun v w1 H locs hp hw => ?_)
    · exact hp.elim
    obtain ⟨rfl, rfl⟩ := hp
    dsimp only [Option.toList_some, List.cons_append, List.nil_append]
    refine q_iload hx hb hl dW_law_369 rfl ?_
    refine lv_icmp_eq (tgt := 376) hx hb dW_law_371 (by decide) (fun _ => ?_) (fun q9 => absurd rfl q9)
    refine q_iload hx hb hl dW_law_376 rfl ?_
    refine lv_if_ne (tgt := 400) hx hb dW_law_378 (by decide) (fun c1 => ?_) (fun c1 => ?_)
    · refine lv_goto (tgt := 1269) hx hb dW_law_400 (by decide) ?_
      exact nx _ _ _ g k σ' _ _ (by omega) (by omega) hI9 ((hl.drop 5).drop 6) (wl_perm hw List.perm_append_comm)
    · refine q_aload_n hx hb hl dW_law_381 rfl ?_
      refine lv_iconst (v := 0) hx hb dW_law_382 (by decide) ?_
      refine q_lald C hw (List.mem_append_right _ (List.mem_append_right _ List.mem_cons_self)) dW_law_383 ?_
      refine q_iload hx hb hl dW_law_384 rfl ?_
      refine lv_if_eq (tgt := 393) hx hb dW_law_386 (by decide) (fun c2 => ?_) (fun c2 => ?_)
      · refine lv_lconst (v := 0) hx hb dW_law_393 (by decide) ?_
        refine q_lcmpE hx hb (by rw [hg c1, if_pos c2]) dW_law_394 ?_
        refine lv_if_eq (tgt := 400) hx hb dW_law_395 (by decide) (fun _ => ?_) (fun q9 => absurd rfl q9)
        refine lv_goto (tgt := 1269) hx hb dW_law_400 (by decide) ?_
        exact nx _ _ _ g k σ' _ _ (by omega) (by omega) hI9 ((hl.drop 5).drop 6) (wl_perm hw List.perm_append_comm)
      · refine lv_lconst (v := 1) hx hb dW_law_389 (by decide) ?_
        refine lv_goto (tgt := 394) hx hb dW_law_390 (by decide) ?_
        refine q_lcmpE hx hb (by rw [hg c1, if_neg c2]) dW_law_394 ?_
        refine lv_if_eq (tgt := 400) hx hb dW_law_395 (by decide) (fun _ => ?_) (fun q9 => absurd rfl q9)
        refine lv_goto (tgt := 1269) hx hb dW_law_400 (by decide) ?_
        exact nx _ _ _ g k σ' _ _ (by omega) (by omega) hI9 ((hl.drop 5).drop 6) (wl_perm hw List.perm_append_comm)
  · refine q_aload_n hx hb hl dW_law_312 rfl ?_
    refine q_aload_n hx hb hl dW_law_313 rfl ?_
    refine q_iload hx hb hl dW_law_314 rfl ?_
    refine lv_iconst (v := 1) hx hb dW_law_316 (by decide) ?_
    refine lv_iadd hx hb dW_law_317 ?_
    refine q_scr C hw hL hX hbl hbA (k := i + 1) (by omega) (nI_add i 1) dW_law_318 ?_
    refine q_aload_n hx hb hl dW_law_319 rfl ?_
    refine q_iload hx hb hl dW_law_320 rfl ?_
    refine lv_iconst (v := 2) hx hb dW_law_322 (by decide) ?_
    refine lv_iadd hx hb dW_law_323 ?_
    refine q_scr C hw hL hX hbl hbA (k := i + 2) (by omega) (nI_add i 2) dW_law_324 ?_
    refine lv_if_eq (tgt := 332) hx hb dW_law_325 (by decide) (fun q9 => absurd q9 hz) (fun _ => ?_)
    refine lv_iconst (v := 1) hx hb dW_law_328 (by decide) ?_
    refine lv_goto (tgt := 333) hx hb dW_law_329 (by decide) ?_
    refine q_aload_n hx hb hl dW_law_333 rfl ?_
    have hw9 := wl_L hw
    refine tc_L (tc_SH C hl (z_ready l hst D ct ad N hN h0 σ mm hmm hI o f (xs (i + 1)) 1 (Or.inr rfl) _) hw9.1 hw9.2.1 hw9.2.2 g_W_93 hd_W_ready rfl rfl ⟨(Nat.le_of_ble_eq_true rfl), (Nat.le_of_ble_eq_true rfl)⟩ (Nat.le_of_ble_eq_true rfl) ⟨by show _ ≤ 601024; omega, by show _ ≤ 7293000; omega⟩ dW_law_334 rfl) C hw (fun E ce q9 w1 H locs hp hw h1 h2 h3 => ?_) (fun v w1 H locs hp hw => ?_)
    · exact hp.elim
    obtain ⟨k, B, g, σ', rfl, rfl, hg, hI9, hm⟩ := hp
    dsimp only [Option.toList_some, List.cons_append, List.nil_append]
    refine q_istore hx hb hl dW_law_337 (by decide) (fun ls hl => ?_)
    refine q_aload_n hx hb hl dW_law_339 rfl ?_
    refine q_aload_n hx hb hl dW_law_340 rfl ?_
    refine q_iload hx hb hl dW_law_341 rfl ?_
    refine lv_iconst (v := 1) hx hb dW_law_343 (by decide) ?_
    refine lv_iadd hx hb dW_law_344 ?_
    refine q_scr C hw hL hX hbl hbA (k := i + 1) (by omega) (nI_add i 1) dW_law_345 ?_
    refine q_aload_n hx hb hl dW_law_346 rfl ?_
    refine q_iload hx hb hl dW_law_347 rfl ?_
    refine lv_iconst (v := 2) hx hb dW_law_349 (by decide) ?_
    refine lv_iadd hx hb dW_law_350 ?_
    refine q_scr C hw hL hX hbl hbA (k := i + 2) (by omega) (nI_add i 2) dW_law_351 ?_
    refine lv_if_eq (tgt := 359) hx hb dW_law_352 (by decide) (fun q9 => absurd q9 hz) (fun _ => ?_)
    refine lv_iconst (v := 1) hx hb dW_law_355 (by decide) ?_
    refine lv_goto (tgt := 360) hx hb dW_law_356 (by decide) ?_
    replace hw := wl_perm hw List.perm_append_comm
    have hw9 := wl_L hw
    refine tc_L (tc_V C hl (hm am th _) hw9.1 hw9.2.1 hw9.2.2 g_W_96 (re_M C hw9) hv_M_ready rfl rfl ⟨(Nat.le_of_ble_eq_true rfl), (Nat.le_of_ble_eq_true rfl)⟩ (Nat.le_of_ble_eq_true rfl) ⟨by show _ ≤ 601024; omega, by show _ ≤ 7293000; omega⟩ dW_law_360 rfl) C hw (fun E ce q9 w1 H locs hp hw h1 h2 h3 => ?_) (fun v w1 H locs hp hw => ?_)
    · exact hp.elim
    obtain ⟨rfl, rfl⟩ := hp
    dsimp only [Option.toList_some, List.cons_append, List.nil_append]
    refine q_istore hx hb hl dW_law_363 (by decide) (fun ls hl => ?_)
    refine q_aload_n hx hb hl dW_law_365 rfl ?_
    have hw9 := wl_L hw
    refine tc_L (tc_V C hl (m_thrown l hst D ct am N hN h0 k σ' _) hw9.1 hw9.2.1 hw9.2.2 g_W_83 (re_M C hw9) hv_M_thrown rfl rfl ⟨(Nat.le_of_ble_eq_true rfl), (Nat.le_of_ble_eq_true rfl)⟩ (Nat.le_of_ble_eq_true rfl) ⟨by show _ ≤ 601024; omega, by show _ ≤ 7293000; omega⟩ dW_law_366 rfl) C hw (fun E ce q9 w1 H locs hp hw h1 h2 h3 => ?_) (fun v w1 H locs hp hw => ?_)
    · exact hp.elim
    obtain ⟨rfl, rfl⟩ := hp
    dsimp only [Option.toList_some, List.cons_append, List.nil_append]
    refine q_iload hx hb hl dW_law_369 rfl ?_
    refine lv_icmp_eq (tgt := 376) hx hb dW_law_371 (by decide) (fun _ => ?_) (fun q9 => absurd rfl q9)
    refine q_iload hx hb hl dW_law_376 rfl ?_
    refine lv_if_ne (tgt := 400) hx hb dW_law_378 (by decide) (fun c1 => ?_) (fun c1 => ?_)
    · refine lv_goto (tgt := 1269) hx hb dW_law_400 (by decide) ?_
      exact nx _ _ _ g k σ' _ _ (by omega) (by omega) hI9 ((hl.drop 5).drop 6) (wl_perm hw List.perm_append_comm)
    · refine q_aload_n hx hb hl dW_law_381 rfl ?_
      refine lv_iconst (v := 0) hx hb dW_law_382 (by decide) ?_
      refine q_lald C hw (List.mem_append_right _ (List.mem_append_right _ List.mem_cons_self)) dW_law_383 ?_
      refine q_iload hx hb hl dW_law_384 rfl ?_
      refine lv_if_eq (tgt := 393) hx hb dW_law_386 (by decide) (fun c2 => ?_) (fun c2 => ?_)
      · refine lv_lconst (v := 0) hx hb dW_law_393 (by decide) ?_
        refine q_lcmpE hx hb (by rw [hg c1, if_pos c2]) dW_law_394 ?_
        refine lv_if_eq (tgt := 400) hx hb dW_law_395 (by decide) (fun _ => ?_) (fun q9 => absurd rfl q9)
        refine lv_goto (tgt := 1269) hx hb dW_law_400 (by decide) ?_
        exact nx _ _ _ g k σ' _ _ (by omega) (by omega) hI9 ((hl.drop 5).drop 6) (wl_perm hw List.perm_append_comm)
      · refine lv_lconst (v := 1) hx hb dW_law_389 (by decide) ?_
        refine lv_goto (tgt := 394) hx hb dW_law_390 (by decide) ?_
        refine q_lcmpE hx hb (by rw [hg c1, if_neg c2]) dW_law_394 ?_
        refine lv_if_eq (tgt := 400) hx hb dW_law_395 (by decide) (fun _ => ?_) (fun q9 => absurd rfl q9)
        refine lv_goto (tgt := 1269) hx hb dW_law_400 (by decide) ?_
        exact nx _ _ _ g k σ' _ _ (by omega) (by omega) hI9 ((hl.drop 5).drop 6) (wl_perm hw List.perm_append_comm)

set_option maxHeartbeats 4000000 in
set_option maxRecDepth 100000 in
theorem k_rank (C : cx p l s m #[Value.ref b] meth c cW_law 7 "ThreadSlotsLaw" ct D A) (hst : l.stackTraces = false) (hL : L ≤ 2050) (hX : va_X b L xs s s.heap) (hbl : b < s.heap.size) (hbA : ¬ A b) (hN : N ≤ 16) (h0 : 0 < N) (hmm : mm < 2 ^ 29) (hI : Iv N mm σ) (hi : i + 4 ≤ L) (hc : cells + 1 ≤ 601024) (hs : slots + 6 ≤ 7293000) (hl : lq ls 7 [some (.ref b), some (.ref (ad 0 0)), some (.ref (am 0)), some (.ref o), some (.int (nI i)), none, none]) (hw : wl D A s ((wT ct ad N σ ++ [(o, eJ (ct 3) f)]) ++ wM ct am N th σ) H locs)
    (nx : ∀ (H : Heap) (locs : List Loc) (ls : Array Slot) (f : Nat → Int64) (th : Int32) (σ' : St) (cells' slots' : Nat), cells' ≤ cells + 1 → slots' ≤ slots + 6 → Iv N (mm + 2000) σ' → lq ls 7 [some (.ref b), some (.ref (ad 0 0)), some (.ref (am 0)), some (.ref o), some (.int (nI i)), none, none] → wl D A s ((wT ct ad N σ' ++ [(o, eJ (ct 3) f)]) ++ wM ct am N th σ') H locs → W p l e room_1 s m #[Value.ref b] below meth c H locs cells' slots' Q (F0 m 1269 ls [])) : W p l e room_1 s m #[Value.ref b] below meth c H locs cells slots Q (F0 m 403 ls []) := by
  have hx := C.1
  have hb := C.2.1
  refine q_aload_n hx hb hl dW_law_403 rfl ?_
  refine q_aload_n hx hb hl dW_law_404 rfl ?_
  refine q_iload hx hb hl dW_law_405 rfl ?_
  refine lv_iconst (v := 1) hx hb dW_law_407 (by decide) ?_
  refine lv_iadd hx hb dW_law_408 ?_
  refine q_scr C hw hL hX hbl hbA (k := i + 1) (by omega) (nI_add i 1) dW_law_409 ?_
  refine q_aload_n hx hb hl dW_law_410 rfl ?_
  refine q_iload hx hb hl dW_law_411 rfl ?_
  refine lv_iconst (v := 2) hx hb dW_law_413 (by decide) ?_
  refine lv_iadd hx hb dW_law_414 ?_
  refine q_scr C hw hL hX hbl hbA (k := i + 2) (by omega) (nI_add i 2) dW_law_415 ?_
  refine q_aload_n hx hb hl dW_law_416 rfl ?_
  have hw9 := wl_L hw
  refine tc_L (tc_SH C hl (z_rank l hst D ct ad N hN h0 σ mm hmm hI o f (xs (i + 1)) (xs (i + 2)) _) hw9.1 hw9.2.1 hw9.2.2 g_W_97 hd_W_rank rfl rfl ⟨(Nat.le_of_ble_eq_true rfl), (Nat.le_of_ble_eq_true rfl)⟩ (Nat.le_of_ble_eq_true rfl) ⟨by show _ ≤ 601024; omega, by show _ ≤ 7293000; omega⟩ dW_law_417 rfl) C hw (fun E ce q9 w1 H locs hp hw h1 h2 h3 => ?_) (fun v w1 H locs hp hw => ?_)
  · exact hp.elim
  obtain ⟨k, B, g, σ', rfl, rfl, hg, hI9, hm⟩ := hp
  dsimp only [Option.toList_some, List.cons_append, List.nil_append]
  refine q_istore hx hb hl dW_law_420 (by decide) (fun ls hl => ?_)
  refine q_aload_n hx hb hl dW_law_422 rfl ?_
  refine q_aload_n hx hb hl dW_law_423 rfl ?_
  refine q_iload hx hb hl dW_law_424 rfl ?_
  refine lv_iconst (v := 1) hx hb dW_law_426 (by decide) ?_
  refine lv_iadd hx hb dW_law_427 ?_
  refine q_scr C hw hL hX hbl hbA (k := i + 1) (by omega) (nI_add i 1) dW_law_428 ?_
  refine q_aload_n hx hb hl dW_law_429 rfl ?_
  refine q_iload hx hb hl dW_law_430 rfl ?_
  refine lv_iconst (v := 2) hx hb dW_law_432 (by decide) ?_
  refine lv_iadd hx hb dW_law_433 ?_
  refine q_scr C hw hL hX hbl hbA (k := i + 2) (by omega) (nI_add i 2) dW_law_434 ?_
  replace hw := wl_perm hw List.perm_append_comm
  have hw9 := wl_L hw
  refine tc_L (tc_V C hl (hm am th _) hw9.1 hw9.2.1 hw9.2.2 g_W_100 (re_M C hw9) hv_M_rank rfl rfl ⟨(Nat.le_of_ble_eq_true rfl), (Nat.le_of_ble_eq_true rfl)⟩ (Nat.le_of_ble_eq_true rfl) ⟨by show _ ≤ 601024; omega, by show _ ≤ 7293000; omega⟩ dW_law_435 rfl) C hw (fun E ce q9 w1 H locs hp hw h1 h2 h3 => ?_) (fun v w1 H locs hp hw => ?_)
  · exact hp.elim
  obtain ⟨rfl, rfl⟩ := hp
  dsimp only [Option.toList_some, List.cons_append, List.nil_append]
  refine q_istore hx hb hl dW_law_438 (by decide) (fun ls hl => ?_)
  refine q_aload_n hx hb hl dW_law_440 rfl ?_
  have hw9 := wl_L hw
  refine tc_L (tc_V C hl (m_thrown l hst D ct am N hN h0 k σ' _) hw9.1 hw9.2.1 hw9.2.2 g_W_83 (re_M C hw9) hv_M_thrown rfl rfl ⟨(Nat.le_of_ble_eq_true rfl), (Nat.le_of_ble_eq_true rfl)⟩ (Nat.le_of_ble_eq_true rfl) ⟨by show _ ≤ 601024; omega, by show _ ≤ 7293000; omega⟩ dW_law_441 rfl) C hw (fun E ce q9 w1 H locs hp hw h1 h2 h3 => ?_) (fun v w1 H locs hp hw => ?_)
  · exact hp.elim
  obtain ⟨rfl, rfl⟩ := hp
  dsimp only [Option.toList_some, List.cons_append, List.nil_append]
  refine q_iload hx hb hl dW_law_444 rfl ?_
  refine lv_icmp_eq (tgt := 451) hx hb dW_law_446 (by decide) (fun _ => ?_) (fun q9 => absurd rfl q9)
  refine q_iload hx hb hl dW_law_451 rfl ?_
  refine lv_if_ne (tgt := 468) hx hb dW_law_453 (by decide) (fun c1 => ?_) (fun c1 => ?_)
  · refine lv_goto (tgt := 1269) hx hb dW_law_468 (by decide) ?_
    exact nx _ _ _ g k σ' _ _ (by omega) (by omega) hI9 ((hl.drop 5).drop 6) (wl_perm hw List.perm_append_comm)
  · refine q_aload_n hx hb hl dW_law_456 rfl ?_
    refine lv_iconst (v := 0) hx hb dW_law_457 (by decide) ?_
    refine q_lald C hw (List.mem_append_right _ (List.mem_append_right _ List.mem_cons_self)) dW_law_458 ?_
    refine q_iload hx hb hl dW_law_459 rfl ?_
    refine lv_i2l hx hb dW_law_461 rfl ?_
    refine q_lcmpE hx hb (hg c1) dW_law_462 ?_
    refine lv_if_eq (tgt := 468) hx hb dW_law_463 (by decide) (fun _ => ?_) (fun q9 => absurd rfl q9)
    refine lv_goto (tgt := 1269) hx hb dW_law_468 (by decide) ?_
    exact nx _ _ _ g k σ' _ _ (by omega) (by omega) hI9 ((hl.drop 5).drop 6) (wl_perm hw List.perm_append_comm)

set_option maxHeartbeats 4000000 in
set_option maxRecDepth 100000 in
theorem k_sleep (C : cx p l s m #[Value.ref b] meth c cW_law 7 "ThreadSlotsLaw" ct D A) (hst : l.stackTraces = false) (hL : L ≤ 2050) (hX : va_X b L xs s s.heap) (hbl : b < s.heap.size) (hbA : ¬ A b) (hN : N ≤ 16) (h0 : 0 < N) (hmm : mm < 2 ^ 29) (hI : Iv N mm σ) (hi : i + 4 ≤ L) (hc : cells + 1 ≤ 601024) (hs : slots + 6 ≤ 7293000) (hl : lq ls 7 [some (.ref b), some (.ref (ad 0 0)), some (.ref (am 0)), some (.ref o), some (.int (nI i)), none, none]) (hw : wl D A s ((wT ct ad N σ ++ [(o, eJ (ct 3) f)]) ++ wM ct am N th σ) H locs)
    (nx : ∀ (H : Heap) (locs : List Loc) (ls : Array Slot) (f : Nat → Int64) (th : Int32) (σ' : St) (cells' slots' : Nat), cells' ≤ cells + 1 → slots' ≤ slots + 6 → Iv N (mm + 2000) σ' → lq ls 7 [some (.ref b), some (.ref (ad 0 0)), some (.ref (am 0)), some (.ref o), some (.int (nI i)), none, none] → wl D A s ((wT ct ad N σ' ++ [(o, eJ (ct 3) f)]) ++ wM ct am N th σ') H locs → W p l e room_1 s m #[Value.ref b] below meth c H locs cells' slots' Q (F0 m 1269 ls [])) : W p l e room_1 s m #[Value.ref b] below meth c H locs cells slots Q (F0 m 471 ls []) := by
  have hx := C.1
  have hb := C.2.1
  refine q_aload_n hx hb hl dW_law_471 rfl ?_
  refine q_aload_n hx hb hl dW_law_472 rfl ?_
  refine q_iload hx hb hl dW_law_473 rfl ?_
  refine lv_iconst (v := 1) hx hb dW_law_475 (by decide) ?_
  refine lv_iadd hx hb dW_law_476 ?_
  refine q_scr C hw hL hX hbl hbA (k := i + 1) (by omega) (nI_add i 1) dW_law_477 ?_
  refine q_aload_n hx hb hl dW_law_478 rfl ?_
  refine q_iload hx hb hl dW_law_479 rfl ?_
  refine lv_iconst (v := 2) hx hb dW_law_481 (by decide) ?_
  refine lv_iadd hx hb dW_law_482 ?_
  refine q_scr C hw hL hX hbl hbA (k := i + 2) (by omega) (nI_add i 2) dW_law_483 ?_
  refine q_aload_n hx hb hl dW_law_484 rfl ?_
  have hw9 := wl_L hw
  refine tc_L (tc_SH C hl (z_sleep l hst D ct ad N hN h0 σ mm hmm hI o f (xs (i + 1)) (xs (i + 2)) _) hw9.1 hw9.2.1 hw9.2.2 g_W_101 hd_W_sleep rfl rfl ⟨(Nat.le_of_ble_eq_true rfl), (Nat.le_of_ble_eq_true rfl)⟩ (Nat.le_of_ble_eq_true rfl) ⟨by show _ ≤ 601024; omega, by show _ ≤ 7293000; omega⟩ dW_law_485 rfl) C hw (fun E ce q9 w1 H locs hp hw h1 h2 h3 => ?_) (fun v w1 H locs hp hw => ?_)
  · exact hp.elim
  obtain ⟨k, B, g, σ', rfl, rfl, hg, hI9, hm⟩ := hp
  dsimp only [Option.toList_some, List.cons_append, List.nil_append]
  refine q_istore hx hb hl dW_law_488 (by decide) (fun ls hl => ?_)
  refine q_aload_n hx hb hl dW_law_490 rfl ?_
  refine q_aload_n hx hb hl dW_law_491 rfl ?_
  refine q_iload hx hb hl dW_law_492 rfl ?_
  refine lv_iconst (v := 1) hx hb dW_law_494 (by decide) ?_
  refine lv_iadd hx hb dW_law_495 ?_
  refine q_scr C hw hL hX hbl hbA (k := i + 1) (by omega) (nI_add i 1) dW_law_496 ?_
  refine q_aload_n hx hb hl dW_law_497 rfl ?_
  refine q_iload hx hb hl dW_law_498 rfl ?_
  refine lv_iconst (v := 2) hx hb dW_law_500 (by decide) ?_
  refine lv_iadd hx hb dW_law_501 ?_
  refine q_scr C hw hL hX hbl hbA (k := i + 2) (by omega) (nI_add i 2) dW_law_502 ?_
  replace hw := wl_perm hw List.perm_append_comm
  have hw9 := wl_L hw
  refine tc_L (tc_V C hl (hm am th _) hw9.1 hw9.2.1 hw9.2.2 g_W_103 (re_M C hw9) hv_M_sleep rfl rfl ⟨(Nat.le_of_ble_eq_true rfl), (Nat.le_of_ble_eq_true rfl)⟩ (Nat.le_of_ble_eq_true rfl) ⟨by show _ ≤ 601024; omega, by show _ ≤ 7293000; omega⟩ dW_law_503 rfl) C hw (fun E ce q9 w1 H locs hp hw h1 h2 h3 => ?_) (fun v w1 H locs hp hw => ?_)
  · exact hp.elim
  obtain ⟨rfl, rfl⟩ := hp
  dsimp only [Option.toList_some, List.cons_append, List.nil_append]
  refine q_istore hx hb hl dW_law_506 (by decide) (fun ls hl => ?_)
  refine q_aload_n hx hb hl dW_law_508 rfl ?_
  have hw9 := wl_L hw
  refine tc_L (tc_V C hl (m_thrown l hst D ct am N hN h0 k σ' _) hw9.1 hw9.2.1 hw9.2.2 g_W_83 (re_M C hw9) hv_M_thrown rfl rfl ⟨(Nat.le_of_ble_eq_true rfl), (Nat.le_of_ble_eq_true rfl)⟩ (Nat.le_of_ble_eq_true rfl) ⟨by show _ ≤ 601024; omega, by show _ ≤ 7293000; omega⟩ dW_law_509 rfl) C hw (fun E ce q9 w1 H locs hp hw h1 h2 h3 => ?_) (fun v w1 H locs hp hw => ?_)
  · exact hp.elim
  obtain ⟨rfl, rfl⟩ := hp
  dsimp only [Option.toList_some, List.cons_append, List.nil_append]
  refine q_iload hx hb hl dW_law_512 rfl ?_
  refine lv_icmp_eq (tgt := 519) hx hb dW_law_514 (by decide) (fun _ => ?_) (fun q9 => absurd rfl q9)
  refine q_iload hx hb hl dW_law_519 rfl ?_
  refine lv_if_ne (tgt := 536) hx hb dW_law_521 (by decide) (fun c1 => ?_) (fun c1 => ?_)
  · refine lv_goto (tgt := 1269) hx hb dW_law_536 (by decide) ?_
    exact nx _ _ _ g k σ' _ _ (by omega) (by omega) hI9 ((hl.drop 5).drop 6) (wl_perm hw List.perm_append_comm)
  · refine q_aload_n hx hb hl dW_law_524 rfl ?_
    refine lv_iconst (v := 0) hx hb dW_law_525 (by decide) ?_
    refine q_lald C hw (List.mem_append_right _ (List.mem_append_right _ List.mem_cons_self)) dW_law_526 ?_
    refine q_iload hx hb hl dW_law_527 rfl ?_
    refine lv_i2l hx hb dW_law_529 rfl ?_
    refine q_lcmpE hx hb (hg c1) dW_law_530 ?_
    refine lv_if_eq (tgt := 536) hx hb dW_law_531 (by decide) (fun _ => ?_) (fun q9 => absurd rfl q9)
    refine lv_goto (tgt := 1269) hx hb dW_law_536 (by decide) ?_
    exact nx _ _ _ g k σ' _ _ (by omega) (by omega) hI9 ((hl.drop 5).drop 6) (wl_perm hw List.perm_append_comm)

set_option maxHeartbeats 4000000 in
set_option maxRecDepth 100000 in
theorem k_miss (C : cx p l s m #[Value.ref b] meth c cW_law 7 "ThreadSlotsLaw" ct D A) (hst : l.stackTraces = false) (hL : L ≤ 2050) (hX : va_X b L xs s s.heap) (hbl : b < s.heap.size) (hbA : ¬ A b) (hN : N ≤ 16) (h0 : 0 < N) (hmm : mm < 2 ^ 29) (hI : Iv N mm σ) (hi : i + 4 ≤ L) (hc : cells + 1 ≤ 601024) (hs : slots + 6 ≤ 7293000) (hl : lq ls 7 [some (.ref b), some (.ref (ad 0 0)), some (.ref (am 0)), some (.ref o), some (.int (nI i)), none, none]) (hw : wl D A s ((wT ct ad N σ ++ [(o, eJ (ct 3) f)]) ++ wM ct am N th σ) H locs)
    (nx : ∀ (H : Heap) (locs : List Loc) (ls : Array Slot) (f : Nat → Int64) (th : Int32) (σ' : St) (cells' slots' : Nat), cells' ≤ cells + 1 → slots' ≤ slots + 6 → Iv N (mm + 2000) σ' → lq ls 7 [some (.ref b), some (.ref (ad 0 0)), some (.ref (am 0)), some (.ref o), some (.int (nI i)), none, none] → wl D A s ((wT ct ad N σ' ++ [(o, eJ (ct 3) f)]) ++ wM ct am N th σ') H locs → W p l e room_1 s m #[Value.ref b] below meth c H locs cells' slots' Q (F0 m 1269 ls [])) : W p l e room_1 s m #[Value.ref b] below meth c H locs cells slots Q (F0 m 539 ls []) := by
  have hx := C.1
  have hb := C.2.1
  refine q_aload_n hx hb hl dW_law_539 rfl ?_
  refine q_aload_n hx hb hl dW_law_540 rfl ?_
  refine q_iload hx hb hl dW_law_541 rfl ?_
  refine lv_iconst (v := 1) hx hb dW_law_543 (by decide) ?_
  refine lv_iadd hx hb dW_law_544 ?_
  refine q_scr C hw hL hX hbl hbA (k := i + 1) (by omega) (nI_add i 1) dW_law_545 ?_
  refine q_aload_n hx hb hl dW_law_546 rfl ?_
  have hw9 := wl_L hw
  refine tc_L (tc_SH C hl (z_miss l hst D ct ad N hN h0 σ mm hmm hI o f (xs (i + 1)) _) hw9.1 hw9.2.1 hw9.2.2 g_W_104 hd_W_miss rfl rfl ⟨(Nat.le_of_ble_eq_true rfl), (Nat.le_of_ble_eq_true rfl)⟩ (Nat.le_of_ble_eq_true rfl) ⟨by show _ ≤ 601024; omega, by show _ ≤ 7293000; omega⟩ dW_law_547 rfl) C hw (fun E ce q9 w1 H locs hp hw h1 h2 h3 => ?_) (fun v w1 H locs hp hw => ?_)
  · exact hp.elim
  obtain ⟨k, B, g, σ', rfl, rfl, hg, hI9, hm⟩ := hp
  dsimp only [Option.toList_some, List.cons_append, List.nil_append]
  refine q_istore hx hb hl dW_law_550 (by decide) (fun ls hl => ?_)
  refine q_aload_n hx hb hl dW_law_552 rfl ?_
  refine q_aload_n hx hb hl dW_law_553 rfl ?_
  refine q_iload hx hb hl dW_law_554 rfl ?_
  refine lv_iconst (v := 1) hx hb dW_law_556 (by decide) ?_
  refine lv_iadd hx hb dW_law_557 ?_
  refine q_scr C hw hL hX hbl hbA (k := i + 1) (by omega) (nI_add i 1) dW_law_558 ?_
  replace hw := wl_perm hw List.perm_append_comm
  have hw9 := wl_L hw
  refine tc_L (tc_V C hl (hm am th _) hw9.1 hw9.2.1 hw9.2.2 g_W_106 (re_M C hw9) hv_M_miss rfl rfl ⟨(Nat.le_of_ble_eq_true rfl), (Nat.le_of_ble_eq_true rfl)⟩ (Nat.le_of_ble_eq_true rfl) ⟨by show _ ≤ 601024; omega, by show _ ≤ 7293000; omega⟩ dW_law_559 rfl) C hw (fun E ce q9 w1 H locs hp hw h1 h2 h3 => ?_) (fun v w1 H locs hp hw => ?_)
  · exact hp.elim
  obtain ⟨rfl, rfl⟩ := hp
  dsimp only [Option.toList_some, List.cons_append, List.nil_append]
  refine q_istore hx hb hl dW_law_562 (by decide) (fun ls hl => ?_)
  refine q_aload_n hx hb hl dW_law_564 rfl ?_
  have hw9 := wl_L hw
  refine tc_L (tc_V C hl (m_thrown l hst D ct am N hN h0 k σ' _) hw9.1 hw9.2.1 hw9.2.2 g_W_83 (re_M C hw9) hv_M_thrown rfl rfl ⟨(Nat.le_of_ble_eq_true rfl), (Nat.le_of_ble_eq_true rfl)⟩ (Nat.le_of_ble_eq_true rfl) ⟨by show _ ≤ 601024; omega, by show _ ≤ 7293000; omega⟩ dW_law_565 rfl) C hw (fun E ce q9 w1 H locs hp hw h1 h2 h3 => ?_) (fun v w1 H locs hp hw => ?_)
  · exact hp.elim
  obtain ⟨rfl, rfl⟩ := hp
  dsimp only [Option.toList_some, List.cons_append, List.nil_append]
  refine q_iload hx hb hl dW_law_568 rfl ?_
  refine lv_icmp_eq (tgt := 575) hx hb dW_law_570 (by decide) (fun _ => ?_) (fun q9 => absurd rfl q9)
  refine q_iload hx hb hl dW_law_575 rfl ?_
  refine lv_if_ne (tgt := 592) hx hb dW_law_577 (by decide) (fun c1 => ?_) (fun c1 => ?_)
  · refine lv_goto (tgt := 1269) hx hb dW_law_592 (by decide) ?_
    exact nx _ _ _ g k σ' _ _ (by omega) (by omega) hI9 ((hl.drop 5).drop 6) (wl_perm hw List.perm_append_comm)
  · refine q_aload_n hx hb hl dW_law_580 rfl ?_
    refine lv_iconst (v := 0) hx hb dW_law_581 (by decide) ?_
    refine q_lald C hw (List.mem_append_right _ (List.mem_append_right _ List.mem_cons_self)) dW_law_582 ?_
    refine q_iload hx hb hl dW_law_583 rfl ?_
    refine lv_i2l hx hb dW_law_585 rfl ?_
    refine q_lcmpE hx hb (hg c1) dW_law_586 ?_
    refine lv_if_eq (tgt := 592) hx hb dW_law_587 (by decide) (fun _ => ?_) (fun q9 => absurd rfl q9)
    refine lv_goto (tgt := 1269) hx hb dW_law_592 (by decide) ?_
    exact nx _ _ _ g k σ' _ _ (by omega) (by omega) hI9 ((hl.drop 5).drop 6) (wl_perm hw List.perm_append_comm)

set_option maxHeartbeats 4000000 in
set_option maxRecDepth 100000 in
theorem k_cycle (C : cx p l s m #[Value.ref b] meth c cW_law 7 "ThreadSlotsLaw" ct D A) (hst : l.stackTraces = false) (hL : L ≤ 2050) (hX : va_X b L xs s s.heap) (hbl : b < s.heap.size) (hbA : ¬ A b) (hN : N ≤ 16) (h0 : 0 < N) (hmm : mm < 2 ^ 29) (hI : Iv N mm σ) (hi : i + 4 ≤ L) (hc : cells + 1 ≤ 601024) (hs : slots + 6 ≤ 7293000) (hl : lq ls 7 [some (.ref b), some (.ref (ad 0 0)), some (.ref (am 0)), some (.ref o), some (.int (nI i)), none, none]) (hw : wl D A s ((wT ct ad N σ ++ [(o, eJ (ct 3) f)]) ++ wM ct am N th σ) H locs)
    (nx : ∀ (H : Heap) (locs : List Loc) (ls : Array Slot) (f : Nat → Int64) (th : Int32) (σ' : St) (cells' slots' : Nat), cells' ≤ cells + 1 → slots' ≤ slots + 6 → Iv N (mm + 2000) σ' → lq ls 7 [some (.ref b), some (.ref (ad 0 0)), some (.ref (am 0)), some (.ref o), some (.int (nI i)), none, none] → wl D A s ((wT ct ad N σ' ++ [(o, eJ (ct 3) f)]) ++ wM ct am N th σ') H locs → W p l e room_1 s m #[Value.ref b] below meth c H locs cells' slots' Q (F0 m 1269 ls [])) : W p l e room_1 s m #[Value.ref b] below meth c H locs cells slots Q (F0 m 595 ls []) := by
  have hx := C.1
  have hb := C.2.1
  replace hw : wl D A s (wT ct ad N σ ++ ([(o, eJ (ct 3) f)] ++ wM ct am N th σ)) H locs := by rw [← List.append_assoc]; exact hw
  refine q_aload_n hx hb hl dW_law_595 rfl ?_
  have hw9 := wl_L hw
  refine tc_L (tc_V C hl (c_cyc l hst D ct ad N hN σ _ hI.2.1) hw9.1 hw9.2.1 hw9.2.2 g_W_107 (re_T C hw9) hv_T_cycle rfl rfl ⟨(Nat.le_of_ble_eq_true rfl), (Nat.le_of_ble_eq_true rfl)⟩ (Nat.le_of_ble_eq_true rfl) ⟨by show _ ≤ 601024; omega, by show _ ≤ 7293000; omega⟩ dW_law_596 rfl) C hw (fun E ce q9 w1 H locs hp hw h1 h2 h3 => ?_) (fun v w1 H locs hp hw => ?_)
  · exact hp.elim
  obtain ⟨rfl, rfl⟩ := hp
  dsimp only [Option.toList_some, List.cons_append, List.nil_append]
  rw [← List.append_assoc] at hw
  replace hw := wl_perm hw List.perm_append_comm
  refine q_aload_n hx hb hl dW_law_599 rfl ?_
  have hw9 := wl_L hw
  refine tc_L (tc_V C hl (m_cyc2 l hst D ct am N hN h0 th σ _ mm hI) hw9.1 hw9.2.1 hw9.2.2 g_W_110 (re_M C hw9) hv_M_cycle rfl rfl ⟨(Nat.le_of_ble_eq_true rfl), (Nat.le_of_ble_eq_true rfl)⟩ (Nat.le_of_ble_eq_true rfl) ⟨by show _ ≤ 601024; omega, by show _ ≤ 7293000; omega⟩ dW_law_600 rfl) C hw (fun E ce q9 w1 H locs hp hw h1 h2 h3 => ?_) (fun v w1 H locs hp hw => ?_)
  · exact hp.elim
  obtain ⟨rfl, rfl⟩ := hp
  dsimp only [Option.toList_some, List.cons_append, List.nil_append]
  refine lv_icmp_eq (tgt := 1269) hx hb dW_law_603 (by decide) (fun _ => ?_) (fun q9 => absurd rfl q9)
  exact nx _ _ _ f 0 _ _ _ (by omega) (by omega) (Iv_mono (Iv_play hN hI (by omega)) (by omega)) hl (wl_perm hw List.perm_append_comm)

set_option maxHeartbeats 4000000 in
set_option maxRecDepth 100000 in
theorem k_run (C : cx p l s m #[Value.ref b] meth c cW_law 7 "ThreadSlotsLaw" ct D A) (hst : l.stackTraces = false) (hL : L ≤ 2050) (hX : va_X b L xs s s.heap) (hbl : b < s.heap.size) (hbA : ¬ A b) (hN : N ≤ 16) (h0 : 0 < N) (hmm : mm < 2 ^ 29) (hI : Iv N mm σ) (hi : i + 4 ≤ L) (hc : cells + 1 ≤ 601024) (hs : slots + 6 ≤ 7293000) (hl : lq ls 7 [some (.ref b), some (.ref (ad 0 0)), some (.ref (am 0)), some (.ref o), some (.int (nI i)), none, none]) (hw : wl D A s ((wT ct ad N σ ++ [(o, eJ (ct 3) f)]) ++ wM ct am N th σ) H locs)
    (nx : ∀ (H : Heap) (locs : List Loc) (ls : Array Slot) (f : Nat → Int64) (th : Int32) (σ' : St) (cells' slots' : Nat), cells' ≤ cells + 1 → slots' ≤ slots + 6 → Iv N (mm + 2000) σ' → lq ls 7 [some (.ref b), some (.ref (ad 0 0)), some (.ref (am 0)), some (.ref o), some (.int (nI i)), none, none] → wl D A s ((wT ct ad N σ' ++ [(o, eJ (ct 3) f)]) ++ wM ct am N th σ') H locs → W p l e room_1 s m #[Value.ref b] below meth c H locs cells' slots' Q (F0 m 1269 ls [])) : W p l e room_1 s m #[Value.ref b] below meth c H locs cells slots Q (F0 m 608 ls []) := by
  have hx := C.1
  have hb := C.2.1
  refine q_aload_n hx hb hl dW_law_608 rfl ?_
  refine q_aload_n hx hb hl dW_law_609 rfl ?_
  refine q_iload hx hb hl dW_law_610 rfl ?_
  refine lv_iconst (v := 1) hx hb dW_law_612 (by decide) ?_
  refine lv_iadd hx hb dW_law_613 ?_
  refine q_scr C hw hL hX hbl hbA (k := i + 1) (by omega) (nI_add i 1) dW_law_614 ?_
  refine q_aload_n hx hb hl dW_law_615 rfl ?_
  have hw9 := wl_L hw
  refine tc_L (tc_SH C hl (z_run l hst D ct ad N hN h0 σ mm hmm hI o f (xs (i + 1)) _) hw9.1 hw9.2.1 hw9.2.2 g_W_111 hd_W_run rfl rfl ⟨(Nat.le_of_ble_eq_true rfl), (Nat.le_of_ble_eq_true rfl)⟩ (Nat.le_of_ble_eq_true rfl) ⟨by show _ ≤ 601024; omega, by show _ ≤ 7293000; omega⟩ dW_law_616 rfl) C hw (fun E ce q9 w1 H locs hp hw h1 h2 h3 => ?_) (fun v w1 H locs hp hw => ?_)
  · exact hp.elim
  obtain ⟨k, B, g, σ', rfl, rfl, hg, hI9, hm⟩ := hp
  dsimp only [Option.toList_some, List.cons_append, List.nil_append]
  refine q_istore hx hb hl dW_law_619 (by decide) (fun ls hl => ?_)
  refine q_aload_n hx hb hl dW_law_621 rfl ?_
  refine q_aload_n hx hb hl dW_law_622 rfl ?_
  refine q_iload hx hb hl dW_law_623 rfl ?_
  refine lv_iconst (v := 1) hx hb dW_law_625 (by decide) ?_
  refine lv_iadd hx hb dW_law_626 ?_
  refine q_scr C hw hL hX hbl hbA (k := i + 1) (by omega) (nI_add i 1) dW_law_627 ?_
  replace hw := wl_perm hw List.perm_append_comm
  have hw9 := wl_L hw
  refine tc_L (tc_V C hl (hm am th _) hw9.1 hw9.2.1 hw9.2.2 g_W_113 (re_M C hw9) hv_M_run rfl rfl ⟨(Nat.le_of_ble_eq_true rfl), (Nat.le_of_ble_eq_true rfl)⟩ (Nat.le_of_ble_eq_true rfl) ⟨by show _ ≤ 601024; omega, by show _ ≤ 7293000; omega⟩ dW_law_628 rfl) C hw (fun E ce q9 w1 H locs hp hw h1 h2 h3 => ?_) (fun v w1 H locs hp hw => ?_)
  · exact hp.elim
  obtain ⟨rfl, rfl⟩ := hp
  dsimp only [Option.toList_some, List.cons_append, List.nil_append]
  refine q_istore hx hb hl dW_law_631 (by decide) (fun ls hl => ?_)
  refine q_aload_n hx hb hl dW_law_633 rfl ?_
  have hw9 := wl_L hw
  refine tc_L (tc_V C hl (m_thrown l hst D ct am N hN h0 k σ' _) hw9.1 hw9.2.1 hw9.2.2 g_W_83 (re_M C hw9) hv_M_thrown rfl rfl ⟨(Nat.le_of_ble_eq_true rfl), (Nat.le_of_ble_eq_true rfl)⟩ (Nat.le_of_ble_eq_true rfl) ⟨by show _ ≤ 601024; omega, by show _ ≤ 7293000; omega⟩ dW_law_634 rfl) C hw (fun E ce q9 w1 H locs hp hw h1 h2 h3 => ?_) (fun v w1 H locs hp hw => ?_)
  · exact hp.elim
  obtain ⟨rfl, rfl⟩ := hp
  dsimp only [Option.toList_some, List.cons_append, List.nil_append]
  refine q_iload hx hb hl dW_law_637 rfl ?_
  refine lv_icmp_eq (tgt := 644) hx hb dW_law_639 (by decide) (fun _ => ?_) (fun q9 => absurd rfl q9)
  refine q_iload hx hb hl dW_law_644 rfl ?_
  refine lv_if_ne (tgt := 661) hx hb dW_law_646 (by decide) (fun c1 => ?_) (fun c1 => ?_)
  · refine lv_goto (tgt := 1269) hx hb dW_law_661 (by decide) ?_
    exact nx _ _ _ g k σ' _ _ (by omega) (by omega) hI9 ((hl.drop 5).drop 6) (wl_perm hw List.perm_append_comm)
  · refine q_aload_n hx hb hl dW_law_649 rfl ?_
    refine lv_iconst (v := 0) hx hb dW_law_650 (by decide) ?_
    refine q_lald C hw (List.mem_append_right _ (List.mem_append_right _ List.mem_cons_self)) dW_law_651 ?_
    refine q_iload hx hb hl dW_law_652 rfl ?_
    refine lv_i2l hx hb dW_law_654 rfl ?_
    refine q_lcmpE hx hb (hg c1) dW_law_655 ?_
    refine lv_if_eq (tgt := 661) hx hb dW_law_656 (by decide) (fun _ => ?_) (fun q9 => absurd rfl q9)
    refine lv_goto (tgt := 1269) hx hb dW_law_661 (by decide) ?_
    exact nx _ _ _ g k σ' _ _ (by omega) (by omega) hI9 ((hl.drop 5).drop 6) (wl_perm hw List.perm_append_comm)

set_option maxHeartbeats 4000000 in
set_option maxRecDepth 100000 in
theorem k_part (C : cx p l s m #[Value.ref b] meth c cW_law 7 "ThreadSlotsLaw" ct D A) (hst : l.stackTraces = false) (hL : L ≤ 2050) (hX : va_X b L xs s s.heap) (hbl : b < s.heap.size) (hbA : ¬ A b) (hN : N ≤ 16) (h0 : 0 < N) (hmm : mm < 2 ^ 29) (hI : Iv N mm σ) (hi : i + 4 ≤ L) (hc : cells + 1 ≤ 601024) (hs : slots + 6 ≤ 7293000) (hl : lq ls 7 [some (.ref b), some (.ref (ad 0 0)), some (.ref (am 0)), some (.ref o), some (.int (nI i)), none, none]) (hw : wl D A s ((wT ct ad N σ ++ [(o, eJ (ct 3) f)]) ++ wM ct am N th σ) H locs)
    (nx : ∀ (H : Heap) (locs : List Loc) (ls : Array Slot) (f : Nat → Int64) (th : Int32) (σ' : St) (cells' slots' : Nat), cells' ≤ cells + 1 → slots' ≤ slots + 6 → Iv N (mm + 2000) σ' → lq ls 7 [some (.ref b), some (.ref (ad 0 0)), some (.ref (am 0)), some (.ref o), some (.int (nI i)), none, none] → wl D A s ((wT ct ad N σ' ++ [(o, eJ (ct 3) f)]) ++ wM ct am N th σ') H locs → W p l e room_1 s m #[Value.ref b] below meth c H locs cells' slots' Q (F0 m 1269 ls [])) : W p l e room_1 s m #[Value.ref b] below meth c H locs cells slots Q (F0 m 664 ls []) := by
  have hx := C.1
  have hb := C.2.1
  refine q_aload_n hx hb hl dW_law_664 rfl ?_
  refine q_aload_n hx hb hl dW_law_665 rfl ?_
  refine q_iload hx hb hl dW_law_666 rfl ?_
  refine lv_iconst (v := 1) hx hb dW_law_668 (by decide) ?_
  refine lv_iadd hx hb dW_law_669 ?_
  refine q_scr C hw hL hX hbl hbA (k := i + 1) (by omega) (nI_add i 1) dW_law_670 ?_
  refine q_aload_n hx hb hl dW_law_671 rfl ?_
  refine q_iload hx hb hl dW_law_672 rfl ?_
  refine lv_iconst (v := 2) hx hb dW_law_674 (by decide) ?_
  refine lv_iadd hx hb dW_law_675 ?_
  refine q_scr C hw hL hX hbl hbA (k := i + 2) (by omega) (nI_add i 2) dW_law_676 ?_
  refine q_aload_n hx hb hl dW_law_677 rfl ?_
  refine q_iload hx hb hl dW_law_678 rfl ?_
  refine lv_iconst (v := 3) hx hb dW_law_680 (by decide) ?_
  refine lv_iadd hx hb dW_law_681 ?_
  refine q_scr C hw hL hX hbl hbA (k := i + 3) (by omega) (nI_add i 3) dW_law_682 ?_
  refine q_aload_n hx hb hl dW_law_683 rfl ?_
  have hw9 := wl_L hw
  refine tc_L (tc_SH C hl (z_part l hst D ct ad N hN h0 σ mm hmm hI o f (xs (i + 1)) (xs (i + 2)) (xs (i + 3)) _) hw9.1 hw9.2.1 hw9.2.2 g_W_114 hd_W_part rfl rfl ⟨(Nat.le_of_ble_eq_true rfl), (Nat.le_of_ble_eq_true rfl)⟩ (Nat.le_of_ble_eq_true rfl) ⟨by show _ ≤ 601024; omega, by show _ ≤ 7293000; omega⟩ dW_law_684 rfl) C hw (fun E ce q9 w1 H locs hp hw h1 h2 h3 => ?_) (fun v w1 H locs hp hw => ?_)
  · exact hp.elim
  obtain ⟨k, B, g, σ', rfl, rfl, hg, hI9, hm⟩ := hp
  dsimp only [Option.toList_some, List.cons_append, List.nil_append]
  refine q_istore hx hb hl dW_law_687 (by decide) (fun ls hl => ?_)
  refine q_aload_n hx hb hl dW_law_689 rfl ?_
  refine q_aload_n hx hb hl dW_law_690 rfl ?_
  refine q_iload hx hb hl dW_law_691 rfl ?_
  refine lv_iconst (v := 1) hx hb dW_law_693 (by decide) ?_
  refine lv_iadd hx hb dW_law_694 ?_
  refine q_scr C hw hL hX hbl hbA (k := i + 1) (by omega) (nI_add i 1) dW_law_695 ?_
  refine q_aload_n hx hb hl dW_law_696 rfl ?_
  refine q_iload hx hb hl dW_law_697 rfl ?_
  refine lv_iconst (v := 2) hx hb dW_law_699 (by decide) ?_
  refine lv_iadd hx hb dW_law_700 ?_
  refine q_scr C hw hL hX hbl hbA (k := i + 2) (by omega) (nI_add i 2) dW_law_701 ?_
  refine q_aload_n hx hb hl dW_law_702 rfl ?_
  refine q_iload hx hb hl dW_law_703 rfl ?_
  refine lv_iconst (v := 3) hx hb dW_law_705 (by decide) ?_
  refine lv_iadd hx hb dW_law_706 ?_
  refine q_scr C hw hL hX hbl hbA (k := i + 3) (by omega) (nI_add i 3) dW_law_707 ?_
  replace hw := wl_perm hw List.perm_append_comm
  have hw9 := wl_L hw
  refine tc_L (tc_V C hl (hm am th _) hw9.1 hw9.2.1 hw9.2.2 g_W_117 (re_M C hw9) hv_M_part rfl rfl ⟨(Nat.le_of_ble_eq_true rfl), (Nat.le_of_ble_eq_true rfl)⟩ (Nat.le_of_ble_eq_true rfl) ⟨by show _ ≤ 601024; omega, by show _ ≤ 7293000; omega⟩ dW_law_708 rfl) C hw (fun E ce q9 w1 H locs hp hw h1 h2 h3 => ?_) (fun v w1 H locs hp hw => ?_)
  · exact hp.elim
  obtain ⟨rfl, rfl⟩ := hp
  dsimp only [Option.toList_some, List.cons_append, List.nil_append]
  refine q_istore hx hb hl dW_law_711 (by decide) (fun ls hl => ?_)
  refine q_aload_n hx hb hl dW_law_713 rfl ?_
  have hw9 := wl_L hw
  refine tc_L (tc_V C hl (m_thrown l hst D ct am N hN h0 k σ' _) hw9.1 hw9.2.1 hw9.2.2 g_W_83 (re_M C hw9) hv_M_thrown rfl rfl ⟨(Nat.le_of_ble_eq_true rfl), (Nat.le_of_ble_eq_true rfl)⟩ (Nat.le_of_ble_eq_true rfl) ⟨by show _ ≤ 601024; omega, by show _ ≤ 7293000; omega⟩ dW_law_714 rfl) C hw (fun E ce q9 w1 H locs hp hw h1 h2 h3 => ?_) (fun v w1 H locs hp hw => ?_)
  · exact hp.elim
  obtain ⟨rfl, rfl⟩ := hp
  dsimp only [Option.toList_some, List.cons_append, List.nil_append]
  refine q_iload hx hb hl dW_law_717 rfl ?_
  refine lv_icmp_eq (tgt := 724) hx hb dW_law_719 (by decide) (fun _ => ?_) (fun q9 => absurd rfl q9)
  refine q_iload hx hb hl dW_law_724 rfl ?_
  refine lv_if_ne (tgt := 741) hx hb dW_law_726 (by decide) (fun c1 => ?_) (fun c1 => ?_)
  · refine lv_goto (tgt := 1269) hx hb dW_law_741 (by decide) ?_
    exact nx _ _ _ g k σ' _ _ (by omega) (by omega) hI9 ((hl.drop 5).drop 6) (wl_perm hw List.perm_append_comm)
  · refine q_aload_n hx hb hl dW_law_729 rfl ?_
    refine lv_iconst (v := 0) hx hb dW_law_730 (by decide) ?_
    refine q_lald C hw (List.mem_append_right _ (List.mem_append_right _ List.mem_cons_self)) dW_law_731 ?_
    refine q_iload hx hb hl dW_law_732 rfl ?_
    refine lv_i2l hx hb dW_law_734 rfl ?_
    refine q_lcmpE hx hb (hg c1) dW_law_735 ?_
    refine lv_if_eq (tgt := 741) hx hb dW_law_736 (by decide) (fun _ => ?_) (fun q9 => absurd rfl q9)
    refine lv_goto (tgt := 1269) hx hb dW_law_741 (by decide) ?_
    exact nx _ _ _ g k σ' _ _ (by omega) (by omega) hI9 ((hl.drop 5).drop 6) (wl_perm hw List.perm_append_comm)

set_option maxHeartbeats 4000000 in
set_option maxRecDepth 100000 in
theorem k_put (C : cx p l s m #[Value.ref b] meth c cW_law 7 "ThreadSlotsLaw" ct D A) (hst : l.stackTraces = false) (hL : L ≤ 2050) (hX : va_X b L xs s s.heap) (hbl : b < s.heap.size) (hbA : ¬ A b) (hN : N ≤ 16) (h0 : 0 < N) (hmm : mm < 2 ^ 29) (hI : Iv N mm σ) (hi : i + 4 ≤ L) (hc : cells + 1 ≤ 601024) (hs : slots + 6 ≤ 7293000) (hl : lq ls 7 [some (.ref b), some (.ref (ad 0 0)), some (.ref (am 0)), some (.ref o), some (.int (nI i)), none, none]) (hw : wl D A s ((wT ct ad N σ ++ [(o, eJ (ct 3) f)]) ++ wM ct am N th σ) H locs)
    (nx : ∀ (H : Heap) (locs : List Loc) (ls : Array Slot) (f : Nat → Int64) (th : Int32) (σ' : St) (cells' slots' : Nat), cells' ≤ cells + 1 → slots' ≤ slots + 6 → Iv N (mm + 2000) σ' → lq ls 7 [some (.ref b), some (.ref (ad 0 0)), some (.ref (am 0)), some (.ref o), some (.int (nI i)), none, none] → wl D A s ((wT ct ad N σ' ++ [(o, eJ (ct 3) f)]) ++ wM ct am N th σ') H locs → W p l e room_1 s m #[Value.ref b] below meth c H locs cells' slots' Q (F0 m 1269 ls [])) : W p l e room_1 s m #[Value.ref b] below meth c H locs cells slots Q (F0 m 744 ls []) := by
  have hx := C.1
  have hb := C.2.1
  refine q_aload_n hx hb hl dW_law_744 rfl ?_
  refine q_aload_n hx hb hl dW_law_745 rfl ?_
  refine q_iload hx hb hl dW_law_746 rfl ?_
  refine lv_iconst (v := 1) hx hb dW_law_748 (by decide) ?_
  refine lv_iadd hx hb dW_law_749 ?_
  refine q_scr C hw hL hX hbl hbA (k := i + 1) (by omega) (nI_add i 1) dW_law_750 ?_
  refine q_aload_n hx hb hl dW_law_751 rfl ?_
  refine q_iload hx hb hl dW_law_752 rfl ?_
  refine lv_iconst (v := 2) hx hb dW_law_754 (by decide) ?_
  refine lv_iadd hx hb dW_law_755 ?_
  refine q_scr C hw hL hX hbl hbA (k := i + 2) (by omega) (nI_add i 2) dW_law_756 ?_
  refine q_aload_n hx hb hl dW_law_757 rfl ?_
  refine q_iload hx hb hl dW_law_758 rfl ?_
  refine lv_iconst (v := 3) hx hb dW_law_760 (by decide) ?_
  refine lv_iadd hx hb dW_law_761 ?_
  refine q_scr C hw hL hX hbl hbA (k := i + 3) (by omega) (nI_add i 3) dW_law_762 ?_
  refine q_aload_n hx hb hl dW_law_763 rfl ?_
  have hw9 := wl_L hw
  refine tc_L (tc_SH C hl (z_put l hst D ct ad N hN h0 σ mm hmm hI o f (xs (i + 1)) (xs (i + 2)) (xs (i + 3)) _) hw9.1 hw9.2.1 hw9.2.2 g_W_118 hd_W_put rfl rfl ⟨(Nat.le_of_ble_eq_true rfl), (Nat.le_of_ble_eq_true rfl)⟩ (Nat.le_of_ble_eq_true rfl) ⟨by show _ ≤ 601024; omega, by show _ ≤ 7293000; omega⟩ dW_law_764 rfl) C hw (fun E ce q9 w1 H locs hp hw h1 h2 h3 => ?_) (fun v w1 H locs hp hw => ?_)
  · exact hp.elim
  obtain ⟨k, B, g, σ', rfl, rfl, hg, hI9, hm⟩ := hp
  dsimp only [Option.toList_some, List.cons_append, List.nil_append]
  refine q_istore hx hb hl dW_law_767 (by decide) (fun ls hl => ?_)
  refine q_aload_n hx hb hl dW_law_769 rfl ?_
  refine q_aload_n hx hb hl dW_law_770 rfl ?_
  refine q_iload hx hb hl dW_law_771 rfl ?_
  refine lv_iconst (v := 1) hx hb dW_law_773 (by decide) ?_
  refine lv_iadd hx hb dW_law_774 ?_
  refine q_scr C hw hL hX hbl hbA (k := i + 1) (by omega) (nI_add i 1) dW_law_775 ?_
  refine q_aload_n hx hb hl dW_law_776 rfl ?_
  refine q_iload hx hb hl dW_law_777 rfl ?_
  refine lv_iconst (v := 2) hx hb dW_law_779 (by decide) ?_
  refine lv_iadd hx hb dW_law_780 ?_
  refine q_scr C hw hL hX hbl hbA (k := i + 2) (by omega) (nI_add i 2) dW_law_781 ?_
  refine q_aload_n hx hb hl dW_law_782 rfl ?_
  refine q_iload hx hb hl dW_law_783 rfl ?_
  refine lv_iconst (v := 3) hx hb dW_law_785 (by decide) ?_
  refine lv_iadd hx hb dW_law_786 ?_
  refine q_scr C hw hL hX hbl hbA (k := i + 3) (by omega) (nI_add i 3) dW_law_787 ?_
  replace hw := wl_perm hw List.perm_append_comm
  have hw9 := wl_L hw
  refine tc_L (tc_V C hl (hm am th _) hw9.1 hw9.2.1 hw9.2.2 g_W_120 (re_M C hw9) hv_M_put rfl rfl ⟨(Nat.le_of_ble_eq_true rfl), (Nat.le_of_ble_eq_true rfl)⟩ (Nat.le_of_ble_eq_true rfl) ⟨by show _ ≤ 601024; omega, by show _ ≤ 7293000; omega⟩ dW_law_788 rfl) C hw (fun E ce q9 w1 H locs hp hw h1 h2 h3 => ?_) (fun v w1 H locs hp hw => ?_)
  · exact hp.elim
  obtain ⟨rfl, rfl⟩ := hp
  dsimp only [Option.toList_some, List.cons_append, List.nil_append]
  refine q_istore hx hb hl dW_law_791 (by decide) (fun ls hl => ?_)
  refine q_aload_n hx hb hl dW_law_793 rfl ?_
  have hw9 := wl_L hw
  refine tc_L (tc_V C hl (m_thrown l hst D ct am N hN h0 k σ' _) hw9.1 hw9.2.1 hw9.2.2 g_W_83 (re_M C hw9) hv_M_thrown rfl rfl ⟨(Nat.le_of_ble_eq_true rfl), (Nat.le_of_ble_eq_true rfl)⟩ (Nat.le_of_ble_eq_true rfl) ⟨by show _ ≤ 601024; omega, by show _ ≤ 7293000; omega⟩ dW_law_794 rfl) C hw (fun E ce q9 w1 H locs hp hw h1 h2 h3 => ?_) (fun v w1 H locs hp hw => ?_)
  · exact hp.elim
  obtain ⟨rfl, rfl⟩ := hp
  dsimp only [Option.toList_some, List.cons_append, List.nil_append]
  refine q_iload hx hb hl dW_law_797 rfl ?_
  refine lv_icmp_eq (tgt := 804) hx hb dW_law_799 (by decide) (fun _ => ?_) (fun q9 => absurd rfl q9)
  refine q_iload hx hb hl dW_law_804 rfl ?_
  refine lv_if_ne (tgt := 821) hx hb dW_law_806 (by decide) (fun c1 => ?_) (fun c1 => ?_)
  · refine lv_goto (tgt := 1269) hx hb dW_law_821 (by decide) ?_
    exact nx _ _ _ g k σ' _ _ (by omega) (by omega) hI9 ((hl.drop 5).drop 6) (wl_perm hw List.perm_append_comm)
  · refine q_aload_n hx hb hl dW_law_809 rfl ?_
    refine lv_iconst (v := 0) hx hb dW_law_810 (by decide) ?_
    refine q_lald C hw (List.mem_append_right _ (List.mem_append_right _ List.mem_cons_self)) dW_law_811 ?_
    refine q_iload hx hb hl dW_law_812 rfl ?_
    refine lv_i2l hx hb dW_law_814 rfl ?_
    refine q_lcmpE hx hb (hg c1) dW_law_815 ?_
    refine lv_if_eq (tgt := 821) hx hb dW_law_816 (by decide) (fun _ => ?_) (fun q9 => absurd rfl q9)
    refine lv_goto (tgt := 1269) hx hb dW_law_821 (by decide) ?_
    exact nx _ _ _ g k σ' _ _ (by omega) (by omega) hI9 ((hl.drop 5).drop 6) (wl_perm hw List.perm_append_comm)

set_option maxHeartbeats 4000000 in
set_option maxRecDepth 100000 in
theorem k_take (C : cx p l s m #[Value.ref b] meth c cW_law 7 "ThreadSlotsLaw" ct D A) (hst : l.stackTraces = false) (hL : L ≤ 2050) (hX : va_X b L xs s s.heap) (hbl : b < s.heap.size) (hbA : ¬ A b) (hN : N ≤ 16) (h0 : 0 < N) (hmm : mm < 2 ^ 29) (hI : Iv N mm σ) (hi : i + 4 ≤ L) (hc : cells + 1 ≤ 601024) (hs : slots + 6 ≤ 7293000) (hl : lq ls 7 [some (.ref b), some (.ref (ad 0 0)), some (.ref (am 0)), some (.ref o), some (.int (nI i)), none, none]) (hw : wl D A s ((wT ct ad N σ ++ [(o, eJ (ct 3) f)]) ++ wM ct am N th σ) H locs)
    (nx : ∀ (H : Heap) (locs : List Loc) (ls : Array Slot) (f : Nat → Int64) (th : Int32) (σ' : St) (cells' slots' : Nat), cells' ≤ cells + 1 → slots' ≤ slots + 6 → Iv N (mm + 2000) σ' → lq ls 7 [some (.ref b), some (.ref (ad 0 0)), some (.ref (am 0)), some (.ref o), some (.int (nI i)), none, none] → wl D A s ((wT ct ad N σ' ++ [(o, eJ (ct 3) f)]) ++ wM ct am N th σ') H locs → W p l e room_1 s m #[Value.ref b] below meth c H locs cells' slots' Q (F0 m 1269 ls [])) : W p l e room_1 s m #[Value.ref b] below meth c H locs cells slots Q (F0 m 824 ls []) := by
  have hx := C.1
  have hb := C.2.1
  refine q_aload_n hx hb hl dW_law_824 rfl ?_
  refine q_aload_n hx hb hl dW_law_825 rfl ?_
  refine q_iload hx hb hl dW_law_826 rfl ?_
  refine lv_iconst (v := 1) hx hb dW_law_828 (by decide) ?_
  refine lv_iadd hx hb dW_law_829 ?_
  refine q_scr C hw hL hX hbl hbA (k := i + 1) (by omega) (nI_add i 1) dW_law_830 ?_
  refine q_aload_n hx hb hl dW_law_831 rfl ?_
  refine q_iload hx hb hl dW_law_832 rfl ?_
  refine lv_iconst (v := 2) hx hb dW_law_834 (by decide) ?_
  refine lv_iadd hx hb dW_law_835 ?_
  refine q_scr C hw hL hX hbl hbA (k := i + 2) (by omega) (nI_add i 2) dW_law_836 ?_
  refine q_aload_n hx hb hl dW_law_837 rfl ?_
  have hw9 := wl_L hw
  refine tc_L (tc_SH C hl (z_take l hst D ct ad N hN h0 σ mm hmm hI o f (xs (i + 1)) (xs (i + 2)) _) hw9.1 hw9.2.1 hw9.2.2 g_W_121 hd_W_take rfl rfl ⟨(Nat.le_of_ble_eq_true rfl), (Nat.le_of_ble_eq_true rfl)⟩ (Nat.le_of_ble_eq_true rfl) ⟨by show _ ≤ 601024; omega, by show _ ≤ 7293000; omega⟩ dW_law_838 rfl) C hw (fun E ce q9 w1 H locs hp hw h1 h2 h3 => ?_) (fun v w1 H locs hp hw => ?_)
  · exact hp.elim
  obtain ⟨k, B, g, σ', rfl, rfl, hg, hI9, hm⟩ := hp
  dsimp only [Option.toList_some, List.cons_append, List.nil_append]
  refine q_istore hx hb hl dW_law_841 (by decide) (fun ls hl => ?_)
  refine q_aload_n hx hb hl dW_law_843 rfl ?_
  refine q_aload_n hx hb hl dW_law_844 rfl ?_
  refine q_iload hx hb hl dW_law_845 rfl ?_
  refine lv_iconst (v := 1) hx hb dW_law_847 (by decide) ?_
  refine lv_iadd hx hb dW_law_848 ?_
  refine q_scr C hw hL hX hbl hbA (k := i + 1) (by omega) (nI_add i 1) dW_law_849 ?_
  refine q_aload_n hx hb hl dW_law_850 rfl ?_
  refine q_iload hx hb hl dW_law_851 rfl ?_
  refine lv_iconst (v := 2) hx hb dW_law_853 (by decide) ?_
  refine lv_iadd hx hb dW_law_854 ?_
  refine q_scr C hw hL hX hbl hbA (k := i + 2) (by omega) (nI_add i 2) dW_law_855 ?_
  replace hw := wl_perm hw List.perm_append_comm
  have hw9 := wl_L hw
  refine tc_L (tc_V C hl (hm am th _) hw9.1 hw9.2.1 hw9.2.2 g_W_123 (re_M C hw9) hv_M_take rfl rfl ⟨(Nat.le_of_ble_eq_true rfl), (Nat.le_of_ble_eq_true rfl)⟩ (Nat.le_of_ble_eq_true rfl) ⟨by show _ ≤ 601024; omega, by show _ ≤ 7293000; omega⟩ dW_law_856 rfl) C hw (fun E ce q9 w1 H locs hp hw h1 h2 h3 => ?_) (fun v w1 H locs hp hw => ?_)
  · exact hp.elim
  obtain ⟨rfl, rfl⟩ := hp
  dsimp only [Option.toList_some, List.cons_append, List.nil_append]
  refine q_istore hx hb hl dW_law_859 (by decide) (fun ls hl => ?_)
  refine q_aload_n hx hb hl dW_law_861 rfl ?_
  have hw9 := wl_L hw
  refine tc_L (tc_V C hl (m_thrown l hst D ct am N hN h0 k σ' _) hw9.1 hw9.2.1 hw9.2.2 g_W_83 (re_M C hw9) hv_M_thrown rfl rfl ⟨(Nat.le_of_ble_eq_true rfl), (Nat.le_of_ble_eq_true rfl)⟩ (Nat.le_of_ble_eq_true rfl) ⟨by show _ ≤ 601024; omega, by show _ ≤ 7293000; omega⟩ dW_law_862 rfl) C hw (fun E ce q9 w1 H locs hp hw h1 h2 h3 => ?_) (fun v w1 H locs hp hw => ?_)
  · exact hp.elim
  obtain ⟨rfl, rfl⟩ := hp
  dsimp only [Option.toList_some, List.cons_append, List.nil_append]
  refine q_iload hx hb hl dW_law_865 rfl ?_
  refine lv_icmp_eq (tgt := 872) hx hb dW_law_867 (by decide) (fun _ => ?_) (fun q9 => absurd rfl q9)
  refine q_iload hx hb hl dW_law_872 rfl ?_
  refine lv_if_ne (tgt := 889) hx hb dW_law_874 (by decide) (fun c1 => ?_) (fun c1 => ?_)
  · refine lv_goto (tgt := 1269) hx hb dW_law_889 (by decide) ?_
    exact nx _ _ _ g k σ' _ _ (by omega) (by omega) hI9 ((hl.drop 5).drop 6) (wl_perm hw List.perm_append_comm)
  · refine q_aload_n hx hb hl dW_law_877 rfl ?_
    refine lv_iconst (v := 0) hx hb dW_law_878 (by decide) ?_
    refine q_lald C hw (List.mem_append_right _ (List.mem_append_right _ List.mem_cons_self)) dW_law_879 ?_
    refine q_iload hx hb hl dW_law_880 rfl ?_
    refine lv_i2l hx hb dW_law_882 rfl ?_
    refine q_lcmpE hx hb (hg c1) dW_law_883 ?_
    refine lv_if_eq (tgt := 889) hx hb dW_law_884 (by decide) (fun _ => ?_) (fun q9 => absurd rfl q9)
    refine lv_goto (tgt := 1269) hx hb dW_law_889 (by decide) ?_
    exact nx _ _ _ g k σ' _ _ (by omega) (by omega) hI9 ((hl.drop 5).drop 6) (wl_perm hw List.perm_append_comm)

set_option maxHeartbeats 4000000 in
set_option maxRecDepth 100000 in
theorem k_entry (C : cx p l s m #[Value.ref b] meth c cW_law 7 "ThreadSlotsLaw" ct D A) (hst : l.stackTraces = false) (hL : L ≤ 2050) (hX : va_X b L xs s s.heap) (hbl : b < s.heap.size) (hbA : ¬ A b) (hN : N ≤ 16) (h0 : 0 < N) (hmm : mm < 2 ^ 29) (hI : Iv N mm σ) (hi : i + 4 ≤ L) (hc : cells + 1 ≤ 601024) (hs : slots + 6 ≤ 7293000) (hl : lq ls 7 [some (.ref b), some (.ref (ad 0 0)), some (.ref (am 0)), some (.ref o), some (.int (nI i)), none, none]) (hw : wl D A s ((wT ct ad N σ ++ [(o, eJ (ct 3) f)]) ++ wM ct am N th σ) H locs)
    (nx : ∀ (H : Heap) (locs : List Loc) (ls : Array Slot) (f : Nat → Int64) (th : Int32) (σ' : St) (cells' slots' : Nat), cells' ≤ cells + 1 → slots' ≤ slots + 6 → Iv N (mm + 2000) σ' → lq ls 7 [some (.ref b), some (.ref (ad 0 0)), some (.ref (am 0)), some (.ref o), some (.int (nI i)), none, none] → wl D A s ((wT ct ad N σ' ++ [(o, eJ (ct 3) f)]) ++ wM ct am N th σ') H locs → W p l e room_1 s m #[Value.ref b] below meth c H locs cells' slots' Q (F0 m 1269 ls [])) : W p l e room_1 s m #[Value.ref b] below meth c H locs cells slots Q (F0 m 892 ls []) := by
  have hx := C.1
  have hb := C.2.1
  refine q_aload_n hx hb hl dW_law_892 rfl ?_
  refine q_aload_n hx hb hl dW_law_893 rfl ?_
  refine q_iload hx hb hl dW_law_894 rfl ?_
  refine lv_iconst (v := 1) hx hb dW_law_896 (by decide) ?_
  refine lv_iadd hx hb dW_law_897 ?_
  refine q_scr C hw hL hX hbl hbA (k := i + 1) (by omega) (nI_add i 1) dW_law_898 ?_
  refine q_aload_n hx hb hl dW_law_899 rfl ?_
  refine q_iload hx hb hl dW_law_900 rfl ?_
  refine lv_iconst (v := 2) hx hb dW_law_902 (by decide) ?_
  refine lv_iadd hx hb dW_law_903 ?_
  refine q_scr C hw hL hX hbl hbA (k := i + 2) (by omega) (nI_add i 2) dW_law_904 ?_
  refine q_aload_n hx hb hl dW_law_905 rfl ?_
  refine q_iload hx hb hl dW_law_906 rfl ?_
  refine lv_iconst (v := 3) hx hb dW_law_908 (by decide) ?_
  refine lv_iadd hx hb dW_law_909 ?_
  refine q_scr C hw hL hX hbl hbA (k := i + 3) (by omega) (nI_add i 3) dW_law_910 ?_
  refine q_aload_n hx hb hl dW_law_911 rfl ?_
  have hw9 := wl_L hw
  refine tc_L (tc_SH C hl (z_entry l hst D ct ad N hN h0 σ mm hmm hI o f (xs (i + 1)) (xs (i + 2)) (xs (i + 3)) _) hw9.1 hw9.2.1 hw9.2.2 g_W_124 hd_W_entry rfl rfl ⟨(Nat.le_of_ble_eq_true rfl), (Nat.le_of_ble_eq_true rfl)⟩ (Nat.le_of_ble_eq_true rfl) ⟨by show _ ≤ 601024; omega, by show _ ≤ 7293000; omega⟩ dW_law_912 rfl) C hw (fun E ce q9 w1 H locs hp hw h1 h2 h3 => ?_) (fun v w1 H locs hp hw => ?_)
  · exact hp.elim
  obtain ⟨k, B, g, σ', rfl, rfl, hg, hI9, hm⟩ := hp
  dsimp only [Option.toList_some, List.cons_append, List.nil_append]
  refine q_istore hx hb hl dW_law_915 (by decide) (fun ls hl => ?_)
  refine q_aload_n hx hb hl dW_law_917 rfl ?_
  refine q_aload_n hx hb hl dW_law_918 rfl ?_
  refine q_iload hx hb hl dW_law_919 rfl ?_
  refine lv_iconst (v := 1) hx hb dW_law_921 (by decide) ?_
  refine lv_iadd hx hb dW_law_922 ?_
  refine q_scr C hw hL hX hbl hbA (k := i + 1) (by omega) (nI_add i 1) dW_law_923 ?_
  refine q_aload_n hx hb hl dW_law_924 rfl ?_
  refine q_iload hx hb hl dW_law_925 rfl ?_
  refine lv_iconst (v := 2) hx hb dW_law_927 (by decide) ?_
  refine lv_iadd hx hb dW_law_928 ?_
  refine q_scr C hw hL hX hbl hbA (k := i + 2) (by omega) (nI_add i 2) dW_law_929 ?_
  refine q_aload_n hx hb hl dW_law_930 rfl ?_
  refine q_iload hx hb hl dW_law_931 rfl ?_
  refine lv_iconst (v := 3) hx hb dW_law_933 (by decide) ?_
  refine lv_iadd hx hb dW_law_934 ?_
  refine q_scr C hw hL hX hbl hbA (k := i + 3) (by omega) (nI_add i 3) dW_law_935 ?_
  replace hw := wl_perm hw List.perm_append_comm
  have hw9 := wl_L hw
  refine tc_L (tc_V C hl (hm am th _) hw9.1 hw9.2.1 hw9.2.2 g_W_126 (re_M C hw9) hv_M_entry rfl rfl ⟨(Nat.le_of_ble_eq_true rfl), (Nat.le_of_ble_eq_true rfl)⟩ (Nat.le_of_ble_eq_true rfl) ⟨by show _ ≤ 601024; omega, by show _ ≤ 7293000; omega⟩ dW_law_936 rfl) C hw (fun E ce q9 w1 H locs hp hw h1 h2 h3 => ?_) (fun v w1 H locs hp hw => ?_)
  · exact hp.elim
  obtain ⟨rfl, rfl⟩ := hp
  dsimp only [Option.toList_some, List.cons_append, List.nil_append]
  refine q_istore hx hb hl dW_law_939 (by decide) (fun ls hl => ?_)
  refine q_aload_n hx hb hl dW_law_941 rfl ?_
  have hw9 := wl_L hw
  refine tc_L (tc_V C hl (m_thrown l hst D ct am N hN h0 k σ' _) hw9.1 hw9.2.1 hw9.2.2 g_W_83 (re_M C hw9) hv_M_thrown rfl rfl ⟨(Nat.le_of_ble_eq_true rfl), (Nat.le_of_ble_eq_true rfl)⟩ (Nat.le_of_ble_eq_true rfl) ⟨by show _ ≤ 601024; omega, by show _ ≤ 7293000; omega⟩ dW_law_942 rfl) C hw (fun E ce q9 w1 H locs hp hw h1 h2 h3 => ?_) (fun v w1 H locs hp hw => ?_)
  · exact hp.elim
  obtain ⟨rfl, rfl⟩ := hp
  dsimp only [Option.toList_some, List.cons_append, List.nil_append]
  refine q_iload hx hb hl dW_law_945 rfl ?_
  refine lv_icmp_eq (tgt := 952) hx hb dW_law_947 (by decide) (fun _ => ?_) (fun q9 => absurd rfl q9)
  refine q_iload hx hb hl dW_law_952 rfl ?_
  refine lv_if_ne (tgt := 969) hx hb dW_law_954 (by decide) (fun c1 => ?_) (fun c1 => ?_)
  · refine lv_goto (tgt := 1269) hx hb dW_law_969 (by decide) ?_
    exact nx _ _ _ g k σ' _ _ (by omega) (by omega) hI9 ((hl.drop 5).drop 6) (wl_perm hw List.perm_append_comm)
  · refine q_aload_n hx hb hl dW_law_957 rfl ?_
    refine lv_iconst (v := 0) hx hb dW_law_958 (by decide) ?_
    refine q_lald C hw (List.mem_append_right _ (List.mem_append_right _ List.mem_cons_self)) dW_law_959 ?_
    refine q_iload hx hb hl dW_law_960 rfl ?_
    refine lv_i2l hx hb dW_law_962 rfl ?_
    refine q_lcmpE hx hb (hg c1) dW_law_963 ?_
    refine lv_if_eq (tgt := 969) hx hb dW_law_964 (by decide) (fun _ => ?_) (fun q9 => absurd rfl q9)
    refine lv_goto (tgt := 1269) hx hb dW_law_969 (by decide) ?_
    exact nx _ _ _ g k σ' _ _ (by omega) (by omega) hI9 ((hl.drop 5).drop 6) (wl_perm hw List.perm_append_comm)

set_option maxHeartbeats 4000000 in
set_option maxRecDepth 100000 in
theorem k_set (C : cx p l s m #[Value.ref b] meth c cW_law 7 "ThreadSlotsLaw" ct D A) (hst : l.stackTraces = false) (hL : L ≤ 2050) (hX : va_X b L xs s s.heap) (hbl : b < s.heap.size) (hbA : ¬ A b) (hN : N ≤ 16) (h0 : 0 < N) (hmm : mm < 2 ^ 29) (hI : Iv N mm σ) (hi : i + 4 ≤ L) (hc : cells + 1 ≤ 601024) (hs : slots + 6 ≤ 7293000) (hl : lq ls 7 [some (.ref b), some (.ref (ad 0 0)), some (.ref (am 0)), some (.ref o), some (.int (nI i)), none, none]) (hw : wl D A s ((wT ct ad N σ ++ [(o, eJ (ct 3) f)]) ++ wM ct am N th σ) H locs)
    (nx : ∀ (H : Heap) (locs : List Loc) (ls : Array Slot) (f : Nat → Int64) (th : Int32) (σ' : St) (cells' slots' : Nat), cells' ≤ cells + 1 → slots' ≤ slots + 6 → Iv N (mm + 2000) σ' → lq ls 7 [some (.ref b), some (.ref (ad 0 0)), some (.ref (am 0)), some (.ref o), some (.int (nI i)), none, none] → wl D A s ((wT ct ad N σ' ++ [(o, eJ (ct 3) f)]) ++ wM ct am N th σ') H locs → W p l e room_1 s m #[Value.ref b] below meth c H locs cells' slots' Q (F0 m 1269 ls [])) : W p l e room_1 s m #[Value.ref b] below meth c H locs cells slots Q (F0 m 972 ls []) := by
  have hx := C.1
  have hb := C.2.1
  refine q_aload_n hx hb hl dW_law_972 rfl ?_
  refine q_aload_n hx hb hl dW_law_973 rfl ?_
  refine q_iload hx hb hl dW_law_974 rfl ?_
  refine lv_iconst (v := 1) hx hb dW_law_976 (by decide) ?_
  refine lv_iadd hx hb dW_law_977 ?_
  refine q_scr C hw hL hX hbl hbA (k := i + 1) (by omega) (nI_add i 1) dW_law_978 ?_
  refine q_aload_n hx hb hl dW_law_979 rfl ?_
  refine q_iload hx hb hl dW_law_980 rfl ?_
  refine lv_iconst (v := 2) hx hb dW_law_982 (by decide) ?_
  refine lv_iadd hx hb dW_law_983 ?_
  refine q_scr C hw hL hX hbl hbA (k := i + 2) (by omega) (nI_add i 2) dW_law_984 ?_
  refine q_aload_n hx hb hl dW_law_985 rfl ?_
  have hw9 := wl_L hw
  refine tc_L (tc_SH C hl (z_set l hst D ct ad N hN h0 σ mm hmm hI o f (xs (i + 1)) (xs (i + 2)) _) hw9.1 hw9.2.1 hw9.2.2 g_W_127 hd_W_set rfl rfl ⟨(Nat.le_of_ble_eq_true rfl), (Nat.le_of_ble_eq_true rfl)⟩ (Nat.le_of_ble_eq_true rfl) ⟨by show _ ≤ 601024; omega, by show _ ≤ 7293000; omega⟩ dW_law_986 rfl) C hw (fun E ce q9 w1 H locs hp hw h1 h2 h3 => ?_) (fun v w1 H locs hp hw => ?_)
  · exact hp.elim
  obtain ⟨k, B, g, σ', rfl, rfl, hg, hI9, hm⟩ := hp
  dsimp only [Option.toList_some, List.cons_append, List.nil_append]
  refine q_istore hx hb hl dW_law_989 (by decide) (fun ls hl => ?_)
  refine q_aload_n hx hb hl dW_law_991 rfl ?_
  refine q_aload_n hx hb hl dW_law_992 rfl ?_
  refine q_iload hx hb hl dW_law_993 rfl ?_
  refine lv_iconst (v := 1) hx hb dW_law_995 (by decide) ?_
  refine lv_iadd hx hb dW_law_996 ?_
  refine q_scr C hw hL hX hbl hbA (k := i + 1) (by omega) (nI_add i 1) dW_law_997 ?_
  refine q_aload_n hx hb hl dW_law_998 rfl ?_
  refine q_iload hx hb hl dW_law_999 rfl ?_
  refine lv_iconst (v := 2) hx hb dW_law_1001 (by decide) ?_
  refine lv_iadd hx hb dW_law_1002 ?_
  refine q_scr C hw hL hX hbl hbA (k := i + 2) (by omega) (nI_add i 2) dW_law_1003 ?_
  replace hw := wl_perm hw List.perm_append_comm
  have hw9 := wl_L hw
  refine tc_L (tc_V C hl (hm am th _) hw9.1 hw9.2.1 hw9.2.2 g_W_129 (re_M C hw9) hv_M_set rfl rfl ⟨(Nat.le_of_ble_eq_true rfl), (Nat.le_of_ble_eq_true rfl)⟩ (Nat.le_of_ble_eq_true rfl) ⟨by show _ ≤ 601024; omega, by show _ ≤ 7293000; omega⟩ dW_law_1004 rfl) C hw (fun E ce q9 w1 H locs hp hw h1 h2 h3 => ?_) (fun v w1 H locs hp hw => ?_)
  · exact hp.elim
  obtain ⟨rfl, rfl⟩ := hp
  dsimp only [Option.toList_some, List.cons_append, List.nil_append]
  refine q_istore hx hb hl dW_law_1007 (by decide) (fun ls hl => ?_)
  refine q_aload_n hx hb hl dW_law_1009 rfl ?_
  have hw9 := wl_L hw
  refine tc_L (tc_V C hl (m_thrown l hst D ct am N hN h0 k σ' _) hw9.1 hw9.2.1 hw9.2.2 g_W_83 (re_M C hw9) hv_M_thrown rfl rfl ⟨(Nat.le_of_ble_eq_true rfl), (Nat.le_of_ble_eq_true rfl)⟩ (Nat.le_of_ble_eq_true rfl) ⟨by show _ ≤ 601024; omega, by show _ ≤ 7293000; omega⟩ dW_law_1010 rfl) C hw (fun E ce q9 w1 H locs hp hw h1 h2 h3 => ?_) (fun v w1 H locs hp hw => ?_)
  · exact hp.elim
  obtain ⟨rfl, rfl⟩ := hp
  dsimp only [Option.toList_some, List.cons_append, List.nil_append]
  refine q_iload hx hb hl dW_law_1013 rfl ?_
  refine lv_icmp_eq (tgt := 1020) hx hb dW_law_1015 (by decide) (fun _ => ?_) (fun q9 => absurd rfl q9)
  refine q_iload hx hb hl dW_law_1020 rfl ?_
  refine lv_if_ne (tgt := 1037) hx hb dW_law_1022 (by decide) (fun c1 => ?_) (fun c1 => ?_)
  · refine lv_goto (tgt := 1269) hx hb dW_law_1037 (by decide) ?_
    exact nx _ _ _ g k σ' _ _ (by omega) (by omega) hI9 ((hl.drop 5).drop 6) (wl_perm hw List.perm_append_comm)
  · refine q_aload_n hx hb hl dW_law_1025 rfl ?_
    refine lv_iconst (v := 0) hx hb dW_law_1026 (by decide) ?_
    refine q_lald C hw (List.mem_append_right _ (List.mem_append_right _ List.mem_cons_self)) dW_law_1027 ?_
    refine q_iload hx hb hl dW_law_1028 rfl ?_
    refine lv_i2l hx hb dW_law_1030 rfl ?_
    refine q_lcmpE hx hb (hg c1) dW_law_1031 ?_
    refine lv_if_eq (tgt := 1037) hx hb dW_law_1032 (by decide) (fun _ => ?_) (fun q9 => absurd rfl q9)
    refine lv_goto (tgt := 1269) hx hb dW_law_1037 (by decide) ?_
    exact nx _ _ _ g k σ' _ _ (by omega) (by omega) hI9 ((hl.drop 5).drop 6) (wl_perm hw List.perm_append_comm)

set_option maxHeartbeats 4000000 in
set_option maxRecDepth 100000 in
theorem k_register (C : cx p l s m #[Value.ref b] meth c cW_law 7 "ThreadSlotsLaw" ct D A) (hst : l.stackTraces = false) (hL : L ≤ 2050) (hX : va_X b L xs s s.heap) (hbl : b < s.heap.size) (hbA : ¬ A b) (hN : N ≤ 16) (h0 : 0 < N) (hmm : mm < 2 ^ 29) (hI : Iv N mm σ) (hi : i + 4 ≤ L) (hc : cells + 1 ≤ 601024) (hs : slots + 6 ≤ 7293000) (hl : lq ls 7 [some (.ref b), some (.ref (ad 0 0)), some (.ref (am 0)), some (.ref o), some (.int (nI i)), none, none]) (hw : wl D A s ((wT ct ad N σ ++ [(o, eJ (ct 3) f)]) ++ wM ct am N th σ) H locs)
    (nx : ∀ (H : Heap) (locs : List Loc) (ls : Array Slot) (f : Nat → Int64) (th : Int32) (σ' : St) (cells' slots' : Nat), cells' ≤ cells + 1 → slots' ≤ slots + 6 → Iv N (mm + 2000) σ' → lq ls 7 [some (.ref b), some (.ref (ad 0 0)), some (.ref (am 0)), some (.ref o), some (.int (nI i)), none, none] → wl D A s ((wT ct ad N σ' ++ [(o, eJ (ct 3) f)]) ++ wM ct am N th σ') H locs → W p l e room_1 s m #[Value.ref b] below meth c H locs cells' slots' Q (F0 m 1269 ls [])) : W p l e room_1 s m #[Value.ref b] below meth c H locs cells slots Q (F0 m 1040 ls []) := by
  have hx := C.1
  have hb := C.2.1
  refine q_aload_n hx hb hl dW_law_1040 rfl ?_
  refine q_aload_n hx hb hl dW_law_1041 rfl ?_
  refine q_iload hx hb hl dW_law_1042 rfl ?_
  refine lv_iconst (v := 1) hx hb dW_law_1044 (by decide) ?_
  refine lv_iadd hx hb dW_law_1045 ?_
  refine q_scr C hw hL hX hbl hbA (k := i + 1) (by omega) (nI_add i 1) dW_law_1046 ?_
  refine q_aload_n hx hb hl dW_law_1047 rfl ?_
  refine q_iload hx hb hl dW_law_1048 rfl ?_
  refine lv_iconst (v := 2) hx hb dW_law_1050 (by decide) ?_
  refine lv_iadd hx hb dW_law_1051 ?_
  refine q_scr C hw hL hX hbl hbA (k := i + 2) (by omega) (nI_add i 2) dW_law_1052 ?_
  refine q_aload_n hx hb hl dW_law_1053 rfl ?_
  have hw9 := wl_L hw
  refine tc_L (tc_SH C hl (z_register l hst D ct ad N hN h0 σ mm hmm hI o f (xs (i + 1)) (xs (i + 2)) _) hw9.1 hw9.2.1 hw9.2.2 g_W_130 hd_W_register rfl rfl ⟨(Nat.le_of_ble_eq_true rfl), (Nat.le_of_ble_eq_true rfl)⟩ (Nat.le_of_ble_eq_true rfl) ⟨by show _ ≤ 601024; omega, by show _ ≤ 7293000; omega⟩ dW_law_1054 rfl) C hw (fun E ce q9 w1 H locs hp hw h1 h2 h3 => ?_) (fun v w1 H locs hp hw => ?_)
  · exact hp.elim
  obtain ⟨k, B, g, σ', rfl, rfl, hg, hI9, hm⟩ := hp
  dsimp only [Option.toList_some, List.cons_append, List.nil_append]
  refine q_istore hx hb hl dW_law_1057 (by decide) (fun ls hl => ?_)
  refine q_aload_n hx hb hl dW_law_1059 rfl ?_
  refine q_aload_n hx hb hl dW_law_1060 rfl ?_
  refine q_iload hx hb hl dW_law_1061 rfl ?_
  refine lv_iconst (v := 1) hx hb dW_law_1063 (by decide) ?_
  refine lv_iadd hx hb dW_law_1064 ?_
  refine q_scr C hw hL hX hbl hbA (k := i + 1) (by omega) (nI_add i 1) dW_law_1065 ?_
  refine q_aload_n hx hb hl dW_law_1066 rfl ?_
  refine q_iload hx hb hl dW_law_1067 rfl ?_
  refine lv_iconst (v := 2) hx hb dW_law_1069 (by decide) ?_
  refine lv_iadd hx hb dW_law_1070 ?_
  refine q_scr C hw hL hX hbl hbA (k := i + 2) (by omega) (nI_add i 2) dW_law_1071 ?_
  replace hw := wl_perm hw List.perm_append_comm
  have hw9 := wl_L hw
  refine tc_L (tc_V C hl (hm am th _) hw9.1 hw9.2.1 hw9.2.2 g_W_132 (re_M C hw9) hv_M_register rfl rfl ⟨(Nat.le_of_ble_eq_true rfl), (Nat.le_of_ble_eq_true rfl)⟩ (Nat.le_of_ble_eq_true rfl) ⟨by show _ ≤ 601024; omega, by show _ ≤ 7293000; omega⟩ dW_law_1072 rfl) C hw (fun E ce q9 w1 H locs hp hw h1 h2 h3 => ?_) (fun v w1 H locs hp hw => ?_)
  · exact hp.elim
  obtain ⟨rfl, rfl⟩ := hp
  dsimp only [Option.toList_some, List.cons_append, List.nil_append]
  refine q_istore hx hb hl dW_law_1075 (by decide) (fun ls hl => ?_)
  refine q_aload_n hx hb hl dW_law_1077 rfl ?_
  have hw9 := wl_L hw
  refine tc_L (tc_V C hl (m_thrown l hst D ct am N hN h0 k σ' _) hw9.1 hw9.2.1 hw9.2.2 g_W_83 (re_M C hw9) hv_M_thrown rfl rfl ⟨(Nat.le_of_ble_eq_true rfl), (Nat.le_of_ble_eq_true rfl)⟩ (Nat.le_of_ble_eq_true rfl) ⟨by show _ ≤ 601024; omega, by show _ ≤ 7293000; omega⟩ dW_law_1078 rfl) C hw (fun E ce q9 w1 H locs hp hw h1 h2 h3 => ?_) (fun v w1 H locs hp hw => ?_)
  · exact hp.elim
  obtain ⟨rfl, rfl⟩ := hp
  dsimp only [Option.toList_some, List.cons_append, List.nil_append]
  refine q_iload hx hb hl dW_law_1081 rfl ?_
  refine lv_icmp_eq (tgt := 1088) hx hb dW_law_1083 (by decide) (fun _ => ?_) (fun q9 => absurd rfl q9)
  refine q_iload hx hb hl dW_law_1088 rfl ?_
  refine lv_if_ne (tgt := 1105) hx hb dW_law_1090 (by decide) (fun c1 => ?_) (fun c1 => ?_)
  · refine lv_goto (tgt := 1269) hx hb dW_law_1105 (by decide) ?_
    exact nx _ _ _ g k σ' _ _ (by omega) (by omega) hI9 ((hl.drop 5).drop 6) (wl_perm hw List.perm_append_comm)
  · refine q_aload_n hx hb hl dW_law_1093 rfl ?_
    refine lv_iconst (v := 0) hx hb dW_law_1094 (by decide) ?_
    refine q_lald C hw (List.mem_append_right _ (List.mem_append_right _ List.mem_cons_self)) dW_law_1095 ?_
    refine q_iload hx hb hl dW_law_1096 rfl ?_
    refine lv_i2l hx hb dW_law_1098 rfl ?_
    refine q_lcmpE hx hb (hg c1) dW_law_1099 ?_
    refine lv_if_eq (tgt := 1105) hx hb dW_law_1100 (by decide) (fun _ => ?_) (fun q9 => absurd rfl q9)
    refine lv_goto (tgt := 1269) hx hb dW_law_1105 (by decide) ?_
    exact nx _ _ _ g k σ' _ _ (by omega) (by omega) hI9 ((hl.drop 5).drop 6) (wl_perm hw List.perm_append_comm)

set_option maxHeartbeats 4000000 in
set_option maxRecDepth 100000 in
theorem k_thread (C : cx p l s m #[Value.ref b] meth c cW_law 7 "ThreadSlotsLaw" ct D A) (hst : l.stackTraces = false) (hL : L ≤ 2050) (hX : va_X b L xs s s.heap) (hbl : b < s.heap.size) (hbA : ¬ A b) (hN : N ≤ 16) (h0 : 0 < N) (hmm : mm < 2 ^ 29) (hI : Iv N mm σ) (hi : i + 4 ≤ L) (hc : cells + 1 ≤ 601024) (hs : slots + 6 ≤ 7293000) (hl : lq ls 7 [some (.ref b), some (.ref (ad 0 0)), some (.ref (am 0)), some (.ref o), some (.int (nI i)), none, none]) (hw : wl D A s ((wT ct ad N σ ++ [(o, eJ (ct 3) f)]) ++ wM ct am N th σ) H locs)
    (nx : ∀ (H : Heap) (locs : List Loc) (ls : Array Slot) (f : Nat → Int64) (th : Int32) (σ' : St) (cells' slots' : Nat), cells' ≤ cells + 1 → slots' ≤ slots + 6 → Iv N (mm + 2000) σ' → lq ls 7 [some (.ref b), some (.ref (ad 0 0)), some (.ref (am 0)), some (.ref o), some (.int (nI i)), none, none] → wl D A s ((wT ct ad N σ' ++ [(o, eJ (ct 3) f)]) ++ wM ct am N th σ') H locs → W p l e room_1 s m #[Value.ref b] below meth c H locs cells' slots' Q (F0 m 1269 ls [])) : W p l e room_1 s m #[Value.ref b] below meth c H locs cells slots Q (F0 m 1108 ls []) := by
  have hx := C.1
  have hb := C.2.1
  refine q_aload_n hx hb hl dW_law_1108 rfl ?_
  refine q_aload_n hx hb hl dW_law_1109 rfl ?_
  refine q_iload hx hb hl dW_law_1110 rfl ?_
  refine lv_iconst (v := 1) hx hb dW_law_1112 (by decide) ?_
  refine lv_iadd hx hb dW_law_1113 ?_
  refine q_scr C hw hL hX hbl hbA (k := i + 1) (by omega) (nI_add i 1) dW_law_1114 ?_
  refine q_aload_n hx hb hl dW_law_1115 rfl ?_
  refine q_iload hx hb hl dW_law_1116 rfl ?_
  refine lv_iconst (v := 2) hx hb dW_law_1118 (by decide) ?_
  refine lv_iadd hx hb dW_law_1119 ?_
  refine q_scr C hw hL hX hbl hbA (k := i + 2) (by omega) (nI_add i 2) dW_law_1120 ?_
  refine q_aload_n hx hb hl dW_law_1121 rfl ?_
  have hw9 := wl_L hw
  refine tc_L (tc_SH C hl (z_thread l hst D ct ad N hN h0 σ mm hmm hI o f (xs (i + 1)) (xs (i + 2)) _) hw9.1 hw9.2.1 hw9.2.2 g_W_133 hd_W_thread rfl rfl ⟨(Nat.le_of_ble_eq_true rfl), (Nat.le_of_ble_eq_true rfl)⟩ (Nat.le_of_ble_eq_true rfl) ⟨by show _ ≤ 601024; omega, by show _ ≤ 7293000; omega⟩ dW_law_1122 rfl) C hw (fun E ce q9 w1 H locs hp hw h1 h2 h3 => ?_) (fun v w1 H locs hp hw => ?_)
  · exact hp.elim
  obtain ⟨k, B, g, σ', rfl, rfl, hg, hI9, hm⟩ := hp
  dsimp only [Option.toList_some, List.cons_append, List.nil_append]
  refine q_istore hx hb hl dW_law_1125 (by decide) (fun ls hl => ?_)
  refine q_aload_n hx hb hl dW_law_1127 rfl ?_
  refine q_aload_n hx hb hl dW_law_1128 rfl ?_
  refine q_iload hx hb hl dW_law_1129 rfl ?_
  refine lv_iconst (v := 1) hx hb dW_law_1131 (by decide) ?_
  refine lv_iadd hx hb dW_law_1132 ?_
  refine q_scr C hw hL hX hbl hbA (k := i + 1) (by omega) (nI_add i 1) dW_law_1133 ?_
  refine q_aload_n hx hb hl dW_law_1134 rfl ?_
  refine q_iload hx hb hl dW_law_1135 rfl ?_
  refine lv_iconst (v := 2) hx hb dW_law_1137 (by decide) ?_
  refine lv_iadd hx hb dW_law_1138 ?_
  refine q_scr C hw hL hX hbl hbA (k := i + 2) (by omega) (nI_add i 2) dW_law_1139 ?_
  replace hw := wl_perm hw List.perm_append_comm
  have hw9 := wl_L hw
  refine tc_L (tc_V C hl (hm am th _) hw9.1 hw9.2.1 hw9.2.2 g_W_135 (re_M C hw9) hv_M_thread rfl rfl ⟨(Nat.le_of_ble_eq_true rfl), (Nat.le_of_ble_eq_true rfl)⟩ (Nat.le_of_ble_eq_true rfl) ⟨by show _ ≤ 601024; omega, by show _ ≤ 7293000; omega⟩ dW_law_1140 rfl) C hw (fun E ce q9 w1 H locs hp hw h1 h2 h3 => ?_) (fun v w1 H locs hp hw => ?_)
  · exact hp.elim
  obtain ⟨rfl, rfl⟩ := hp
  dsimp only [Option.toList_some, List.cons_append, List.nil_append]
  refine q_istore hx hb hl dW_law_1143 (by decide) (fun ls hl => ?_)
  refine q_aload_n hx hb hl dW_law_1145 rfl ?_
  have hw9 := wl_L hw
  refine tc_L (tc_V C hl (m_thrown l hst D ct am N hN h0 k σ' _) hw9.1 hw9.2.1 hw9.2.2 g_W_83 (re_M C hw9) hv_M_thrown rfl rfl ⟨(Nat.le_of_ble_eq_true rfl), (Nat.le_of_ble_eq_true rfl)⟩ (Nat.le_of_ble_eq_true rfl) ⟨by show _ ≤ 601024; omega, by show _ ≤ 7293000; omega⟩ dW_law_1146 rfl) C hw (fun E ce q9 w1 H locs hp hw h1 h2 h3 => ?_) (fun v w1 H locs hp hw => ?_)
  · exact hp.elim
  obtain ⟨rfl, rfl⟩ := hp
  dsimp only [Option.toList_some, List.cons_append, List.nil_append]
  refine q_iload hx hb hl dW_law_1149 rfl ?_
  refine lv_icmp_eq (tgt := 1156) hx hb dW_law_1151 (by decide) (fun _ => ?_) (fun q9 => absurd rfl q9)
  refine q_iload hx hb hl dW_law_1156 rfl ?_
  refine lv_if_ne (tgt := 1173) hx hb dW_law_1158 (by decide) (fun c1 => ?_) (fun c1 => ?_)
  · refine lv_goto (tgt := 1269) hx hb dW_law_1173 (by decide) ?_
    exact nx _ _ _ g k σ' _ _ (by omega) (by omega) hI9 ((hl.drop 5).drop 6) (wl_perm hw List.perm_append_comm)
  · refine q_aload_n hx hb hl dW_law_1161 rfl ?_
    refine lv_iconst (v := 0) hx hb dW_law_1162 (by decide) ?_
    refine q_lald C hw (List.mem_append_right _ (List.mem_append_right _ List.mem_cons_self)) dW_law_1163 ?_
    refine q_iload hx hb hl dW_law_1164 rfl ?_
    refine lv_i2l hx hb dW_law_1166 rfl ?_
    refine q_lcmpE hx hb (hg c1) dW_law_1167 ?_
    refine lv_if_eq (tgt := 1173) hx hb dW_law_1168 (by decide) (fun _ => ?_) (fun q9 => absurd rfl q9)
    refine lv_goto (tgt := 1269) hx hb dW_law_1173 (by decide) ?_
    exact nx _ _ _ g k σ' _ _ (by omega) (by omega) hI9 ((hl.drop 5).drop 6) (wl_perm hw List.perm_append_comm)

set_option maxHeartbeats 4000000 in
set_option maxRecDepth 100000 in
theorem k_share (C : cx p l s m #[Value.ref b] meth c cW_law 7 "ThreadSlotsLaw" ct D A) (hst : l.stackTraces = false) (hL : L ≤ 2050) (hX : va_X b L xs s s.heap) (hbl : b < s.heap.size) (hbA : ¬ A b) (hN : N ≤ 16) (h0 : 0 < N) (hmm : mm < 2 ^ 29) (hI : Iv N mm σ) (hi : i + 4 ≤ L) (hc : cells + 1 ≤ 601024) (hs : slots + 6 ≤ 7293000) (hl : lq ls 7 [some (.ref b), some (.ref (ad 0 0)), some (.ref (am 0)), some (.ref o), some (.int (nI i)), none, none]) (hw : wl D A s ((wT ct ad N σ ++ [(o, eJ (ct 3) f)]) ++ wM ct am N th σ) H locs)
    (nx : ∀ (H : Heap) (locs : List Loc) (ls : Array Slot) (f : Nat → Int64) (th : Int32) (σ' : St) (cells' slots' : Nat), cells' ≤ cells + 1 → slots' ≤ slots + 6 → Iv N (mm + 2000) σ' → lq ls 7 [some (.ref b), some (.ref (ad 0 0)), some (.ref (am 0)), some (.ref o), some (.int (nI i)), none, none] → wl D A s ((wT ct ad N σ' ++ [(o, eJ (ct 3) f)]) ++ wM ct am N th σ') H locs → W p l e room_1 s m #[Value.ref b] below meth c H locs cells' slots' Q (F0 m 1269 ls [])) : W p l e room_1 s m #[Value.ref b] below meth c H locs cells slots Q (F0 m 1176 ls []) := by
  have hx := C.1
  have hb := C.2.1
  refine q_aload_n hx hb hl dW_law_1176 rfl ?_
  refine q_aload_n hx hb hl dW_law_1177 rfl ?_
  refine q_iload hx hb hl dW_law_1178 rfl ?_
  refine lv_iconst (v := 1) hx hb dW_law_1180 (by decide) ?_
  refine lv_iadd hx hb dW_law_1181 ?_
  refine q_scr C hw hL hX hbl hbA (k := i + 1) (by omega) (nI_add i 1) dW_law_1182 ?_
  refine q_aload_n hx hb hl dW_law_1183 rfl ?_
  refine q_iload hx hb hl dW_law_1184 rfl ?_
  refine lv_iconst (v := 2) hx hb dW_law_1186 (by decide) ?_
  refine lv_iadd hx hb dW_law_1187 ?_
  refine q_scr C hw hL hX hbl hbA (k := i + 2) (by omega) (nI_add i 2) dW_law_1188 ?_
  refine q_aload_n hx hb hl dW_law_1189 rfl ?_
  have hw9 := wl_L hw
  refine tc_L (tc_SH C hl (z_share l hst D ct ad N hN h0 σ mm hmm hI o f (xs (i + 1)) (xs (i + 2)) _) hw9.1 hw9.2.1 hw9.2.2 g_W_136 hd_W_share rfl rfl ⟨(Nat.le_of_ble_eq_true rfl), (Nat.le_of_ble_eq_true rfl)⟩ (Nat.le_of_ble_eq_true rfl) ⟨by show _ ≤ 601024; omega, by show _ ≤ 7293000; omega⟩ dW_law_1190 rfl) C hw (fun E ce q9 w1 H locs hp hw h1 h2 h3 => ?_) (fun v w1 H locs hp hw => ?_)
  · exact hp.elim
  obtain ⟨k, B, g, σ', rfl, rfl, hg, hI9, hm⟩ := hp
  dsimp only [Option.toList_some, List.cons_append, List.nil_append]
  refine q_istore hx hb hl dW_law_1193 (by decide) (fun ls hl => ?_)
  refine q_aload_n hx hb hl dW_law_1195 rfl ?_
  refine q_aload_n hx hb hl dW_law_1196 rfl ?_
  refine q_iload hx hb hl dW_law_1197 rfl ?_
  refine lv_iconst (v := 1) hx hb dW_law_1199 (by decide) ?_
  refine lv_iadd hx hb dW_law_1200 ?_
  refine q_scr C hw hL hX hbl hbA (k := i + 1) (by omega) (nI_add i 1) dW_law_1201 ?_
  refine q_aload_n hx hb hl dW_law_1202 rfl ?_
  refine q_iload hx hb hl dW_law_1203 rfl ?_
  refine lv_iconst (v := 2) hx hb dW_law_1205 (by decide) ?_
  refine lv_iadd hx hb dW_law_1206 ?_
  refine q_scr C hw hL hX hbl hbA (k := i + 2) (by omega) (nI_add i 2) dW_law_1207 ?_
  replace hw := wl_perm hw List.perm_append_comm
  have hw9 := wl_L hw
  refine tc_L (tc_V C hl (hm am th _) hw9.1 hw9.2.1 hw9.2.2 g_W_138 (re_M C hw9) hv_M_share rfl rfl ⟨(Nat.le_of_ble_eq_true rfl), (Nat.le_of_ble_eq_true rfl)⟩ (Nat.le_of_ble_eq_true rfl) ⟨by show _ ≤ 601024; omega, by show _ ≤ 7293000; omega⟩ dW_law_1208 rfl) C hw (fun E ce q9 w1 H locs hp hw h1 h2 h3 => ?_) (fun v w1 H locs hp hw => ?_)
  · exact hp.elim
  obtain ⟨rfl, rfl⟩ := hp
  dsimp only [Option.toList_some, List.cons_append, List.nil_append]
  refine q_istore hx hb hl dW_law_1211 (by decide) (fun ls hl => ?_)
  refine q_aload_n hx hb hl dW_law_1213 rfl ?_
  have hw9 := wl_L hw
  refine tc_L (tc_V C hl (m_thrown l hst D ct am N hN h0 k σ' _) hw9.1 hw9.2.1 hw9.2.2 g_W_83 (re_M C hw9) hv_M_thrown rfl rfl ⟨(Nat.le_of_ble_eq_true rfl), (Nat.le_of_ble_eq_true rfl)⟩ (Nat.le_of_ble_eq_true rfl) ⟨by show _ ≤ 601024; omega, by show _ ≤ 7293000; omega⟩ dW_law_1214 rfl) C hw (fun E ce q9 w1 H locs hp hw h1 h2 h3 => ?_) (fun v w1 H locs hp hw => ?_)
  · exact hp.elim
  obtain ⟨rfl, rfl⟩ := hp
  dsimp only [Option.toList_some, List.cons_append, List.nil_append]
  refine q_iload hx hb hl dW_law_1217 rfl ?_
  refine lv_icmp_eq (tgt := 1224) hx hb dW_law_1219 (by decide) (fun _ => ?_) (fun q9 => absurd rfl q9)
  refine q_iload hx hb hl dW_law_1224 rfl ?_
  refine lv_if_ne (tgt := 1241) hx hb dW_law_1226 (by decide) (fun c1 => ?_) (fun c1 => ?_)
  · refine lv_goto (tgt := 1269) hx hb dW_law_1241 (by decide) ?_
    exact nx _ _ _ g k σ' _ _ (by omega) (by omega) hI9 ((hl.drop 5).drop 6) (wl_perm hw List.perm_append_comm)
  · refine q_aload_n hx hb hl dW_law_1229 rfl ?_
    refine lv_iconst (v := 0) hx hb dW_law_1230 (by decide) ?_
    refine q_lald C hw (List.mem_append_right _ (List.mem_append_right _ List.mem_cons_self)) dW_law_1231 ?_
    refine q_iload hx hb hl dW_law_1232 rfl ?_
    refine lv_i2l hx hb dW_law_1234 rfl ?_
    refine q_lcmpE hx hb (hg c1) dW_law_1235 ?_
    refine lv_if_eq (tgt := 1241) hx hb dW_law_1236 (by decide) (fun _ => ?_) (fun q9 => absurd rfl q9)
    refine lv_goto (tgt := 1269) hx hb dW_law_1241 (by decide) ?_
    exact nx _ _ _ g k σ' _ _ (by omega) (by omega) hI9 ((hl.drop 5).drop 6) (wl_perm hw List.perm_append_comm)

set_option maxHeartbeats 4000000 in
set_option maxRecDepth 100000 in
theorem k_count (C : cx p l s m #[Value.ref b] meth c cW_law 7 "ThreadSlotsLaw" ct D A) (hst : l.stackTraces = false) (hL : L ≤ 2050) (hX : va_X b L xs s s.heap) (hbl : b < s.heap.size) (hbA : ¬ A b) (hN : N ≤ 16) (h0 : 0 < N) (hmm : mm < 2 ^ 29) (hI : Iv N mm σ) (hi : i + 4 ≤ L) (hc : cells + 1 ≤ 601024) (hs : slots + 6 ≤ 7293000) (hl : lq ls 7 [some (.ref b), some (.ref (ad 0 0)), some (.ref (am 0)), some (.ref o), some (.int (nI i)), none, none]) (hw : wl D A s ((wT ct ad N σ ++ [(o, eJ (ct 3) f)]) ++ wM ct am N th σ) H locs)
    (nx : ∀ (H : Heap) (locs : List Loc) (ls : Array Slot) (f : Nat → Int64) (th : Int32) (σ' : St) (cells' slots' : Nat), cells' ≤ cells + 1 → slots' ≤ slots + 6 → Iv N (mm + 2000) σ' → lq ls 7 [some (.ref b), some (.ref (ad 0 0)), some (.ref (am 0)), some (.ref o), some (.int (nI i)), none, none] → wl D A s ((wT ct ad N σ' ++ [(o, eJ (ct 3) f)]) ++ wM ct am N th σ') H locs → W p l e room_1 s m #[Value.ref b] below meth c H locs cells' slots' Q (F0 m 1269 ls [])) : W p l e room_1 s m #[Value.ref b] below meth c H locs cells slots Q (F0 m 1244 ls []) := by
  have hx := C.1
  have hb := C.2.1
  replace hw : wl D A s (wT ct ad N σ ++ ([(o, eJ (ct 3) f)] ++ wM ct am N th σ)) H locs := by rw [← List.append_assoc]; exact hw
  refine q_aload_n hx hb hl dW_law_1244 rfl ?_
  refine q_aload_n hx hb hl dW_law_1245 rfl ?_
  refine q_iload hx hb hl dW_law_1246 rfl ?_
  refine lv_iconst (v := 1) hx hb dW_law_1248 (by decide) ?_
  refine lv_iadd hx hb dW_law_1249 ?_
  refine q_scr C hw hL hX hbl hbA (k := i + 1) (by omega) (nI_add i 1) dW_law_1250 ?_
  have hw9 := wl_L hw
  refine tc_L (tc_V C hl (c_cnt l hst D ct ad N hN σ _ (xs (i + 1))) hw9.1 hw9.2.1 hw9.2.2 g_W_139 (re_T C hw9) hv_T_count rfl rfl ⟨(Nat.le_of_ble_eq_true rfl), (Nat.le_of_ble_eq_true rfl)⟩ (Nat.le_of_ble_eq_true rfl) ⟨by show _ ≤ 601024; omega, by show _ ≤ 7293000; omega⟩ dW_law_1251 rfl) C hw (fun E ce q9 w1 H locs hp hw h1 h2 h3 => ?_) (fun v w1 H locs hp hw => ?_)
  · exact hp.elim
  obtain ⟨rfl, rfl⟩ := hp
  dsimp only [Option.toList_some, List.cons_append, List.nil_append]
  rw [← List.append_assoc] at hw
  replace hw := wl_perm hw List.perm_append_comm
  refine q_aload_n hx hb hl dW_law_1254 rfl ?_
  refine q_aload_n hx hb hl dW_law_1255 rfl ?_
  refine q_iload hx hb hl dW_law_1256 rfl ?_
  refine lv_iconst (v := 1) hx hb dW_law_1258 (by decide) ?_
  refine lv_iadd hx hb dW_law_1259 ?_
  refine q_scr C hw hL hX hbl hbA (k := i + 1) (by omega) (nI_add i 1) dW_law_1260 ?_
  have hw9 := wl_L hw
  refine tc_L (tc_V C hl (m_cnt l hst D ct am N hN h0 th σ _ (xs (i + 1))) hw9.1 hw9.2.1 hw9.2.2 g_W_142 (re_M C hw9) hv_M_count rfl rfl ⟨(Nat.le_of_ble_eq_true rfl), (Nat.le_of_ble_eq_true rfl)⟩ (Nat.le_of_ble_eq_true rfl) ⟨by show _ ≤ 601024; omega, by show _ ≤ 7293000; omega⟩ dW_law_1261 rfl) C hw (fun E ce q9 w1 H locs hp hw h1 h2 h3 => ?_) (fun v w1 H locs hp hw => ?_)
  · exact hp.elim
  obtain ⟨rfl, rfl⟩ := hp
  dsimp only [Option.toList_some, List.cons_append, List.nil_append]
  refine lv_icmp_eq (tgt := 1269) hx hb dW_law_1264 (by decide) (fun _ => ?_) (fun q9 => absurd rfl q9)
  exact nx _ _ _ f 0 _ _ _ (by omega) (by omega) (Iv_mono hI (by omega)) hl (wl_perm hw List.perm_append_comm)

end Cases
