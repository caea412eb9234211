theorem i4 {L : Nat} (hL : L ≤ 2050) : (nI L - 4).toInt = (L : Int) - 4 := by
  rw [Int32.toInt_sub, nI_toInt (by omega), show (4 : Int32).toInt = 4 by decide]
  exact Int.bmod_eq_of_le (by omega) (by omega)
theorem gt_i {L i : Nat} (hL : L ≤ 2050) (h : ¬ i + 4 ≤ L ∧ i ≤ 4000) : nI L - 4 < nI i := by
  rw [Int32.lt_iff_toInt_lt, i4 hL, nI_toInt (by omega)]
  omega
theorem le_i {L i : Nat} (hL : L ≤ 2050) (h : i + 4 ≤ L) : ¬ nI L - 4 < nI i := by
  rw [Int32.lt_iff_toInt_lt, i4 hL, nI_toInt (by omega)]
  omega
section LawWalk
variable {p : Program} {l : Launch} {e : Env} {s : State} {m : MethodId} {below : List Frame} {meth : Method} {c : Code} {ct : Ct} {D : va_G} {b L : Nat} {xs : Nat → Int32}
set_option maxHeartbeats 4000000 in
set_option maxRecDepth 100000 in
theorem law_loop {N o : Nat} {ad : Ad} {am : Nat → Nat} (C : cx p l s m #[Value.ref b] meth c cW_law 7 "ThreadSlotsLaw" ct D (fun q => s.heap.size ≤ q)) (hst : l.stackTraces = false) (hr : meth.sig.returnType = ret) (hL : L ≤ 2050) (hX : va_X b L xs s s.heap) (hbl : b < s.heap.size) (hN : N ≤ 16) (h0 : 0 < N) :
    ∀ (n j : Nat) (H : Heap) (locs : List Loc) (ls : Array Slot) (f : Nat → Int64) (th : Int32) (σ : St) (cells slots : Nat), j ≤ 512 → L ≤ 2 + 4 * j + 4 * n → cells ≤ 82 + j → slots ≤ 2184 + 6 * j → Iv N (2000 * j) σ → lq ls 7 [some (.ref b), some (.ref (ad 0 0)), some (.ref (am 0)), some (.ref o), some (.int (nI (2 + 4 * j))), none, none] → wl D (fun q => s.heap.size ≤ q) s ((wT ct ad N σ ++ [(o, eJ (ct 3) f)]) ++ wM ct am N th σ) H locs → W p l e room_1 s m #[Value.ref b] below meth c H locs cells slots (lw_Z below #[Value.ref b] s) (F0 m 43 ls []) := by
  have hx := C.1
  have hb := C.2.1
  have hbA : ¬ s.heap.size ≤ b := by omega
  intro n
  induction n with
  | zero =>
    intro j H locs ls f th σ cells slots hj hn hc hs hI hl hw
    refine q_iload hx hb hl dW_law_43 rfl ?_
    refine q_aload_n hx hb hl dW_law_45 rfl ?_
    refine va_slen hx hb hX hbl hbA hw.2.2 dW_law_46 ?_
    refine lv_iconst (v := 4) hx hb dW_law_47 (by decide) ?_
    refine lv_isub hx hb dW_law_48 ?_
    refine lv_icmp_gt (tgt := 1275) hx hb dW_law_49 (by decide) (fun _ => ?_) (fun q9 => absurd (gt_i hL ⟨by omega, by omega⟩) q9)
    refine lv_iconst (v := 1) hx hb dW_law_1275 (by decide) ?_
    exact W.widen (by omega) (by omega) (va_forget hw.2.2.2.2 (lw_ret hx hb hr C.2.2.2.2.2.2.2.2.1 dW_law_1276))
  | succ n ih =>
    intro j H locs ls f th σ cells slots hj hn hc hs hI hl hw
    refine q_iload hx hb hl dW_law_43 rfl ?_
    refine q_aload_n hx hb hl dW_law_45 rfl ?_
    refine va_slen hx hb hX hbl hbA hw.2.2 dW_law_46 ?_
    refine lv_iconst (v := 4) hx hb dW_law_47 (by decide) ?_
    refine lv_isub hx hb dW_law_48 ?_
    by_cases hi : 2 + 4 * j + 4 ≤ L
    · refine lv_icmp_gt (tgt := 1275) hx hb dW_law_49 (by decide) (fun q9 => absurd q9 (le_i hL hi)) (fun _ => ?_)
      refine q_aload_n hx hb hl dW_law_52 rfl ?_
      refine q_iload hx hb hl dW_law_53 rfl ?_
      refine q_scr C hw hL hX hbl hbA (k := 2 + 4 * j) (by omega) rfl dW_law_55 ?_
      refine lv_bipush (v := 31) hx hb dW_law_56 (by decide) ?_
      refine lv_iand hx hb dW_law_58 ?_
      have nx : ∀ (H : Heap) (locs : List Loc) (ls : Array Slot) (f : Nat → Int64) (th : Int32) (σ' : St) (cells' slots' : Nat), cells' ≤ cells + 1 → slots' ≤ slots + 6 → Iv N (2000 * j + 2000) σ' → lq ls 7 [some (.ref b), some (.ref (ad 0 0)), some (.ref (am 0)), some (.ref o), some (.int (nI (2 + 4 * j))), none, none] → wl D (fun q => s.heap.size ≤ q) s ((wT ct ad N σ' ++ [(o, eJ (ct 3) f)]) ++ wM ct am N th σ') H locs → W p l e room_1 s m #[Value.ref b] below meth c H locs cells' slots' (lw_Z below #[Value.ref b] s) (F0 m 1269 ls []) := by
        intro H locs ls f th σ' cells' slots' h1 h2 h3 hl hw
        refine q_iinc (v := nI (2 + 4 * (j + 1))) hx hb hl dW_law_1269 rfl (by rw [show Int32.ofInt 4 = nI 4 by decide, nI_add]; rfl) (by decide) (fun ls hl => ?_)
        refine lv_goto (tgt := 43) hx hb dW_law_1272 (by decide) ?_
        exact ih (j + 1) H locs ls f th σ' cells' slots' (by omega) (by omega) (by omega) (by omega) (Iv_mono h3 (by omega)) hl hw
      rcases sw_in (xs (2 + 4 * j) &&& 31) 18 (by decide) with ⟨k, hk, hxk⟩ | hout
      · rw [hxk]
        rcases (show k = 0 ∨ k = 1 ∨ k = 2 ∨ k = 3 ∨ k = 4 ∨ k = 5 ∨ k = 6 ∨ k = 7 ∨ k = 8 ∨ k = 9 ∨ k = 10 ∨ k = 11 ∨ k = 12 ∨ k = 13 ∨ k = 14 ∨ k = 15 ∨ k = 16 ∨ k = 17 by omega) with rfl | rfl | rfl | rfl | rfl | rfl | rfl | rfl | rfl | rfl | rfl | rfl | rfl | rfl | rfl | rfl | rfl | rfl
        · refine lv_tableIn (tgt := 144) hx hb dW_law_59 (by decide) (by decide) rfl (by decide) ?_
          exact k_rule C hst hL hX hbl hbA hN h0 (by omega) hI hi (by omega) (by omega) hl hw nx
        · refine lv_tableIn (tgt := 200) hx hb dW_law_59 (by decide) (by decide) rfl (by decide) ?_
          exact k_bound C hst hL hX hbl hbA hN h0 (by omega) hI hi (by omega) (by omega) hl hw nx
        · refine lv_tableIn (tgt := 256) hx hb dW_law_59 (by decide) (by decide) rfl (by decide) ?_
          exact k_cost C hst hL hX hbl hbA hN h0 (by omega) hI hi (by omega) (by omega) hl hw nx
        · refine lv_tableIn (tgt := 312) hx hb dW_law_59 (by decide) (by decide) rfl (by decide) ?_
          exact k_ready C hst hL hX hbl hbA hN h0 (by omega) hI hi (by omega) (by omega) hl hw nx
        · refine lv_tableIn (tgt := 403) hx hb dW_law_59 (by decide) (by decide) rfl (by decide) ?_
          exact k_rank C hst hL hX hbl hbA hN h0 (by omega) hI hi (by omega) (by omega) hl hw nx
        · refine lv_tableIn (tgt := 471) hx hb dW_law_59 (by decide) (by decide) rfl (by decide) ?_
          exact k_sleep C hst hL hX hbl hbA hN h0 (by omega) hI hi (by omega) (by omega) hl hw nx
        · refine lv_tableIn (tgt := 539) hx hb dW_law_59 (by decide) (by decide) rfl (by decide) ?_
          exact k_miss C hst hL hX hbl hbA hN h0 (by omega) hI hi (by omega) (by omega) hl hw nx
        · refine lv_tableIn (tgt := 595) hx hb dW_law_59 (by decide) (by decide) rfl (by decide) ?_
          exact k_cycle C hst hL hX hbl hbA hN h0 (by omega) hI hi (by omega) (by omega) hl hw nx
        · refine lv_tableIn (tgt := 608) hx hb dW_law_59 (by decide) (by decide) rfl (by decide) ?_
          exact k_run C hst hL hX hbl hbA hN h0 (by omega) hI hi (by omega) (by omega) hl hw nx
        · refine lv_tableIn (tgt := 664) hx hb dW_law_59 (by decide) (by decide) rfl (by decide) ?_
          exact k_part C hst hL hX hbl hbA hN h0 (by omega) hI hi (by omega) (by omega) hl hw nx
        · refine lv_tableIn (tgt := 744) hx hb dW_law_59 (by decide) (by decide) rfl (by decide) ?_
          exact k_put C hst hL hX hbl hbA hN h0 (by omega) hI hi (by omega) (by omega) hl hw nx
        · refine lv_tableIn (tgt := 824) hx hb dW_law_59 (by decide) (by decide) rfl (by decide) ?_
          exact k_take C hst hL hX hbl hbA hN h0 (by omega) hI hi (by omega) (by omega) hl hw nx
        · refine lv_tableIn (tgt := 892) hx hb dW_law_59 (by decide) (by decide) rfl (by decide) ?_
          exact k_entry C hst hL hX hbl hbA hN h0 (by omega) hI hi (by omega) (by omega) hl hw nx
        · refine lv_tableIn (tgt := 972) hx hb dW_law_59 (by decide) (by decide) rfl (by decide) ?_
          exact k_set C hst hL hX hbl hbA hN h0 (by omega) hI hi (by omega) (by omega) hl hw nx
        · refine lv_tableIn (tgt := 1040) hx hb dW_law_59 (by decide) (by decide) rfl (by decide) ?_
          exact k_register C hst hL hX hbl hbA hN h0 (by omega) hI hi (by omega) (by omega) hl hw nx
        · refine lv_tableIn (tgt := 1108) hx hb dW_law_59 (by decide) (by decide) rfl (by decide) ?_
          exact k_thread C hst hL hX hbl hbA hN h0 (by omega) hI hi (by omega) (by omega) hl hw nx
        · refine lv_tableIn (tgt := 1176) hx hb dW_law_59 (by decide) (by decide) rfl (by decide) ?_
          exact k_share C hst hL hX hbl hbA hN h0 (by omega) hI hi (by omega) (by omega) hl hw nx
        · refine lv_tableIn (tgt := 1244) hx hb dW_law_59 (by decide) (by decide) rfl (by decide) ?_
          exact k_count C hst hL hX hbl hbA hN h0 (by omega) hI hi (by omega) (by omega) hl hw nx
      · refine lv_tableOut (tgt := 1269) hx hb dW_law_59 (by omega) (by decide) ?_
        exact nx _ _ _ f th σ _ _ (by omega) (by omega) (Iv_mono hI (by omega)) hl hw
    · refine lv_icmp_gt (tgt := 1275) hx hb dW_law_49 (by decide) (fun _ => ?_) (fun q9 => absurd (gt_i hL ⟨by omega, by omega⟩) q9)
      refine lv_iconst (v := 1) hx hb dW_law_1275 (by decide) ?_
      exact W.widen (by omega) (by omega) (va_forget hw.2.2.2.2 (lw_ret hx hb hr C.2.2.2.2.2.2.2.2.1 dW_law_1276))
theorem Iv_0 (N : Nat) (x : Int32) : Iv N 0 (s0 x) := by
  refine ⟨Or.inl rfl, Or.inl rfl, fun t _ => Or.inl rfl, fun q _ => ⟨0, by decide, rfl⟩, ⟨0, by decide, rfl⟩, ⟨0, by decide, rfl⟩, fun t _ => ⟨0, by decide, rfl⟩, ⟨0, by decide, rfl, fun t _ => ⟨0, by decide, rfl⟩⟩⟩
set_option maxHeartbeats 4000000 in
set_option maxRecDepth 100000 in
theorem law_walk (C : cx p l s m #[Value.ref b] meth c cW_law 7 "ThreadSlotsLaw" ct D (fun q => s.heap.size ≤ q)) (hst : l.stackTraces = false) (hr : meth.sig.returnType = ret) (hL : L ≤ 2050) (hX : va_X b L xs s s.heap) (hbl : b < s.heap.size) {ls : Array Slot} (hl : lq ls 7 [some (.ref b), none, none, none, none, none, none]) : W p l e room_1 s m #[Value.ref b] below meth c s.heap [] 0 0 (lw_Z below #[Value.ref b] s) (F0 m 0 ls []) := by
  have hx := C.1
  have hb := C.2.1
  have hbA : ¬ s.heap.size ≤ b := by omega
  have hw : wl D (fun q => s.heap.size ≤ q) s [] s.heap [] := ⟨fun k q h => (by cases h), ⟨fun i j x y h => (by cases h), fun k q h => (by cases h)⟩, va_S.rf⟩
  obtain ⟨N, h1N, hN, hf1, hf2⟩ := fmod_ok ((if 0 < L then xs 0 else 0) - 1)
  refine q_new C hw kT rfl iT tT_ok nk_T zT zT_ok (Nat.le_of_ble_eq_true rfl) (Nat.le_of_ble_eq_true rfl) dW_law_0 (fun h H hw => ?_)
  refine lv_dup hx hb dW_law_3 rfl ?_
  refine q_aload_n hx hb hl dW_law_4 rfl ?_
  refine lv_iconst (v := 0) hx hb dW_law_5 (by decide) ?_
  refine tc_cell C hl hw hL hX hbl hbA 0 (by decide) g_W_67 ⟨(Nat.le_of_ble_eq_true rfl), (Nat.le_of_ble_eq_true rfl)⟩ (Nat.le_of_ble_eq_true rfl) ⟨(Nat.le_of_ble_eq_true rfl), (Nat.le_of_ble_eq_true rfl)⟩ dW_law_6 ?_
  refine q_aload_n hx hb hl dW_law_9 rfl ?_
  refine lv_iconst (v := 1) hx hb dW_law_10 (by decide) ?_
  refine tc_cell C hl hw hL hX hbl hbA 1 (by decide) g_W_67 ⟨(Nat.le_of_ble_eq_true rfl), (Nat.le_of_ble_eq_true rfl)⟩ (Nat.le_of_ble_eq_true rfl) ⟨(Nat.le_of_ble_eq_true rfl), (Nat.le_of_ble_eq_true rfl)⟩ dW_law_11 ?_
  refine tc_E (tc_I C hl (c_Tinit l hst D ct h _ _ _ N h1N hN hf1) hw.1 hw.2.1 hw.2.2 ic_T iw_T rfl hd_T_init rfl rfl ⟨(Nat.le_of_ble_eq_true rfl), (Nat.le_of_ble_eq_true rfl)⟩ (Nat.le_of_ble_eq_true rfl) ⟨(Nat.le_of_ble_eq_true rfl), (Nat.le_of_ble_eq_true rfl)⟩ dW_law_14 rfl) C hw (fun E ce q9 w1 H locs hp hw h1 h2 h3 => ?_) (fun v w1 H locs hp hw => ?_)
  · exact hp.elim
  obtain ⟨rfl, ad, rfl, rfl⟩ := hp
  dsimp only [Option.toList_none, List.nil_append]
  refine q_astore_n hx hb hl dW_law_17 (by decide) (fun ls hl => ?_)
  refine q_new C hw kM rfl iM tM_ok nk_M zM zM_ok (Nat.le_of_ble_eq_true rfl) (Nat.le_of_ble_eq_true rfl) dW_law_18 (fun h H hw => ?_)
  refine lv_dup hx hb dW_law_21 rfl ?_
  refine q_aload_n hx hb hl dW_law_22 rfl ?_
  refine lv_iconst (v := 0) hx hb dW_law_23 (by decide) ?_
  refine tc_cell C hl hw hL hX hbl hbA 0 (by decide) g_W_67 ⟨(Nat.le_of_ble_eq_true rfl), (Nat.le_of_ble_eq_true rfl)⟩ (Nat.le_of_ble_eq_true rfl) ⟨(Nat.le_of_ble_eq_true rfl), (Nat.le_of_ble_eq_true rfl)⟩ dW_law_24 ?_
  refine q_aload_n hx hb hl dW_law_27 rfl ?_
  refine lv_iconst (v := 1) hx hb dW_law_28 (by decide) ?_
  refine tc_cell C hl hw hL hX hbl hbA 1 (by decide) g_W_67 ⟨(Nat.le_of_ble_eq_true rfl), (Nat.le_of_ble_eq_true rfl)⟩ (Nat.le_of_ble_eq_true rfl) ⟨(Nat.le_of_ble_eq_true rfl), (Nat.le_of_ble_eq_true rfl)⟩ dW_law_29 ?_
  have hw9 := wl_R hw
  refine tc_R (tc_I C hl (m_init l hst D ct h _ _ _ N hf2) hw9.1 hw9.2.1 hw9.2.2 ic_M iw_M rfl hd_M_init rfl rfl ⟨(Nat.le_of_ble_eq_true rfl), (Nat.le_of_ble_eq_true rfl)⟩ (Nat.le_of_ble_eq_true rfl) ⟨(Nat.le_of_ble_eq_true rfl), (Nat.le_of_ble_eq_true rfl)⟩ dW_law_32 rfl) C hw (fun E ce q9 w1 H locs hp hw h1 h2 h3 => ?_) (fun v w1 H locs hp hw => ?_)
  · exact hp.elim
  obtain ⟨rfl, am, rfl, rfl⟩ := hp
  dsimp only [Option.toList_none, List.nil_append]
  refine q_astore_n hx hb hl dW_law_35 (by decide) (fun ls hl => ?_)
  refine lv_iconst (v := 1) hx hb dW_law_36 (by decide) ?_
  refine nw_j (k := 1) C hw rfl (by decide) (Nat.le_of_ble_eq_true rfl) (Nat.le_of_ble_eq_true rfl) dW_law_37 (fun o H hw => ?_)
  refine q_astore_n hx hb hl dW_law_39 (by decide) (fun ls hl => ?_)
  refine lv_iconst (v := 2) hx hb dW_law_40 (by decide) ?_
  refine q_istore hx hb hl dW_law_41 (by decide) (fun ls hl => ?_)
  exact law_loop C hst hr hL hX hbl hN (by omega) 512 0 _ _ _ _ 0 _ _ _ (by omega) (by omega) (Nat.le_of_ble_eq_true rfl) (Nat.le_of_ble_eq_true rfl) (Iv_0 N _) hl ⟨hw.1.swap, hw.2.1.swap, hw.2.2⟩
end LawWalk
