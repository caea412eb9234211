theorem arr_of {args : Array Value} {s : State} {ty : FieldType} (h : (Cond.arrayClass ty).before args s = true) : ∃ cA : ClassId, ArrOfT s cA ty ∧ s.vm.findClass ("[" ++ ty.toString) = some cA := by
  obtain ⟨cA, k, comp, h1, h2, h3⟩ := Cond.arrayClass_spec h
  exact ⟨cA, fun n z => ⟨(fun k h => by cases h), k, h2, comp, h3⟩, h1⟩
theorem arq_of {args : Array Value} {s : State} {K : String} (h : (Cond.arrayOver (.object K)).before args s = true) : ∃ cA : ClassId, ArrOfT s cA (.object K) ∧ va_RA s cA (.object K) := by
  obtain ⟨comp, cA, k, h1, -, h2, h3, h4⟩ := Cond.arrayOver_spec h
  exact ⟨cA, fun n z => ⟨(fun k h => by cases h), k, h2, comp, h3⟩, k, comp, h2, h3, h1, h4⟩
theorem inT {w : Cond} (h : w ∈ wsG) : w ∈ lw_tbl := (List.mem_filter.mp h).1
set_option maxHeartbeats 4000000 in
set_option maxRecDepth 100000 in
theorem whole_start {p : Program} {e : Env} {s : State} {m : MethodId} {below : List Frame} {meth : Method} {c : Code} (l : Launch) (hst : l.stackTraces = false) {b L : Nat} {xs : Nat → Int32} (hL : L ≤ 2050) (C0 : lw_At p s m meth c b L xs) : W p l e room_1 s m #[Value.ref b] below meth c s.heap [] 0 0 (lw_Z below #[Value.ref b] s) (entryFrame m ([Value.ref b] : List Value).toArray 7) := by
  obtain ⟨hx, hb, hr, hml, hown, hts, hX, hbl, hlk, hgv⟩ := C0
  have hfl := flat_of_before _ hgv
  have hG : ∀ w ∈ wsG, w.before #[Value.ref b] s = true := fun w hw => hts w (inT hw)
  obtain ⟨c0, i0, k0⟩ := u_known (C := RT) (T := FT) (N := 13) hG iT (hG _ nk_T.2.1)
  obtain ⟨c1, i1, k1⟩ := u_known (C := RS) (T := FS) (N := 10) hG iS (hG _ nk_S.2.1)
  obtain ⟨c2, i2, k2⟩ := u_known (C := RL_) (T := FL_) (N := 4) hG iL (hG _ nk_L.2.1)
  obtain ⟨c3, i3, k3⟩ := u_known (C := RM) (T := FM) (N := 26) hG iM (hG _ nk_M.2.1)
  obtain ⟨a0, A0, B0⟩ := arr_of (hG _ nw_w0)
  obtain ⟨a3, A3, B3⟩ := arr_of (hG _ nw_w3)
  obtain ⟨a4, A4, B4⟩ := arr_of (hG _ nw_w4)
  have o1 : (Cond.arrayOver (.object "ThreadSlots$Strand")).before #[Value.ref b] s = true := hts _ (List.mem_of_getElem? (i := 58) (by decide +kernel))
  have o2 : (Cond.arrayOver (.object "ThreadSlots$Line")).before #[Value.ref b] s = true := hts _ (List.mem_of_getElem? (i := 98) (by decide +kernel))
  obtain ⟨a1, A1, B1⟩ := arq_of o1
  obtain ⟨a2, A2, B2⟩ := arq_of o2
  have hK : va_K ((fun k => match k with | 0 => c0 | 1 => c1 | 2 => c2 | _ => c3), (fun k => match k with | 0 => i0 | 1 => i1 | 2 => i2 | _ => i3)) vwCl (tyl (fun k => match k with | 0 => a0 | 1 => a1 | 2 => a2 | 3 => a3 | _ => a4)) s := by
    refine ⟨fun k q hk => ?_, fun k q hk => ?_⟩
    · match k, hk with
      | 0, hk => cases hk; exact k0
      | 1, hk => cases hk; exact k1
      | 2, hk => cases hk; exact k2
      | 3, hk => cases hk; exact k3
      | k + 4, hk => cases hk
    · match k, hk with
      | 0, hk => cases hk; exact ⟨A0, B0⟩
      | 1, hk => cases hk; exact ⟨A1, B1⟩
      | 2, hk => cases hk; exact ⟨A2, B2⟩
      | 3, hk => cases hk; exact ⟨A3, B3⟩
      | 4, hk => cases hk; exact ⟨A4, B4⟩
      | k + 5, hk => cases hk
  have hA : ∀ a : Nat, a < s.heap.size → ¬ s.heap.size ≤ a := fun a h => by omega
  have hE : En (fun q => s.heap.size ≤ q) s s.heap := by
    refine ⟨fun w hw => va_Nw.of (isN_tabs (List.mem_filter.mp hw).2) (hts w (List.mem_filter.mp hw).1), ⟨fun q hq => ?_, fun q hq => ?_, va_AO.of o1, va_AO.of o2⟩, ?_, ?_⟩
    · have h1 : (Cond.stringRef q.1 q.2.1 q.2.2).before #[Value.ref b] s = true := hts _ ((by decide +kernel : ∀ q ∈ strs, Cond.stringRef q.1 q.2.1 q.2.2 ∈ lw_tbl) q hq)
      obtain ⟨a, c9, cell, k9, h2, -⟩ := Cond.exactly_spec (args := #[Value.ref b]) (first := s) (o := none) (s := s) (idx := []) (t := .string q.1 q.2.1) (cls := "java/lang/String") (hfl _ ((by decide +kernel : ∀ q ∈ strs, Cond.exactly (.string q.1 q.2.1) "java/lang/String" ∈ flatC (Jvm.Cond.and given_1 narrow_1)) q hq))
      exact ⟨a, vk_R.of h1 h2⟩
    · exact va_Nc.of (hfl _ ((by decide +kernel : ∀ q ∈ ncs, Cond.not (.castable q.1 q.2) ∈ flatC (Jvm.Cond.and given_1 narrow_1)) q hq))
    · exact vx_Zqof (hts _ (List.mem_of_getElem? (i := 272) (by decide +kernel))) (hts _ (List.mem_of_getElem? (i := 40) (by decide +kernel))) (hfl _ (by decide +kernel)) hA
    · exact vx_Zqof (hts _ (List.mem_of_getElem? (i := 274) (by decide +kernel))) (hts _ (List.mem_of_getElem? (i := 40) (by decide +kernel))) (hfl _ (by decide +kernel)) hA
  rw [lg_entry_eq]
  exact law_walk ⟨hx, hb, hml, hown, hG, hK, hE, fun q h => h, hlk, hst⟩ hst hr hL hX hbl (lq.entry (vs := [Value.ref b]) (n := 7) (Nat.le_of_ble_eq_true rfl) (by simp [Value.category]))
