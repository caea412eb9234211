/-! The class's world, and the rows of its fields and arrays. kT kS kL: the places of the classes in vwCl; aliases RT FT tT .. of the names. -/
theorem inG {w : Cond} (h : w ∈ lw_tbl) (hg : goodWord w = true) : w ∈ wsG := List.mem_filter.mpr ⟨h, hg⟩
theorem inN {w : Cond} (h : w ∈ lw_tbl) (hg : isN w = true) : w ∈ wsN := List.mem_filter.mpr ⟨h, hg⟩
theorem iT : ∀ w ∈ u_ws RT FT 13, w ∈ wsG := fun w hw => inG ((by decide +kernel : ∀ w ∈ u_ws RT FT 13, w ∈ lw_tbl) w hw) ((by decide +kernel : ∀ w ∈ u_ws RT FT 13, goodWord w = true) w hw)
theorem fT_ref : ∀ k, k < 13 → (FT k).1 = RT := by decide +kernel
theorem fT_same (k : Nat) (hk : k < 13) (s : State) : ∀ x, s.fieldFound? (FT k).1 (FT k).2.1 (FT k).2.2.1 = some x → s.fieldFound? RT (FT k).2.1 (FT k).2.2.1 = some x := fun x h => by rw [fT_ref k hk] at h; exact h
theorem iS : ∀ w ∈ u_ws RS FS 10, w ∈ wsG := fun w hw => inG ((by decide +kernel : ∀ w ∈ u_ws RS FS 10, w ∈ lw_tbl) w hw) ((by decide +kernel : ∀ w ∈ u_ws RS FS 10, goodWord w = true) w hw)
theorem fS_ref : ∀ k, k < 10 → (FS k).1 = RS := by decide +kernel
theorem fS_same (k : Nat) (hk : k < 10) (s : State) : ∀ x, s.fieldFound? (FS k).1 (FS k).2.1 (FS k).2.2.1 = some x → s.fieldFound? RS (FS k).2.1 (FS k).2.2.1 = some x := fun x h => by rw [fS_ref k hk] at h; exact h
theorem iL : ∀ w ∈ u_ws RL_ FL_ 4, w ∈ wsG := fun w hw => inG ((by decide +kernel : ∀ w ∈ u_ws RL_ FL_ 4, w ∈ lw_tbl) w hw) ((by decide +kernel : ∀ w ∈ u_ws RL_ FL_ 4, goodWord w = true) w hw)
theorem fL_ref : ∀ k, k < 4 → (FL_ k).1 = RL_ := by decide +kernel
theorem fL_same (k : Nat) (hk : k < 4) (s : State) : ∀ x, s.fieldFound? (FL_ k).1 (FL_ k).2.1 (FL_ k).2.2.1 = some x → s.fieldFound? RL_ (FL_ k).2.1 (FL_ k).2.2.1 = some x := fun x h => by rw [fL_ref k hk] at h; exact h
theorem fT_fin0 : ∀ j, j < 11 → (FT (j + 2)).2.2.2 = false ∧ parseFieldDescriptor (FT (j + 2)).2.2.1 = some .int := by decide +kernel
theorem fT_fin (j : Nat) (hj : j < 11) : (FT (j + 2)).2.2.2 = false ∧ parseFieldDescriptor (FT (j + 2)).2.2.1 = some .int := fT_fin0 j hj
theorem fS_fin : ∀ j, j < 9 → (FS (j + 1)).2.2.2 = false := by decide +kernel
def fT (ad : Ad) (σ : St) : List Value := [.ref (ad 0 1), .ref (ad 0 2), .int (σ 0 0 0), .int (σ 0 0 1), .int (σ 0 0 2), .int (σ 0 0 3), .int (σ 0 0 4), .int (σ 0 0 5), .int (σ 0 0 6), .int (σ 0 0 7), .int (σ 0 0 8), .int (σ 0 0 9), .int (σ 0 0 10)]
def fS (ad : Ad) (σ : St) (t : Nat) : List Value := [.ref (ad 2 t), .int (σ 1 t 0), .int (σ 1 t 1), .int (σ 1 t 2), .int (σ 1 t 3), .int (σ 1 t 4), .int (σ 1 t 5), .int (σ 1 t 6), .int (σ 1 t 7), .int (σ 1 t 8)]
def fL (ad : Ad) (σ : St) (q : Nat) : List Value := [.ref (ad 4 q), .ref (ad 5 q), .ref (ad 6 q), .int (σ 3 q 0)]
abbrev eI (c : ClassId) (n : Nat) (f : Nat → Int32) : va_E := .inl (c, n, .inl f)
abbrev eQ (c : ClassId) (n : Nat) (f : Nat → Option Nat) : va_E := .inl (c, n, .inr (.inr (.inr (.inr f))))
def sT (ct : Ct) (ad : Ad) (N : Nat) (σ : St) : List (Nat × (Nat → Nat × va_E)) :=
  [(1, fun _ => (ad 0 0, .inr (kT, fT ad σ))), (1, fun _ => (ad 0 1, eQ (ct 1) N (fun t => some (ad 1 t)))), (1, fun _ => (ad 0 2, eQ (ct 2) 8 (fun q => some (ad 3 q)))),
   (N, fun t => (ad 1 t, .inr (kS, fS ad σ t))), (N, fun t => (ad 2 t, eI (ct 0) 16 (σ 2 t))), (8, fun q => (ad 3 q, .inr (kL, fL ad σ q))), (8, fun q => (ad 4 q, eI (ct 0) 32 (σ 4 q))), (8, fun q => (ad 5 q, eI (ct 0) 32 (σ 5 q))), (8, fun q => (ad 6 q, eI (ct 0) 16 (σ 6 q)))]
def wT (ct : Ct) (ad : Ad) (N : Nat) (σ : St) : va_W := sg (sT ct ad N σ)
theorem fT_su {ad : Ad} {σ : St} {v : Int32} : ∀ j, j < 11 → fT ad (su σ 0 0 j v) = (fT ad σ).set (j + 2) (.int v) := by
  intro j hj
  rcases (show j = 0 ∨ j = 1 ∨ j = 2 ∨ j = 3 ∨ j = 4 ∨ j = 5 ∨ j = 6 ∨ j = 7 ∨ j = 8 ∨ j = 9 ∨ j = 10 by omega) with rfl | rfl | rfl | rfl | rfl | rfl | rfl | rfl | rfl | rfl | rfl <;> simp [fT, su]
theorem fS_su {ad : Ad} {σ : St} {v : Int32} {t : Nat} : ∀ j, j < 9 → fS ad (su σ 1 t j v) t = (fS ad σ t).set (j + 1) (.int v) := by
  intro j hj
  rcases (show j = 0 ∨ j = 1 ∨ j = 2 ∨ j = 3 ∨ j = 4 ∨ j = 5 ∨ j = 6 ∨ j = 7 ∨ j = 8 by omega) with rfl | rfl | rfl | rfl | rfl | rfl | rfl | rfl | rfl <;> simp [fS, su]
theorem fS_ne {ad : Ad} {σ : St} {v : Int32} {t j t' : Nat} (h : t' ≠ t) : fS ad (su σ 1 t j v) t' = fS ad σ t' := by simp [fS, su, h]
theorem sT_0 {ct : Ct} {ad : Ad} {N j : Nat} {σ : St} {v : Int32} : sT ct ad N (su σ 0 0 j v) = (sT ct ad N σ).set 0 (1, fun _ => (ad 0 0, .inr (kT, fT ad (su σ 0 0 j v)))) := by
  simp [sT, fS, fL, su, su_r]
theorem sT_1 {ct : Ct} {ad : Ad} {N t j : Nat} {σ : St} {v : Int32} : sT ct ad N (su σ 1 t j v) = (sT ct ad N σ).set 3 (N, fun t' => (ad 1 t', .inr (kS, fS ad (su σ 1 t j v) t'))) := by
  simp [sT, fT, fL, su, su_r]
theorem sT_2 {ct : Ct} {ad : Ad} {N t j : Nat} {σ : St} {v : Int32} : sT ct ad N (su σ 2 t j v) = (sT ct ad N σ).set 4 (N, fun t' => (ad 2 t', eI (ct 0) 16 (su σ 2 t j v 2 t'))) := by
  simp [sT, fT, fS, fL, su, su_r]
theorem sT_3 {ct : Ct} {ad : Ad} {N q : Nat} {σ : St} {v : Int32} : sT ct ad N (su σ 3 q 0 v) = (sT ct ad N σ).set 5 (8, fun q' => (ad 3 q', .inr (kL, fL ad (su σ 3 q 0 v) q'))) := by
  simp [sT, fT, fS, su, su_r]
theorem sT_4 {ct : Ct} {ad : Ad} {N q j : Nat} {σ : St} {v : Int32} : sT ct ad N (su σ 4 q j v) = (sT ct ad N σ).set 6 (8, fun q' => (ad 4 q', eI (ct 0) 32 (su σ 4 q j v 4 q'))) := by
  simp [sT, fT, fS, fL, su, su_r]
theorem sT_5 {ct : Ct} {ad : Ad} {N q j : Nat} {σ : St} {v : Int32} : sT ct ad N (su σ 5 q j v) = (sT ct ad N σ).set 7 (8, fun q' => (ad 5 q', eI (ct 0) 32 (su σ 5 q j v 5 q'))) := by
  simp [sT, fT, fS, fL, su, su_r]
theorem sT_6 {ct : Ct} {ad : Ad} {N q j : Nat} {σ : St} {v : Int32} : sT ct ad N (su σ 6 q j v) = (sT ct ad N σ).set 8 (8, fun q' => (ad 6 q', eI (ct 0) 16 (su σ 6 q j v 6 q'))) := by
  simp [sT, fT, fS, fL, su, su_r]
theorem su_upd {σ : St} {a t j : Nat} {v : Int32} : su σ a t j v a t = upd (σ a t) j v := by
  funext z
  by_cases h : z = j
  · subst h; rw [su_eq]; simp [upd]
  · rw [su_n3 h]; simp [upd, h]
theorem su_row {σ : St} {a t j t' : Nat} {v : Int32} (h : t' ≠ t) : su σ a t j v a t' = σ a t' := by
  funext z
  exact su_n2 h
section Fields
variable {p : Program} {l : Launch} {e : Env} {R : Room} {s : State} {m : MethodId} {args : Array Value} {below : List Frame} {meth : Method} {c : Code} {H : Heap} {locs : List Loc} {cells slots : Nat} {Q : State → Prop}
variable {cc : ByteArray} {pc : Nat} {ls : Array Slot} {rest : List Value} {nL : Nat} {own host : String} {ct : Ct} {D : va_G} {A : Nat → Prop} {ad : Ad} {N index k t j q : Nat} {σ : St}
theorem tg_T (C : cx p l s m args meth c cc nL own ct D A) (hw : wl D A s (wT ct ad N σ) H locs) (k : Nat) (hlink : Cond.fieldLink own index RT (FT k).2.1 (FT k).2.2.1 ∈ wsG) (hk : k < 13) {v : Value} (hv : (fT ad σ)[k]? = some v) (hdg : decode cc pc = .ok (.getfield index, 3))
    (kk : W p l e R s m args below meth c H locs cells slots Q (F0 m (pc + 3) ls (v :: rest))) : W p l e R s m args below meth c H locs cells slots Q (F0 m pc ls (.ref (ad 0 0) :: rest)) := by
  obtain ⟨q0, h1, -⟩ := sg_at (sT ct ad N σ) 0 1 _ rfl 0 (by decide)
  exact va_get (ref := RT) C.1 C.2.1 C.2.2.2.2.1 iT C.2.2.2.1 C.2.2.2.2.2.1 hw.1 q0 h1 rfl k hk (C.2.2.2.2.1 _ hlink) (fT_same k hk _) hv hdg kk
theorem tg_S (C : cx p l s m args meth c cc nL own ct D A) (hw : wl D A s (wT ct ad N σ) H locs) (k : Nat) (hlink : Cond.fieldLinkNest own index RS (FS k).2.1 (FS k).2.2.1 host ∈ wsN) (hk : k < 10) (ht : t < N) {v : Value} (hv : (fS ad σ t)[k]? = some v) (hdg : decode cc pc = .ok (.getfield index, 3))
    (kk : W p l e R s m args below meth c H locs cells slots Q (F0 m (pc + 3) ls (v :: rest))) : W p l e R s m args below meth c H locs cells slots Q (F0 m pc ls (.ref (ad 1 t) :: rest)) := by
  obtain ⟨q0, h1, -⟩ := sg_at (sT ct ad N σ) 3 N _ rfl t ht
  exact va_getN (ref := RS) C.1 C.2.1 C.2.2.2.2.1 iS C.2.2.2.1 C.2.2.2.2.2.1 hw.1 q0 h1 rfl k hk (va_Nw.use rfl (C.2.2.2.2.2.2.1.1 _ hlink)) (fS_same k hk _) hv hdg kk
theorem tg_LN (C : cx p l s m args meth c cc nL own ct D A) (hw : wl D A s (wT ct ad N σ) H locs) (k : Nat) (hlink : Cond.fieldLinkNest own index RL_ (FL_ k).2.1 (FL_ k).2.2.1 host ∈ wsN) (hk : k < 4) (hq : q < 8) {v : Value} (hv : (fL ad σ q)[k]? = some v) (hdg : decode cc pc = .ok (.getfield index, 3))
    (kk : W p l e R s m args below meth c H locs cells slots Q (F0 m (pc + 3) ls (v :: rest))) : W p l e R s m args below meth c H locs cells slots Q (F0 m pc ls (.ref (ad 3 q) :: rest)) := by
  obtain ⟨q0, h1, -⟩ := sg_at (sT ct ad N σ) 5 8 _ rfl q hq
  exact va_getN (ref := RL_) C.1 C.2.1 C.2.2.2.2.1 iL C.2.2.2.1 C.2.2.2.2.2.1 hw.1 q0 h1 rfl k hk (va_Nw.use rfl (C.2.2.2.2.2.2.1.1 _ hlink)) (fL_same k hk _) hv hdg kk
theorem tg_L (C : cx p l s m args meth c cc nL own ct D A) (hw : wl D A s (wT ct ad N σ) H locs) (k : Nat) (hlink : Cond.fieldLink own index RL_ (FL_ k).2.1 (FL_ k).2.2.1 ∈ wsG) (hk : k < 4) (hq : q < 8) {v : Value} (hv : (fL ad σ q)[k]? = some v) (hdg : decode cc pc = .ok (.getfield index, 3))
    (kk : W p l e R s m args below meth c H locs cells slots Q (F0 m (pc + 3) ls (v :: rest))) : W p l e R s m args below meth c H locs cells slots Q (F0 m pc ls (.ref (ad 3 q) :: rest)) := by
  obtain ⟨q0, h1, -⟩ := sg_at (sT ct ad N σ) 5 8 _ rfl q hq
  exact va_get (ref := RL_) C.1 C.2.1 C.2.2.2.2.1 iL C.2.2.2.1 C.2.2.2.2.2.1 hw.1 q0 h1 rfl k hk (C.2.2.2.2.1 _ hlink) (fL_same k hk _) hv hdg kk
theorem tp_T (C : cx p l s m args meth c cc nL own ct D A) (hw : wl D A s (wT ct ad N σ) H locs) (j : Nat) (hlink : Cond.fieldLink own index RT (FT (j + 2)).2.1 (FT (j + 2)).2.2.1 ∈ wsG) (hj : j < 11) {v : Int32} (hdg : decode cc pc = .ok (.putfield index, 3))
    (kk : ∀ (H1 : Heap) (locs1 : List Loc), wl D A s (wT ct ad N (su σ 0 0 j v)) H1 locs1 → W p l e R s m args below meth c H1 locs1 cells slots Q (F0 m (pc + 3) ls rest)) : W p l e R s m args below meth c H locs cells slots Q (F0 m pc ls (.int v :: .ref (ad 0 0) :: rest)) := by
  obtain ⟨q0, h1, h2⟩ := sg_at (sT ct ad N σ) 0 1 _ rfl 0 (by decide)
  have h3 := h2 (ad 0 0, .inr (kT, (fT ad σ).set (j + 2) (.int v))) (fun _ => (ad 0 0, .inr (kT, fT ad (su σ 0 0 j v)))) (by rw [fT_su j hj]) (fun k hk hne => by omega)
  rw [← sT_0] at h3
  have h3 : (wT ct ad N σ).set q0 _ = wT ct ad N _ := h3
  refine va_put (ref := RT) (ty := .int) C.1 C.2.1 C.2.2.2.2.1 iT tT tT_ok nT C.2.2.2.1 C.2.2.2.2.2.1 hw.1 hw.2.1 hw.2.2 q0 h1 rfl (j + 2) (by omega) (C.2.2.2.2.1 _ hlink) (fT_same (j + 2) (by omega) _) (fT_fin j hj).1 (fT_fin j hj).2 rfl rfl (by simp [fT]; omega) hdg (fun H1 locs1 a b c => ?_)
  rw [h3] at a b
  exact kk H1 locs1 ⟨a, b, c⟩
theorem tp_S (C : cx p l s m args meth c cc nL own ct D A) (hw : wl D A s (wT ct ad N σ) H locs) (j : Nat) (hlink : Cond.fieldLinkNest own index RS (FS (j + 1)).2.1 (FS (j + 1)).2.2.1 host ∈ wsN) (hj : j < 9) (ht : t < N) {v : Int32} (hz : (j = 0 ∨ j = 8) → (v = 0 ∨ v = 1)) (hdg : decode cc pc = .ok (.putfield index, 3))
    (kk : ∀ (H1 : Heap) (locs1 : List Loc), wl D A s (wT ct ad N (su σ 1 t j v)) H1 locs1 → W p l e R s m args below meth c H1 locs1 cells slots Q (F0 m (pc + 3) ls rest)) : W p l e R s m args below meth c H locs cells slots Q (F0 m pc ls (.int v :: .ref (ad 1 t) :: rest)) := by
  obtain ⟨q0, h1, h2⟩ := sg_at (sT ct ad N σ) 3 N _ rfl t ht
  have h3 := h2 (ad 1 t, .inr (kS, (fS ad σ t).set (j + 1) (.int v))) (fun t' => (ad 1 t', .inr (kS, fS ad (su σ 1 t j v) t'))) (by rw [fS_su j hj]) (fun k hk hne => by rw [fS_ne hne])
  rw [← sT_1] at h3
  have h3 : (wT ct ad N σ).set q0 _ = wT ct ad N _ := h3
  have hty : ∃ ty, parseFieldDescriptor (FS (j + 1)).2.2.1 = some ty ∧ narrow ty (.int v) = .int v ∧ fits ty (.int v) = true := by
    by_cases hb : j = 0 ∨ j = 8
    · refine ⟨.boolean, ?_, ?_, ?_⟩
      · rcases hb with rfl | rfl <;> decide +kernel
      · rcases hz hb with rfl | rfl <;> rfl
      · rcases hz hb with rfl | rfl <;> rfl
    · refine ⟨.int, ?_, rfl, rfl⟩
      rcases (show j = 1 ∨ j = 2 ∨ j = 3 ∨ j = 4 ∨ j = 5 ∨ j = 6 ∨ j = 7 by omega) with rfl | rfl | rfl | rfl | rfl | rfl | rfl <;> decide +kernel
  obtain ⟨ty, e1, e2, e3⟩ := hty
  refine va_putN (ref := RS) (ty := ty) C.1 C.2.1 C.2.2.2.2.1 iS tS tS_ok nS C.2.2.2.1 C.2.2.2.2.2.1 hw.1 hw.2.1 hw.2.2 q0 h1 rfl (j + 1) (by omega) (va_Nw.use rfl (C.2.2.2.2.2.2.1.1 _ hlink)) (fS_same (j + 1) (by omega) _) (fS_fin j hj) e1 e2 e3 (by simp [fS]; omega) hdg (fun H1 locs1 a b c => ?_)
  rw [h3] at a b
  exact kk H1 locs1 ⟨a, b, c⟩
theorem tp_L (C : cx p l s m args meth c cc nL own ct D A) (hw : wl D A s (wT ct ad N σ) H locs) (hlink : Cond.fieldLink own index RL_ (FL_ 3).2.1 (FL_ 3).2.2.1 ∈ wsG) (hq : q < 8) {v : Int32} (hdg : decode cc pc = .ok (.putfield index, 3))
    (kk : ∀ (H1 : Heap) (locs1 : List Loc), wl D A s (wT ct ad N (su σ 3 q 0 v)) H1 locs1 → W p l e R s m args below meth c H1 locs1 cells slots Q (F0 m (pc + 3) ls rest)) : W p l e R s m args below meth c H locs cells slots Q (F0 m pc ls (.int v :: .ref (ad 3 q) :: rest)) := by
  obtain ⟨q0, h1, h2⟩ := sg_at (sT ct ad N σ) 5 8 _ rfl q hq
  have h3 := h2 (ad 3 q, .inr (kL, (fL ad σ q).set 3 (.int v))) (fun q' => (ad 3 q', .inr (kL, fL ad (su σ 3 q 0 v) q'))) (by simp [fL, su]) (fun k hk hne => by simp [fL, su, hne])
  rw [← sT_3] at h3
  have h3 : (wT ct ad N σ).set q0 _ = wT ct ad N _ := h3
  refine va_put (ref := RL_) (ty := .int) C.1 C.2.1 C.2.2.2.2.1 iL tL tL_ok nL_ C.2.2.2.1 C.2.2.2.2.2.1 hw.1 hw.2.1 hw.2.2 q0 h1 rfl 3 (by omega) (C.2.2.2.2.1 _ hlink) (fL_same 3 (by omega) _) rfl (by decide +kernel) rfl rfl (by simp [fL]) hdg (fun H1 locs1 a b c => ?_)
  rw [h3] at a b
  exact kk H1 locs1 ⟨a, b, c⟩
/-- lengths and elements of the class's arrays -/
theorem ta_lenS (C : cx p l s m args meth c cc nL own ct D A) (hw : wl D A s (wT ct ad N σ) H locs) (hdg : decode cc pc = .ok (.arraylength, 1)) (kk : W p l e R s m args below meth c H locs cells slots Q (F0 m (pc + 1) ls (.int (nI N) :: rest))) : W p l e R s m args below meth c H locs cells slots Q (F0 m pc ls (.ref (ad 0 1) :: rest)) := by
  obtain ⟨q0, h1, -⟩ := sg_at (sT ct ad N σ) 1 1 _ rfl 0 (by decide)
  exact va_alen C.1 C.2.1 C.2.2.2.2.2.1 hw.1 q0 1 h1 rfl rfl hdg kk
theorem ta_lenL (C : cx p l s m args meth c cc nL own ct D A) (hw : wl D A s (wT ct ad N σ) H locs) (hdg : decode cc pc = .ok (.arraylength, 1)) (kk : W p l e R s m args below meth c H locs cells slots Q (F0 m (pc + 1) ls (.int (nI 8) :: rest))) : W p l e R s m args below meth c H locs cells slots Q (F0 m pc ls (.ref (ad 0 2) :: rest)) := by
  obtain ⟨q0, h1, -⟩ := sg_at (sT ct ad N σ) 2 1 _ rfl 0 (by decide)
  exact va_alen C.1 C.2.1 C.2.2.2.2.2.1 hw.1 q0 2 h1 rfl rfl hdg kk
theorem ta_S (C : cx p l s m args meth c cc nL own ct D A) (hw : wl D A s (wT ct ad N σ) H locs) (hN : N ≤ 16) (ht : t < N) {i : Int32} (hi : i = nI t) (hdg : decode cc pc = .ok (.aaload, 1)) (kk : W p l e R s m args below meth c H locs cells slots Q (F0 m (pc + 1) ls (.ref (ad 1 t) :: rest))) : W p l e R s m args below meth c H locs cells slots Q (F0 m pc ls (.int i :: .ref (ad 0 1) :: rest)) := by
  subst hi
  obtain ⟨q0, h1, -⟩ := sg_at (sT ct ad N σ) 1 1 _ rfl 0 (by decide)
  refine va_aldq C.1 C.2.1 C.2.2.2.2.2.1 hw.1 q0 1 h1 rfl (vp_in_nI ht (by omega)) hdg ?_
  rw [nI_clamp (by omega)]
  exact kk
theorem ta_L (C : cx p l s m args meth c cc nL own ct D A) (hw : wl D A s (wT ct ad N σ) H locs) (hq : q < 8) {i : Int32} (hi : i = nI q) (hdg : decode cc pc = .ok (.aaload, 1)) (kk : W p l e R s m args below meth c H locs cells slots Q (F0 m (pc + 1) ls (.ref (ad 3 q) :: rest))) : W p l e R s m args below meth c H locs cells slots Q (F0 m pc ls (.int i :: .ref (ad 0 2) :: rest)) := by
  subst hi
  obtain ⟨q0, h1, -⟩ := sg_at (sT ct ad N σ) 2 1 _ rfl 0 (by decide)
  refine va_aldq C.1 C.2.1 C.2.2.2.2.2.1 hw.1 q0 2 h1 rfl (vp_in_nI hq (by omega)) hdg ?_
  rw [nI_clamp (by omega)]
  exact kk
theorem ta_g2 (C : cx p l s m args meth c cc nL own ct D A) (hw : wl D A s (wT ct ad N σ) H locs) (ht : t < N) (hk : k < 16) {i : Int32} (hi : i = nI k) (hdg : decode cc pc = .ok (.iaload, 1)) (kk : W p l e R s m args below meth c H locs cells slots Q (F0 m (pc + 1) ls (.int (σ 2 t k) :: rest))) : W p l e R s m args below meth c H locs cells slots Q (F0 m pc ls (.int i :: .ref (ad 2 t) :: rest)) := by
  subst hi
  obtain ⟨q0, h1, -⟩ := sg_at (sT ct ad N σ) 4 N _ rfl t ht
  refine va_iald C.1 C.2.1 C.2.2.2.2.2.1 hw.1 q0 0 h1 rfl (vp_in_nI hk (by omega)) hdg ?_
  rw [nI_clamp (by omega)]
  exact kk
theorem ta_p2 (C : cx p l s m args meth c cc nL own ct D A) (hw : wl D A s (wT ct ad N σ) H locs) (ht : t < N) (hk : k < 16) {i x : Int32} (hi : i = nI k) (hdg : decode cc pc = .ok (.iastore, 1)) (kk : ∀ (H1 : Heap) (locs1 : List Loc), wl D A s (wT ct ad N (su σ 2 t k x)) H1 locs1 → W p l e R s m args below meth c H1 locs1 cells slots Q (F0 m (pc + 1) ls rest)) : W p l e R s m args below meth c H locs cells slots Q (F0 m pc ls (.int x :: .int i :: .ref (ad 2 t) :: rest)) := by
  subst hi
  obtain ⟨q0, h1, h2⟩ := sg_at (sT ct ad N σ) 4 N _ rfl t ht
  have h3 := h2 (ad 2 t, eI (ct 0) 16 (upd (σ 2 t) k x)) (fun r => (ad 2 r, eI (ct 0) 16 (su σ 2 t k x 2 r))) (by rw [su_upd]) (fun r hr hne => by rw [su_row hne])
  rw [← sT_2] at h3
  have h3 : (wT ct ad N σ).set q0 _ = wT ct ad N _ := h3
  refine va_iast C.1 C.2.1 C.2.2.2.2.2.1 hw.1 hw.2.1 hw.2.2 q0 0 h1 rfl (vp_in_nI hk (by omega)) hdg (fun H1 locs1 a b c => ?_)
  rw [nI_clamp (by omega), h3] at a b
  exact kk H1 locs1 ⟨a, b, c⟩
theorem ta_g4 (C : cx p l s m args meth c cc nL own ct D A) (hw : wl D A s (wT ct ad N σ) H locs) (hq : q < 8) (hk : k < 32) {i : Int32} (hi : i = nI k) (hdg : decode cc pc = .ok (.iaload, 1)) (kk : W p l e R s m args below meth c H locs cells slots Q (F0 m (pc + 1) ls (.int (σ 4 q k) :: rest))) : W p l e R s m args below meth c H locs cells slots Q (F0 m pc ls (.int i :: .ref (ad 4 q) :: rest)) := by
  subst hi
  obtain ⟨q0, h1, -⟩ := sg_at (sT ct ad N σ) 6 8 _ rfl q hq
  refine va_iald C.1 C.2.1 C.2.2.2.2.2.1 hw.1 q0 0 h1 rfl (vp_in_nI hk (by omega)) hdg ?_
  rw [nI_clamp (by omega)]
  exact kk
theorem ta_p4 (C : cx p l s m args meth c cc nL own ct D A) (hw : wl D A s (wT ct ad N σ) H locs) (hq : q < 8) (hk : k < 32) {i x : Int32} (hi : i = nI k) (hdg : decode cc pc = .ok (.iastore, 1)) (kk : ∀ (H1 : Heap) (locs1 : List Loc), wl D A s (wT ct ad N (su σ 4 q k x)) H1 locs1 → W p l e R s m args below meth c H1 locs1 cells slots Q (F0 m (pc + 1) ls rest)) : W p l e R s m args below meth c H locs cells slots Q (F0 m pc ls (.int x :: .int i :: .ref (ad 4 q) :: rest)) := by
  subst hi
  obtain ⟨q0, h1, h2⟩ := sg_at (sT ct ad N σ) 6 8 _ rfl q hq
  have h3 := h2 (ad 4 q, eI (ct 0) 32 (upd (σ 4 q) k x)) (fun r => (ad 4 r, eI (ct 0) 32 (su σ 4 q k x 4 r))) (by rw [su_upd]) (fun r hr hne => by rw [su_row hne])
  rw [← sT_4] at h3
  have h3 : (wT ct ad N σ).set q0 _ = wT ct ad N _ := h3
  refine va_iast C.1 C.2.1 C.2.2.2.2.2.1 hw.1 hw.2.1 hw.2.2 q0 0 h1 rfl (vp_in_nI hk (by omega)) hdg (fun H1 locs1 a b c => ?_)
  rw [nI_clamp (by omega), h3] at a b
  exact kk H1 locs1 ⟨a, b, c⟩
theorem ta_g5 (C : cx p l s m args meth c cc nL own ct D A) (hw : wl D A s (wT ct ad N σ) H locs) (hq : q < 8) (hk : k < 32) {i : Int32} (hi : i = nI k) (hdg : decode cc pc = .ok (.iaload, 1)) (kk : W p l e R s m args below meth c H locs cells slots Q (F0 m (pc + 1) ls (.int (σ 5 q k) :: rest))) : W p l e R s m args below meth c H locs cells slots Q (F0 m pc ls (.int i :: .ref (ad 5 q) :: rest)) := by
  subst hi
  obtain ⟨q0, h1, -⟩ := sg_at (sT ct ad N σ) 7 8 _ rfl q hq
  refine va_iald C.1 C.2.1 C.2.2.2.2.2.1 hw.1 q0 0 h1 rfl (vp_in_nI hk (by omega)) hdg ?_
  rw [nI_clamp (by omega)]
  exact kk
theorem ta_p5 (C : cx p l s m args meth c cc nL own ct D A) (hw : wl D A s (wT ct ad N σ) H locs) (hq : q < 8) (hk : k < 32) {i x : Int32} (hi : i = nI k) (hdg : decode cc pc = .ok (.iastore, 1)) (kk : ∀ (H1 : Heap) (locs1 : List Loc), wl D A s (wT ct ad N (su σ 5 q k x)) H1 locs1 → W p l e R s m args below meth c H1 locs1 cells slots Q (F0 m (pc + 1) ls rest)) : W p l e R s m args below meth c H locs cells slots Q (F0 m pc ls (.int x :: .int i :: .ref (ad 5 q) :: rest)) := by
  subst hi
  obtain ⟨q0, h1, h2⟩ := sg_at (sT ct ad N σ) 7 8 _ rfl q hq
  have h3 := h2 (ad 5 q, eI (ct 0) 32 (upd (σ 5 q) k x)) (fun r => (ad 5 r, eI (ct 0) 32 (su σ 5 q k x 5 r))) (by rw [su_upd]) (fun r hr hne => by rw [su_row hne])
  rw [← sT_5] at h3
  have h3 : (wT ct ad N σ).set q0 _ = wT ct ad N _ := h3
  refine va_iast C.1 C.2.1 C.2.2.2.2.2.1 hw.1 hw.2.1 hw.2.2 q0 0 h1 rfl (vp_in_nI hk (by omega)) hdg (fun H1 locs1 a b c => ?_)
  rw [nI_clamp (by omega), h3] at a b
  exact kk H1 locs1 ⟨a, b, c⟩
theorem ta_g6 (C : cx p l s m args meth c cc nL own ct D A) (hw : wl D A s (wT ct ad N σ) H locs) (hq : q < 8) (hk : k < 16) {i : Int32} (hi : i = nI k) (hdg : decode cc pc = .ok (.iaload, 1)) (kk : W p l e R s m args below meth c H locs cells slots Q (F0 m (pc + 1) ls (.int (σ 6 q k) :: rest))) : W p l e R s m args below meth c H locs cells slots Q (F0 m pc ls (.int i :: .ref (ad 6 q) :: rest)) := by
  subst hi
  obtain ⟨q0, h1, -⟩ := sg_at (sT ct ad N σ) 8 8 _ rfl q hq
  refine va_iald C.1 C.2.1 C.2.2.2.2.2.1 hw.1 q0 0 h1 rfl (vp_in_nI hk (by omega)) hdg ?_
  rw [nI_clamp (by omega)]
  exact kk
theorem ta_p6 (C : cx p l s m args meth c cc nL own ct D A) (hw : wl D A s (wT ct ad N σ) H locs) (hq : q < 8) (hk : k < 16) {i x : Int32} (hi : i = nI k) (hdg : decode cc pc = .ok (.iastore, 1)) (kk : ∀ (H1 : Heap) (locs1 : List Loc), wl D A s (wT ct ad N (su σ 6 q k x)) H1 locs1 → W p l e R s m args below meth c H1 locs1 cells slots Q (F0 m (pc + 1) ls rest)) : W p l e R s m args below meth c H locs cells slots Q (F0 m pc ls (.int x :: .int i :: .ref (ad 6 q) :: rest)) := by
  subst hi
  obtain ⟨q0, h1, h2⟩ := sg_at (sT ct ad N σ) 8 8 _ rfl q hq
  have h3 := h2 (ad 6 q, eI (ct 0) 16 (upd (σ 6 q) k x)) (fun r => (ad 6 r, eI (ct 0) 16 (su σ 6 q k x 6 r))) (by rw [su_upd]) (fun r hr hne => by rw [su_row hne])
  rw [← sT_6] at h3
  have h3 : (wT ct ad N σ).set q0 _ = wT ct ad N _ := h3
  refine va_iast C.1 C.2.1 C.2.2.2.2.2.1 hw.1 hw.2.1 hw.2.2 q0 0 h1 rfl (vp_in_nI hk (by omega)) hdg (fun H1 locs1 a b c => ?_)
  rw [nI_clamp (by omega), h3] at a b
  exact kk H1 locs1 ⟨a, b, c⟩
end Fields
theorem gV {own K : String} {idx yL : Nat} {y : MethodName} {yc : ByteArray} {ret : Option FieldType} (h1 : Cond.methodLink own idx y ∈ lw_tbl) (h2 : Cond.instanceMethod y ∈ lw_tbl) (h3 : Cond.selects K y y ∈ lw_tbl) (h4 : Cond.initialized K ∈ lw_tbl) (h5 : Cond.code y yc yL ret ∈ lw_tbl) : GoodIn wsG (wsV own idx K y (.code y yc yL ret :: wsG)) := by
  intro w hw
  unfold wsV at hw
  rcases List.mem_append.mp hw with hw | hw
  · simp only [List.mem_cons, List.not_mem_nil, or_false] at hw
    rcases hw with rfl | rfl | rfl | rfl
    · exact ⟨inG h1 rfl, Or.inl rfl⟩
    · exact ⟨inG h2 rfl, Or.inl rfl⟩
    · exact ⟨inG h3 rfl, Or.inl rfl⟩
    · exact ⟨inG h4 rfl, Or.inl rfl⟩
  · exact wsG_in h5 w hw
theorem gS {own : String} {idx yL : Nat} {y : MethodName} {yc : ByteArray} {ret : Option FieldType} (h1 : Cond.methodLink own idx y ∈ lw_tbl) (h2 : Cond.static y ∈ lw_tbl) (h4 : Cond.initialized y.cls ∈ lw_tbl) (h5 : Cond.code y yc yL ret ∈ lw_tbl) : GoodIn wsG (va_wsS own idx y (.code y yc yL ret :: wsG)) := by
  intro w hw
  unfold va_wsS at hw
  rcases List.mem_append.mp hw with hw | hw
  · simp only [List.mem_cons, List.not_mem_nil, or_false] at hw
    rcases hw with rfl | rfl | rfl
    · exact ⟨inG h1 rfl, Or.inl rfl⟩
    · exact ⟨inG h2 rfl, Or.inl rfl⟩
    · exact ⟨inG h4 rfl, Or.inl rfl⟩
  · exact wsG_in h5 w hw
