theorem iM : ∀ w ∈ u_ws RM FM 26, w ∈ wsG := fun w hw => inG ((by decide +kernel : ∀ w ∈ u_ws RM FM 26, w ∈ lw_tbl) w hw) ((by decide +kernel : ∀ w ∈ u_ws RM FM 26, goodWord w = true) w hw)
theorem fM_ref : ∀ k, k < 26 → (FM k).1 = RM := by decide +kernel
theorem fM_same (k : Nat) (hk : k < 26) (s : State) : ∀ x, s.fieldFound? (FM k).1 (FM k).2.1 (FM k).2.2.1 = some x → s.fieldFound? RM (FM k).2.1 (FM k).2.2.1 = some x := fun x h => by rw [fM_ref k hk] at h; exact h
def fM (am : Nat → Nat) (N : Nat) (th : Int32) (σ : St) : List Value := [.int th, .int (nI N), .int (σ 0 0 3), .int (σ 0 0 0), .int (σ 0 0 1), .int (σ 0 0 2), .int (σ 0 0 7), .int (σ 0 0 8), .int (σ 0 0 9), .int (σ 0 0 10), .int (σ 0 0 4), .int (σ 0 0 5), .int (σ 0 0 6), .ref (am 1), .ref (am 2), .ref (am 3), .ref (am 4), .ref (am 5), .ref (am 6), .ref (am 7), .ref (am 8), .ref (am 9), .ref (am 10), .ref (am 11), .ref (am 12), .ref (am 13)]
def sM (ct : Ct) (am : Nat → Nat) (N : Nat) (th : Int32) (σ : St) : List (Nat × (Nat → Nat × va_E)) := [(1, fun _ => (am 0, .inr (kM, fM am N th σ))), (1, fun _ => (am 1, eI (ct 4) 16 (fun z9 => σ 1 z9 0))), (1, fun _ => (am 2, eI (ct 0) 16 (fun z9 => σ 1 z9 1))), (1, fun _ => (am 3, eI (ct 0) 16 (fun z9 => σ 1 z9 2))), (1, fun _ => (am 4, eI (ct 0) 16 (fun z9 => σ 1 z9 3))), (1, fun _ => (am 5, eI (ct 0) 16 (fun z9 => σ 1 z9 4))), (1, fun _ => (am 6, eI (ct 0) 16 (fun z9 => σ 1 z9 5))), (1, fun _ => (am 7, eI (ct 0) 16 (fun z9 => σ 1 z9 6))), (1, fun _ => (am 8, eI (ct 0) 16 (fun z9 => σ 1 z9 7))), (1, fun _ => (am 9, eI (ct 0) 256 (fun z9 => σ 2 (z9 / 16) (z9 % 16)))), (1, fun _ => (am 10, eI (ct 0) 8 (fun z9 => σ 3 z9 0))), (1, fun _ => (am 11, eI (ct 0) 256 (fun z9 => σ 4 (z9 / 32) (z9 % 32)))), (1, fun _ => (am 12, eI (ct 0) 256 (fun z9 => σ 5 (z9 / 32) (z9 % 32)))), (1, fun _ => (am 13, eI (ct 0) 128 (fun z9 => σ 6 (z9 / 16) (z9 % 16))))]
def wM (ct : Ct) (am : Nat → Nat) (N : Nat) (th : Int32) (σ : St) : va_W := sg (sM ct am N th σ)
theorem fM_2 {am : Nat → Nat} {N : Nat} {th v : Int32} {σ : St} : fM am N th (su σ 0 0 3 v) = (fM am N th σ).set 2 (.int v) := by simp [fM, su]
theorem fM_3 {am : Nat → Nat} {N : Nat} {th v : Int32} {σ : St} : fM am N th (su σ 0 0 0 v) = (fM am N th σ).set 3 (.int v) := by simp [fM, su]
theorem fM_4 {am : Nat → Nat} {N : Nat} {th v : Int32} {σ : St} : fM am N th (su σ 0 0 1 v) = (fM am N th σ).set 4 (.int v) := by simp [fM, su]
theorem fM_5 {am : Nat → Nat} {N : Nat} {th v : Int32} {σ : St} : fM am N th (su σ 0 0 2 v) = (fM am N th σ).set 5 (.int v) := by simp [fM, su]
theorem fM_6 {am : Nat → Nat} {N : Nat} {th v : Int32} {σ : St} : fM am N th (su σ 0 0 7 v) = (fM am N th σ).set 6 (.int v) := by simp [fM, su]
theorem fM_7 {am : Nat → Nat} {N : Nat} {th v : Int32} {σ : St} : fM am N th (su σ 0 0 8 v) = (fM am N th σ).set 7 (.int v) := by simp [fM, su]
theorem fM_8 {am : Nat → Nat} {N : Nat} {th v : Int32} {σ : St} : fM am N th (su σ 0 0 9 v) = (fM am N th σ).set 8 (.int v) := by simp [fM, su]
theorem fM_9 {am : Nat → Nat} {N : Nat} {th v : Int32} {σ : St} : fM am N th (su σ 0 0 10 v) = (fM am N th σ).set 9 (.int v) := by simp [fM, su]
theorem fM_10 {am : Nat → Nat} {N : Nat} {th v : Int32} {σ : St} : fM am N th (su σ 0 0 4 v) = (fM am N th σ).set 10 (.int v) := by simp [fM, su]
theorem fM_11 {am : Nat → Nat} {N : Nat} {th v : Int32} {σ : St} : fM am N th (su σ 0 0 5 v) = (fM am N th σ).set 11 (.int v) := by simp [fM, su]
theorem fM_12 {am : Nat → Nat} {N : Nat} {th v : Int32} {σ : St} : fM am N th (su σ 0 0 6 v) = (fM am N th σ).set 12 (.int v) := by simp [fM, su]
theorem fM_0 {am : Nat → Nat} {N : Nat} {th v : Int32} {σ : St} : fM am N v σ = (fM am N th σ).set 0 (.int v) := by simp [fM]
theorem sM_s {ct : Ct} {am : Nat → Nat} {N j : Nat} {th v : Int32} {σ : St} : sM ct am N th (su σ 0 0 j v) = (sM ct am N th σ).set 0 (1, fun _ => (am 0, .inr (kM, fM am N th (su σ 0 0 j v)))) := by simp [sM, su, su_r]
theorem sM_0 {ct : Ct} {am : Nat → Nat} {N : Nat} {th v : Int32} {σ : St} : sM ct am N v σ = (sM ct am N th σ).set 0 (1, fun _ => (am 0, .inr (kM, fM am N v σ))) := by simp [sM]
section MRows
variable {p : Program} {l : Launch} {e : Env} {R : Room} {s : State} {m : MethodId} {args : Array Value} {below : List Frame} {meth : Method} {c : Code} {H : Heap} {locs : List Loc} {cells slots : Nat} {Q : State → Prop}
variable {cc : ByteArray} {pc : Nat} {ls : Array Slot} {rest : List Value} {nL : Nat} {own : String} {ct : Ct} {D : va_G} {A : Nat → Prop} {am : Nat → Nat} {N index k t j q : Nat} {σ : St} {th : Int32}
theorem mg (C : cx p l s m args meth c cc nL own ct D A) (hw : wl D A s (wM ct am N th σ) H locs) (k : Nat) (hlink : Cond.fieldLink own index RM (FM k).2.1 (FM k).2.2.1 ∈ wsG) (hk : k < 26) {v : Value} (hv : (fM am N th σ)[k]? = some v) (hdg : decode cc pc = .ok (.getfield index, 3))
    (kk : W p l e R s m args below meth c H locs cells slots Q (F0 m (pc + 3) ls (v :: rest))) : W p l e R s m args below meth c H locs cells slots Q (F0 m pc ls (.ref (am 0) :: rest)) := by
  obtain ⟨q0, h1, -⟩ := sg_at (sM ct am N th σ) 0 1 _ rfl 0 (by decide)
  exact va_get (ref := RM) C.1 C.2.1 C.2.2.2.2.1 iM C.2.2.2.1 C.2.2.2.2.2.1 hw.1 q0 h1 rfl k hk (C.2.2.2.2.1 _ hlink) (fM_same k hk _) hv hdg kk
theorem mp_0 (C : cx p l s m args meth c cc nL own ct D A) (hw : wl D A s (wM ct am N th σ) H locs) (hlink : Cond.fieldLink own index RM (FM 0).2.1 (FM 0).2.2.1 ∈ wsG) {v : Int32} (hdg : decode cc pc = .ok (.putfield index, 3))
    (kk : ∀ (H1 : Heap) (locs1 : List Loc), wl D A s (wM ct am N v σ) H1 locs1 → W p l e R s m args below meth c H1 locs1 cells slots Q (F0 m (pc + 3) ls rest)) : W p l e R s m args below meth c H locs cells slots Q (F0 m pc ls (.int v :: .ref (am 0) :: rest)) := by
  obtain ⟨q0, h1, h2⟩ := sg_at (sM ct am N th σ) 0 1 _ rfl 0 (by decide)
  have h3 := h2 (am 0, .inr (kM, (fM am N th σ).set 0 (.int v))) (fun _ => (am 0, .inr (kM, fM am N v σ))) (by rw [fM_0 (th := th)]) (fun k hk hne => by omega)
  rw [← sM_0] at h3
  have h3 : (wM ct am N th σ).set q0 _ = wM ct am N v σ := h3
  refine va_put (ref := RM) (ty := .int) C.1 C.2.1 C.2.2.2.2.1 iM tM tM_ok nM C.2.2.2.1 C.2.2.2.2.2.1 hw.1 hw.2.1 hw.2.2 q0 h1 rfl 0 (by omega) (C.2.2.2.2.1 _ hlink) (fM_same 0 (by omega) _) rfl (by decide +kernel) rfl rfl (by simp [fM]) hdg (fun H1 locs1 a b c => ?_)
  rw [h3] at a b
  exact kk H1 locs1 ⟨a, b, c⟩
theorem mp_2 (C : cx p l s m args meth c cc nL own ct D A) (hw : wl D A s (wM ct am N th σ) H locs) (hlink : Cond.fieldLink own index RM (FM 2).2.1 (FM 2).2.2.1 ∈ wsG) {v : Int32} (hdg : decode cc pc = .ok (.putfield index, 3))
    (kk : ∀ (H1 : Heap) (locs1 : List Loc), wl D A s (wM ct am N th (su σ 0 0 3 v)) H1 locs1 → W p l e R s m args below meth c H1 locs1 cells slots Q (F0 m (pc + 3) ls rest)) : W p l e R s m args below meth c H locs cells slots Q (F0 m pc ls (.int v :: .ref (am 0) :: rest)) := by
  obtain ⟨q0, h1, h2⟩ := sg_at (sM ct am N th σ) 0 1 _ rfl 0 (by decide)
  have h3 := h2 (am 0, .inr (kM, (fM am N th σ).set 2 (.int v))) (fun _ => (am 0, .inr (kM, fM am N th (su σ 0 0 3 v)))) (by rw [fM_2 (th := th)]) (fun k hk hne => by omega)
  rw [← sM_s] at h3
  have h3 : (wM ct am N th σ).set q0 _ = wM ct am N th (su σ 0 0 3 v) := h3
  refine va_put (ref := RM) (ty := .int) C.1 C.2.1 C.2.2.2.2.1 iM tM tM_ok nM C.2.2.2.1 C.2.2.2.2.2.1 hw.1 hw.2.1 hw.2.2 q0 h1 rfl 2 (by omega) (C.2.2.2.2.1 _ hlink) (fM_same 2 (by omega) _) rfl (by decide +kernel) rfl rfl (by simp [fM]) hdg (fun H1 locs1 a b c => ?_)
  rw [h3] at a b
  exact kk H1 locs1 ⟨a, b, c⟩
theorem mp_3 (C : cx p l s m args meth c cc nL own ct D A) (hw : wl D A s (wM ct am N th σ) H locs) (hlink : Cond.fieldLink own index RM (FM 3).2.1 (FM 3).2.2.1 ∈ wsG) {v : Int32} (hdg : decode cc pc = .ok (.putfield index, 3))
    (kk : ∀ (H1 : Heap) (locs1 : List Loc), wl D A s (wM ct am N th (su σ 0 0 0 v)) H1 locs1 → W p l e R s m args below meth c H1 locs1 cells slots Q (F0 m (pc + 3) ls rest)) : W p l e R s m args below meth c H locs cells slots Q (F0 m pc ls (.int v :: .ref (am 0) :: rest)) := by
  obtain ⟨q0, h1, h2⟩ := sg_at (sM ct am N th σ) 0 1 _ rfl 0 (by decide)
  have h3 := h2 (am 0, .inr (kM, (fM am N th σ).set 3 (.int v))) (fun _ => (am 0, .inr (kM, fM am N th (su σ 0 0 0 v)))) (by rw [fM_3 (th := th)]) (fun k hk hne => by omega)
  rw [← sM_s] at h3
  have h3 : (wM ct am N th σ).set q0 _ = wM ct am N th (su σ 0 0 0 v) := h3
  refine va_put (ref := RM) (ty := .int) C.1 C.2.1 C.2.2.2.2.1 iM tM tM_ok nM C.2.2.2.1 C.2.2.2.2.2.1 hw.1 hw.2.1 hw.2.2 q0 h1 rfl 3 (by omega) (C.2.2.2.2.1 _ hlink) (fM_same 3 (by omega) _) rfl (by decide +kernel) rfl rfl (by simp [fM]) hdg (fun H1 locs1 a b c => ?_)
  rw [h3] at a b
  exact kk H1 locs1 ⟨a, b, c⟩
theorem mp_4 (C : cx p l s m args meth c cc nL own ct D A) (hw : wl D A s (wM ct am N th σ) H locs) (hlink : Cond.fieldLink own index RM (FM 4).2.1 (FM 4).2.2.1 ∈ wsG) {v : Int32} (hdg : decode cc pc = .ok (.putfield index, 3))
    (kk : ∀ (H1 : Heap) (locs1 : List Loc), wl D A s (wM ct am N th (su σ 0 0 1 v)) H1 locs1 → W p l e R s m args below meth c H1 locs1 cells slots Q (F0 m (pc + 3) ls rest)) : W p l e R s m args below meth c H locs cells slots Q (F0 m pc ls (.int v :: .ref (am 0) :: rest)) := by
  obtain ⟨q0, h1, h2⟩ := sg_at (sM ct am N th σ) 0 1 _ rfl 0 (by decide)
  have h3 := h2 (am 0, .inr (kM, (fM am N th σ).set 4 (.int v))) (fun _ => (am 0, .inr (kM, fM am N th (su σ 0 0 1 v)))) (by rw [fM_4 (th := th)]) (fun k hk hne => by omega)
  rw [← sM_s] at h3
  have h3 : (wM ct am N th σ).set q0 _ = wM ct am N th (su σ 0 0 1 v) := h3
  refine va_put (ref := RM) (ty := .int) C.1 C.2.1 C.2.2.2.2.1 iM tM tM_ok nM C.2.2.2.1 C.2.2.2.2.2.1 hw.1 hw.2.1 hw.2.2 q0 h1 rfl 4 (by omega) (C.2.2.2.2.1 _ hlink) (fM_same 4 (by omega) _) rfl (by decide +kernel) rfl rfl (by simp [fM]) hdg (fun H1 locs1 a b c => ?_)
  rw [h3] at a b
  exact kk H1 locs1 ⟨a, b, c⟩
theorem mp_5 (C : cx p l s m args meth c cc nL own ct D A) (hw : wl D A s (wM ct am N th σ) H locs) (hlink : Cond.fieldLink own index RM (FM 5).2.1 (FM 5).2.2.1 ∈ wsG) {v : Int32} (hdg : decode cc pc = .ok (.putfield index, 3))
    (kk : ∀ (H1 : Heap) (locs1 : List Loc), wl D A s (wM ct am N th (su σ 0 0 2 v)) H1 locs1 → W p l e R s m args below meth c H1 locs1 cells slots Q (F0 m (pc + 3) ls rest)) : W p l e R s m args below meth c H locs cells slots Q (F0 m pc ls (.int v :: .ref (am 0) :: rest)) := by
  obtain ⟨q0, h1, h2⟩ := sg_at (sM ct am N th σ) 0 1 _ rfl 0 (by decide)
  have h3 := h2 (am 0, .inr (kM, (fM am N th σ).set 5 (.int v))) (fun _ => (am 0, .inr (kM, fM am N th (su σ 0 0 2 v)))) (by rw [fM_5 (th := th)]) (fun k hk hne => by omega)
  rw [← sM_s] at h3
  have h3 : (wM ct am N th σ).set q0 _ = wM ct am N th (su σ 0 0 2 v) := h3
  refine va_put (ref := RM) (ty := .int) C.1 C.2.1 C.2.2.2.2.1 iM tM tM_ok nM C.2.2.2.1 C.2.2.2.2.2.1 hw.1 hw.2.1 hw.2.2 q0 h1 rfl 5 (by omega) (C.2.2.2.2.1 _ hlink) (fM_same 5 (by omega) _) rfl (by decide +kernel) rfl rfl (by simp [fM]) hdg (fun H1 locs1 a b c => ?_)
  rw [h3] at a b
  exact kk H1 locs1 ⟨a, b, c⟩
theorem mp_6 (C : cx p l s m args meth c cc nL own ct D A) (hw : wl D A s (wM ct am N th σ) H locs) (hlink : Cond.fieldLink own index RM (FM 6).2.1 (FM 6).2.2.1 ∈ wsG) {v : Int32} (hdg : decode cc pc = .ok (.putfield index, 3))
    (kk : ∀ (H1 : Heap) (locs1 : List Loc), wl D A s (wM ct am N th (su σ 0 0 7 v)) H1 locs1 → W p l e R s m args below meth c H1 locs1 cells slots Q (F0 m (pc + 3) ls rest)) : W p l e R s m args below meth c H locs cells slots Q (F0 m pc ls (.int v :: .ref (am 0) :: rest)) := by
  obtain ⟨q0, h1, h2⟩ := sg_at (sM ct am N th σ) 0 1 _ rfl 0 (by decide)
  have h3 := h2 (am 0, .inr (kM, (fM am N th σ).set 6 (.int v))) (fun _ => (am 0, .inr (kM, fM am N th (su σ 0 0 7 v)))) (by rw [fM_6 (th := th)]) (fun k hk hne => by omega)
  rw [← sM_s] at h3
  have h3 : (wM ct am N th σ).set q0 _ = wM ct am N th (su σ 0 0 7 v) := h3
  refine va_put (ref := RM) (ty := .int) C.1 C.2.1 C.2.2.2.2.1 iM tM tM_ok nM C.2.2.2.1 C.2.2.2.2.2.1 hw.1 hw.2.1 hw.2.2 q0 h1 rfl 6 (by omega) (C.2.2.2.2.1 _ hlink) (fM_same 6 (by omega) _) rfl (by decide +kernel) rfl rfl (by simp [fM]) hdg (fun H1 locs1 a b c => ?_)
  rw [h3] at a b
  exact kk H1 locs1 ⟨a, b, c⟩
theorem mp_7 (C : cx p l s m args meth c cc nL own ct D A) (hw : wl D A s (wM ct am N th σ) H locs) (hlink : Cond.fieldLink own index RM (FM 7).2.1 (FM 7).2.2.1 ∈ wsG) {v : Int32} (hdg : decode cc pc = .ok (.putfield index, 3))
    (kk : ∀ (H1 : Heap) (locs1 : List Loc), wl D A s (wM ct am N th (su σ 0 0 8 v)) H1 locs1 → W p l e R s m args below meth c H1 locs1 cells slots Q (F0 m (pc + 3) ls rest)) : W p l e R s m args below meth c H locs cells slots Q (F0 m pc ls (.int v :: .ref (am 0) :: rest)) := by
  obtain ⟨q0, h1, h2⟩ := sg_at (sM ct am N th σ) 0 1 _ rfl 0 (by decide)
  have h3 := h2 (am 0, .inr (kM, (fM am N th σ).set 7 (.int v))) (fun _ => (am 0, .inr (kM, fM am N th (su σ 0 0 8 v)))) (by rw [fM_7 (th := th)]) (fun k hk hne => by omega)
  rw [← sM_s] at h3
  have h3 : (wM ct am N th σ).set q0 _ = wM ct am N th (su σ 0 0 8 v) := h3
  refine va_put (ref := RM) (ty := .int) C.1 C.2.1 C.2.2.2.2.1 iM tM tM_ok nM C.2.2.2.1 C.2.2.2.2.2.1 hw.1 hw.2.1 hw.2.2 q0 h1 rfl 7 (by omega) (C.2.2.2.2.1 _ hlink) (fM_same 7 (by omega) _) rfl (by decide +kernel) rfl rfl (by simp [fM]) hdg (fun H1 locs1 a b c => ?_)
  rw [h3] at a b
  exact kk H1 locs1 ⟨a, b, c⟩
theorem mp_8 (C : cx p l s m args meth c cc nL own ct D A) (hw : wl D A s (wM ct am N th σ) H locs) (hlink : Cond.fieldLink own index RM (FM 8).2.1 (FM 8).2.2.1 ∈ wsG) {v : Int32} (hdg : decode cc pc = .ok (.putfield index, 3))
    (kk : ∀ (H1 : Heap) (locs1 : List Loc), wl D A s (wM ct am N th (su σ 0 0 9 v)) H1 locs1 → W p l e R s m args below meth c H1 locs1 cells slots Q (F0 m (pc + 3) ls rest)) : W p l e R s m args below meth c H locs cells slots Q (F0 m pc ls (.int v :: .ref (am 0) :: rest)) := by
  obtain ⟨q0, h1, h2⟩ := sg_at (sM ct am N th σ) 0 1 _ rfl 0 (by decide)
  have h3 := h2 (am 0, .inr (kM, (fM am N th σ).set 8 (.int v))) (fun _ => (am 0, .inr (kM, fM am N th (su σ 0 0 9 v)))) (by rw [fM_8 (th := th)]) (fun k hk hne => by omega)
  rw [← sM_s] at h3
  have h3 : (wM ct am N th σ).set q0 _ = wM ct am N th (su σ 0 0 9 v) := h3
  refine va_put (ref := RM) (ty := .int) C.1 C.2.1 C.2.2.2.2.1 iM tM tM_ok nM C.2.2.2.1 C.2.2.2.2.2.1 hw.1 hw.2.1 hw.2.2 q0 h1 rfl 8 (by omega) (C.2.2.2.2.1 _ hlink) (fM_same 8 (by omega) _) rfl (by decide +kernel) rfl rfl (by simp [fM]) hdg (fun H1 locs1 a b c => ?_)
  rw [h3] at a b
  exact kk H1 locs1 ⟨a, b, c⟩
theorem mp_9 (C : cx p l s m args meth c cc nL own ct D A) (hw : wl D A s (wM ct am N th σ) H locs) (hlink : Cond.fieldLink own index RM (FM 9).2.1 (FM 9).2.2.1 ∈ wsG) {v : Int32} (hdg : decode cc pc = .ok (.putfield index, 3))
    (kk : ∀ (H1 : Heap) (locs1 : List Loc), wl D A s (wM ct am N th (su σ 0 0 10 v)) H1 locs1 → W p l e R s m args below meth c H1 locs1 cells slots Q (F0 m (pc + 3) ls rest)) : W p l e R s m args below meth c H locs cells slots Q (F0 m pc ls (.int v :: .ref (am 0) :: rest)) := by
  obtain ⟨q0, h1, h2⟩ := sg_at (sM ct am N th σ) 0 1 _ rfl 0 (by decide)
  have h3 := h2 (am 0, .inr (kM, (fM am N th σ).set 9 (.int v))) (fun _ => (am 0, .inr (kM, fM am N th (su σ 0 0 10 v)))) (by rw [fM_9 (th := th)]) (fun k hk hne => by omega)
  rw [← sM_s] at h3
  have h3 : (wM ct am N th σ).set q0 _ = wM ct am N th (su σ 0 0 10 v) := h3
  refine va_put (ref := RM) (ty := .int) C.1 C.2.1 C.2.2.2.2.1 iM tM tM_ok nM C.2.2.2.1 C.2.2.2.2.2.1 hw.1 hw.2.1 hw.2.2 q0 h1 rfl 9 (by omega) (C.2.2.2.2.1 _ hlink) (fM_same 9 (by omega) _) rfl (by decide +kernel) rfl rfl (by simp [fM]) hdg (fun H1 locs1 a b c => ?_)
  rw [h3] at a b
  exact kk H1 locs1 ⟨a, b, c⟩
theorem mp_10 (C : cx p l s m args meth c cc nL own ct D A) (hw : wl D A s (wM ct am N th σ) H locs) (hlink : Cond.fieldLink own index RM (FM 10).2.1 (FM 10).2.2.1 ∈ wsG) {v : Int32} (hdg : decode cc pc = .ok (.putfield index, 3))
    (kk : ∀ (H1 : Heap) (locs1 : List Loc), wl D A s (wM ct am N th (su σ 0 0 4 v)) H1 locs1 → W p l e R s m args below meth c H1 locs1 cells slots Q (F0 m (pc + 3) ls rest)) : W p l e R s m args below meth c H locs cells slots Q (F0 m pc ls (.int v :: .ref (am 0) :: rest)) := by
  obtain ⟨q0, h1, h2⟩ := sg_at (sM ct am N th σ) 0 1 _ rfl 0 (by decide)
  have h3 := h2 (am 0, .inr (kM, (fM am N th σ).set 10 (.int v))) (fun _ => (am 0, .inr (kM, fM am N th (su σ 0 0 4 v)))) (by rw [fM_10 (th := th)]) (fun k hk hne => by omega)
  rw [← sM_s] at h3
  have h3 : (wM ct am N th σ).set q0 _ = wM ct am N th (su σ 0 0 4 v) := h3
  refine va_put (ref := RM) (ty := .int) C.1 C.2.1 C.2.2.2.2.1 iM tM tM_ok nM C.2.2.2.1 C.2.2.2.2.2.1 hw.1 hw.2.1 hw.2.2 q0 h1 rfl 10 (by omega) (C.2.2.2.2.1 _ hlink) (fM_same 10 (by omega) _) rfl (by decide +kernel) rfl rfl (by simp [fM]) hdg (fun H1 locs1 a b c => ?_)
  rw [h3] at a b
  exact kk H1 locs1 ⟨a, b, c⟩
theorem mp_11 (C : cx p l s m args meth c cc nL own ct D A) (hw : wl D A s (wM ct am N th σ) H locs) (hlink : Cond.fieldLink own index RM (FM 11).2.1 (FM 11).2.2.1 ∈ wsG) {v : Int32} (hdg : decode cc pc = .ok (.putfield index, 3))
    (kk : ∀ (H1 : Heap) (locs1 : List Loc), wl D A s (wM ct am N th (su σ 0 0 5 v)) H1 locs1 → W p l e R s m args below meth c H1 locs1 cells slots Q (F0 m (pc + 3) ls rest)) : W p l e R s m args below meth c H locs cells slots Q (F0 m pc ls (.int v :: .ref (am 0) :: rest)) := by
  obtain ⟨q0, h1, h2⟩ := sg_at (sM ct am N th σ) 0 1 _ rfl 0 (by decide)
  have h3 := h2 (am 0, .inr (kM, (fM am N th σ).set 11 (.int v))) (fun _ => (am 0, .inr (kM, fM am N th (su σ 0 0 5 v)))) (by rw [fM_11 (th := th)]) (fun k hk hne => by omega)
  rw [← sM_s] at h3
  have h3 : (wM ct am N th σ).set q0 _ = wM ct am N th (su σ 0 0 5 v) := h3
  refine va_put (ref := RM) (ty := .int) C.1 C.2.1 C.2.2.2.2.1 iM tM tM_ok nM C.2.2.2.1 C.2.2.2.2.2.1 hw.1 hw.2.1 hw.2.2 q0 h1 rfl 11 (by omega) (C.2.2.2.2.1 _ hlink) (fM_same 11 (by omega) _) rfl (by decide +kernel) rfl rfl (by simp [fM]) hdg (fun H1 locs1 a b c => ?_)
  rw [h3] at a b
  exact kk H1 locs1 ⟨a, b, c⟩
theorem mp_12 (C : cx p l s m args meth c cc nL own ct D A) (hw : wl D A s (wM ct am N th σ) H locs) (hlink : Cond.fieldLink own index RM (FM 12).2.1 (FM 12).2.2.1 ∈ wsG) {v : Int32} (hdg : decode cc pc = .ok (.putfield index, 3))
    (kk : ∀ (H1 : Heap) (locs1 : List Loc), wl D A s (wM ct am N th (su σ 0 0 6 v)) H1 locs1 → W p l e R s m args below meth c H1 locs1 cells slots Q (F0 m (pc + 3) ls rest)) : W p l e R s m args below meth c H locs cells slots Q (F0 m pc ls (.int v :: .ref (am 0) :: rest)) := by
  obtain ⟨q0, h1, h2⟩ := sg_at (sM ct am N th σ) 0 1 _ rfl 0 (by decide)
  have h3 := h2 (am 0, .inr (kM, (fM am N th σ).set 12 (.int v))) (fun _ => (am 0, .inr (kM, fM am N th (su σ 0 0 6 v)))) (by rw [fM_12 (th := th)]) (fun k hk hne => by omega)
  rw [← sM_s] at h3
  have h3 : (wM ct am N th σ).set q0 _ = wM ct am N th (su σ 0 0 6 v) := h3
  refine va_put (ref := RM) (ty := .int) C.1 C.2.1 C.2.2.2.2.1 iM tM tM_ok nM C.2.2.2.1 C.2.2.2.2.2.1 hw.1 hw.2.1 hw.2.2 q0 h1 rfl 12 (by omega) (C.2.2.2.2.1 _ hlink) (fM_same 12 (by omega) _) rfl (by decide +kernel) rfl rfl (by simp [fM]) hdg (fun H1 locs1 a b c => ?_)
  rw [h3] at a b
  exact kk H1 locs1 ⟨a, b, c⟩
theorem sM_1 {ct : Ct} {am : Nat → Nat} {N t : Nat} {th x : Int32} {σ : St} : sM ct am N th (su σ 1 t 0 x) = (sM ct am N th σ).set 1 (1, fun _ => (am 1, eI (ct 4) 16 (fun z9 => (su σ 1 t 0 x) 1 z9 0))) := by simp [sM, fM, su, su_r]
theorem mr_1 (C : cx p l s m args meth c cc nL own ct D A) (hw : wl D A s (wM ct am N th σ) H locs) (ht : t < 16) {i : Int32} (hi : i = nI (t)) (hdg : decode cc pc = .ok (.baload, 1)) (kk : W p l e R s m args below meth c H locs cells slots Q (F0 m (pc + 1) ls (.int (σ 1 t 0) :: rest))) : W p l e R s m args below meth c H locs cells slots Q (F0 m pc ls (.int i :: .ref (am 1) :: rest)) := by
  subst hi
  obtain ⟨q0, h1, -⟩ := sg_at (sM ct am N th σ) 1 1 _ rfl 0 (by decide)
  refine va_zald C.1 C.2.1 C.2.2.2.2.2.1 hw.1 q0 4 h1 rfl (vp_in_nI (by omega) (by omega)) hdg ?_
  rw [nI_clamp (by omega)]
  exact kk
theorem mw_1 (C : cx p l s m args meth c cc nL own ct D A) (hw : wl D A s (wM ct am N th σ) H locs) (ht : t < 16) {i x : Int32} (hz : x = 0 ∨ x = 1) (hi : i = nI (t)) (hdg : decode cc pc = .ok (.bastore, 1)) (kk : ∀ (H1 : Heap) (locs1 : List Loc), wl D A s (wM ct am N th (su σ 1 t 0 x)) H1 locs1 → W p l e R s m args below meth c H1 locs1 cells slots Q (F0 m (pc + 1) ls rest)) : W p l e R s m args below meth c H locs cells slots Q (F0 m pc ls (.int x :: .int i :: .ref (am 1) :: rest)) := by
  subst hi
  obtain ⟨q0, h1, h2⟩ := sg_at (sM ct am N th σ) 1 1 _ rfl 0 (by decide)
  have hu : upd (fun z9 => σ 1 z9 0) (t) x = (fun z9 => (su σ 1 t 0 x) 1 z9 0) := by
    funext z
    by_cases hz9 : z = t
    · subst hz9; simp [upd, su]
    · simp [upd, su, hz9]
  have h3 := h2 (am 1, eI (ct 4) 16 (upd (fun z9 => σ 1 z9 0) (t) x)) (fun _ => (am 1, eI (ct 4) 16 (fun z9 => (su σ 1 t 0 x) 1 z9 0))) (by rw [hu]) (fun k hk hne => by omega)
  rw [← sM_1] at h3
  have h3 : (wM ct am N th σ).set q0 _ = wM ct am N th (su σ 1 t 0 x) := h3
  refine va_zast C.1 C.2.1 C.2.2.2.2.2.1 hw.1 hw.2.1 hw.2.2 q0 4 h1 rfl (vp_in_nI (by omega) (by omega)) hdg (fun H1 locs1 a b c => ?_)
  rw [show vp_nar .boolean x = x by rcases hz with rfl | rfl <;> rfl] at a b
  rw [nI_clamp (by omega), h3] at a b
  exact kk H1 locs1 ⟨a, b, c⟩
theorem sM_2 {ct : Ct} {am : Nat → Nat} {N t : Nat} {th x : Int32} {σ : St} : sM ct am N th (su σ 1 t 1 x) = (sM ct am N th σ).set 2 (1, fun _ => (am 2, eI (ct 0) 16 (fun z9 => (su σ 1 t 1 x) 1 z9 1))) := by simp [sM, fM, su, su_r]
theorem mr_2 (C : cx p l s m args meth c cc nL own ct D A) (hw : wl D A s (wM ct am N th σ) H locs) (ht : t < 16) {i : Int32} (hi : i = nI (t)) (hdg : decode cc pc = .ok (.iaload, 1)) (kk : W p l e R s m args below meth c H locs cells slots Q (F0 m (pc + 1) ls (.int (σ 1 t 1) :: rest))) : W p l e R s m args below meth c H locs cells slots Q (F0 m pc ls (.int i :: .ref (am 2) :: rest)) := by
  subst hi
  obtain ⟨q0, h1, -⟩ := sg_at (sM ct am N th σ) 2 1 _ rfl 0 (by decide)
  refine va_iald C.1 C.2.1 C.2.2.2.2.2.1 hw.1 q0 0 h1 rfl (vp_in_nI (by omega) (by omega)) hdg ?_
  rw [nI_clamp (by omega)]
  exact kk
theorem mw_2 (C : cx p l s m args meth c cc nL own ct D A) (hw : wl D A s (wM ct am N th σ) H locs) (ht : t < 16) {i x : Int32} (hi : i = nI (t)) (hdg : decode cc pc = .ok (.iastore, 1)) (kk : ∀ (H1 : Heap) (locs1 : List Loc), wl D A s (wM ct am N th (su σ 1 t 1 x)) H1 locs1 → W p l e R s m args below meth c H1 locs1 cells slots Q (F0 m (pc + 1) ls rest)) : W p l e R s m args below meth c H locs cells slots Q (F0 m pc ls (.int x :: .int i :: .ref (am 2) :: rest)) := by
  subst hi
  obtain ⟨q0, h1, h2⟩ := sg_at (sM ct am N th σ) 2 1 _ rfl 0 (by decide)
  have hu : upd (fun z9 => σ 1 z9 1) (t) x = (fun z9 => (su σ 1 t 1 x) 1 z9 1) := by
    funext z
    by_cases hz9 : z = t
    · subst hz9; simp [upd, su]
    · simp [upd, su, hz9]
  have h3 := h2 (am 2, eI (ct 0) 16 (upd (fun z9 => σ 1 z9 1) (t) x)) (fun _ => (am 2, eI (ct 0) 16 (fun z9 => (su σ 1 t 1 x) 1 z9 1))) (by rw [hu]) (fun k hk hne => by omega)
  rw [← sM_2] at h3
  have h3 : (wM ct am N th σ).set q0 _ = wM ct am N th (su σ 1 t 1 x) := h3
  refine va_iast C.1 C.2.1 C.2.2.2.2.2.1 hw.1 hw.2.1 hw.2.2 q0 0 h1 rfl (vp_in_nI (by omega) (by omega)) hdg (fun H1 locs1 a b c => ?_)
  rw [nI_clamp (by omega), h3] at a b
  exact kk H1 locs1 ⟨a, b, c⟩
theorem sM_3 {ct : Ct} {am : Nat → Nat} {N t : Nat} {th x : Int32} {σ : St} : sM ct am N th (su σ 1 t 2 x) = (sM ct am N th σ).set 3 (1, fun _ => (am 3, eI (ct 0) 16 (fun z9 => (su σ 1 t 2 x) 1 z9 2))) := by simp [sM, fM, su, su_r]
theorem mr_3 (C : cx p l s m args meth c cc nL own ct D A) (hw : wl D A s (wM ct am N th σ) H locs) (ht : t < 16) {i : Int32} (hi : i = nI (t)) (hdg : decode cc pc = .ok (.iaload, 1)) (kk : W p l e R s m args below meth c H locs cells slots Q (F0 m (pc + 1) ls (.int (σ 1 t 2) :: rest))) : W p l e R s m args below meth c H locs cells slots Q (F0 m pc ls (.int i :: .ref (am 3) :: rest)) := by
  subst hi
  obtain ⟨q0, h1, -⟩ := sg_at (sM ct am N th σ) 3 1 _ rfl 0 (by decide)
  refine va_iald C.1 C.2.1 C.2.2.2.2.2.1 hw.1 q0 0 h1 rfl (vp_in_nI (by omega) (by omega)) hdg ?_
  rw [nI_clamp (by omega)]
  exact kk
theorem mw_3 (C : cx p l s m args meth c cc nL own ct D A) (hw : wl D A s (wM ct am N th σ) H locs) (ht : t < 16) {i x : Int32} (hi : i = nI (t)) (hdg : decode cc pc = .ok (.iastore, 1)) (kk : ∀ (H1 : Heap) (locs1 : List Loc), wl D A s (wM ct am N th (su σ 1 t 2 x)) H1 locs1 → W p l e R s m args below meth c H1 locs1 cells slots Q (F0 m (pc + 1) ls rest)) : W p l e R s m args below meth c H locs cells slots Q (F0 m pc ls (.int x :: .int i :: .ref (am 3) :: rest)) := by
  subst hi
  obtain ⟨q0, h1, h2⟩ := sg_at (sM ct am N th σ) 3 1 _ rfl 0 (by decide)
  have hu : upd (fun z9 => σ 1 z9 2) (t) x = (fun z9 => (su σ 1 t 2 x) 1 z9 2) := by
    funext z
    by_cases hz9 : z = t
    · subst hz9; simp [upd, su]
    · simp [upd, su, hz9]
  have h3 := h2 (am 3, eI (ct 0) 16 (upd (fun z9 => σ 1 z9 2) (t) x)) (fun _ => (am 3, eI (ct 0) 16 (fun z9 => (su σ 1 t 2 x) 1 z9 2))) (by rw [hu]) (fun k hk hne => by omega)
  rw [← sM_3] at h3
  have h3 : (wM ct am N th σ).set q0 _ = wM ct am N th (su σ 1 t 2 x) := h3
  refine va_iast C.1 C.2.1 C.2.2.2.2.2.1 hw.1 hw.2.1 hw.2.2 q0 0 h1 rfl (vp_in_nI (by omega) (by omega)) hdg (fun H1 locs1 a b c => ?_)
  rw [nI_clamp (by omega), h3] at a b
  exact kk H1 locs1 ⟨a, b, c⟩
theorem sM_4 {ct : Ct} {am : Nat → Nat} {N t : Nat} {th x : Int32} {σ : St} : sM ct am N th (su σ 1 t 3 x) = (sM ct am N th σ).set 4 (1, fun _ => (am 4, eI (ct 0) 16 (fun z9 => (su σ 1 t 3 x) 1 z9 3))) := by simp [sM, fM, su, su_r]
theorem mr_4 (C : cx p l s m args meth c cc nL own ct D A) (hw : wl D A s (wM ct am N th σ) H locs) (ht : t < 16) {i : Int32} (hi : i = nI (t)) (hdg : decode cc pc = .ok (.iaload, 1)) (kk : W p l e R s m args below meth c H locs cells slots Q (F0 m (pc + 1) ls (.int (σ 1 t 3) :: rest))) : W p l e R s m args below meth c H locs cells slots Q (F0 m pc ls (.int i :: .ref (am 4) :: rest)) := by
  subst hi
  obtain ⟨q0, h1, -⟩ := sg_at (sM ct am N th σ) 4 1 _ rfl 0 (by decide)
  refine va_iald C.1 C.2.1 C.2.2.2.2.2.1 hw.1 q0 0 h1 rfl (vp_in_nI (by omega) (by omega)) hdg ?_
  rw [nI_clamp (by omega)]
  exact kk
theorem mw_4 (C : cx p l s m args meth c cc nL own ct D A) (hw : wl D A s (wM ct am N th σ) H locs) (ht : t < 16) {i x : Int32} (hi : i = nI (t)) (hdg : decode cc pc = .ok (.iastore, 1)) (kk : ∀ (H1 : Heap) (locs1 : List Loc), wl D A s (wM ct am N th (su σ 1 t 3 x)) H1 locs1 → W p l e R s m args below meth c H1 locs1 cells slots Q (F0 m (pc + 1) ls rest)) : W p l e R s m args below meth c H locs cells slots Q (F0 m pc ls (.int x :: .int i :: .ref (am 4) :: rest)) := by
  subst hi
  obtain ⟨q0, h1, h2⟩ := sg_at (sM ct am N th σ) 4 1 _ rfl 0 (by decide)
  have hu : upd (fun z9 => σ 1 z9 3) (t) x = (fun z9 => (su σ 1 t 3 x) 1 z9 3) := by
    funext z
    by_cases hz9 : z = t
    · subst hz9; simp [upd, su]
    · simp [upd, su, hz9]
  have h3 := h2 (am 4, eI (ct 0) 16 (upd (fun z9 => σ 1 z9 3) (t) x)) (fun _ => (am 4, eI (ct 0) 16 (fun z9 => (su σ 1 t 3 x) 1 z9 3))) (by rw [hu]) (fun k hk hne => by omega)
  rw [← sM_4] at h3
  have h3 : (wM ct am N th σ).set q0 _ = wM ct am N th (su σ 1 t 3 x) := h3
  refine va_iast C.1 C.2.1 C.2.2.2.2.2.1 hw.1 hw.2.1 hw.2.2 q0 0 h1 rfl (vp_in_nI (by omega) (by omega)) hdg (fun H1 locs1 a b c => ?_)
  rw [nI_clamp (by omega), h3] at a b
  exact kk H1 locs1 ⟨a, b, c⟩
theorem sM_5 {ct : Ct} {am : Nat → Nat} {N t : Nat} {th x : Int32} {σ : St} : sM ct am N th (su σ 1 t 4 x) = (sM ct am N th σ).set 5 (1, fun _ => (am 5, eI (ct 0) 16 (fun z9 => (su σ 1 t 4 x) 1 z9 4))) := by simp [sM, fM, su, su_r]
theorem mr_5 (C : cx p l s m args meth c cc nL own ct D A) (hw : wl D A s (wM ct am N th σ) H locs) (ht : t < 16) {i : Int32} (hi : i = nI (t)) (hdg : decode cc pc = .ok (.iaload, 1)) (kk : W p l e R s m args below meth c H locs cells slots Q (F0 m (pc + 1) ls (.int (σ 1 t 4) :: rest))) : W p l e R s m args below meth c H locs cells slots Q (F0 m pc ls (.int i :: .ref (am 5) :: rest)) := by
  subst hi
  obtain ⟨q0, h1, -⟩ := sg_at (sM ct am N th σ) 5 1 _ rfl 0 (by decide)
  refine va_iald C.1 C.2.1 C.2.2.2.2.2.1 hw.1 q0 0 h1 rfl (vp_in_nI (by omega) (by omega)) hdg ?_
  rw [nI_clamp (by omega)]
  exact kk
theorem mw_5 (C : cx p l s m args meth c cc nL own ct D A) (hw : wl D A s (wM ct am N th σ) H locs) (ht : t < 16) {i x : Int32} (hi : i = nI (t)) (hdg : decode cc pc = .ok (.iastore, 1)) (kk : ∀ (H1 : Heap) (locs1 : List Loc), wl D A s (wM ct am N th (su σ 1 t 4 x)) H1 locs1 → W p l e R s m args below meth c H1 locs1 cells slots Q (F0 m (pc + 1) ls rest)) : W p l e R s m args below meth c H locs cells slots Q (F0 m pc ls (.int x :: .int i :: .ref (am 5) :: rest)) := by
  subst hi
  obtain ⟨q0, h1, h2⟩ := sg_at (sM ct am N th σ) 5 1 _ rfl 0 (by decide)
  have hu : upd (fun z9 => σ 1 z9 4) (t) x = (fun z9 => (su σ 1 t 4 x) 1 z9 4) := by
    funext z
    by_cases hz9 : z = t
    · subst hz9; simp [upd, su]
    · simp [upd, su, hz9]
  have h3 := h2 (am 5, eI (ct 0) 16 (upd (fun z9 => σ 1 z9 4) (t) x)) (fun _ => (am 5, eI (ct 0) 16 (fun z9 => (su σ 1 t 4 x) 1 z9 4))) (by rw [hu]) (fun k hk hne => by omega)
  rw [← sM_5] at h3
  have h3 : (wM ct am N th σ).set q0 _ = wM ct am N th (su σ 1 t 4 x) := h3
  refine va_iast C.1 C.2.1 C.2.2.2.2.2.1 hw.1 hw.2.1 hw.2.2 q0 0 h1 rfl (vp_in_nI (by omega) (by omega)) hdg (fun H1 locs1 a b c => ?_)
  rw [nI_clamp (by omega), h3] at a b
  exact kk H1 locs1 ⟨a, b, c⟩
theorem sM_6 {ct : Ct} {am : Nat → Nat} {N t : Nat} {th x : Int32} {σ : St} : sM ct am N th (su σ 1 t 5 x) = (sM ct am N th σ).set 6 (1, fun _ => (am 6, eI (ct 0) 16 (fun z9 => (su σ 1 t 5 x) 1 z9 5))) := by simp [sM, fM, su, su_r]
theorem mr_6 (C : cx p l s m args meth c cc nL own ct D A) (hw : wl D A s (wM ct am N th σ) H locs) (ht : t < 16) {i : Int32} (hi : i = nI (t)) (hdg : decode cc pc = .ok (.iaload, 1)) (kk : W p l e R s m args below meth c H locs cells slots Q (F0 m (pc + 1) ls (.int (σ 1 t 5) :: rest))) : W p l e R s m args below meth c H locs cells slots Q (F0 m pc ls (.int i :: .ref (am 6) :: rest)) := by
  subst hi
  obtain ⟨q0, h1, -⟩ := sg_at (sM ct am N th σ) 6 1 _ rfl 0 (by decide)
  refine va_iald C.1 C.2.1 C.2.2.2.2.2.1 hw.1 q0 0 h1 rfl (vp_in_nI (by omega) (by omega)) hdg ?_
  rw [nI_clamp (by omega)]
  exact kk
theorem mw_6 (C : cx p l s m args meth c cc nL own ct D A) (hw : wl D A s (wM ct am N th σ) H locs) (ht : t < 16) {i x : Int32} (hi : i = nI (t)) (hdg : decode cc pc = .ok (.iastore, 1)) (kk : ∀ (H1 : Heap) (locs1 : List Loc), wl D A s (wM ct am N th (su σ 1 t 5 x)) H1 locs1 → W p l e R s m args below meth c H1 locs1 cells slots Q (F0 m (pc + 1) ls rest)) : W p l e R s m args below meth c H locs cells slots Q (F0 m pc ls (.int x :: .int i :: .ref (am 6) :: rest)) := by
  subst hi
  obtain ⟨q0, h1, h2⟩ := sg_at (sM ct am N th σ) 6 1 _ rfl 0 (by decide)
  have hu : upd (fun z9 => σ 1 z9 5) (t) x = (fun z9 => (su σ 1 t 5 x) 1 z9 5) := by
    funext z
    by_cases hz9 : z = t
    · subst hz9; simp [upd, su]
    · simp [upd, su, hz9]
  have h3 := h2 (am 6, eI (ct 0) 16 (upd (fun z9 => σ 1 z9 5) (t) x)) (fun _ => (am 6, eI (ct 0) 16 (fun z9 => (su σ 1 t 5 x) 1 z9 5))) (by rw [hu]) (fun k hk hne => by omega)
  rw [← sM_6] at h3
  have h3 : (wM ct am N th σ).set q0 _ = wM ct am N th (su σ 1 t 5 x) := h3
  refine va_iast C.1 C.2.1 C.2.2.2.2.2.1 hw.1 hw.2.1 hw.2.2 q0 0 h1 rfl (vp_in_nI (by omega) (by omega)) hdg (fun H1 locs1 a b c => ?_)
  rw [nI_clamp (by omega), h3] at a b
  exact kk H1 locs1 ⟨a, b, c⟩
theorem sM_7 {ct : Ct} {am : Nat → Nat} {N t : Nat} {th x : Int32} {σ : St} : sM ct am N th (su σ 1 t 6 x) = (sM ct am N th σ).set 7 (1, fun _ => (am 7, eI (ct 0) 16 (fun z9 => (su σ 1 t 6 x) 1 z9 6))) := by simp [sM, fM, su, su_r]
theorem mr_7 (C : cx p l s m args meth c cc nL own ct D A) (hw : wl D A s (wM ct am N th σ) H locs) (ht : t < 16) {i : Int32} (hi : i = nI (t)) (hdg : decode cc pc = .ok (.iaload, 1)) (kk : W p l e R s m args below meth c H locs cells slots Q (F0 m (pc + 1) ls (.int (σ 1 t 6) :: rest))) : W p l e R s m args below meth c H locs cells slots Q (F0 m pc ls (.int i :: .ref (am 7) :: rest)) := by
  subst hi
  obtain ⟨q0, h1, -⟩ := sg_at (sM ct am N th σ) 7 1 _ rfl 0 (by decide)
  refine va_iald C.1 C.2.1 C.2.2.2.2.2.1 hw.1 q0 0 h1 rfl (vp_in_nI (by omega) (by omega)) hdg ?_
  rw [nI_clamp (by omega)]
  exact kk
theorem mw_7 (C : cx p l s m args meth c cc nL own ct D A) (hw : wl D A s (wM ct am N th σ) H locs) (ht : t < 16) {i x : Int32} (hi : i = nI (t)) (hdg : decode cc pc = .ok (.iastore, 1)) (kk : ∀ (H1 : Heap) (locs1 : List Loc), wl D A s (wM ct am N th (su σ 1 t 6 x)) H1 locs1 → W p l e R s m args below meth c H1 locs1 cells slots Q (F0 m (pc + 1) ls rest)) : W p l e R s m args below meth c H locs cells slots Q (F0 m pc ls (.int x :: .int i :: .ref (am 7) :: rest)) := by
  subst hi
  obtain ⟨q0, h1, h2⟩ := sg_at (sM ct am N th σ) 7 1 _ rfl 0 (by decide)
  have hu : upd (fun z9 => σ 1 z9 6) (t) x = (fun z9 => (su σ 1 t 6 x) 1 z9 6) := by
    funext z
    by_cases hz9 : z = t
    · subst hz9; simp [upd, su]
    · simp [upd, su, hz9]
  have h3 := h2 (am 7, eI (ct 0) 16 (upd (fun z9 => σ 1 z9 6) (t) x)) (fun _ => (am 7, eI (ct 0) 16 (fun z9 => (su σ 1 t 6 x) 1 z9 6))) (by rw [hu]) (fun k hk hne => by omega)
  rw [← sM_7] at h3
  have h3 : (wM ct am N th σ).set q0 _ = wM ct am N th (su σ 1 t 6 x) := h3
  refine va_iast C.1 C.2.1 C.2.2.2.2.2.1 hw.1 hw.2.1 hw.2.2 q0 0 h1 rfl (vp_in_nI (by omega) (by omega)) hdg (fun H1 locs1 a b c => ?_)
  rw [nI_clamp (by omega), h3] at a b
  exact kk H1 locs1 ⟨a, b, c⟩
theorem sM_8 {ct : Ct} {am : Nat → Nat} {N t : Nat} {th x : Int32} {σ : St} : sM ct am N th (su σ 1 t 7 x) = (sM ct am N th σ).set 8 (1, fun _ => (am 8, eI (ct 0) 16 (fun z9 => (su σ 1 t 7 x) 1 z9 7))) := by simp [sM, fM, su, su_r]
theorem mr_8 (C : cx p l s m args meth c cc nL own ct D A) (hw : wl D A s (wM ct am N th σ) H locs) (ht : t < 16) {i : Int32} (hi : i = nI (t)) (hdg : decode cc pc = .ok (.iaload, 1)) (kk : W p l e R s m args below meth c H locs cells slots Q (F0 m (pc + 1) ls (.int (σ 1 t 7) :: rest))) : W p l e R s m args below meth c H locs cells slots Q (F0 m pc ls (.int i :: .ref (am 8) :: rest)) := by
  subst hi
  obtain ⟨q0, h1, -⟩ := sg_at (sM ct am N th σ) 8 1 _ rfl 0 (by decide)
  refine va_iald C.1 C.2.1 C.2.2.2.2.2.1 hw.1 q0 0 h1 rfl (vp_in_nI (by omega) (by omega)) hdg ?_
  rw [nI_clamp (by omega)]
  exact kk
theorem mw_8 (C : cx p l s m args meth c cc nL own ct D A) (hw : wl D A s (wM ct am N th σ) H locs) (ht : t < 16) {i x : Int32} (hi : i = nI (t)) (hdg : decode cc pc = .ok (.iastore, 1)) (kk : ∀ (H1 : Heap) (locs1 : List Loc), wl D A s (wM ct am N th (su σ 1 t 7 x)) H1 locs1 → W p l e R s m args below meth c H1 locs1 cells slots Q (F0 m (pc + 1) ls rest)) : W p l e R s m args below meth c H locs cells slots Q (F0 m pc ls (.int x :: .int i :: .ref (am 8) :: rest)) := by
  subst hi
  obtain ⟨q0, h1, h2⟩ := sg_at (sM ct am N th σ) 8 1 _ rfl 0 (by decide)
  have hu : upd (fun z9 => σ 1 z9 7) (t) x = (fun z9 => (su σ 1 t 7 x) 1 z9 7) := by
    funext z
    by_cases hz9 : z = t
    · subst hz9; simp [upd, su]
    · simp [upd, su, hz9]
  have h3 := h2 (am 8, eI (ct 0) 16 (upd (fun z9 => σ 1 z9 7) (t) x)) (fun _ => (am 8, eI (ct 0) 16 (fun z9 => (su σ 1 t 7 x) 1 z9 7))) (by rw [hu]) (fun k hk hne => by omega)
  rw [← sM_8] at h3
  have h3 : (wM ct am N th σ).set q0 _ = wM ct am N th (su σ 1 t 7 x) := h3
  refine va_iast C.1 C.2.1 C.2.2.2.2.2.1 hw.1 hw.2.1 hw.2.2 q0 0 h1 rfl (vp_in_nI (by omega) (by omega)) hdg (fun H1 locs1 a b c => ?_)
  rw [nI_clamp (by omega), h3] at a b
  exact kk H1 locs1 ⟨a, b, c⟩
theorem sM_9 {ct : Ct} {am : Nat → Nat} {N t k : Nat} {th x : Int32} {σ : St} : sM ct am N th (su σ 2 t k x) = (sM ct am N th σ).set 9 (1, fun _ => (am 9, eI (ct 0) 256 (fun z9 => (su σ 2 t k x) 2 (z9 / 16) (z9 % 16)))) := by simp [sM, fM, su, su_r]
theorem mr_9 (C : cx p l s m args meth c cc nL own ct D A) (hw : wl D A s (wM ct am N th σ) H locs) (ht : t < 16) (hk : k < 16) {i : Int32} (hi : i = nI (16 * t + k)) (hdg : decode cc pc = .ok (.iaload, 1)) (kk : W p l e R s m args below meth c H locs cells slots Q (F0 m (pc + 1) ls (.int (σ 2 t k) :: rest))) : W p l e R s m args below meth c H locs cells slots Q (F0 m pc ls (.int i :: .ref (am 9) :: rest)) := by
  subst hi
  obtain ⟨q0, h1, -⟩ := sg_at (sM ct am N th σ) 9 1 _ rfl 0 (by decide)
  refine va_iald C.1 C.2.1 C.2.2.2.2.2.1 hw.1 q0 0 h1 rfl (vp_in_nI (by omega) (by omega)) hdg ?_
  rw [nI_clamp (by omega)]
  have e1 : (16 * t + k) / 16 = t := by omega
  have e2 : (16 * t + k) % 16 = k := by omega
  simp only [e1, e2]
  exact kk
theorem mw_9 (C : cx p l s m args meth c cc nL own ct D A) (hw : wl D A s (wM ct am N th σ) H locs) (ht : t < 16) (hk : k < 16) {i x : Int32} (hi : i = nI (16 * t + k)) (hdg : decode cc pc = .ok (.iastore, 1)) (kk : ∀ (H1 : Heap) (locs1 : List Loc), wl D A s (wM ct am N th (su σ 2 t k x)) H1 locs1 → W p l e R s m args below meth c H1 locs1 cells slots Q (F0 m (pc + 1) ls rest)) : W p l e R s m args below meth c H locs cells slots Q (F0 m pc ls (.int x :: .int i :: .ref (am 9) :: rest)) := by
  subst hi
  obtain ⟨q0, h1, h2⟩ := sg_at (sM ct am N th σ) 9 1 _ rfl 0 (by decide)
  have hu : upd (fun z9 => σ 2 (z9 / 16) (z9 % 16)) (16 * t + k) x = (fun z9 => (su σ 2 t k x) 2 (z9 / 16) (z9 % 16)) := by
    funext z
    by_cases hz9 : z = 16 * t + k
    · subst hz9
      have e1 : (16 * t + k) / 16 = t := by omega
      have e2 : (16 * t + k) % 16 = k := by omega
      simp [upd, su, e1, e2]
    · have e3 : ¬ (z / 16 = t ∧ z % 16 = k) := by omega
      simp [upd, su, hz9, e3]
  have h3 := h2 (am 9, eI (ct 0) 256 (upd (fun z9 => σ 2 (z9 / 16) (z9 % 16)) (16 * t + k) x)) (fun _ => (am 9, eI (ct 0) 256 (fun z9 => (su σ 2 t k x) 2 (z9 / 16) (z9 % 16)))) (by rw [hu]) (fun k hk hne => by omega)
  rw [← sM_9] at h3
  have h3 : (wM ct am N th σ).set q0 _ = wM ct am N th (su σ 2 t k x) := h3
  refine va_iast C.1 C.2.1 C.2.2.2.2.2.1 hw.1 hw.2.1 hw.2.2 q0 0 h1 rfl (vp_in_nI (by omega) (by omega)) hdg (fun H1 locs1 a b c => ?_)
  rw [nI_clamp (by omega), h3] at a b
  exact kk H1 locs1 ⟨a, b, c⟩
theorem sM_10 {ct : Ct} {am : Nat → Nat} {N q : Nat} {th x : Int32} {σ : St} : sM ct am N th (su σ 3 q 0 x) = (sM ct am N th σ).set 10 (1, fun _ => (am 10, eI (ct 0) 8 (fun z9 => (su σ 3 q 0 x) 3 z9 0))) := by simp [sM, fM, su, su_r]
theorem mr_10 (C : cx p l s m args meth c cc nL own ct D A) (hw : wl D A s (wM ct am N th σ) H locs) (hq : q < 8) {i : Int32} (hi : i = nI (q)) (hdg : decode cc pc = .ok (.iaload, 1)) (kk : W p l e R s m args below meth c H locs cells slots Q (F0 m (pc + 1) ls (.int (σ 3 q 0) :: rest))) : W p l e R s m args below meth c H locs cells slots Q (F0 m pc ls (.int i :: .ref (am 10) :: rest)) := by
  subst hi
  obtain ⟨q0, h1, -⟩ := sg_at (sM ct am N th σ) 10 1 _ rfl 0 (by decide)
  refine va_iald C.1 C.2.1 C.2.2.2.2.2.1 hw.1 q0 0 h1 rfl (vp_in_nI (by omega) (by omega)) hdg ?_
  rw [nI_clamp (by omega)]
  exact kk
theorem mw_10 (C : cx p l s m args meth c cc nL own ct D A) (hw : wl D A s (wM ct am N th σ) H locs) (hq : q < 8) {i x : Int32} (hi : i = nI (q)) (hdg : decode cc pc = .ok (.iastore, 1)) (kk : ∀ (H1 : Heap) (locs1 : List Loc), wl D A s (wM ct am N th (su σ 3 q 0 x)) H1 locs1 → W p l e R s m args below meth c H1 locs1 cells slots Q (F0 m (pc + 1) ls rest)) : W p l e R s m args below meth c H locs cells slots Q (F0 m pc ls (.int x :: .int i :: .ref (am 10) :: rest)) := by
  subst hi
  obtain ⟨q0, h1, h2⟩ := sg_at (sM ct am N th σ) 10 1 _ rfl 0 (by decide)
  have hu : upd (fun z9 => σ 3 z9 0) (q) x = (fun z9 => (su σ 3 q 0 x) 3 z9 0) := by
    funext z
    by_cases hz9 : z = q
    · subst hz9; simp [upd, su]
    · simp [upd, su, hz9]
  have h3 := h2 (am 10, eI (ct 0) 8 (upd (fun z9 => σ 3 z9 0) (q) x)) (fun _ => (am 10, eI (ct 0) 8 (fun z9 => (su σ 3 q 0 x) 3 z9 0))) (by rw [hu]) (fun k hk hne => by omega)
  rw [← sM_10] at h3
  have h3 : (wM ct am N th σ).set q0 _ = wM ct am N th (su σ 3 q 0 x) := h3
  refine va_iast C.1 C.2.1 C.2.2.2.2.2.1 hw.1 hw.2.1 hw.2.2 q0 0 h1 rfl (vp_in_nI (by omega) (by omega)) hdg (fun H1 locs1 a b c => ?_)
  rw [nI_clamp (by omega), h3] at a b
  exact kk H1 locs1 ⟨a, b, c⟩
theorem sM_11 {ct : Ct} {am : Nat → Nat} {N q k : Nat} {th x : Int32} {σ : St} : sM ct am N th (su σ 4 q k x) = (sM ct am N th σ).set 11 (1, fun _ => (am 11, eI (ct 0) 256 (fun z9 => (su σ 4 q k x) 4 (z9 / 32) (z9 % 32)))) := by simp [sM, fM, su, su_r]
theorem mr_11 (C : cx p l s m args meth c cc nL own ct D A) (hw : wl D A s (wM ct am N th σ) H locs) (hq : q < 8) (hk : k < 32) {i : Int32} (hi : i = nI (32 * q + k)) (hdg : decode cc pc = .ok (.iaload, 1)) (kk : W p l e R s m args below meth c H locs cells slots Q (F0 m (pc + 1) ls (.int (σ 4 q k) :: rest))) : W p l e R s m args below meth c H locs cells slots Q (F0 m pc ls (.int i :: .ref (am 11) :: rest)) := by
  subst hi
  obtain ⟨q0, h1, -⟩ := sg_at (sM ct am N th σ) 11 1 _ rfl 0 (by decide)
  refine va_iald C.1 C.2.1 C.2.2.2.2.2.1 hw.1 q0 0 h1 rfl (vp_in_nI (by omega) (by omega)) hdg ?_
  rw [nI_clamp (by omega)]
  have e1 : (32 * q + k) / 32 = q := by omega
  have e2 : (32 * q + k) % 32 = k := by omega
  simp only [e1, e2]
  exact kk
theorem mw_11 (C : cx p l s m args meth c cc nL own ct D A) (hw : wl D A s (wM ct am N th σ) H locs) (hq : q < 8) (hk : k < 32) {i x : Int32} (hi : i = nI (32 * q + k)) (hdg : decode cc pc = .ok (.iastore, 1)) (kk : ∀ (H1 : Heap) (locs1 : List Loc), wl D A s (wM ct am N th (su σ 4 q k x)) H1 locs1 → W p l e R s m args below meth c H1 locs1 cells slots Q (F0 m (pc + 1) ls rest)) : W p l e R s m args below meth c H locs cells slots Q (F0 m pc ls (.int x :: .int i :: .ref (am 11) :: rest)) := by
  subst hi
  obtain ⟨q0, h1, h2⟩ := sg_at (sM ct am N th σ) 11 1 _ rfl 0 (by decide)
  have hu : upd (fun z9 => σ 4 (z9 / 32) (z9 % 32)) (32 * q + k) x = (fun z9 => (su σ 4 q k x) 4 (z9 / 32) (z9 % 32)) := by
    funext z
    by_cases hz9 : z = 32 * q + k
    · subst hz9
      have e1 : (32 * q + k) / 32 = q := by omega
      have e2 : (32 * q + k) % 32 = k := by omega
      simp [upd, su, e1, e2]
    · have e3 : ¬ (z / 32 = q ∧ z % 32 = k) := by omega
      simp [upd, su, hz9, e3]
  have h3 := h2 (am 11, eI (ct 0) 256 (upd (fun z9 => σ 4 (z9 / 32) (z9 % 32)) (32 * q + k) x)) (fun _ => (am 11, eI (ct 0) 256 (fun z9 => (su σ 4 q k x) 4 (z9 / 32) (z9 % 32)))) (by rw [hu]) (fun k hk hne => by omega)
  rw [← sM_11] at h3
  have h3 : (wM ct am N th σ).set q0 _ = wM ct am N th (su σ 4 q k x) := h3
  refine va_iast C.1 C.2.1 C.2.2.2.2.2.1 hw.1 hw.2.1 hw.2.2 q0 0 h1 rfl (vp_in_nI (by omega) (by omega)) hdg (fun H1 locs1 a b c => ?_)
  rw [nI_clamp (by omega), h3] at a b
  exact kk H1 locs1 ⟨a, b, c⟩
theorem sM_12 {ct : Ct} {am : Nat → Nat} {N q k : Nat} {th x : Int32} {σ : St} : sM ct am N th (su σ 5 q k x) = (sM ct am N th σ).set 12 (1, fun _ => (am 12, eI (ct 0) 256 (fun z9 => (su σ 5 q k x) 5 (z9 / 32) (z9 % 32)))) := by simp [sM, fM, su, su_r]
theorem mr_12 (C : cx p l s m args meth c cc nL own ct D A) (hw : wl D A s (wM ct am N th σ) H locs) (hq : q < 8) (hk : k < 32) {i : Int32} (hi : i = nI (32 * q + k)) (hdg : decode cc pc = .ok (.iaload, 1)) (kk : W p l e R s m args below meth c H locs cells slots Q (F0 m (pc + 1) ls (.int (σ 5 q k) :: rest))) : W p l e R s m args below meth c H locs cells slots Q (F0 m pc ls (.int i :: .ref (am 12) :: rest)) := by
  subst hi
  obtain ⟨q0, h1, -⟩ := sg_at (sM ct am N th σ) 12 1 _ rfl 0 (by decide)
  refine va_iald C.1 C.2.1 C.2.2.2.2.2.1 hw.1 q0 0 h1 rfl (vp_in_nI (by omega) (by omega)) hdg ?_
  rw [nI_clamp (by omega)]
  have e1 : (32 * q + k) / 32 = q := by omega
  have e2 : (32 * q + k) % 32 = k := by omega
  simp only [e1, e2]
  exact kk
theorem mw_12 (C : cx p l s m args meth c cc nL own ct D A) (hw : wl D A s (wM ct am N th σ) H locs) (hq : q < 8) (hk : k < 32) {i x : Int32} (hi : i = nI (32 * q + k)) (hdg : decode cc pc = .ok (.iastore, 1)) (kk : ∀ (H1 : Heap) (locs1 : List Loc), wl D A s (wM ct am N th (su σ 5 q k x)) H1 locs1 → W p l e R s m args below meth c H1 locs1 cells slots Q (F0 m (pc + 1) ls rest)) : W p l e R s m args below meth c H locs cells slots Q (F0 m pc ls (.int x :: .int i :: .ref (am 12) :: rest)) := by
  subst hi
  obtain ⟨q0, h1, h2⟩ := sg_at (sM ct am N th σ) 12 1 _ rfl 0 (by decide)
  have hu : upd (fun z9 => σ 5 (z9 / 32) (z9 % 32)) (32 * q + k) x = (fun z9 => (su σ 5 q k x) 5 (z9 / 32) (z9 % 32)) := by
    funext z
    by_cases hz9 : z = 32 * q + k
    · subst hz9
      have e1 : (32 * q + k) / 32 = q := by omega
      have e2 : (32 * q + k) % 32 = k := by omega
      simp [upd, su, e1, e2]
    · have e3 : ¬ (z / 32 = q ∧ z % 32 = k) := by omega
      simp [upd, su, hz9, e3]
  have h3 := h2 (am 12, eI (ct 0) 256 (upd (fun z9 => σ 5 (z9 / 32) (z9 % 32)) (32 * q + k) x)) (fun _ => (am 12, eI (ct 0) 256 (fun z9 => (su σ 5 q k x) 5 (z9 / 32) (z9 % 32)))) (by rw [hu]) (fun k hk hne => by omega)
  rw [← sM_12] at h3
  have h3 : (wM ct am N th σ).set q0 _ = wM ct am N th (su σ 5 q k x) := h3
  refine va_iast C.1 C.2.1 C.2.2.2.2.2.1 hw.1 hw.2.1 hw.2.2 q0 0 h1 rfl (vp_in_nI (by omega) (by omega)) hdg (fun H1 locs1 a b c => ?_)
  rw [nI_clamp (by omega), h3] at a b
  exact kk H1 locs1 ⟨a, b, c⟩
theorem sM_13 {ct : Ct} {am : Nat → Nat} {N q t : Nat} {th x : Int32} {σ : St} : sM ct am N th (su σ 6 q t x) = (sM ct am N th σ).set 13 (1, fun _ => (am 13, eI (ct 0) 128 (fun z9 => (su σ 6 q t x) 6 (z9 / 16) (z9 % 16)))) := by simp [sM, fM, su, su_r]
theorem mr_13 (C : cx p l s m args meth c cc nL own ct D A) (hw : wl D A s (wM ct am N th σ) H locs) (hq : q < 8) (ht : t < 16) {i : Int32} (hi : i = nI (16 * q + t)) (hdg : decode cc pc = .ok (.iaload, 1)) (kk : W p l e R s m args below meth c H locs cells slots Q (F0 m (pc + 1) ls (.int (σ 6 q t) :: rest))) : W p l e R s m args below meth c H locs cells slots Q (F0 m pc ls (.int i :: .ref (am 13) :: rest)) := by
  subst hi
  obtain ⟨q0, h1, -⟩ := sg_at (sM ct am N th σ) 13 1 _ rfl 0 (by decide)
  refine va_iald C.1 C.2.1 C.2.2.2.2.2.1 hw.1 q0 0 h1 rfl (vp_in_nI (by omega) (by omega)) hdg ?_
  rw [nI_clamp (by omega)]
  have e1 : (16 * q + t) / 16 = q := by omega
  have e2 : (16 * q + t) % 16 = t := by omega
  simp only [e1, e2]
  exact kk
theorem mw_13 (C : cx p l s m args meth c cc nL own ct D A) (hw : wl D A s (wM ct am N th σ) H locs) (hq : q < 8) (ht : t < 16) {i x : Int32} (hi : i = nI (16 * q + t)) (hdg : decode cc pc = .ok (.iastore, 1)) (kk : ∀ (H1 : Heap) (locs1 : List Loc), wl D A s (wM ct am N th (su σ 6 q t x)) H1 locs1 → W p l e R s m args below meth c H1 locs1 cells slots Q (F0 m (pc + 1) ls rest)) : W p l e R s m args below meth c H locs cells slots Q (F0 m pc ls (.int x :: .int i :: .ref (am 13) :: rest)) := by
  subst hi
  obtain ⟨q0, h1, h2⟩ := sg_at (sM ct am N th σ) 13 1 _ rfl 0 (by decide)
  have hu : upd (fun z9 => σ 6 (z9 / 16) (z9 % 16)) (16 * q + t) x = (fun z9 => (su σ 6 q t x) 6 (z9 / 16) (z9 % 16)) := by
    funext z
    by_cases hz9 : z = 16 * q + t
    · subst hz9
      have e1 : (16 * q + t) / 16 = q := by omega
      have e2 : (16 * q + t) % 16 = t := by omega
      simp [upd, su, e1, e2]
    · have e3 : ¬ (z / 16 = q ∧ z % 16 = t) := by omega
      simp [upd, su, hz9, e3]
  have h3 := h2 (am 13, eI (ct 0) 128 (upd (fun z9 => σ 6 (z9 / 16) (z9 % 16)) (16 * q + t) x)) (fun _ => (am 13, eI (ct 0) 128 (fun z9 => (su σ 6 q t x) 6 (z9 / 16) (z9 % 16)))) (by rw [hu]) (fun k hk hne => by omega)
  rw [← sM_13] at h3
  have h3 : (wM ct am N th σ).set q0 _ = wM ct am N th (su σ 6 q t x) := h3
  refine va_iast C.1 C.2.1 C.2.2.2.2.2.1 hw.1 hw.2.1 hw.2.2 q0 0 h1 rfl (vp_in_nI (by omega) (by omega)) hdg (fun H1 locs1 a b c => ?_)
  rw [nI_clamp (by omega), h3] at a b
  exact kk H1 locs1 ⟨a, b, c⟩
theorem re_M (C : cx p l s m args meth c cc nL own ct D A) (hw : wl D A s (wM ct am N th σ) H locs) : ∃ cellB : Cell, H[am 0]? = some cellB ∧ cellB.vm.isStatics = false ∧ s.vm.findClass "ThreadSlotsModel" = some cellB.cls := by
  obtain ⟨q0, h1, -⟩ := sg_at (sM ct am N th σ) 0 1 _ rfl 0 (by decide)
  exact va_recv C.2.2.2.2.2.1 hw.1 (ci := kM) (q := (RM, FM, 26)) rfl h1
end MRows
