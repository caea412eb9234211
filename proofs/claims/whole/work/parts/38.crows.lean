theorem va_P_perm {D : va_G} {cl : List vw_C} {ws ws' : va_W} {H : Heap} (h : va_P D cl ws H) (hp : ws.Perm ws') : va_P D cl ws' H := by
  intro k q hk
  obtain ⟨j, hj⟩ := List.getElem?_of_mem (hp.mem_iff.mpr (List.mem_of_getElem? hk))
  exact h j q hj
theorem va_D_nd {A : Nat → Prop} {ws : va_W} : va_D A ws ↔ (ws.map Prod.fst).Nodup ∧ ∀ q ∈ ws, A q.1 := by
  constructor
  · intro h
    refine ⟨?_, fun q hq => ?_⟩
    · show List.Pairwise (· ≠ ·) _
      rw [List.pairwise_iff_getElem]
      intro i j hi hj hij he
      have hi' : i < ws.length := by simpa using hi
      have hj' : j < ws.length := by simpa using hj
      have := h.1 i j ws[i] ws[j] (List.getElem?_eq_getElem hi') (List.getElem?_eq_getElem hj') (by simpa using he)
      omega
    · obtain ⟨j, hj⟩ := List.getElem?_of_mem hq
      exact h.2 j q hj
  · intro h
    refine ⟨fun i j x y hx hy hxy => ?_, fun k q hq => h.2 q (List.mem_of_getElem? hq)⟩
    obtain ⟨hi, rfl⟩ := List.getElem?_eq_some_iff.mp hx
    obtain ⟨hj, rfl⟩ := List.getElem?_eq_some_iff.mp hy
    have hp := List.pairwise_iff_getElem.mp h.1
    rcases Nat.lt_trichotomy i j with q | q | q
    · exact absurd ((List.getElem_map _).trans (hxy.trans (List.getElem_map _).symm)) (hp i j (by simpa using hi) (by simpa using hj) q)
    · exact q
    · exact absurd ((List.getElem_map _).trans (hxy.symm.trans (List.getElem_map _).symm)) (hp j i (by simpa using hj) (by simpa using hi) q)
theorem va_D_perm {A : Nat → Prop} {ws ws' : va_W} (h : va_D A ws) (hp : ws.Perm ws') : va_D A ws' := by
  rw [va_D_nd] at h ⊢
  exact ⟨(hp.map Prod.fst).nodup_iff.mp h.1, fun q hq => h.2 q (hp.mem_iff.mpr hq)⟩
theorem wl_perm {D : va_G} {A : Nat → Prop} {s : State} {ws ws' : va_W} {H : Heap} {locs : List Loc} (h : wl D A s ws H locs) (hp : ws.Perm ws') : wl D A s ws' H locs := ⟨va_P_perm h.1 hp, va_D_perm h.2.1 hp, h.2.2⟩
theorem perm_of {α : Type} {a b : List α} (h : ∀ [BEq α] [LawfulBEq α] (x : α), a.count x = b.count x) : a.Perm b := by
  classical
  letI : DecidableEq α := fun a b => Classical.propDecidable (a = b)
  exact List.perm_iff_count.mpr (fun x => h x)
theorem arrV_eq {c : ClassId} {n : Nat} {f g : Nat → Value} (h : ∀ i, i < n → f i = g i) : arrV c n f = arrV c n g := by
  unfold arrV
  congr 2
  funext j
  exact h j.1 j.2
theorem wl_arr {D : va_G} {A : Nat → Prop} {s : State} {ws : va_W} {H : Heap} {locs : List Loc} (h : wl D A s ws H locs) (q0 : Nat) {a : Nat} {c : ClassId} {x y : vp_A} (he : ws[q0]? = some (a, .inl (c, x))) (hx : vp_cell c x = vp_cell c y) : wl D A s (ws.set q0 (a, .inl (c, y))) H locs :=
  ⟨h.1.set h.2.1 he (by show H[a]? = some (vp_cell c y); rw [← hx]; exact h.1 q0 _ he) (fun _ _ => rfl), h.2.1.set he, h.2.2⟩
theorem rem16 (a : Int32) : (a - a / 16 * 16).toInt = a.toInt.tmod 16 := by
  have h16 : (16 : Int32).toInt = 16 := by decide
  have h1 : (a / 16).toInt = a.toInt.tdiv 16 := by
    rw [Int32.toInt_div_of_ne_right a 16 (by decide), h16]
  have b1 := a.le_toInt
  have b2 := a.toInt_lt
  have e1 := Int.tmod_add_mul_tdiv a.toInt 16
  have e2 := Int.tmod_lt_of_pos a.toInt (b := 16) (by decide)
  have e3 : -16 < a.toInt.tmod 16 := by
    have := Int.lt_tmod_of_pos a.toInt (b := 16) (by decide)
    omega
  have e4 : 0 ≤ a.toInt → 0 ≤ a.toInt.tmod 16 := fun h => Int.tmod_nonneg 16 h
  have e5 : a.toInt ≤ 0 → a.toInt.tmod 16 ≤ 0 := by
    intro h
    have := Int.tmod_nonneg (a := -a.toInt) 16 (by omega)
    rw [Int.neg_tmod] at this
    omega
  have m1 : (a / 16 * 16).toInt = a.toInt.tdiv 16 * 16 := by
    rw [Int32.toInt_mul, h1, h16]
    exact Int.bmod_eq_of_le (by omega) (by omega)
  rw [Int32.toInt_sub, m1]
  rw [Int.bmod_eq_of_le (by omega) (by omega)]
  omega
theorem sign16 (a : Int32) : a ^^^ 16 < 0 ↔ a < 0 := by
  rw [Int32.lt_iff_toInt_lt, Int32.lt_iff_toInt_lt]
  have h : ∀ x : Int32, (x.toInt < (0 : Int32).toInt) ↔ x.toBitVec.msb = true := by
    intro x
    rw [BitVec.msb_eq_toInt]
    show x.toBitVec.toInt < 0 ↔ _
    simp
  rw [h, h]
  show (a.toBitVec ^^^ (16 : Int32).toBitVec).msb = true ↔ _
  rw [BitVec.msb_xor, show (16 : Int32).toBitVec.msb = false by decide]
  simp
def fmod (a : Int32) : Int32 := if 0 ≤ a ^^^ 16 then a - a / 16 * 16 else if a - a / 16 * 16 = 0 then a - a / 16 * 16 else a - a / 16 * 16 + 16
theorem fmod_ok (a : Int32) : ∃ N, 1 ≤ N ∧ N ≤ 16 ∧ 1 + fmod a = nI N ∧ 1 + (a - a / 16 * 16 + 16 - (a - a / 16 * 16 + 16) / 16 * 16) = nI N := by
  have hr := rem16 a
  have e2 := Int.tmod_lt_of_pos a.toInt (b := 16) (by decide)
  have e3 : -16 < a.toInt.tmod 16 := by
    have := Int.lt_tmod_of_pos a.toInt (b := 16) (by decide)
    omega
  have hs := sign16 a
  have key : ∀ r : Int32, -16 < r.toInt → r.toInt < 16 → ∃ k : Nat, k < 31 ∧ r = nI k - 15 := by
    intro r h1 h2
    refine ⟨(r.toInt + 15).toNat, by omega, ?_⟩
    apply Int32.toInt_inj.mp
    rw [Int32.toInt_sub, nI_toInt (by omega), show (15 : Int32).toInt = 15 by decide]
    rw [Int.bmod_eq_of_le (by omega) (by omega)]
    omega
  obtain ⟨k, hk, hrk⟩ := key _ (by rw [hr]; exact e3) (by rw [hr]; exact e2)
  by_cases h0 : a < 0
  · have hx : ¬ 0 ≤ a ^^^ 16 := by
      have := hs.mpr h0
      rw [Int32.lt_iff_toInt_lt] at this
      rw [Int32.le_iff_toInt_le]
      omega
    have hneg : (nI k - 15).toInt ≤ 0 := by
      rw [← hrk, hr]
      rw [Int32.lt_iff_toInt_lt, Int32.toInt_zero] at h0
      have := Int.tmod_nonneg (a := -a.toInt) 16 (by omega)
      rw [Int.neg_tmod] at this
      omega
    have hk2 : k < 16 := by
      rw [Int32.toInt_sub, nI_toInt (by omega), show (15 : Int32).toInt = 15 by decide, Int.bmod_eq_of_le (by omega) (by omega)] at hneg
      omega
    unfold fmod
    rw [if_neg hx, hrk]
    have : ∀ k, k < 16 → ∃ N, (1 ≤ N ∧ N ≤ 16) ∧ 1 + (if nI k - 15 = 0 then nI k - 15 else nI k - 15 + 16) = nI N ∧ 1 + (nI k - 15 + 16 - (nI k - 15 + 16) / 16 * 16) = nI N := by
      intro k hk
      refine ⟨if k = 15 then 1 else k + 2, ?_, ?_, ?_⟩
      · split <;> omega
      · revert k; decide +kernel
      · revert k; decide +kernel
    obtain ⟨N, ⟨h1, h2⟩, h3, h4⟩ := this k hk2
    exact ⟨N, h1, h2, h3, h4⟩
  · have hx : 0 ≤ a ^^^ 16 := by
      have : ¬ a ^^^ 16 < 0 := fun q => h0 (hs.mp q)
      rw [Int32.lt_iff_toInt_lt] at this
      rw [Int32.le_iff_toInt_le]
      omega
    have hpos : 0 ≤ (nI k - 15).toInt := by
      rw [← hrk, hr]
      rw [Int32.lt_iff_toInt_lt, Int32.toInt_zero] at h0
      exact Int.tmod_nonneg 16 (by omega)
    have hk2 : 15 ≤ k := by
      rw [Int32.toInt_sub, nI_toInt (by omega), show (15 : Int32).toInt = 15 by decide, Int.bmod_eq_of_le (by omega) (by omega)] at hpos
      omega
    unfold fmod
    rw [if_pos hx, hrk]
    have : ∀ j, j < 16 → 1 + (nI (j + 15) - 15) = nI (j + 1) ∧ 1 + (nI (j + 15) - 15 + 16 - (nI (j + 15) - 15 + 16) / 16 * 16) = nI (j + 1) := by decide +kernel
    obtain ⟨h3, h4⟩ := this (k - 15) (by omega)
    rw [show k - 15 + 15 = k by omega] at h3 h4
    exact ⟨k - 15 + 1, by omega, by omega, h3, h4⟩
section CRows2
variable {p : Program} {l : Launch} {e : Env} {R : Room} {s : State} {m : MethodId} {args : Array Value} {below : List Frame} {meth : Method} {c : Code} {H : Heap} {locs : List Loc} {cells slots mc ms : Nat} {Q : State → Prop}
variable {cc : ByteArray} {pc : Nat} {ls : Array Slot} {rest : List Value} {nL : Nat} {lv : List (Option Value)} {own : String} {ct : Ct} {D : va_G} {A : Nat → Prop} {ws w0 wa : va_W} {a : Nat}
theorem q_new (C : cx p l s m args meth c cc nL own ct D A) (hw : wl D A s ws H locs) (ci : Nat) {K : String} {T : u_T} {n index : Nat} {ty : Nat → FieldType} (hc : vwCl[ci]? = some (K, T, n)) (hiT : ∀ w ∈ u_ws K T n, w ∈ wsG) (hty : ∀ k, k < n → parseFieldDescriptor (T k).2.2.1 = some (ty k)) (hk : Cond.classLink own index K ∈ wsG ∧ Cond.instantiable K n ∈ wsG ∧ Cond.initialized K ∈ wsG) (fs : List Value) (hfs : ∀ j, j < n → defaultValue (ty j) = vp_V fs j) (hcl : cells + 1 ≤ R.cells) (hsl : slots + n ≤ R.slots) (hdg : decode cc pc = .ok (.new index, 3))
    (kk : ∀ (q : Nat) (H1 : Heap), wl D A s (ws ++ [(q, .inr (ci, fs))]) H1 locs → W p l e R s m args below meth c H1 locs (cells + 1) (slots + n) Q (F0 m (pc + 3) ls (.ref q :: rest))) : W p l e R s m args below meth c H locs cells slots Q (F0 m pc ls rest) :=
  va_new C.1 C.2.1 C.2.2.2.2.1 hiT ty hty C.2.2.2.1 (C.2.2.2.2.1 _ hk.1) (C.2.2.2.2.1 _ hk.2.1) (C.2.2.2.2.1 _ hk.2.2) C.2.2.2.2.2.1 hw.1 hw.2.1 hw.2.2 C.2.2.2.2.2.2.2.1 hc hfs hcl hsl hdg (fun q H1 a b c => kk q H1 ⟨a, b, c⟩)
theorem q_astq (C : cx p l s m args meth c cc nL own ct D A) (hw : wl D A s ws H locs) (q0 ti ci : Nat) {r : vw_C} {n v k : Nat} {vs : List Value} {f : Nat → Option Nat} (ha : ws[q0]? = some (a, eQ (ct ti) n f)) (ht : (tyl ct)[ti]? = some (ct ti, .object r.1)) (hv : (v, .inr (ci, vs)) ∈ ws) (hc : vwCl[ci]? = some r) {i : Int32} (hi : i = nI k) (hk : k < n) (hn : n ≤ 1000) (hdg : decode cc pc = .ok (.aastore, 1))
    (kk : ∀ (H1 : Heap) (locs1 : List Loc), wl D A s (ws.set q0 (a, eQ (ct ti) n (va_up f k (some v)))) H1 locs1 → W p l e R s m args below meth c H1 locs1 cells slots Q (F0 m (pc + 1) ls rest)) : W p l e R s m args below meth c H locs cells slots Q (F0 m pc ls (.ref v :: .int i :: .ref a :: rest)) := by
  subst hi
  obtain ⟨qk, hqk⟩ := List.getElem?_of_mem hv
  refine va_astq C.1 C.2.1 C.2.2.2.2.2.1 hw.1 hw.2.1 hw.2.2 q0 ti qk ci ha ht hqk hc (vp_in_nI hk (by omega)) hdg (fun H1 locs1 a b c => ?_)
  rw [nI_clamp (by omega)] at a b
  exact kk H1 locs1 ⟨a, b, c⟩
theorem q_alen (C : cx p l s m args meth c cc nL own ct D A) (hw : wl D A s ws H locs) (q0 ti : Nat) {x : vp_A} {cA : ClassId} (ha : ws[q0]? = some (a, .inl (cA, x))) {ty : FieldType} (ht : (tyl ct)[ti]? = some (cA, ty)) (hdg : decode cc pc = .ok (.arraylength, 1)) (kk : W p l e R s m args below meth c H locs cells slots Q (F0 m (pc + 1) ls (.int (nI x.1) :: rest))) : W p l e R s m args below meth c H locs cells slots Q (F0 m pc ls (.ref a :: rest)) :=
  va_alen C.1 C.2.1 C.2.2.2.2.2.1 hw.1 q0 ti ha ht rfl hdg kk
theorem q_iast (C : cx p l s m args meth c cc nL own ct D A) (hw : wl D A s ws H locs) (q0 : Nat) {n k : Nat} {f : Nat → Int32} (ha : ws[q0]? = some (a, eI (ct 0) n f)) {i x : Int32} (hi : i = nI k) (hk : k < n) (hn : n ≤ 1000) (hdg : decode cc pc = .ok (.iastore, 1))
    (kk : ∀ (H1 : Heap) (locs1 : List Loc), wl D A s (ws.set q0 (a, eI (ct 0) n (upd f k x))) H1 locs1 → W p l e R s m args below meth c H1 locs1 cells slots Q (F0 m (pc + 1) ls rest)) : W p l e R s m args below meth c H locs cells slots Q (F0 m pc ls (.int x :: .int i :: .ref a :: rest)) := by
  subst hi
  refine va_iast C.1 C.2.1 C.2.2.2.2.2.1 hw.1 hw.2.1 hw.2.2 q0 0 ha rfl (vp_in_nI hk (by omega)) hdg (fun H1 locs1 a b c => ?_)
  rw [nI_clamp (by omega)] at a b
  exact kk H1 locs1 ⟨a, b, c⟩
end CRows2
theorem kt_ofJ {l : Launch} {y : MethodName} {cc : ByteArray} {nL : Nat} {ret : Option FieldType} {rm : Room} {mc ms : Nat} {D : va_G} {ct : Ct} {av : List Value} {sz : Nat} {w0 : va_W} {Φ : Option Value → va_W → Prop} {Ψ : String → va_W → Prop} (hst : l.stackTraces = false)
    (hy : plainFor y = true) (hav : (lg_sl av).length ≤ nL) (hcat : ∀ v ∈ av, v.category = 1)
    (body : ∀ (p : Program) (e : Env) (s : State) (m : MethodId) (args : Array Value) (below : List Frame) (meth : Method) (c : Code) (A : Nat → Prop) (ls : Array Slot), cx p l s m args meth c cc nL y.cls ct D A → meth.name = y.name → meth.sig.returnType = ret → wl D A s w0 s.heap [] → lq ls nL (av.map some ++ List.replicate (nL - av.length) none) →
      ∀ Q : State → Prop, Q = vx_MQ below (KQ D ct A Φ) (KX D ct A Ψ) args s mc ms A → W p l e rm s m args below meth c s.heap [] 0 0 Q (F0 m 0 ls [])) : Kt l y cc nL ret rm mc ms D ct av sz w0 Φ Ψ := by
  refine MetFree.of_bodySF (code := cc) (maxLocals := nL) (ret := ret) hy ?_ ?_
  · intro args s m h hn
    obtain ⟨meth, c, h1, h2, h3, h4, h5, h6, -, -⟩ := Cond.code_spec hn (atoms_spec (ws := .code y cc nL ret :: wsG) h _ List.mem_cons_self)
    exact ⟨meth, c, h1, h2, h3, h4, h5, h6⟩
  · intro p e s m args below meth c s₁ B hml hv _
    have hh0 : s₁.heap = s.heap := by rw [B.state]; rfl
    obtain ⟨rfl, hsz, hP, hK, hD0, hE⟩ := hv
    subst hsz
    have hD := hD0.self (sz := s.heap.size)
    have hts := atoms_spec (ws := .code y cc nL ret :: wsG) B.pre
    have hbd := body p e s m av.toArray below meth c (va_A w0 s.heap.size) _ ⟨B.exec, B.bytes, hml, findClass_of_methodNamed B.named, fun w hw => hts w (List.mem_cons_of_mem _ hw), hK, hE, fun q h => Or.inr h, B.notSynchronized, hst⟩ (name_of_methodNamed B.named B.method).1 B.returns ⟨hP, hD, va_S.rf⟩ (lq.entry hav hcat) _ rfl
    obtain ⟨t, a1, o, b1, b2, b3⟩ := hbd s₁ hh0 (Stand.of_body B)
    rw [lg_entry_eq]
    exact ⟨t, o, a1, b1, b2, b3⟩
