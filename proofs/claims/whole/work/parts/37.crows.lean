theorem nw_w0 : Cond.arrayClass (newarray.typeOf .int) ∈ wsG := inG (List.mem_of_getElem? (i := 96) (by decide +kernel)) rfl
theorem nw_w4 : Cond.arrayClass (newarray.typeOf .boolean) ∈ wsG := inG (List.mem_of_getElem? (i := 570) (by decide +kernel)) rfl
theorem nw_w3 : Cond.arrayClass (newarray.typeOf .long) ∈ wsG := inG (List.mem_of_getElem? (i := 705) (by decide +kernel)) rfl
theorem ob_T : Cond.methodLink "ThreadSlots" 1 objectInit ∈ wsG := inG (List.mem_of_getElem? (i := 51) (by decide +kernel)) rfl
theorem ob_S : Cond.methodLink "ThreadSlots$Strand" 3 objectInit ∈ wsG := inG (List.mem_of_getElem? (i := 63) (by decide +kernel)) rfl
theorem ob_L : Cond.methodLink "ThreadSlots$Line" 3 objectInit ∈ wsG := inG (List.mem_of_getElem? (i := 103) (by decide +kernel)) rfl
theorem ob_M : Cond.methodLink "ThreadSlotsModel" 1 objectInit ∈ wsG := inG (List.mem_of_getElem? (i := 489) (by decide +kernel)) rfl
theorem nk_S : Cond.classLink "ThreadSlots" 22 "ThreadSlots$Strand" ∈ wsG ∧ Cond.instantiable "ThreadSlots$Strand" 10 ∈ wsG ∧ Cond.initialized "ThreadSlots$Strand" ∈ wsG := ⟨inG (List.mem_of_getElem? (i := 57) (by decide +kernel)) rfl, inG (List.mem_of_getElem? (i := 59) (by decide +kernel)) rfl, inG (List.mem_of_getElem? (i := 37) (by decide +kernel)) rfl⟩
theorem nk_L : Cond.classLink "ThreadSlots" 29 "ThreadSlots$Line" ∈ wsG ∧ Cond.instantiable "ThreadSlots$Line" 4 ∈ wsG ∧ Cond.initialized "ThreadSlots$Line" ∈ wsG := ⟨inG (List.mem_of_getElem? (i := 97) (by decide +kernel)) rfl, inG (List.mem_of_getElem? (i := 99) (by decide +kernel)) rfl, inG (List.mem_of_getElem? (i := 38) (by decide +kernel)) rfl⟩
theorem nk_T : Cond.classLink "ThreadSlotsLaw" 8 "ThreadSlots" ∈ wsG ∧ Cond.instantiable "ThreadSlots" 13 ∈ wsG ∧ Cond.initialized "ThreadSlots" ∈ wsG := ⟨inG (List.mem_of_getElem? (i := 46) (by decide +kernel)) rfl, inG (List.mem_of_getElem? (i := 47) (by decide +kernel)) rfl, inG (List.mem_of_getElem? (i := 35) (by decide +kernel)) rfl⟩
theorem nk_M : Cond.classLink "ThreadSlotsLaw" 76 "ThreadSlotsModel" ∈ wsG ∧ Cond.instantiable "ThreadSlotsModel" 26 ∈ wsG ∧ Cond.initialized "ThreadSlotsModel" ∈ wsG := ⟨inG (List.mem_of_getElem? (i := 484) (by decide +kernel)) rfl, inG (List.mem_of_getElem? (i := 485) (by decide +kernel)) rfl, inG (List.mem_of_getElem? (i := 39) (by decide +kernel)) rfl⟩
theorem in_S : Cond.methodLinkNest "ThreadSlots" 28 yS_init "ThreadSlots" ∈ wsN := inN (List.mem_of_getElem? (i := 60) (by decide +kernel)) rfl
theorem iw_S : Cond.instanceMethod yS_init ∈ wsG ∧ Cond.initialized yS_init.cls ∈ wsG := ⟨inG (List.mem_of_getElem? (i := 61) (by decide +kernel)) rfl, inG (List.mem_of_getElem? (i := 37) (by decide +kernel)) rfl⟩
theorem ic_S : Cond.code yS_init cS_init 1 none ∈ lw_tbl := List.mem_of_getElem? (i := 62) (by decide +kernel)
theorem in_L : Cond.methodLinkNest "ThreadSlots" 35 yL_init "ThreadSlots" ∈ wsN := inN (List.mem_of_getElem? (i := 100) (by decide +kernel)) rfl
theorem iw_L : Cond.instanceMethod yL_init ∈ wsG ∧ Cond.initialized yL_init.cls ∈ wsG := ⟨inG (List.mem_of_getElem? (i := 101) (by decide +kernel)) rfl, inG (List.mem_of_getElem? (i := 38) (by decide +kernel)) rfl⟩
theorem ic_L : Cond.code yL_init cL_init 2 none ∈ lw_tbl := List.mem_of_getElem? (i := 102) (by decide +kernel)
theorem iw_T : Cond.methodLink "ThreadSlotsLaw" 73 yT_init ∈ wsG ∧ Cond.instanceMethod yT_init ∈ wsG ∧ Cond.initialized yT_init.cls ∈ wsG := ⟨inG (List.mem_of_getElem? (i := 48) (by decide +kernel)) rfl, inG (List.mem_of_getElem? (i := 49) (by decide +kernel)) rfl, inG (List.mem_of_getElem? (i := 35) (by decide +kernel)) rfl⟩
theorem ic_T : Cond.code yT_init cT_init 4 none ∈ lw_tbl := List.mem_of_getElem? (i := 50) (by decide +kernel)
theorem iw_M : Cond.methodLink "ThreadSlotsLaw" 78 yM_init ∈ wsG ∧ Cond.instanceMethod yM_init ∈ wsG ∧ Cond.initialized yM_init.cls ∈ wsG := ⟨inG (List.mem_of_getElem? (i := 486) (by decide +kernel)) rfl, inG (List.mem_of_getElem? (i := 487) (by decide +kernel)) rfl, inG (List.mem_of_getElem? (i := 39) (by decide +kernel)) rfl⟩
theorem ic_M : Cond.code yM_init cM_init 4 none ∈ lw_tbl := List.mem_of_getElem? (i := 488) (by decide +kernel)
theorem g_T_16 : GoodIn wsG (va_wsS "ThreadSlots" 16 yJ_floorMod (.code yJ_floorMod cJ_floorMod 3 (some .int) :: wsG)) := gS (List.mem_of_getElem? (i := 54) (by decide +kernel)) (List.mem_of_getElem? (i := 55) (by decide +kernel)) (List.mem_of_getElem? (i := 36) (by decide +kernel)) (List.mem_of_getElem? (i := 56) (by decide +kernel))
theorem hd_J_floorMod : yJ_floorMod.cls ≠ "java/lang/invoke/MethodHandle" ∧ yJ_floorMod.cls ≠ "java/lang/invoke/VarHandle" ∧ (parseMethodDescriptor yJ_floorMod.desc).map (fun d => d.parameters.length) = some 2 := by decide +kernel
theorem kt_ofI {l : Launch} {y : MethodName} {cc : ByteArray} {nL : Nat} {ret : Option FieldType} {rm : Room} {mc ms : Nat} {D : va_G} {ct : Ct} {av : List Value} {sz : Nat} {w0 : va_W} {Φ : Option Value → va_W → Prop} {Ψ : String → va_W → Prop} (hst : l.stackTraces = false)
    (hy : plainName y.cls = true) (hav : (lg_sl av).length ≤ nL) (hcat : ∀ v ∈ av, v.category = 1)
    (body : ∀ (p : Program) (e : Env) (s : State) (m : MethodId) (args : Array Value) (below : List Frame) (meth : Method) (c : Code) (A : Nat → Prop) (ls : Array Slot), cx p l s m args meth c cc nL y.cls ct D A → meth.name = y.name → meth.sig.returnType = ret → wl D A s w0 s.heap [] → lq ls nL (av.map some ++ List.replicate (nL - av.length) none) →
      ∀ Q : State → Prop, Q = vx_MQ below (KQ D ct A Φ) (KX D ct A Ψ) args s mc ms A → W p l e rm s m args below meth c s.heap [] 0 0 Q (F0 m 0 ls [])) : Kt l y cc nL ret rm mc ms D ct av sz w0 Φ Ψ := by
  refine vx_ofW (cc := cc) (maxL := nL) (ret := ret) hy rfl ?_
  intro p e s m args below meth c s₁ B hml hne hv
  obtain ⟨rfl, hsz, hP, hK, hD0, hE⟩ := hv
  subst hsz
  have hD := hD0.self (sz := s.heap.size)
  have hts := atoms_spec (ws := .code y cc nL ret :: wsG) B.pre
  rw [lg_entry_eq]
  exact body p e s m av.toArray below meth c (va_A w0 s.heap.size) _ ⟨B.exec, B.bytes, hml, findClass_of_methodNamed B.named, fun w hw => hts w (List.mem_cons_of_mem _ hw), hK, hE, fun q h => Or.inr h, B.notSynchronized, hst⟩ (name_of_methodNamed B.named B.method).1 B.returns ⟨hP, hD, va_S.rf⟩ (lq.entry hav hcat) _ rfl
theorem ob_1 : Cond.instanceMethod objectInit ∈ wsG := inG (List.mem_of_getElem? (i := 52) (by decide +kernel)) rfl
theorem ob_2 : Cond.code objectInit ⟨#[0xb1]⟩ 1 none ∈ wsG := inG (List.mem_of_getElem? (i := 53) (by decide +kernel)) rfl
def rk (f c s : Nat) : Room := { frames := f, cells := c, slots := s, locals := 40 * f }
section CRows
variable {p : Program} {l : Launch} {e : Env} {R : Room} {s : State} {m : MethodId} {args : Array Value} {below : List Frame} {meth : Method} {c : Code} {H : Heap} {locs : List Loc} {cells slots mc ms : Nat} {Q : State → Prop}
variable {cc : ByteArray} {pc : Nat} {ls : Array Slot} {rest : List Value} {nL : Nat} {lv : List (Option Value)} {own : String} {ct : Ct} {D : va_G} {A : Nat → Prop} {ws w0 wa : va_W} {a : Nat}
theorem q_obj (C : cx p l s m args meth c cc nL own ct D A) (hl : lq ls nL lv) {idx : Nat} (hlink : Cond.methodLink own idx objectInit ∈ wsG) (hd : decode cc pc = .ok (.invokespecial idx, 3)) (hf : 1 ≤ R.frames) (hlo : (rest.map fun v => v.category).sum + 12 ≤ R.locals)
    (kk : W p l e R s m args below meth c H locs cells slots Q (F0 m (pc + 3) ls rest)) : W p l e R s m args below meth c H locs cells slots Q (F0 m pc ls (.ref a :: rest)) :=
  W.objInit C.1 C.2.1 C.2.2.2.1 (C.2.2.2.2.1 _ hlink) (C.2.2.2.2.1 _ ob_1) (C.2.2.2.2.1 _ ob_2) rfl (hl.1.trans C.2.2.1.symm) rfl hd hf (by show 2 * 0 + _ + 12 ≤ _; omega) kk
/-- new arrays; their class is the one that is known -/
theorem nw_i (C : cx p l s m args meth c cc nL own ct D A) (hw : wl D A s ws H locs) {n : Int32} {k : Nat} (hn : n = nI k) (hk : k ≤ 100000) (hc : cells + 1 ≤ R.cells) (hs : slots + k ≤ R.slots) (hdg : decode cc pc = .ok (.newarray .int, 2))
    (kk : ∀ (q : Nat) (H1 : Heap), wl D A s (ws ++ [(q, eI (ct 0) k (fun _ => 0))]) H1 locs → W p l e R s m args below meth c H1 locs (cells + 1) (slots + k) Q (F0 m (pc + 2) ls (.ref q :: rest))) : W p l e R s m args below meth c H locs cells slots Q (F0 m pc ls (.int n :: rest)) := by
  subst hn
  refine va_newa (ty := .int) (a0 := (k, .inl (fun _ => 0))) (N' := k) C.1 C.2.1 (C.2.2.2.2.1 _ nw_w0) rfl C.2.2.2.2.2.1 hw.1 hw.2.1 hw.2.2 C.2.2.2.2.2.2.2.1 (fun cA => by rw [vp_cell_i]; rfl) (nI_pos (by omega)) (nI_clamp (by omega)) (by show k * 4 ≤ _; omega) hc hs hdg (fun q cA H1 hK hP hD hS => ?_)
  have h1 : s.vm.findClass ("[" ++ FieldType.int.toString) = some cA := (hK.2 5 (cA, .int) rfl).2
  have h2 : s.vm.findClass ("[" ++ FieldType.int.toString) = some (ct 0) := (C.2.2.2.2.2.1.2 0 (ct 0, .int) rfl).2
  obtain rfl : cA = ct 0 := Option.some.inj (h1.symm.trans h2)
  exact kk q H1 ⟨hP, hD, hS⟩
theorem nw_z (C : cx p l s m args meth c cc nL own ct D A) (hw : wl D A s ws H locs) {n : Int32} {k : Nat} (hn : n = nI k) (hk : k ≤ 100000) (hc : cells + 1 ≤ R.cells) (hs : slots + k ≤ R.slots) (hdg : decode cc pc = .ok (.newarray .boolean, 2))
    (kk : ∀ (q : Nat) (H1 : Heap), wl D A s (ws ++ [(q, eI (ct 4) k (fun _ => 0))]) H1 locs → W p l e R s m args below meth c H1 locs (cells + 1) (slots + k) Q (F0 m (pc + 2) ls (.ref q :: rest))) : W p l e R s m args below meth c H locs cells slots Q (F0 m pc ls (.int n :: rest)) := by
  subst hn
  refine va_newa (ty := .boolean) (a0 := (k, .inl (fun _ => 0))) (N' := k) C.1 C.2.1 (C.2.2.2.2.1 _ nw_w4) rfl C.2.2.2.2.2.1 hw.1 hw.2.1 hw.2.2 C.2.2.2.2.2.2.2.1 (fun cA => by rw [vp_cell_i]; rfl) (nI_pos (by omega)) (nI_clamp (by omega)) (by show k * 1 ≤ _; omega) hc hs hdg (fun q cA H1 hK hP hD hS => ?_)
  have h1 : s.vm.findClass ("[" ++ FieldType.boolean.toString) = some cA := (hK.2 5 (cA, .boolean) rfl).2
  have h2 : s.vm.findClass ("[" ++ FieldType.boolean.toString) = some (ct 4) := (C.2.2.2.2.2.1.2 4 (ct 4, .boolean) rfl).2
  obtain rfl : cA = ct 4 := Option.some.inj (h1.symm.trans h2)
  exact kk q H1 ⟨hP, hD, hS⟩
theorem nw_j (C : cx p l s m args meth c cc nL own ct D A) (hw : wl D A s ws H locs) {n : Int32} {k : Nat} (hn : n = nI k) (hk : k ≤ 100000) (hc : cells + 1 ≤ R.cells) (hs : slots + k ≤ R.slots) (hdg : decode cc pc = .ok (.newarray .long, 2))
    (kk : ∀ (q : Nat) (H1 : Heap), wl D A s (ws ++ [(q, .inl (ct 3, k, .inr (.inl (fun _ => 0))))]) H1 locs → W p l e R s m args below meth c H1 locs (cells + 1) (slots + k) Q (F0 m (pc + 2) ls (.ref q :: rest))) : W p l e R s m args below meth c H locs cells slots Q (F0 m pc ls (.int n :: rest)) := by
  subst hn
  refine va_newa (ty := .long) (a0 := (k, .inr (.inl (fun _ => 0)))) (N' := k) C.1 C.2.1 (C.2.2.2.2.1 _ nw_w3) rfl C.2.2.2.2.2.1 hw.1 hw.2.1 hw.2.2 C.2.2.2.2.2.2.2.1 (fun cA => by rw [vp_cell_l]; rfl) (nI_pos (by omega)) (nI_clamp (by omega)) (by show k * 8 ≤ _; omega) hc hs hdg (fun q cA H1 hK hP hD hS => ?_)
  have h1 : s.vm.findClass ("[" ++ FieldType.long.toString) = some cA := (hK.2 5 (cA, .long) rfl).2
  have h2 : s.vm.findClass ("[" ++ FieldType.long.toString) = some (ct 3) := (C.2.2.2.2.2.1.2 3 (ct 3, .long) rfl).2
  obtain rfl : cA = ct 3 := Option.some.inj (h1.symm.trans h2)
  exact kk q H1 ⟨hP, hD, hS⟩
theorem nw_q (C : cx p l s m args meth c cc nL own ct D A) (hw : wl D A s ws H locs) {K : String} {ti idx : Nat} (hti : (tyl ct)[ti]? = some (ct ti, .object K)) (hlink : Cond.classLink own idx K ∈ wsG) (hao : va_AO K s) {n : Int32} {k : Nat} (hn : n = nI k) (hk : k ≤ 100000) (hc : cells + 1 ≤ R.cells) (hs : slots + k ≤ R.slots) (hdg : decode cc pc = .ok (.anewarray idx, 3))
    (kk : ∀ (q : Nat) (H1 : Heap), wl D A s (ws ++ [(q, eQ (ct ti) k (fun _ => none))]) H1 locs → W p l e R s m args below meth c H1 locs (cells + 1) (slots + k) Q (F0 m (pc + 3) ls (.ref q :: rest))) : W p l e R s m args below meth c H locs cells slots Q (F0 m pc ls (.int n :: rest)) := by
  subst hn
  refine va_newq (N' := k) C.1 C.2.1 C.2.2.2.1 (C.2.2.2.2.1 _ hlink) hao C.2.2.2.2.2.1 hw.1 hw.2.1 hw.2.2 C.2.2.2.2.2.2.2.1 (nI_pos (by omega)) (nI_clamp (by omega)) (by omega) hc hs hdg (fun q cA H1 hK hP hD hS => ?_)
  obtain ⟨_, _, _, _, _, h1⟩ := (hK.2 5 (cA, .object K) rfl).2
  obtain ⟨_, _, _, _, _, h2⟩ := (C.2.2.2.2.2.1.2 ti _ hti).2
  obtain rfl : cA = ct ti := Option.some.inj (h1.symm.trans h2)
  exact kk q H1 ⟨hP, hD, hS⟩
/-- a final field in a constructor -/
theorem pF (C : cx p l s m args meth c cc nL own ct D A) (hin : meth.name = "<init>") (hw : wl D A s ws H locs) (q0 ci k : Nat) {K : String} {T : u_T} {n index : Nat} {fs : List Value} {v : Value} {ty : FieldType} {ty0 : Nat → FieldType} (he : ws[q0]? = some (a, .inr (ci, fs))) (hc : vwCl[ci]? = some (K, T, n)) (hiT : ∀ w ∈ u_ws K T n, w ∈ wsG) (hty : ∀ k, k < n → parseFieldDescriptor (T k).2.2.1 = some (ty0 k)) (hnm : ∀ a, a < n → ∀ b, b < n → a ≠ b → (T a).2.1 ≠ (T b).2.1)
    (hk : k < n) (hlink : Cond.fieldLink own index K (T k).2.1 (T k).2.2.1 ∈ wsG) (hsame : ∀ x, s.fieldFound? (T k).1 (T k).2.1 (T k).2.2.1 = some x → s.fieldFound? K (T k).2.1 (T k).2.2.1 = some x) (hx : (T k).2.2.2 = true ∧ (T k).1 = own) (hd : parseFieldDescriptor (T k).2.2.1 = some ty) (hn : narrow ty v = v) (hfit : fits ty v = true) (hl : k < fs.length) (hdg : decode cc pc = .ok (.putfield index, 3))
    (kk : ∀ (H1 : Heap) (locs1 : List Loc), wl D A s (ws.set q0 (a, .inr (ci, fs.set k v))) H1 locs1 → W p l e R s m args below meth c H1 locs1 cells slots Q (F0 m (pc + 3) ls rest)) : W p l e R s m args below meth c H locs cells slots Q (F0 m pc ls (v :: .ref a :: rest)) :=
  va_putF (ref := K) C.1 C.2.1 C.2.2.2.2.1 hiT ty0 hty hnm C.2.2.2.1 C.2.2.2.2.2.1 hw.1 hw.2.1 hw.2.2 q0 he hc k hk (C.2.2.2.2.1 _ hlink) hsame hx.1 hin hx.2 hd hn hfit hl hdg (fun H1 locs1 a b c => kk H1 locs1 ⟨a, b, c⟩)
/-- a field that isn't final -/
theorem pN (C : cx p l s m args meth c cc nL own ct D A) (hw : wl D A s ws H locs) (q0 ci k : Nat) {K : String} {T : u_T} {n index : Nat} {fs : List Value} {v : Value} {ty : FieldType} {ty0 : Nat → FieldType} (he : ws[q0]? = some (a, .inr (ci, fs))) (hc : vwCl[ci]? = some (K, T, n)) (hiT : ∀ w ∈ u_ws K T n, w ∈ wsG) (hty : ∀ k, k < n → parseFieldDescriptor (T k).2.2.1 = some (ty0 k)) (hnm : ∀ a, a < n → ∀ b, b < n → a ≠ b → (T a).2.1 ≠ (T b).2.1)
    (hk : k < n) (hlink : Cond.fieldLink own index K (T k).2.1 (T k).2.2.1 ∈ wsG) (hsame : ∀ x, s.fieldFound? (T k).1 (T k).2.1 (T k).2.2.1 = some x → s.fieldFound? K (T k).2.1 (T k).2.2.1 = some x) (hx : (T k).2.2.2 = false) (hd : parseFieldDescriptor (T k).2.2.1 = some ty) (hn : narrow ty v = v) (hfit : fits ty v = true) (hl : k < fs.length) (hdg : decode cc pc = .ok (.putfield index, 3))
    (kk : ∀ (H1 : Heap) (locs1 : List Loc), wl D A s (ws.set q0 (a, .inr (ci, fs.set k v))) H1 locs1 → W p l e R s m args below meth c H1 locs1 cells slots Q (F0 m (pc + 3) ls rest)) : W p l e R s m args below meth c H locs cells slots Q (F0 m pc ls (v :: .ref a :: rest)) :=
  va_put (ref := K) C.1 C.2.1 C.2.2.2.2.1 hiT ty0 hty hnm C.2.2.2.1 C.2.2.2.2.2.1 hw.1 hw.2.1 hw.2.2 q0 he hc k hk (C.2.2.2.2.1 _ hlink) hsame hx hd hn hfit hl hdg (fun H1 locs1 a b c => kk H1 locs1 ⟨a, b, c⟩)
theorem gO (C : cx p l s m args meth c cc nL own ct D A) (hw : wl D A s ws H locs) (q0 ci k : Nat) {K : String} {T : u_T} {n index : Nat} {fs : List Value} {v : Value} (he : ws[q0]? = some (a, .inr (ci, fs))) (hc : vwCl[ci]? = some (K, T, n)) (hiT : ∀ w ∈ u_ws K T n, w ∈ wsG) (hk : k < n) (hlink : Cond.fieldLink own index K (T k).2.1 (T k).2.2.1 ∈ wsG) (hsame : ∀ x, s.fieldFound? (T k).1 (T k).2.1 (T k).2.2.1 = some x → s.fieldFound? K (T k).2.1 (T k).2.2.1 = some x) (hv : fs[k]? = some v) (hdg : decode cc pc = .ok (.getfield index, 3))
    (kk : W p l e R s m args below meth c H locs cells slots Q (F0 m (pc + 3) ls (v :: rest))) : W p l e R s m args below meth c H locs cells slots Q (F0 m pc ls (.ref a :: rest)) :=
  va_get (ref := K) C.1 C.2.1 C.2.2.2.2.1 hiT C.2.2.2.1 C.2.2.2.2.2.1 hw.1 q0 he hc k hk (C.2.2.2.2.1 _ hlink) hsame hv hdg kk
/-- a call of a constructor; its world is the right part of the caller's -/
theorem tc_I {y : MethodName} {yc : ByteArray} {yL index : Nat} {rm : Room} {b : Nat} {As : List Value} {Φ : Option Value → va_W → Prop} {st0 : List Value} (C : cx p l s m args meth c cc nL own ct D A) (hl : lq ls nL lv) (hM : Kt l y yc yL none rm mc ms D ct (.ref b :: As) H.size w0 Φ (fun _ _ => False)) (hP : va_P D vwCl w0 H) (hD : va_D A w0) (hS : va_S A s.heap H locs)
    (hcode : Cond.code y yc yL none ∈ lw_tbl) (hws : Cond.methodLink own index y ∈ wsG ∧ Cond.instanceMethod y ∈ wsG ∧ Cond.initialized y.cls ∈ wsG) (hy : y.name = "<init>")
    (hd : y.cls ≠ "java/lang/invoke/MethodHandle" ∧ y.cls ≠ "java/lang/invoke/VarHandle" ∧ (parseMethodDescriptor y.desc).map (fun d => d.parameters.length) = some As.length)
    (hrc : rm.cells = mc) (hrs : rm.slots = ms) (hR : rm.frames + 1 ≤ R.frames ∧ 8 + (yL + 11) + rm.locals ≤ R.locals) (hroom : (rest.map fun v => v.category).sum ≤ 8) (hf : cells + mc ≤ R.cells ∧ slots + ms ≤ R.slots)
    (hdg : decode cc pc = .ok (.invokespecial index, 3)) (hst : st0 = As.reverse ++ .ref b :: rest) :
    vx_Run p l e R s m args below meth c H locs cells slots mc ms (F0 m pc ls st0) rest (KQ D ct (va_A w0 H.size) Φ (Value.ref b :: As).toArray) (KX D ct (va_A w0 H.size) (fun _ _ => False)) (va_A w0 H.size) := by
  refine vx_of_va ?_
  exact va_runI ⟨C.1, C.2.1, C.2.2.1, C.2.2.2.1, C.2.2.2.2.1⟩ (met_of hM) (cwI As.length C.2.2.2.2.1 (wsG_in hcode) rfl hrc hrs (C.2.2.2.2.1 _ hws.2.2) (C.2.2.2.2.1 _ hws.1) (C.2.2.2.2.1 _ hws.2.1) hy hd hR) ⟨KP_blind, tc_pre C hP hD hS⟩ rfl rfl hl.1 hst (lv_room hroom) hdg hf
theorem tc_IN {y : MethodName} {yc : ByteArray} {yL index : Nat} {rm : Room} {b : Nat} {As : List Value} {Φ : Option Value → va_W → Prop} {st0 : List Value} {host : String} (C : cx p l s m args meth c cc nL own ct D A) (hl : lq ls nL lv) (hM : Kt l y yc yL none rm mc ms D ct (.ref b :: As) H.size w0 Φ (fun _ _ => False)) (hP : va_P D vwCl w0 H) (hD : va_D A w0) (hS : va_S A s.heap H locs)
    (hcode : Cond.code y yc yL none ∈ lw_tbl) (hlk : Cond.methodLinkNest own index y host ∈ wsN) (hws : Cond.instanceMethod y ∈ wsG ∧ Cond.initialized y.cls ∈ wsG) (hy : y.name = "<init>")
    (hd : y.cls ≠ "java/lang/invoke/MethodHandle" ∧ y.cls ≠ "java/lang/invoke/VarHandle" ∧ (parseMethodDescriptor y.desc).map (fun d => d.parameters.length) = some As.length)
    (hrc : rm.cells = mc) (hrs : rm.slots = ms) (hR : rm.frames + 1 ≤ R.frames ∧ 8 + (yL + 11) + rm.locals ≤ R.locals) (hroom : (rest.map fun v => v.category).sum ≤ 8) (hf : cells + mc ≤ R.cells ∧ slots + ms ≤ R.slots)
    (hdg : decode cc pc = .ok (.invokespecial index, 3)) (hst : st0 = As.reverse ++ .ref b :: rest) :
    vx_Run p l e R s m args below meth c H locs cells slots mc ms (F0 m pc ls st0) rest (KQ D ct (va_A w0 H.size) Φ (Value.ref b :: As).toArray) (KX D ct (va_A w0 H.size) (fun _ _ => False)) (va_A w0 H.size) := by
  refine vx_of_va ?_
  exact va_runIN (host := host) ⟨C.1, C.2.1, C.2.2.1, C.2.2.2.1, C.2.2.2.2.1⟩ (met_of hM) ⟨va_cnB As.length C.2.2.2.2.1 (wsG_in hcode) rfl hrc hrs (C.2.2.2.2.2.2.1.1 _ hlk) (C.2.2.2.2.1 _ hws.2) hd hR, hy, C.2.2.2.2.1 _ hws.1⟩ ⟨KP_blind, tc_pre C hP hD hS⟩ rfl rfl hl.1 hst (lv_room hroom) hdg hf
end CRows
