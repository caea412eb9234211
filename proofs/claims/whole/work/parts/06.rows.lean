/-! Worlds by segments; locals by places; a method's context; rows for the walks. -/
def sg : List (Nat × (Nat → Nat × va_E)) → va_W
  | [] => []
  | (n, f) :: r => (List.range n).map f ++ sg r
theorem sg_seg (n : Nat) (f f' : Nat → Nat × va_E) (i : Nat) (x : Nat × va_E) (hi : i < n) (h1 : f' i = x) (h2 : ∀ k, k < n → k ≠ i → f' k = f k) : ((List.range n).map f).set i x = (List.range n).map f' := by
  apply List.ext_getElem?
  intro k
  by_cases hk : k = i
  · subst hk
    rw [List.getElem?_set_self (by simpa using hi)]
    simp [hi, h1]
  · rw [List.getElem?_set_ne (Ne.symm hk)]
    by_cases hn : k < n
    · simp [hn, h2 k hn hk]
    · simp [hn]
theorem sg_at : ∀ (L : List (Nat × (Nat → Nat × va_E))) (j n : Nat) (f : Nat → Nat × va_E), L[j]? = some (n, f) → ∀ i, i < n → ∃ q0, (sg L)[q0]? = some (f i) ∧ ∀ (x : Nat × va_E) (f' : Nat → Nat × va_E), f' i = x → (∀ k, k < n → k ≠ i → f' k = f k) → (sg L).set q0 x = sg (L.set j (n, f')) := by
  intro L
  induction L with
  | nil => intro j n f h; simp at h
  | cons a r ih =>
    intro j n f h i hi
    obtain ⟨n0, f0⟩ := a
    cases j with
    | zero =>
      have h' : (n0, f0) = (n, f) := by simpa using h
      obtain ⟨rfl, rfl⟩ : n0 = n ∧ f0 = f := ⟨congrArg Prod.fst h', congrArg Prod.snd h'⟩
      refine ⟨i, ?_, fun x f' h1 h2 => ?_⟩
      · show ((List.range n0).map f0 ++ sg r)[i]? = _
        rw [List.getElem?_append_left (by simpa using hi)]
        simp [hi]
      · show ((List.range n0).map f0 ++ sg r).set i x = (List.range n0).map f' ++ sg r
        rw [List.set_append_left _ _ (by simpa using hi), sg_seg n0 f0 f' i x hi h1 h2]
    | succ j =>
      have h' : r[j]? = some (n, f) := by simpa using h
      obtain ⟨q0, h1, h2⟩ := ih j n f h' i hi
      refine ⟨n0 + q0, ?_, fun x f' h3 h4 => ?_⟩
      · show ((List.range n0).map f0 ++ sg r)[n0 + q0]? = _
        rw [List.getElem?_append_right (by simp)]
        simpa using h1
      · show ((List.range n0).map f0 ++ sg r).set (n0 + q0) x = (List.range n0).map f0 ++ sg (r.set j (n, f'))
        rw [List.set_append_right _ _ (by simp), ← h2 x f' h3 h4]
        simp
/-- the locals by their places -/
def lq (ls : Array Slot) (nL : Nat) (l : List (Option Value)) : Prop := ls.size = nL ∧ lv_wf ls ∧ ∀ (i : Nat) (v : Value), l[i]? = some (some v) → ls[i]? = some (.val v) ∧ v.category = 1
def lq_l (l : List (Option Value)) : List (Nat × Value) := (List.range l.length).filterMap (fun i => (l[i]?.join).map (fun v => (i, v)))
theorem lq_mem {l : List (Option Value)} {i : Nat} {v : Value} : (i, v) ∈ lq_l l ↔ l[i]? = some (some v) := by
  unfold lq_l
  rw [List.mem_filterMap]
  constructor
  · rintro ⟨j, -, h⟩
    cases hj : l[j]? with
    | none => simp [hj] at h
    | some o =>
      cases o with
      | none => simp [hj] at h
      | some w =>
        simp [hj] at h
        obtain ⟨rfl, rfl⟩ := h
        exact hj
  · intro h
    have hl := (List.getElem?_eq_some_iff.mp h).1
    exact ⟨i, List.mem_range.mpr hl, by simp [h]⟩
theorem lq.has {ls : Array Slot} {nL : Nat} {l : List (Option Value)} (h : lq ls nL l) : lv_has ls nL (lq_l l) := ⟨h.1, h.2.1, fun q hq => (h.2.2 q.1 q.2 (lq_mem.mp hq)).1⟩
theorem lq.at {ls : Array Slot} {nL : Nat} {l : List (Option Value)} (h : lq ls nL l) {i : Nat} {v : Value} (hi : l[i]? = some (some v)) : ls[i]? = some (.val v) := (h.2.2 i v hi).1
theorem lq.set {ls ls' : Array Slot} {nL : Nat} {l : List (Option Value)} {i : Nat} {v : Value} (h : lq ls nL l) (hv : v.category = 1) (h' : lv_has ls' nL ((i, v) :: (lq_l l).filter (fun q => !(q.1 == i) && !(q.1 + 1 == i && q.2.category == 2)))) : lq ls' nL (l.set i (some v)) := by
  refine ⟨h'.1, h'.2.1, fun j w hj => ?_⟩
  by_cases hij : i = j
  · subst hij
    rw [List.getElem?_set] at hj
    simp at hj
    obtain ⟨-, rfl⟩ := hj
    exact ⟨h'.2.2 (i, v) List.mem_cons_self, hv⟩
  · rw [List.getElem?_set_ne hij] at hj
    have hc := (h.2.2 j w hj).2
    refine ⟨h'.2.2 (j, w) (List.mem_cons_of_mem _ (List.mem_filter.mpr ⟨lq_mem.mpr hj, ?_⟩)), hc⟩
    have : ¬ j = i := fun q => hij q.symm
    simp [hc, this]
theorem lq.entry {vs : List Value} {n : Nat} (h : (lg_sl vs).length ≤ n) (hc : ∀ v ∈ vs, v.category = 1) : lq ((lg_sl vs ++ List.replicate (n - (lg_sl vs).length) Slot.unset).toArray) n (vs.map some ++ List.replicate (n - vs.length) none) := by
  have h0 := lv_entry vs h
  refine ⟨h0.1, h0.2.1, fun i v hi => ?_⟩
  have hlt : i < vs.length := by
    rcases Nat.lt_or_ge i vs.length with q | q
    · exact q
    · rw [List.getElem?_append_right (by simpa using q)] at hi
      simp [List.getElem?_replicate] at hi
  have hv : vs[i]? = some v := by
    rw [List.getElem?_append_left (by simpa using hlt)] at hi
    simpa using hi
  refine ⟨?_, hc v (List.mem_of_getElem? hv)⟩
  have key : ∀ (vs : List Value) (b i : Nat) (v : Value), (∀ v ∈ vs, v.category = 1) → vs[i]? = some v → (b + i, v) ∈ lv_args b vs := by
    intro vs
    induction vs with
    | nil => intro b i v _ h; simp at h
    | cons a r ih =>
      intro b i v hc h
      have ha : a.category = 1 := hc a List.mem_cons_self
      have hne : ¬ a.category = 2 := by omega
      show (b + i, v) ∈ (b, a) :: lv_args (if a.category = 2 then b + 2 else b + 1) r
      rw [if_neg hne]
      cases i with
      | zero =>
        have : a = v := by simpa using h
        subst this
        exact List.mem_cons_self
      | succ i =>
        have h2 := ih (b + 1) i v (fun w hw => hc w (List.mem_cons_of_mem _ hw)) (by simpa using h)
        refine List.mem_cons_of_mem _ ?_
        rw [show b + (i + 1) = b + 1 + i by omega]
        exact h2
  have := h0.2.2 (i, v) (by have := key vs 0 i v hc hv; rwa [Nat.zero_add] at this)
  exact this
section QRows
variable {p : Program} {l : Launch} {e : Env} {R : Room} {s : State} {m : MethodId} {args : Array Value} {below : List Frame} {meth : Method} {c : Code} {H : Heap} {locs : List Loc} {cells slots : Nat} {Q : State → Prop}
variable {cc : ByteArray} {pc : Nat} {ls : Array Slot} {rest : List Value} {nL : Nat} {lv : List (Option Value)}
theorem q_iload_n (hx : p.tables.exec = Jvm.exec) (hb : c.code = cc) (hl : lq ls nL lv) {k : Fin 4} {x : Int32} (hdg : decode cc pc = .ok (.iload_n k, 1)) (hv : lv[(k : Nat)]? = some (some (.int x))) (kk : W p l e R s m args below meth c H locs cells slots Q (F0 m (pc + 1) ls (.int x :: rest))) : W p l e R s m args below meth c H locs cells slots Q (F0 m pc ls rest) := lv_iload_n hx hb hdg rfl (hl.at hv) kk
theorem q_iload (hx : p.tables.exec = Jvm.exec) (hb : c.code = cc) (hl : lq ls nL lv) {k : Nat} {x : Int32} (hdg : decode cc pc = .ok (.iload k, 2)) (hv : lv[k]? = some (some (.int x))) (kk : W p l e R s m args below meth c H locs cells slots Q (F0 m (pc + 2) ls (.int x :: rest))) : W p l e R s m args below meth c H locs cells slots Q (F0 m pc ls rest) := lv_iload hx hb hdg (hl.at hv) kk
theorem q_aload_n (hx : p.tables.exec = Jvm.exec) (hb : c.code = cc) (hl : lq ls nL lv) {k : Fin 4} {x : Nat} (hdg : decode cc pc = .ok (.aload_n k, 1)) (hv : lv[(k : Nat)]? = some (some (.ref x))) (kk : W p l e R s m args below meth c H locs cells slots Q (F0 m (pc + 1) ls (.ref x :: rest))) : W p l e R s m args below meth c H locs cells slots Q (F0 m pc ls rest) := lv_aload_n hx hb hdg rfl (hl.at hv) kk
theorem q_aload (hx : p.tables.exec = Jvm.exec) (hb : c.code = cc) (hl : lq ls nL lv) {k : Nat} {x : Nat} (hdg : decode cc pc = .ok (.aload k, 2)) (hv : lv[k]? = some (some (.ref x))) (kk : W p l e R s m args below meth c H locs cells slots Q (F0 m (pc + 2) ls (.ref x :: rest))) : W p l e R s m args below meth c H locs cells slots Q (F0 m pc ls rest) := lv_aload hx hb hdg (hl.at hv) kk
theorem q_istore_n (hx : p.tables.exec = Jvm.exec) (hb : c.code = cc) (hl : lq ls nL lv) {k : Fin 4} {x : Int32} (hdg : decode cc pc = .ok (.istore_n k, 1)) (hn : (k : Nat) < nL) (kk : ∀ ls' : Array Slot, lq ls' nL (lv.set k (some (.int x))) → W p l e R s m args below meth c H locs cells slots Q (F0 m (pc + 1) ls' rest)) : W p l e R s m args below meth c H locs cells slots Q (F0 m pc ls (.int x :: rest)) := lv_istore_n hx hb hdg rfl hl.has hn rfl (fun ls' h' => kk ls' (hl.set rfl h'))
theorem q_istore (hx : p.tables.exec = Jvm.exec) (hb : c.code = cc) (hl : lq ls nL lv) {k : Nat} {x : Int32} (hdg : decode cc pc = .ok (.istore k, 2)) (hn : k < nL) (kk : ∀ ls' : Array Slot, lq ls' nL (lv.set k (some (.int x))) → W p l e R s m args below meth c H locs cells slots Q (F0 m (pc + 2) ls' rest)) : W p l e R s m args below meth c H locs cells slots Q (F0 m pc ls (.int x :: rest)) := lv_istore hx hb hdg hl.has hn rfl (fun ls' h' => kk ls' (hl.set rfl h'))
theorem q_astore_n (hx : p.tables.exec = Jvm.exec) (hb : c.code = cc) (hl : lq ls nL lv) {k : Fin 4} {x : Nat} (hdg : decode cc pc = .ok (.astore_n k, 1)) (hn : (k : Nat) < nL) (kk : ∀ ls' : Array Slot, lq ls' nL (lv.set k (some (.ref x))) → W p l e R s m args below meth c H locs cells slots Q (F0 m (pc + 1) ls' rest)) : W p l e R s m args below meth c H locs cells slots Q (F0 m pc ls (.ref x :: rest)) := lv_astore_n hx hb hdg rfl hl.has hn rfl (fun ls' h' => kk ls' (hl.set rfl h'))
theorem q_astore (hx : p.tables.exec = Jvm.exec) (hb : c.code = cc) (hl : lq ls nL lv) {k : Nat} {x : Nat} (hdg : decode cc pc = .ok (.astore k, 2)) (hn : k < nL) (kk : ∀ ls' : Array Slot, lq ls' nL (lv.set k (some (.ref x))) → W p l e R s m args below meth c H locs cells slots Q (F0 m (pc + 2) ls' rest)) : W p l e R s m args below meth c H locs cells slots Q (F0 m pc ls (.ref x :: rest)) := lv_astore hx hb hdg hl.has hn rfl (fun ls' h' => kk ls' (hl.set rfl h'))
theorem lq_place {ls : Array Slot} {nL : Nat} {l : List (Option Value)} {i : Nat} {v : Value} (hi : l[i]? = some (some v)) : ∃ k : Nat, (lq_l l)[k]? = some (i, v) := List.getElem?_of_mem (lq_mem.mpr hi)
/-- a count that goes up by one -/
theorem q_inc (hx : p.tables.exec = Jvm.exec) (hb : c.code = cc) (hl : lq ls nL lv) {i t : Nat} (hdg : decode cc pc = .ok (.iinc i 1, 3)) (hv : lv[i]? = some (some (.int (nI t)))) (hn : i < nL) (kk : ∀ ls' : Array Slot, lq ls' nL (lv.set i (some (.int (nI (t + 1))))) → W p l e R s m args below meth c H locs cells slots Q (F0 m (pc + 3) ls' rest)) : W p l e R s m args below meth c H locs cells slots Q (F0 m pc ls rest) := by
  obtain ⟨k, hk⟩ := lq_place (ls := ls) (nL := nL) hv
  exact lv_iinc (k := k) (v := nI (t + 1)) hx hb hdg hl.has hk (nI_1 t) hn rfl (fun ls' h' => kk ls' (hl.set rfl h'))
theorem q_iinc (hx : p.tables.exec = Jvm.exec) (hb : c.code = cc) (hl : lq ls nL lv) {i : Nat} {n : Int} {x v : Int32} (hdg : decode cc pc = .ok (.iinc i n, 3)) (hv : lv[i]? = some (some (.int x))) (hw : x + Int32.ofInt n = v) (hn : i < nL) (kk : ∀ ls' : Array Slot, lq ls' nL (lv.set i (some (.int v))) → W p l e R s m args below meth c H locs cells slots Q (F0 m (pc + 3) ls' rest)) : W p l e R s m args below meth c H locs cells slots Q (F0 m pc ls rest) := by
  obtain ⟨k, hk⟩ := lq_place (ls := ls) (nL := nL) hv
  exact lv_iinc (k := k) (v := v) hx hb hdg hl.has hk hw hn rfl (fun ls' h' => kk ls' (hl.set rfl h'))
end QRows
/-! A method's context and contract; ends, throws, calls. -/
def wsG : List Cond := lw_tbl.filter goodWord
def isN : Cond → Bool
  | .fieldLinkNest .. => true
  | .methodLinkNest .. => true
  | .castable .. => true
  | .declares .. => true
  | _ => false
def wsN : List Cond := lw_tbl.filter isN
theorem isN_warm {w : Cond} (hw : isN w = true) {s U : State} (hW : s.WarmedH U.vm) (h : va_Nw w s) : va_Nw w U := by
  cases w <;> first | exact va_Nw.warmF hW h | exact va_Nw.warmM hW h | exact va_Nw.warmC hW h | exact va_Nw.warmD hW h | cases hw
theorem isN_tabs {w : Cond} (hw : isN w = true) : w.onTables = true := by
  cases w <;> first | rfl | cases hw
/-- what a throw and a nest mate's member stand on, beside the good words -/
def ncs : List (String × String) := [("java/lang/IllegalArgumentException", "java/lang/IndexOutOfBoundsException"), ("java/lang/IllegalStateException", "java/lang/IndexOutOfBoundsException")]
def En (A : Nat → Prop) (U : State) (H : Heap) : Prop := (∀ w ∈ wsN, va_Nw w U) ∧ ((∀ q ∈ strs, ∃ a, vk_R q.1 q.2.1 q.2.2 a U) ∧ (∀ q ∈ ncs, va_Nc q.1 q.2 U) ∧ va_AO "ThreadSlots$Strand" U ∧ va_AO "ThreadSlots$Line" U) ∧ vx_Zq Bundle.tN "UNASSIGNED_STACK" Bundle.steD A U H ∧ vx_Zq Bundle.tN "SUPPRESSED_SENTINEL" Bundle.listD A U H
theorem En.warm {A : Nat → Prop} {s U : State} {H : Heap} (hW : s.WarmedH U.vm) (h : En A s H) : En A U H :=
  ⟨fun w hw => isN_warm (List.mem_filter.mp hw).2 hW (h.1 w hw), ⟨fun q hq => by obtain ⟨a, ha⟩ := h.2.1.1 q hq; exact ⟨a, vk_R.warm hW ha⟩, fun q hq => va_Nc.moved hW.alike (h.2.1.2.1 q hq), va_AO.moved hW.alike h.2.1.2.2.1, va_AO.moved hW.alike h.2.1.2.2.2⟩, vx_Zq.moved hW.alike h.2.2.1, vx_Zq.moved hW.alike h.2.2.2⟩
theorem En.same {A : Nat → Prop} {s U : State} {H : Heap} (hv : U.vm = s.vm) (h : En A s H) : En A U H := En.warm (by rw [hv]; exact State.WarmedH.refl s) h
theorem En.kept {A : Nat → Prop} {U : State} {H H1 : Heap} (h : En A U H) (hq : ∀ a : Nat, a < H.size → ¬ A a → H1[a]? = H[a]?) : En A U H1 := ⟨h.1, h.2.1, vx_Zq.kept h.2.2.1 hq, vx_Zq.kept h.2.2.2 hq⟩
theorem En.narrow {A B : Nat → Prop} {U : State} {H : Heap} (h : En A U H) (hAB : ∀ q, B q → A q) : En B U H := ⟨h.1, h.2.1, vx_Zq.narrow h.2.2.1 hAB, vx_Zq.narrow h.2.2.2 hAB⟩
/-- a method's context -/
def cx (p : Program) (l : Launch) (s : State) (m : MethodId) (args : Array Value) (meth : Method) (c : Code) (cc : ByteArray) (nL : Nat) (own : String) (ct : Ct) (D : va_G) (A : Nat → Prop) : Prop :=
  p.tables.exec = Jvm.exec ∧ c.code = cc ∧ c.maxLocals = nL ∧ s.vm.findClass own = some m.cls ∧ (∀ w ∈ wsG, w.before args s = true) ∧ va_K D vwCl (tyl ct) s ∧ En A s s.heap ∧ (∀ q, s.heap.size ≤ q → A q) ∧ meth.locks = false ∧ l.stackTraces = false
def wl (D : va_G) (A : Nat → Prop) (s : State) (ws : va_W) (H : Heap) (locs : List Loc) : Prop := va_P D vwCl ws H ∧ va_D A ws ∧ va_S A s.heap H locs
def KP (D : va_G) (ct : Ct) (av : List Value) (sz : Nat) (w0 : va_W) : Array Value → State → Prop := va_Pc av (fun U => U.heap.size = sz ∧ va_P D vwCl w0 U.heap ∧ va_K D vwCl (tyl ct) U ∧ va_D (fun _ => True) w0 ∧ En (va_A w0 sz) U U.heap)
def KQ (D : va_G) (ct : Ct) (A : Nat → Prop) (Φ : Option Value → va_W → Prop) : Array Value → State → Outcome → State → Prop := fun _ st oc t => (∃ (v : Option Value) (w1 : va_W), oc = .returned v ∧ Φ v w1 ∧ va_P D vwCl w1 t.heap ∧ va_K D vwCl (tyl ct) t ∧ va_D A w1) ∧ va_F A st t
def KX (D : va_G) (ct : Ct) (A : Nat → Prop) (Ψ : String → va_W → Prop) : String → State → State → Prop := fun E st t => (∃ (w1 : va_W), Ψ E w1 ∧ va_P D vwCl w1 t.heap ∧ va_K D vwCl (tyl ct) t ∧ va_D A w1) ∧ va_F A st t
/-- y, from the world w0 with the arguments av: it returns v with the world w1 where Φ v w1, or throws an E with Ψ E w1 -/
def Kt (l : Launch) (y : MethodName) (cc : ByteArray) (nL : Nat) (ret : Option FieldType) (rm : Room) (mc ms : Nat) (D : va_G) (ct : Ct) (av : List Value) (sz : Nat) (w0 : va_W) (Φ : Option Value → va_W → Prop) (Ψ : String → va_W → Prop) : Prop :=
  vx_Met l y (.code y cc nL ret :: wsG) rm (KP D ct av sz w0) (KQ D ct (va_A w0 sz) Φ) (KX D ct (va_A w0 sz) Ψ) mc ms (va_A w0 sz)
theorem KP_blind {D : va_G} {ct : Ct} {av : List Value} {sz : Nat} {w0 : va_W} : FrameBlind (KP D ct av sz w0) := by
  intro a U g mk q
  obtain ⟨q1, q2, q3, q4, q5, q6⟩ := q
  have q7 : En (va_A w0 sz) (U.calling g mk a) U.heap := En.same (s := U) rfl q6
  exact ⟨q1, q2, q3, va_K.moved (u := U) (U := U.calling g mk a) (Vm.Alike.refl U.vm) q4, q5, q7⟩
theorem kt_of {l : Launch} {y : MethodName} {cc : ByteArray} {nL : Nat} {ret : Option FieldType} {rm : Room} {mc ms : Nat} {D : va_G} {ct : Ct} {av : List Value} {sz : Nat} {w0 : va_W} {Φ : Option Value → va_W → Prop} {Ψ : String → va_W → Prop} (hst : l.stackTraces = false)
    (hy : plainName y.cls = true) (hav : (lg_sl av).length ≤ nL) (hcat : ∀ v ∈ av, v.category = 1)
    (body : ∀ (p : Program) (e : Env) (s : State) (m : MethodId) (args : Array Value) (below : List Frame) (meth : Method) (c : Code) (A : Nat → Prop) (ls : Array Slot), cx p l s m args meth c cc nL y.cls ct D A → (∀ x ∈ c.exceptionTable.toList, False) → meth.sig.returnType = ret → wl D A s w0 s.heap [] → lq ls nL (av.map some ++ List.replicate (nL - av.length) none) →
      ∀ Q : State → Prop, Q = vx_MQ below (KQ D ct A Φ) (KX D ct A Ψ) args s mc ms A → W p l e rm s m args below meth c s.heap [] 0 0 Q (F0 m 0 ls [])) : Kt l y cc nL ret rm mc ms D ct av sz w0 Φ Ψ := by
  refine vx_ofW (cc := cc) (maxL := nL) (ret := ret) hy rfl ?_
  intro p e s m args below meth c s₁ B hml hne hv
  obtain ⟨rfl, hsz, hP, hK, hD0, hE⟩ := hv
  subst hsz
  have hD := hD0.self (sz := s.heap.size)
  have hts := atoms_spec (ws := .code y cc nL ret :: wsG) B.pre
  rw [lg_entry_eq]
  exact body p e s m av.toArray below meth c (va_A w0 s.heap.size) _ ⟨B.exec, B.bytes, hml, findClass_of_methodNamed B.named, fun w hw => hts w (List.mem_cons_of_mem _ hw), hK, hE, fun q h => Or.inr h, B.notSynchronized, hst⟩ hne B.returns ⟨hP, hD, va_S.rf⟩ (lq.entry hav hcat) _ rfl
section Ends2
variable {p : Program} {l : Launch} {e : Env} {R : Room} {s : State} {m : MethodId} {args : Array Value} {below : List Frame} {meth : Method} {c : Code} {H : Heap} {locs : List Loc} {cells slots mc ms : Nat} {Q : State → Prop}
variable {cc : ByteArray} {pc : Nat} {ls : Array Slot} {rest : List Value} {nL : Nat} {own : String} {ct : Ct} {D : va_G} {A : Nat → Prop} {w1 : va_W} {Φ : Option Value → va_W → Prop} {Ψ : String → va_W → Prop}
theorem tr_i (hQ : Q = vx_MQ below (KQ D ct A Φ) (KX D ct A Ψ) args s mc ms A) (C : cx p l s m args meth c cc nL own ct D A) (hw : wl D A s w1 H locs) (hr : meth.sig.returnType = some .int) (hc : cells ≤ mc) (hs : slots ≤ ms) {v : Int32} (hdg : decode cc pc = .ok (.ireturn, 1)) (hΦ : Φ (some (.int v)) w1) :
    W p l e R s m args below meth c H locs cells slots Q (F0 m pc ls [.int v]) := by
  subst hQ
  exact W.widen hc hs (vx_ret (W.iret C.1 C.2.1 hr (fun t ht hW => ⟨⟨_, w1, rfl, hΦ, by rw [ht]; exact hw.1, va_K.moved hW.alike C.2.2.2.2.2.1, hw.2.1⟩, hw.2.2.F ht⟩) hw.2.2.2.2 hdg C.2.2.2.2.2.2.2.2.1))
theorem tr_z (hQ : Q = vx_MQ below (KQ D ct A Φ) (KX D ct A Ψ) args s mc ms A) (C : cx p l s m args meth c cc nL own ct D A) (hw : wl D A s w1 H locs) (hr : meth.sig.returnType = some .boolean) (hc : cells ≤ mc) (hs : slots ≤ ms) {v : Int32} (hdg : decode cc pc = .ok (.ireturn, 1)) (hz : v = 0 ∨ v = 1) (hΦ : Φ (some (.int v)) w1) :
    W p l e R s m args below meth c H locs cells slots Q (F0 m pc ls [.int v]) := by
  subst hQ
  exact W.widen hc hs (vx_ret (W.zret C.1 C.2.1 hr (by rcases hz with rfl | rfl <;> rfl) (fun t ht hW => ⟨⟨_, w1, rfl, hΦ, by rw [ht]; exact hw.1, va_K.moved hW.alike C.2.2.2.2.2.1, hw.2.1⟩, hw.2.2.F ht⟩) hw.2.2.2.2 hdg C.2.2.2.2.2.2.2.2.1))
theorem tr_v (hQ : Q = vx_MQ below (KQ D ct A Φ) (KX D ct A Ψ) args s mc ms A) (C : cx p l s m args meth c cc nL own ct D A) (hw : wl D A s w1 H locs) (hr : meth.sig.returnType = none) (hc : cells ≤ mc) (hs : slots ≤ ms) (hdg : decode cc pc = .ok (.return_, 1)) (hΦ : Φ none w1) :
    W p l e R s m args below meth c H locs cells slots Q (F0 m pc ls []) := by
  subst hQ
  exact W.widen hc hs (vx_ret (W.vret C.1 C.2.1 hr (fun t ht hW => ⟨⟨_, w1, rfl, hΦ, by rw [ht]; exact hw.1, va_K.moved hW.alike C.2.2.2.2.2.1, hw.2.1⟩, hw.2.2.F ht⟩) hw.2.2.2.2 hdg C.2.2.2.2.2.2.2.2.1))
theorem tr_a (hQ : Q = vx_MQ below (KQ D ct A Φ) (KX D ct A Ψ) args s mc ms A) (C : cx p l s m args meth c cc nL own ct D A) (hw : wl D A s w1 H locs) {cn : String} (hr : meth.sig.returnType = some (.object cn)) (hc : cells ≤ mc) (hs : slots ≤ ms) {a : Nat} (hdg : decode cc pc = .ok (.areturn, 1)) (hΦ : Φ (some (.ref a)) w1) :
    W p l e R s m args below meth c H locs cells slots Q (F0 m pc ls [.ref a]) := by
  subst hQ
  exact W.widen hc hs (vx_ret (W.aret C.1 C.2.1 hr (Or.inl ⟨cn, rfl⟩) (Or.inr ⟨a, rfl⟩) (fun t ht hW => ⟨⟨_, w1, rfl, hΦ, by rw [ht]; exact hw.1, va_K.moved hW.alike C.2.2.2.2.2.1, hw.2.1⟩, hw.2.2.F ht⟩) hw.2.2.2.2 hdg C.2.2.2.2.2.2.2.2.1))
/-- an exception of a callee goes on to the caller -/
theorem tr_x (hQ : Q = vx_MQ below (KQ D ct A Φ) (KX D ct A Ψ) args s mc ms A) (C : cx p l s m args meth c cc nL own ct D A) (hne : ∀ x ∈ c.exceptionTable.toList, False) (hw : wl D A s w1 H locs) (hc : cells ≤ mc) (hs : slots ≤ ms) {E : String} {ce : Cell} {q : Addr} (hΨ : Ψ E w1) (hcell : H[q]? = some ce) (hv : ce.vm = .none) (hcl : s.vm.findClass E = some ce.cls) :
    vx_W p l e R s m args below meth c H locs cells slots Q (F0 m pc ls rest) q := by
  subst hQ
  exact vx_out (fun x hx => (hne x hx).elim) C.2.2.2.2.2.2.2.2.1 hcell hv hcl (fun t ht hW => ⟨⟨w1, hΨ, by rw [ht]; exact hw.1, va_K.moved hW C.2.2.2.2.2.1, hw.2.1⟩, hw.2.2.F ht⟩) hw.2.2.2.2 hc hs
end Ends2
/-- the frame: the callee's world is the left part, the right part stays -/
theorem fr_L {A : Nat → Prop} {D : va_G} {cl : List vw_C} {wa wb w1 : va_W} {H H1 : Heap} (hP : va_P D cl (wa ++ wb) H) (hD : va_D A (wa ++ wb)) (hk : ∀ q : Nat, q < H.size → ¬ va_A wa H.size q → H1[q]? = H[q]?) (hF : ∀ q, va_A wa H.size q → A q) (hP1 : va_P D cl w1 H1) (hD1 : va_D (va_A wa H.size) w1) : va_P D cl (w1 ++ wb) H1 ∧ va_D A (w1 ++ wb) := by
  have hb : ∀ (k : Nat) (q : Nat × va_E), wb[k]? = some q → (wa ++ wb)[wa.length + k]? = some q := fun k q h => by rw [List.getElem?_append_right (by omega), Nat.add_sub_cancel_left]; exact h
  have ha : ∀ (k : Nat) (q : Nat × va_E), wa[k]? = some q → (wa ++ wb)[k]? = some q ∧ k < wa.length := fun k q h => by
    have hl := (List.getElem?_eq_some_iff.mp h).1
    exact ⟨by rw [List.getElem?_append_left hl]; exact h, hl⟩
  have apart : ∀ (k : Nat) (q : Nat × va_E), wb[k]? = some q → q.1 < H.size ∧ ¬ va_A wa H.size q.1 := by
    intro k q hq
    have h2 := hb k q hq
    have hl := (hP _ q h2).lt
    refine ⟨hl, fun h => ?_⟩
    rcases h with ⟨k2, e, h⟩ | h
    · obtain ⟨h3, h4⟩ := ha k2 _ h
      have := hD.1 _ _ q (q.1, e) h2 h3 rfl
      omega
    · omega
  refine ⟨va_P.app hP1 (fun k q hq => (hP _ q (hb k q hq)).kept (hk q.1 (apart k q hq).1 (apart k q hq).2)), va_D.app (hD1.weaken (fun k q _ h => hF q.1 h)) ⟨fun i j x y hx hy hxy => ?_, fun k q hq => hD.2 _ q (hb k q hq)⟩ (fun i j x y hx hy hxy => ?_)⟩
  · have := hD.1 _ _ x y (hb i x hx) (hb j y hy) hxy
    omega
  · exact (apart j y hy).2 (by rw [← hxy]; exact hD1.2 i x hx)
theorem fr_R {A : Nat → Prop} {D : va_G} {cl : List vw_C} {wa wb w1 : va_W} {H H1 : Heap} (hP : va_P D cl (wa ++ wb) H) (hD : va_D A (wa ++ wb)) (hk : ∀ q : Nat, q < H.size → ¬ va_A wb H.size q → H1[q]? = H[q]?) (hF : ∀ q, va_A wb H.size q → A q) (hP1 : va_P D cl w1 H1) (hD1 : va_D (va_A wb H.size) w1) : va_P D cl (wa ++ w1) H1 ∧ va_D A (wa ++ w1) := by
  have hb : ∀ (k : Nat) (q : Nat × va_E), wb[k]? = some q → (wa ++ wb)[wa.length + k]? = some q := fun k q h => by rw [List.getElem?_append_right (by omega), Nat.add_sub_cancel_left]; exact h
  have ha : ∀ (k : Nat) (q : Nat × va_E), wa[k]? = some q → (wa ++ wb)[k]? = some q ∧ k < wa.length := fun k q h => by
    have hl := (List.getElem?_eq_some_iff.mp h).1
    exact ⟨by rw [List.getElem?_append_left hl]; exact h, hl⟩
  have apart : ∀ (k : Nat) (q : Nat × va_E), wa[k]? = some q → q.1 < H.size ∧ ¬ va_A wb H.size q.1 := by
    intro k q hq
    obtain ⟨h2, h4⟩ := ha k q hq
    have hl := (hP _ q h2).lt
    refine ⟨hl, fun h => ?_⟩
    rcases h with ⟨k2, e, h⟩ | h
    · have := hD.1 _ _ q (q.1, e) h2 (hb k2 _ h) rfl
      omega
    · omega
  refine ⟨va_P.app (fun k q hq => (hP _ q (ha k q hq).1).kept (hk q.1 (apart k q hq).1 (apart k q hq).2)) hP1, va_D.app ⟨fun i j x y hx hy hxy => hD.1 _ _ x y (ha i x hx).1 (ha j y hy).1 hxy, fun k q hq => hD.2 _ q (ha k q hq).1⟩ (hD1.weaken (fun k q _ h => hF q.1 h)) (fun i j x y hx hy hxy => ?_)⟩
  exact (apart i x hx).2 (by rw [hxy]; exact hD1.2 j y hy)
section Calls2
variable {p : Program} {l : Launch} {e : Env} {R : Room} {s : State} {m : MethodId} {args : Array Value} {below : List Frame} {meth : Method} {c : Code} {H : Heap} {locs : List Loc} {cells slots mc ms : Nat} {Q : State → Prop}
variable {cc : ByteArray} {pc : Nat} {ls : Array Slot} {rest st0 : List Value} {nL : Nat} {own : String} {ct : Ct} {D : va_G} {A : Nat → Prop} {w0 wa wb : va_W} {Φ : Option Value → va_W → Prop} {Ψ : String → va_W → Prop} {av : Array Value}
theorem fr_A {D : va_G} {s : State} {A : Nat → Prop} (hA : ∀ q, s.heap.size ≤ q → A q) (hw : wl D A s w0 H locs) : ∀ q, va_A w0 H.size q → A q := by
  intro q h
  rcases h with ⟨k, e, h⟩ | h
  · exact hw.2.1.2 k _ h
  · exact hA q (Nat.le_trans hw.2.2.1 h)
/-- behind a call whose world is the left part of the caller's -/
theorem tc_L (hr : vx_Run p l e R s m args below meth c H locs cells slots mc ms (F0 m pc ls st0) rest (KQ D ct (va_A wa H.size) Φ av) (KX D ct (va_A wa H.size) Ψ) (va_A wa H.size)) (C : cx p l s m args meth c cc nL own ct D A) (hw : wl D A s (wa ++ wb) H locs)
    (kx : ∀ (E : String) (ce : Cell) (q : Addr) (w1 : va_W) (H1 : Heap) (locs1 : List Loc), Ψ E w1 → wl D A s (w1 ++ wb) H1 locs1 → H1[q]? = some ce → ce.vm = .none → s.vm.findClass E = some ce.cls → vx_W p l e R s m args below meth c H1 locs1 (cells + mc) (slots + ms) Q (F0 m pc ls rest) q)
    (kk : ∀ (v : Option Value) (w1 : va_W) (H1 : Heap) (locs1 : List Loc), Φ v w1 → wl D A s (w1 ++ wb) H1 locs1 → W p l e R s m args below meth c H1 locs1 (cells + mc) (slots + ms) Q (F0 m (pc + 3) ls (v.toList ++ rest))) : W p l e R s m args below meth c H locs cells slots Q (F0 m pc ls st0) := by
  have hAA : ∀ q, va_A wa H.size q → A q := by
    intro q h
    rcases h with ⟨k, e, h⟩ | h
    · exact hw.2.1.2 k (q, e) (by rw [List.getElem?_append_left (List.getElem?_eq_some_iff.mp h).1]; exact h)
    · exact C.2.2.2.2.2.2.2.1 q (Nat.le_trans hw.2.2.1 h)
  intro T hT X
  rcases hr T hT X with ⟨v, st₀, t, T', L, h0, X', hL, e1, e2, ⟨⟨v', w1, hv, hp, hP1, hK1, hD1⟩, hF⟩, st⟩ | ⟨q, st₀, t, T', L, E, ce, h0, X', hL, e1, e2, ⟨⟨w1, hp, hP1, hK1, hD1⟩, hF⟩, hce, hcv, hcl, st⟩
  · cases hv
    obtain ⟨k1, k2, k3⟩ := vx_keep h0 e1 hw.2.2 (fun q _ h => hAA q h) hAA hL hF
    obtain ⟨g1, g2⟩ := fr_L hw.1 hw.2.1 k2 hAA (by rw [e1]; exact hP1) hD1
    obtain ⟨t2, a1, b1⟩ := kk v w1 T'.heap (locs ++ L) hp ⟨g1, g2, k3⟩ T' rfl X'
    exact ⟨t2, st t2 a1, b1⟩
  · obtain ⟨k1, k2, k3⟩ := vx_keep h0 e1 hw.2.2 (fun q _ h => hAA q h) hAA hL hF
    obtain ⟨g1, g2⟩ := fr_L hw.1 hw.2.1 k2 hAA (by rw [e1]; exact hP1) hD1
    obtain ⟨t2, a1, b1⟩ := kx E ce q w1 T'.heap (locs ++ L) hp ⟨g1, g2, k3⟩ (by rw [e1]; exact hce) hcv hcl T' rfl X'
    exact ⟨t2, st.trans a1, b1⟩
theorem tc_R (hr : vx_Run p l e R s m args below meth c H locs cells slots mc ms (F0 m pc ls st0) rest (KQ D ct (va_A wb H.size) Φ av) (KX D ct (va_A wb H.size) Ψ) (va_A wb H.size)) (C : cx p l s m args meth c cc nL own ct D A) (hw : wl D A s (wa ++ wb) H locs)
    (kx : ∀ (E : String) (ce : Cell) (q : Addr) (w1 : va_W) (H1 : Heap) (locs1 : List Loc), Ψ E w1 → wl D A s (wa ++ w1) H1 locs1 → H1[q]? = some ce → ce.vm = .none → s.vm.findClass E = some ce.cls → vx_W p l e R s m args below meth c H1 locs1 (cells + mc) (slots + ms) Q (F0 m pc ls rest) q)
    (kk : ∀ (v : Option Value) (w1 : va_W) (H1 : Heap) (locs1 : List Loc), Φ v w1 → wl D A s (wa ++ w1) H1 locs1 → W p l e R s m args below meth c H1 locs1 (cells + mc) (slots + ms) Q (F0 m (pc + 3) ls (v.toList ++ rest))) : W p l e R s m args below meth c H locs cells slots Q (F0 m pc ls st0) := by
  have hAA : ∀ q, va_A wb H.size q → A q := by
    intro q h
    rcases h with ⟨k, e, h⟩ | h
    · exact hw.2.1.2 (wa.length + k) (q, e) (by rw [List.getElem?_append_right (by omega), Nat.add_sub_cancel_left]; exact h)
    · exact C.2.2.2.2.2.2.2.1 q (Nat.le_trans hw.2.2.1 h)
  intro T hT X
  rcases hr T hT X with ⟨v, st₀, t, T', L, h0, X', hL, e1, e2, ⟨⟨v', w1, hv, hp, hP1, hK1, hD1⟩, hF⟩, st⟩ | ⟨q, st₀, t, T', L, E, ce, h0, X', hL, e1, e2, ⟨⟨w1, hp, hP1, hK1, hD1⟩, hF⟩, hce, hcv, hcl, st⟩
  · cases hv
    obtain ⟨k1, k2, k3⟩ := vx_keep h0 e1 hw.2.2 (fun q _ h => hAA q h) hAA hL hF
    obtain ⟨g1, g2⟩ := fr_R hw.1 hw.2.1 k2 hAA (by rw [e1]; exact hP1) hD1
    obtain ⟨t2, a1, b1⟩ := kk v w1 T'.heap (locs ++ L) hp ⟨g1, g2, k3⟩ T' rfl X'
    exact ⟨t2, st t2 a1, b1⟩
  · obtain ⟨k1, k2, k3⟩ := vx_keep h0 e1 hw.2.2 (fun q _ h => hAA q h) hAA hL hF
    obtain ⟨g1, g2⟩ := fr_R hw.1 hw.2.1 k2 hAA (by rw [e1]; exact hP1) hD1
    obtain ⟨t2, a1, b1⟩ := kx E ce q w1 T'.heap (locs ++ L) hp ⟨g1, g2, k3⟩ (by rw [e1]; exact hce) hcv hcl T' rfl X'
    exact ⟨t2, st.trans a1, b1⟩
/-- what a callee asks of its start, out of the caller's context; its world is a part of the caller's -/
theorem tc_pre (C : cx p l s m args meth c cc nL own ct D A) (hP : va_P D vwCl w0 H) (hD : va_D A w0) (hS : va_S A s.heap H locs) {av : List Value} : ∀ U : State, U.heap = H → s.WarmedH U.vm → KP D ct av H.size w0 av.toArray U := by
  intro U hU hW
  refine ⟨rfl, by rw [hU], by rw [hU]; exact hP, va_K.moved hW.alike C.2.2.2.2.2.1, hD.weaken (fun _ _ _ _ => trivial), ?_⟩
  rw [hU]
  have h1 : En A U H := En.warm hW (En.kept C.2.2.2.2.2.2.1 hS.2.1)
  exact En.narrow h1 (fr_A (w0 := w0) (H := H) (locs := locs) C.2.2.2.2.2.2.2.1 ⟨hP, hD, hS⟩)
theorem wsG_in {y : MethodName} {cc0 : ByteArray} {n0 : Nat} {ret0 : Option FieldType} (h : Cond.code y cc0 n0 ret0 ∈ lw_tbl) : GoodIn wsG (.code y cc0 n0 ret0 :: wsG) := by
  intro w hw
  rcases List.mem_cons.mp hw with rfl | hw
  · exact ⟨List.mem_filter.mpr ⟨h, rfl⟩, Or.inl rfl⟩
  · exact ⟨hw, good_of_word (List.mem_filter.mp hw).2⟩
end Calls2
theorem met_of {l : Launch} {y : MethodName} {cc : ByteArray} {nL : Nat} {ret : Option FieldType} {rm : Room} {mc ms : Nat} {D : va_G} {ct : Ct} {av : List Value} {sz : Nat} {w0 : va_W} {Φ : Option Value → va_W → Prop} (h : Kt l y cc nL ret rm mc ms D ct av sz w0 Φ (fun _ _ => False)) : Met l y (.code y cc nL ret :: wsG) rm (KP D ct av sz w0) (KQ D ct (va_A w0 sz) Φ) mc ms (va_A w0 sz) := by
  intro p e ha hc hk s m args below hf happ hP hK
  obtain ⟨k, o, h1, h2, h3, hQ⟩ := h p e ha hc hk s m args below hf happ hP hK
  rcases hQ with hQ | ⟨q, rfl, E, ce, L, ⟨⟨w1, hx, -⟩, -⟩, -⟩
  · exact ⟨k, o, h1, h2, h3, hQ⟩
  · exact hx.elim
theorem vx_of_va {p : Program} {l : Launch} {e : Env} {R : Room} {s : State} {m : MethodId} {args : Array Value} {below : List Frame} {meth : Method} {c : Code} {H : Heap} {locs : List Loc} {cells slots mc ms : Nat} {g : JFrame} {rest : List Value} {Qa : State → Outcome → State → Prop} {XC : String → State → State → Prop} {free : Addr → Prop} (h : va_Run p l e R s m args below meth c H locs cells slots mc ms g rest Qa free) : vx_Run p l e R s m args below meth c H locs cells slots mc ms g rest Qa XC free := fun T hT X => Or.inl (h T hT X)
section Calls3
variable {p : Program} {l : Launch} {e : Env} {R : Room} {s : State} {m : MethodId} {args : Array Value} {below : List Frame} {meth : Method} {c : Code} {H : Heap} {locs : List Loc} {cells slots mc ms : Nat} {Q : State → Prop}
variable {cc : ByteArray} {pc : Nat} {ls : Array Slot} {rest st0 : List Value} {nL : Nat} {lv : List (Option Value)} {own : String} {ct : Ct} {D : va_G} {A : Nat → Prop} {w0 : va_W} {Φ : Option Value → va_W → Prop} {Ψ : String → va_W → Prop}
variable {y : MethodName} {yc : ByteArray} {yL index n : Nat} {ret : Option FieldType} {rm : Room} {b : Nat} {As : List Value} {K : String}
/-- a virtual call of a method that the words name -/
theorem tc_V (C : cx p l s m args meth c cc nL own ct D A) (hl : lq ls nL lv) (hM : Kt l y yc yL ret rm mc ms D ct (.ref b :: As) H.size w0 Φ Ψ) (hP : va_P D vwCl w0 H) (hD : va_D A w0) (hS : va_S A s.heap H locs)
    (hg : GoodIn wsG (wsV own index K y (.code y yc yL ret :: wsG))) (hrecv : ∃ cellB : Cell, H[b]? = some cellB ∧ cellB.vm.isStatics = false ∧ s.vm.findClass K = some cellB.cls)
    (hd : y.cls = K ∧ y.cls ≠ "java/lang/invoke/MethodHandle" ∧ y.cls ≠ "java/lang/invoke/VarHandle" ∧ (parseMethodDescriptor y.desc).map (fun d => d.parameters.length) = some As.length)
    (hrc : rm.cells = mc) (hrs : rm.slots = ms) (hR : rm.frames + 1 ≤ R.frames ∧ 8 + (yL + 11) + rm.locals ≤ R.locals) (hroom : (rest.map fun v => v.category).sum ≤ 8) (hf : cells + mc ≤ R.cells ∧ slots + ms ≤ R.slots)
    (hdg : decode cc pc = .ok (.invokevirtual index, 3)) (hst : st0 = As.reverse ++ .ref b :: rest) :
    vx_Run p l e R s m args below meth c H locs cells slots mc ms (F0 m pc ls st0) rest (KQ D ct (va_A w0 H.size) Φ (Value.ref b :: As).toArray) (KX D ct (va_A w0 H.size) Ψ) (va_A w0 H.size) :=
  vx_runV ⟨C.1, C.2.1, C.2.2.1, C.2.2.2.1, C.2.2.2.2.1⟩ hM (cwV As.length C.2.2.2.2.1 hg rfl hrc hrs hd hR) ⟨KP_blind, hrecv, tc_pre C hP hD hS⟩ rfl rfl hl.1 hst (lv_room hroom) hdg hf
/-- a static call -/
theorem tc_S (C : cx p l s m args meth c cc nL own ct D A) (hl : lq ls nL lv) (hM : Kt l y yc yL ret rm mc ms D ct As H.size w0 Φ Ψ) (hP : va_P D vwCl w0 H) (hD : va_D A w0) (hS : va_S A s.heap H locs)
    (hg : GoodIn wsG (va_wsS own index y (.code y yc yL ret :: wsG)))
    (hd : y.cls ≠ "java/lang/invoke/MethodHandle" ∧ y.cls ≠ "java/lang/invoke/VarHandle" ∧ (parseMethodDescriptor y.desc).map (fun d => d.parameters.length) = some As.length)
    (hrc : rm.cells = mc) (hrs : rm.slots = ms) (hR : rm.frames + 1 ≤ R.frames ∧ 8 + (yL + 11) + rm.locals ≤ R.locals) (hroom : (rest.map fun v => v.category).sum ≤ 8) (hf : cells + mc ≤ R.cells ∧ slots + ms ≤ R.slots)
    (hdg : decode cc pc = .ok (.invokestatic index, 3)) (hst : st0 = As.reverse ++ rest) :
    vx_Run p l e R s m args below meth c H locs cells slots mc ms (F0 m pc ls st0) rest (KQ D ct (va_A w0 H.size) Φ As.toArray) (KX D ct (va_A w0 H.size) Ψ) (va_A w0 H.size) :=
  vx_runS ⟨C.1, C.2.1, C.2.2.1, C.2.2.2.1, C.2.2.2.2.1⟩ hM (va_cwS As.length C.2.2.2.2.1 hg rfl hrc hrs hd hR) ⟨KP_blind, tc_pre C hP hD hS⟩ rfl rfl hl.1 hst (lv_room hroom) hdg hf
/-- a private method of a nest mate -/
theorem tc_N (C : cx p l s m args meth c cc nL own ct D A) (hl : lq ls nL lv) {host : String} (hM : Kt l y yc yL ret rm mc ms D ct (.ref b :: As) H.size w0 Φ (fun _ _ => False)) (hP : va_P D vwCl w0 H) (hD : va_D A w0) (hS : va_S A s.heap H locs)
    (hcode : Cond.code y yc yL ret ∈ lw_tbl) (hlk : Cond.methodLinkNest own index y host ∈ wsN) (hws : Cond.instanceMethod y ∈ wsG ∧ Cond.selects K y y ∈ wsG ∧ Cond.initialized y.cls ∈ wsG) (hrecv : ∃ cellB : Cell, H[b]? = some cellB ∧ cellB.vm.isStatics = false ∧ s.vm.findClass K = some cellB.cls)
    (hd : y.cls ≠ "java/lang/invoke/MethodHandle" ∧ y.cls ≠ "java/lang/invoke/VarHandle" ∧ (parseMethodDescriptor y.desc).map (fun d => d.parameters.length) = some As.length)
    (hrc : rm.cells = mc) (hrs : rm.slots = ms) (hR : rm.frames + 1 ≤ R.frames ∧ 8 + (yL + 11) + rm.locals ≤ R.locals) (hroom : (rest.map fun v => v.category).sum ≤ 8) (hf : cells + mc ≤ R.cells ∧ slots + ms ≤ R.slots)
    (hdg : decode cc pc = .ok (.invokevirtual index, 3)) (hst : st0 = As.reverse ++ .ref b :: rest) :
    vx_Run p l e R s m args below meth c H locs cells slots mc ms (F0 m pc ls st0) rest (KQ D ct (va_A w0 H.size) Φ (Value.ref b :: As).toArray) (KX D ct (va_A w0 H.size) (fun _ _ => False)) (va_A w0 H.size) := by
  refine vx_of_va ?_
  exact va_runVN (host := host) ⟨C.1, C.2.1, C.2.2.1, C.2.2.2.1, C.2.2.2.2.1⟩ (met_of hM) ⟨va_cnB As.length C.2.2.2.2.1 (wsG_in hcode) rfl hrc hrs (C.2.2.2.2.2.2.1.1 _ hlk) (C.2.2.2.2.1 _ hws.2.2) hd hR, C.2.2.2.2.1 _ hws.1, C.2.2.2.2.1 _ hws.2.1⟩ ⟨KP_blind, hrecv, tc_pre C hP hD hS⟩ rfl rfl hl.1 hst (lv_room hroom) hdg hf
end Calls3
theorem lq.drop {ls : Array Slot} {nL : Nat} {l : List (Option Value)} (h : lq ls nL l) (k : Nat) : lq ls nL (l.set k none) := by
  refine ⟨h.1, h.2.1, fun i v hi => h.2.2 i v ?_⟩
  by_cases hk : k = i
  · subst hk
    rw [List.getElem?_set] at hi
    simp at hi
  · rw [List.getElem?_set_ne hk] at hi
    exact hi
section Q5
variable {p : Program} {l : Launch} {e : Env} {R : Room} {s : State} {m : MethodId} {args : Array Value} {below : List Frame} {meth : Method} {c : Code} {H : Heap} {locs : List Loc} {cells slots mc ms : Nat} {Q : State → Prop}
variable {cc : ByteArray} {pc : Nat} {ls : Array Slot} {rest st0 : List Value} {nL : Nat} {lv : List (Option Value)} {own : String} {ct : Ct} {D : va_G} {A : Nat → Prop} {w0 : va_W} {Φ : Option Value → va_W → Prop} {Ψ : String → va_W → Prop} {av : Array Value}
theorem q_inc1 (hx : p.tables.exec = Jvm.exec) (hb : c.code = cc) (hl : lq ls nL lv) {i : Nat} {x : Int32} (hdg : decode cc pc = .ok (.iinc i 1, 3)) (hv : lv[i]? = some (some (.int x))) (hn : i < nL) (kk : ∀ ls' : Array Slot, lq ls' nL (lv.set i (some (.int (x + 1)))) → W p l e R s m args below meth c H locs cells slots Q (F0 m (pc + 3) ls' rest)) : W p l e R s m args below meth c H locs cells slots Q (F0 m pc ls rest) := q_iinc hx hb hl hdg hv rfl hn kk
theorem q_incm (hx : p.tables.exec = Jvm.exec) (hb : c.code = cc) (hl : lq ls nL lv) {i : Nat} {x : Int32} (hdg : decode cc pc = .ok (.iinc i (-1), 3)) (hv : lv[i]? = some (some (.int x))) (hn : i < nL) (kk : ∀ ls' : Array Slot, lq ls' nL (lv.set i (some (.int (x + (-1))))) → W p l e R s m args below meth c H locs cells slots Q (F0 m (pc + 3) ls' rest)) : W p l e R s m args below meth c H locs cells slots Q (F0 m pc ls rest) := q_iinc hx hb hl hdg hv rfl hn kk
theorem tc_E (hr : vx_Run p l e R s m args below meth c H locs cells slots mc ms (F0 m pc ls st0) rest (KQ D ct (va_A w0 H.size) Φ av) (KX D ct (va_A w0 H.size) Ψ) (va_A w0 H.size)) (C : cx p l s m args meth c cc nL own ct D A) (hw : wl D A s w0 H locs)
    (kx : ∀ (E : String) (ce : Cell) (q : Addr) (w1 : va_W) (H1 : Heap) (locs1 : List Loc), Ψ E w1 → wl D A s w1 H1 locs1 → H1[q]? = some ce → ce.vm = .none → s.vm.findClass E = some ce.cls → vx_W p l e R s m args below meth c H1 locs1 (cells + mc) (slots + ms) Q (F0 m pc ls rest) q)
    (kk : ∀ (v : Option Value) (w1 : va_W) (H1 : Heap) (locs1 : List Loc), Φ v w1 → wl D A s w1 H1 locs1 → W p l e R s m args below meth c H1 locs1 (cells + mc) (slots + ms) Q (F0 m (pc + 3) ls (v.toList ++ rest))) : W p l e R s m args below meth c H locs cells slots Q (F0 m pc ls st0) :=
  tc_L (wa := w0) (wb := []) hr C (by rw [List.append_nil]; exact hw) (fun E ce q w1 H1 locs1 h1 h2 => kx E ce q w1 H1 locs1 h1 (by rw [List.append_nil] at h2; exact h2)) (fun v w1 H1 locs1 h1 h2 => kk v w1 H1 locs1 h1 (by rw [List.append_nil] at h2; exact h2))
/-- throw new E("text"), out of this method -/
theorem tt_S (hQ : Q = vx_MQ below (KQ D ct A Φ) (KX D ct A Ψ) args s mc ms A) (C : cx p l s m args meth c cc nL own ct D A) (hne : ∀ x ∈ c.exceptionTable.toList, False) {w1 : va_W} (hw : wl D A s w1 H locs) (hl : lq ls nL lv) {cls text : String} {ik is ic : Nat}
    (hx : (own, is, text) ∈ strs ∧ Cond.classLink own ik cls ∈ wsG ∧ Cond.initialized cls ∈ wsG ∧ Bundle.fit cls = true ∧ (∀ w ∈ vx_atS own ic cls exn, w ∈ wsG ∨ w ∈ wsN) ∧ (∀ w ∈ Cond.classLink own ik cls :: Cond.initialized cls :: vx_atS own ic cls exn, vx_ot w = true))
    (d : decode cc pc = .ok (.new ik, 3) ∧ decode cc (pc + 3) = .ok (.dup, 1) ∧ decode cc (pc + 4) = .ok (.ldc is, 2) ∧ decode cc (pc + 6) = .ok (.invokespecial ic, 3) ∧ decode cc (pc + 9) = .ok (.athrow, 1))
    (hR : 5 < R.frames ∧ (rest.map fun v => v.category).sum + 82 ≤ R.locals ∧ cells + 1 ≤ R.cells ∧ slots + 6 ≤ R.slots ∧ cells + 1 ≤ mc ∧ slots + 6 ≤ ms) (hΨ : Ψ cls w1) :
    W p l e R s m args below meth c H locs cells slots Q (F0 m pc ls rest) := by
  subst hQ
  obtain ⟨x1, x2, x3, x4, x5, x6⟩ := hx
  obtain ⟨d0, d3, d4, d6, d9⟩ := d
  obtain ⟨r1, r2, r3, r4, r5, r6⟩ := hR
  obtain ⟨sa, hsa⟩ := C.2.2.2.2.2.2.1.2.1.1 _ x1
  refine vx_throwS (A := A) (names := exn) C.1 C.2.1 C.2.2.2.2.2.2.2.2.2 C.2.2.2.1 x4 (by decide +kernel) (C.2.2.2.2.1 _ x2) (C.2.2.2.2.1 _ x3) hsa
    (fun w hw => (x5 w hw).elim (fun h => C.2.2.2.2.1 _ h) (fun h => va_Nw.use (isN_tabs (List.mem_filter.mp h).2) (C.2.2.2.2.2.2.1.1 _ h))) x6 C.2.2.2.2.2.2.1.2.2.1 C.2.2.2.2.2.2.1.2.2.2 hw.2.2 (hl.1.trans C.2.2.1.symm) d0 d3 d4 d6 d9 (fun x hx => (hne x hx).elim) r1 r2 r3 r4 C.2.2.2.2.2.2.2.2.1 ?_ hw.2.2.2.2 r5 r6
  intro t hW hz hq
  refine ⟨⟨w1, hΨ, hw.1.kept (fun k x hx => hq x.1 (hw.1 k x hx).lt), va_K.moved hW C.2.2.2.2.2.1, hw.2.1⟩, Nat.le_trans hw.2.2.1 hz, fun q h1 h2 => ?_⟩
  rw [hq q (Nat.lt_of_lt_of_le h1 hw.2.2.1)]
  exact hw.2.2.2.1 q h1 h2
end Q5
def r0 (k : Nat) : Room := { frames := k, cells := 0, slots := 0, locals := 40 * k }
def r1 (k : Nat) : Room := { frames := k, cells := 1, slots := 6, locals := 40 * k }
theorem argc (x lo hi : Int32) : (¬ x < lo ∧ x ≤ hi) ∨ (x < lo ∨ ¬ x ≤ hi) := by
  by_cases h1 : x < lo
  · exact Or.inr (Or.inl h1)
  · by_cases h2 : x ≤ hi
    · exact Or.inl ⟨h1, h2⟩
    · exact Or.inr (Or.inr h2)
theorem ixc (x : Int32) (n : Nat) (hn : n < 2 ^ 31) : (∃ t, t < n ∧ x = nI t) ∨ (x < 0 ∨ ¬ x < nI n) := by
  rcases pk_ix x hn with h | h | h
  · exact Or.inr (Or.inl h)
  · refine Or.inr (Or.inr ?_)
    rw [Int32.lt_iff_toInt_lt]
    rw [Int32.le_iff_toInt_le] at h
    omega
  · exact Or.inl h
theorem argn (x : Int32) (lo hi : Nat) (hh : hi < 2 ^ 31) (hlo : lo < 2 ^ 31) : (∃ k, (lo ≤ k ∧ k ≤ hi) ∧ x = nI k) ∨ (x < nI lo ∨ ¬ x ≤ nI hi) := by
  by_cases h0 : x < nI lo
  · exact Or.inr (Or.inl h0)
  by_cases h1 : x ≤ nI hi
  · refine Or.inl ?_
    rw [Int32.lt_iff_toInt_lt, nI_toInt hlo] at h0
    rw [Int32.le_iff_toInt_le, nI_toInt hh] at h1
    have hz : ¬ x < 0 := by rw [Int32.lt_iff_toInt_lt, Int32.toInt_zero]; omega
    obtain ⟨j, hj, rfl⟩ := nI_of hz
    rw [nI_toInt hj] at h0 h1
    exact ⟨j, ⟨by omega, by omega⟩, rfl⟩
  · exact Or.inr (Or.inr h1)
theorem sw3 (x : Int32) : x = 1 ∨ x = 2 ∨ x = 3 ∨ ((¬ x = 1 ∧ ¬ x = 2 ∧ ¬ x = 3) ∧ (x.toInt < 1 ∨ 3 < x.toInt)) := by
  by_cases h1 : x = 1
  · exact Or.inl h1
  by_cases h2 : x = 2
  · exact Or.inr (Or.inl h2)
  by_cases h3 : x = 3
  · exact Or.inr (Or.inr (Or.inl h3))
  refine Or.inr (Or.inr (Or.inr ⟨⟨h1, h2, h3⟩, ?_⟩))
  have g1 : ¬ x.toInt = 1 := fun q => h1 (Int32.toInt_inj.mp q)
  have g2 : ¬ x.toInt = 2 := fun q => h2 (Int32.toInt_inj.mp q)
  have g3 : ¬ x.toInt = 3 := fun q => h3 (Int32.toInt_inj.mp q)
  omega
theorem sw_in (x : Int32) (n : Nat) (hn : n < 2 ^ 31) : (∃ j, j < n ∧ x = nI j) ∨ (x.toInt < 0 ∨ (n : Int) ≤ x.toInt) := by
  rcases pk_ix x hn with h | h | h
  · rw [Int32.lt_iff_toInt_lt, Int32.toInt_zero] at h; exact Or.inr (Or.inl h)
  · rw [Int32.le_iff_toInt_le, nI_toInt hn] at h; exact Or.inr (Or.inr h)
  · exact Or.inl h
theorem sw6 (x : Int32) : x = 0 ∨ x = 1 ∨ x = 2 ∨ x = 3 ∨ x = 4 ∨ x = 5 ∨ (x.toInt < 0 ∨ 5 < x.toInt) := by
  rcases sw_in x 6 (by decide) with ⟨j, hj, rfl⟩ | h
  · rcases (show j = 0 ∨ j = 1 ∨ j = 2 ∨ j = 3 ∨ j = 4 ∨ j = 5 by omega) with rfl | rfl | rfl | rfl | rfl | rfl
    · exact Or.inl rfl
    · exact Or.inr (Or.inl rfl)
    · exact Or.inr (Or.inr (Or.inl rfl))
    · exact Or.inr (Or.inr (Or.inr (Or.inl rfl)))
    · exact Or.inr (Or.inr (Or.inr (Or.inr (Or.inl rfl))))
    · exact Or.inr (Or.inr (Or.inr (Or.inr (Or.inr (Or.inl rfl)))))
  · exact Or.inr (Or.inr (Or.inr (Or.inr (Or.inr (Or.inr (by omega))))))
theorem sw8 (x : Int32) : x = 0 ∨ x = 1 ∨ x = 2 ∨ x = 3 ∨ x = 4 ∨ x = 5 ∨ x = 6 ∨ x = 7 ∨ ((¬ x = 0 ∧ ¬ x = 1 ∧ ¬ x = 2 ∧ ¬ x = 3 ∧ ¬ x = 4 ∧ ¬ x = 5 ∧ ¬ x = 6 ∧ ¬ x = 7) ∧ (x.toInt < 0 ∨ 7 < x.toInt)) := by
  rcases sw_in x 8 (by decide) with ⟨j, hj, rfl⟩ | h
  · rcases (show j = 0 ∨ j = 1 ∨ j = 2 ∨ j = 3 ∨ j = 4 ∨ j = 5 ∨ j = 6 ∨ j = 7 by omega) with rfl | rfl | rfl | rfl | rfl | rfl | rfl | rfl
    · exact Or.inl rfl
    · exact Or.inr (Or.inl rfl)
    · exact Or.inr (Or.inr (Or.inl rfl))
    · exact Or.inr (Or.inr (Or.inr (Or.inl rfl)))
    · exact Or.inr (Or.inr (Or.inr (Or.inr (Or.inl rfl))))
    · exact Or.inr (Or.inr (Or.inr (Or.inr (Or.inr (Or.inl rfl)))))
    · exact Or.inr (Or.inr (Or.inr (Or.inr (Or.inr (Or.inr (Or.inl rfl))))))
    · exact Or.inr (Or.inr (Or.inr (Or.inr (Or.inr (Or.inr (Or.inr (Or.inl rfl)))))))
  · have h2 : x.toInt < 0 ∨ 7 < x.toInt := by omega
    have ne : ∀ (k : Int32), 0 ≤ k.toInt → k.toInt ≤ 7 → ¬ x = k := fun k k1 k2 q => by subst q; omega
    exact Or.inr (Or.inr (Or.inr (Or.inr (Or.inr (Or.inr (Or.inr (Or.inr ⟨⟨ne 0 (by decide) (by decide), ne 1 (by decide) (by decide), ne 2 (by decide) (by decide), ne 3 (by decide) (by decide), ne 4 (by decide) (by decide), ne 5 (by decide) (by decide), ne 6 (by decide) (by decide), ne 7 (by decide) (by decide)⟩, h2⟩)))))))
theorem nI_m1 {t : Nat} (h : t < 2 ^ 31) : ¬ nI t = -1 := fun q => nI_pos h (by rw [q]; decide)
theorem ix_of {x : Int32} {K : Nat} (h0 : ¬ x < 0) (h1 : x < nI K) (hK : K < 2 ^ 31) : ∃ j, j < K ∧ x = nI j := by
  rcases ixc x K hK with h | h | h
  · exact h
  · exact absurd h h0
  · exact absurd h1 h
theorem takec (x : Int32) (n : Nat) (hn : n < 2 ^ 31) : x = -1 ∨ (∃ t, t < n ∧ x = nI t) ∨ ((x < 0 ∨ ¬ x < nI n) ∧ ¬ x = -1) := by
  by_cases h : x = -1
  · exact Or.inl h
  · rcases ixc x n hn with h1 | h1
    · exact Or.inr (Or.inl h1)
    · exact Or.inr (Or.inr ⟨h1, h⟩)
