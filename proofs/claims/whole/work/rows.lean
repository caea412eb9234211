section
-- ===== PART A: goes FIRST, ahead of the names: the tables' words, and 'selects' of the private methods out of them =====
/-- a private method of a class that the tables say can be made, by its rows of tables_1 -/
def lw_okq (q : MethodName × Nat) : Prop := (q.1.cls ≠ "java/lang/invoke/MethodHandle" ∧ q.1.cls ≠ "java/lang/invoke/VarHandle") ∧ Cond.instantiable q.1.cls q.2 ∈ tables_1 ∧ Cond.privateMethod q.1 ∈ tables_1 ∧ Cond.instanceMethod q.1 ∈ tables_1
theorem lw_p0 : lw_okq (⟨"ThreadSlots", "playCycle", "()I"⟩, 13) := ⟨⟨by decide +kernel, by decide +kernel⟩, List.mem_of_getElem? (i := 13) (by decide +kernel), List.mem_of_getElem? (i := 133) (by decide +kernel), List.mem_of_getElem? (i := 134) (by decide +kernel)⟩
theorem lw_p1 : lw_okq (⟨"ThreadSlots", "seeWhoCanGo", "()V"⟩, 13) := ⟨⟨by decide +kernel, by decide +kernel⟩, List.mem_of_getElem? (i := 13) (by decide +kernel), List.mem_of_getElem? (i := 137) (by decide +kernel), List.mem_of_getElem? (i := 138) (by decide +kernel)⟩
theorem lw_p2 : lw_okq (⟨"ThreadSlots", "findGoer", "()I"⟩, 13) := ⟨⟨by decide +kernel, by decide +kernel⟩, List.mem_of_getElem? (i := 13) (by decide +kernel), List.mem_of_getElem? (i := 141) (by decide +kernel), List.mem_of_getElem? (i := 142) (by decide +kernel)⟩
theorem lw_p3 : lw_okq (⟨"ThreadSlots", "choose", "()I"⟩, 13) := ⟨⟨by decide +kernel, by decide +kernel⟩, List.mem_of_getElem? (i := 13) (by decide +kernel), List.mem_of_getElem? (i := 145) (by decide +kernel), List.mem_of_getElem? (i := 146) (by decide +kernel)⟩
theorem lw_p4 : lw_okq (⟨"ThreadSlots", "findOverdue", "()I"⟩, 13) := ⟨⟨by decide +kernel, by decide +kernel⟩, List.mem_of_getElem? (i := 13) (by decide +kernel), List.mem_of_getElem? (i := 149) (by decide +kernel), List.mem_of_getElem? (i := 150) (by decide +kernel)⟩
theorem lw_p5 : lw_okq (⟨"ThreadSlots", "greatestRank", "()I"⟩, 13) := ⟨⟨by decide +kernel, by decide +kernel⟩, List.mem_of_getElem? (i := 13) (by decide +kernel), List.mem_of_getElem? (i := 153) (by decide +kernel), List.mem_of_getElem? (i := 154) (by decide +kernel)⟩
theorem lw_p6 : lw_okq (⟨"ThreadSlots", "findFewest", "(I)I"⟩, 13) := ⟨⟨by decide +kernel, by decide +kernel⟩, List.mem_of_getElem? (i := 13) (by decide +kernel), List.mem_of_getElem? (i := 157) (by decide +kernel), List.mem_of_getElem? (i := 158) (by decide +kernel)⟩
theorem lw_p7 : lw_okq (⟨"ThreadSlots", "isCandidate", "(LThreadSlots$Strand;I)Z"⟩, 13) := ⟨⟨by decide +kernel, by decide +kernel⟩, List.mem_of_getElem? (i := 13) (by decide +kernel), List.mem_of_getElem? (i := 161) (by decide +kernel), List.mem_of_getElem? (i := 162) (by decide +kernel)⟩
theorem lw_p8 : lw_okq (⟨"ThreadSlots", "findBySeed", "(I)I"⟩, 13) := ⟨⟨by decide +kernel, by decide +kernel⟩, List.mem_of_getElem? (i := 13) (by decide +kernel), List.mem_of_getElem? (i := 165) (by decide +kernel), List.mem_of_getElem? (i := 166) (by decide +kernel)⟩
theorem lw_p9 : lw_okq (⟨"ThreadSlots", "findNextInTurn", "(I)I"⟩, 13) := ⟨⟨by decide +kernel, by decide +kernel⟩, List.mem_of_getElem? (i := 13) (by decide +kernel), List.mem_of_getElem? (i := 171) (by decide +kernel), List.mem_of_getElem? (i := 172) (by decide +kernel)⟩
theorem lw_p10 : lw_okq (⟨"ThreadSlots", "beginChangeTo", "(I)V"⟩, 13) := ⟨⟨by decide +kernel, by decide +kernel⟩, List.mem_of_getElem? (i := 13) (by decide +kernel), List.mem_of_getElem? (i := 175) (by decide +kernel), List.mem_of_getElem? (i := 176) (by decide +kernel)⟩
theorem lw_p11 : lw_okq (⟨"ThreadSlots", "letOthersWait", "(I)V"⟩, 13) := ⟨⟨by decide +kernel, by decide +kernel⟩, List.mem_of_getElem? (i := 13) (by decide +kernel), List.mem_of_getElem? (i := 179) (by decide +kernel), List.mem_of_getElem? (i := 180) (by decide +kernel)⟩
theorem lw_p12 : lw_okq (⟨"ThreadSlots", "letGo", "(I)V"⟩, 13) := ⟨⟨by decide +kernel, by decide +kernel⟩, List.mem_of_getElem? (i := 13) (by decide +kernel), List.mem_of_getElem? (i := 186) (by decide +kernel), List.mem_of_getElem? (i := 187) (by decide +kernel)⟩
theorem lw_p13 : lw_okq (⟨"ThreadSlots", "entriesInAll", "()I"⟩, 13) := ⟨⟨by decide +kernel, by decide +kernel⟩, List.mem_of_getElem? (i := 13) (by decide +kernel), List.mem_of_getElem? (i := 194) (by decide +kernel), List.mem_of_getElem? (i := 195) (by decide +kernel)⟩
theorem lw_p14 : lw_okq (⟨"java/lang/Throwable", "fillInStackTrace", "(I)Ljava/lang/Throwable;"⟩, 6) := ⟨⟨by decide +kernel, by decide +kernel⟩, List.mem_of_getElem? (i := 250) (by decide +kernel), List.mem_of_getElem? (i := 248) (by decide +kernel), List.mem_of_getElem? (i := 249) (by decide +kernel)⟩
theorem lw_p15 : lw_okq (⟨"ThreadSlots", "strandOf", "(I)LThreadSlots$Strand;"⟩, 13) := ⟨⟨by decide +kernel, by decide +kernel⟩, List.mem_of_getElem? (i := 13) (by decide +kernel), List.mem_of_getElem? (i := 302) (by decide +kernel), List.mem_of_getElem? (i := 303) (by decide +kernel)⟩
def lw_privs_1 : List (MethodName × Nat) := [(⟨"ThreadSlots", "playCycle", "()I"⟩, 13), (⟨"ThreadSlots", "seeWhoCanGo", "()V"⟩, 13), (⟨"ThreadSlots", "findGoer", "()I"⟩, 13), (⟨"ThreadSlots", "choose", "()I"⟩, 13), (⟨"ThreadSlots", "findOverdue", "()I"⟩, 13), (⟨"ThreadSlots", "greatestRank", "()I"⟩, 13), (⟨"ThreadSlots", "findFewest", "(I)I"⟩, 13), (⟨"ThreadSlots", "isCandidate", "(LThreadSlots$Strand;I)Z"⟩, 13), (⟨"ThreadSlots", "findBySeed", "(I)I"⟩, 13), (⟨"ThreadSlots", "findNextInTurn", "(I)I"⟩, 13), (⟨"ThreadSlots", "beginChangeTo", "(I)V"⟩, 13), (⟨"ThreadSlots", "letOthersWait", "(I)V"⟩, 13), (⟨"ThreadSlots", "letGo", "(I)V"⟩, 13), (⟨"ThreadSlots", "entriesInAll", "()I"⟩, 13), (⟨"java/lang/Throwable", "fillInStackTrace", "(I)Ljava/lang/Throwable;"⟩, 6), (⟨"ThreadSlots", "strandOf", "(I)LThreadSlots$Strand;"⟩, 13)]
theorem lw_r1 : ∀ q ∈ lw_privs_1, lw_okq q := List.forall_mem_cons.mpr ⟨lw_p0, List.forall_mem_cons.mpr ⟨lw_p1, List.forall_mem_cons.mpr ⟨lw_p2, List.forall_mem_cons.mpr ⟨lw_p3, List.forall_mem_cons.mpr ⟨lw_p4, List.forall_mem_cons.mpr ⟨lw_p5, List.forall_mem_cons.mpr ⟨lw_p6, List.forall_mem_cons.mpr ⟨lw_p7, List.forall_mem_cons.mpr ⟨lw_p8, List.forall_mem_cons.mpr ⟨lw_p9, List.forall_mem_cons.mpr ⟨lw_p10, List.forall_mem_cons.mpr ⟨lw_p11, List.forall_mem_cons.mpr ⟨lw_p12, List.forall_mem_cons.mpr ⟨lw_p13, List.forall_mem_cons.mpr ⟨lw_p14, List.forall_mem_cons.mpr ⟨lw_p15, fun _ h => absurd h List.not_mem_nil⟩⟩⟩⟩⟩⟩⟩⟩⟩⟩⟩⟩⟩⟩⟩⟩
theorem lw_p16 : lw_okq (⟨"ThreadSlots", "lineOf", "(I)LThreadSlots$Line;"⟩, 13) := ⟨⟨by decide +kernel, by decide +kernel⟩, List.mem_of_getElem? (i := 13) (by decide +kernel), List.mem_of_getElem? (i := 361) (by decide +kernel), List.mem_of_getElem? (i := 362) (by decide +kernel)⟩
theorem lw_p17 : lw_okq (⟨"ThreadSlots$Line", "entriesOf", "(I)I"⟩, 4) := ⟨⟨by decide +kernel, by decide +kernel⟩, List.mem_of_getElem? (i := 65) (by decide +kernel), List.mem_of_getElem? (i := 372) (by decide +kernel), List.mem_of_getElem? (i := 373) (by decide +kernel)⟩
theorem lw_p18 : lw_okq (⟨"ThreadSlots$Line", "append", "(II)V"⟩, 4) := ⟨⟨by decide +kernel, by decide +kernel⟩, List.mem_of_getElem? (i := 65) (by decide +kernel), List.mem_of_getElem? (i := 376) (by decide +kernel), List.mem_of_getElem? (i := 377) (by decide +kernel)⟩
theorem lw_p19 : lw_okq (⟨"ThreadSlots$Line", "firstOf", "(I)I"⟩, 4) := ⟨⟨by decide +kernel, by decide +kernel⟩, List.mem_of_getElem? (i := 65) (by decide +kernel), List.mem_of_getElem? (i := 388) (by decide +kernel), List.mem_of_getElem? (i := 389) (by decide +kernel)⟩
theorem lw_p20 : lw_okq (⟨"ThreadSlots$Line", "close", "(I)V"⟩, 4) := ⟨⟨by decide +kernel, by decide +kernel⟩, List.mem_of_getElem? (i := 65) (by decide +kernel), List.mem_of_getElem? (i := 408) (by decide +kernel), List.mem_of_getElem? (i := 409) (by decide +kernel)⟩
theorem lw_p21 : lw_okq (⟨"ThreadSlotsModel", "fail", "(I)I"⟩, 26) := ⟨⟨by decide +kernel, by decide +kernel⟩, List.mem_of_getElem? (i := 451) (by decide +kernel), List.mem_of_getElem? (i := 549) (by decide +kernel), List.mem_of_getElem? (i := 550) (by decide +kernel)⟩
theorem lw_p22 : lw_okq (⟨"ThreadSlotsModel", "isThread", "(I)Z"⟩, 26) := ⟨⟨by decide +kernel, by decide +kernel⟩, List.mem_of_getElem? (i := 451) (by decide +kernel), List.mem_of_getElem? (i := 565) (by decide +kernel), List.mem_of_getElem? (i := 566) (by decide +kernel)⟩
theorem lw_p23 : lw_okq (⟨"ThreadSlotsModel", "step", "()I"⟩, 26) := ⟨⟨by decide +kernel, by decide +kernel⟩, List.mem_of_getElem? (i := 451) (by decide +kernel), List.mem_of_getElem? (i := 586) (by decide +kernel), List.mem_of_getElem? (i := 587) (by decide +kernel)⟩
theorem lw_p24 : lw_okq (⟨"ThreadSlotsModel", "goes", "()I"⟩, 26) := ⟨⟨by decide +kernel, by decide +kernel⟩, List.mem_of_getElem? (i := 451) (by decide +kernel), List.mem_of_getElem? (i := 590) (by decide +kernel), List.mem_of_getElem? (i := 591) (by decide +kernel)⟩
theorem lw_p25 : lw_okq (⟨"ThreadSlotsModel", "canGo", "(I)Z"⟩, 26) := ⟨⟨by decide +kernel, by decide +kernel⟩, List.mem_of_getElem? (i := 451) (by decide +kernel), List.mem_of_getElem? (i := 594) (by decide +kernel), List.mem_of_getElem? (i := 595) (by decide +kernel)⟩
theorem lw_p26 : lw_okq (⟨"ThreadSlotsModel", "choose", "()I"⟩, 26) := ⟨⟨by decide +kernel, by decide +kernel⟩, List.mem_of_getElem? (i := 451) (by decide +kernel), List.mem_of_getElem? (i := 598) (by decide +kernel), List.mem_of_getElem? (i := 599) (by decide +kernel)⟩
theorem lw_p27 : lw_okq (⟨"ThreadSlotsModel", "topRank", "()I"⟩, 26) := ⟨⟨by decide +kernel, by decide +kernel⟩, List.mem_of_getElem? (i := 451) (by decide +kernel), List.mem_of_getElem? (i := 602) (by decide +kernel), List.mem_of_getElem? (i := 603) (by decide +kernel)⟩
theorem lw_p28 : lw_okq (⟨"ThreadSlotsModel", "overdue", "()I"⟩, 26) := ⟨⟨by decide +kernel, by decide +kernel⟩, List.mem_of_getElem? (i := 451) (by decide +kernel), List.mem_of_getElem? (i := 606) (by decide +kernel), List.mem_of_getElem? (i := 607) (by decide +kernel)⟩
theorem lw_p29 : lw_okq (⟨"ThreadSlotsModel", "turn", "(I)I"⟩, 26) := ⟨⟨by decide +kernel, by decide +kernel⟩, List.mem_of_getElem? (i := 451) (by decide +kernel), List.mem_of_getElem? (i := 610) (by decide +kernel), List.mem_of_getElem? (i := 611) (by decide +kernel)⟩
theorem lw_p30 : lw_okq (⟨"ThreadSlotsModel", "drawn", "(I)I"⟩, 26) := ⟨⟨by decide +kernel, by decide +kernel⟩, List.mem_of_getElem? (i := 451) (by decide +kernel), List.mem_of_getElem? (i := 614) (by decide +kernel), List.mem_of_getElem? (i := 615) (by decide +kernel)⟩
theorem lw_p31 : lw_okq (⟨"ThreadSlotsModel", "fewest", "(IZ)I"⟩, 26) := ⟨⟨by decide +kernel, by decide +kernel⟩, List.mem_of_getElem? (i := 451) (by decide +kernel), List.mem_of_getElem? (i := 620) (by decide +kernel), List.mem_of_getElem? (i := 621) (by decide +kernel)⟩
def lw_privs_2 : List (MethodName × Nat) := [(⟨"ThreadSlots", "lineOf", "(I)LThreadSlots$Line;"⟩, 13), (⟨"ThreadSlots$Line", "entriesOf", "(I)I"⟩, 4), (⟨"ThreadSlots$Line", "append", "(II)V"⟩, 4), (⟨"ThreadSlots$Line", "firstOf", "(I)I"⟩, 4), (⟨"ThreadSlots$Line", "close", "(I)V"⟩, 4), (⟨"ThreadSlotsModel", "fail", "(I)I"⟩, 26), (⟨"ThreadSlotsModel", "isThread", "(I)Z"⟩, 26), (⟨"ThreadSlotsModel", "step", "()I"⟩, 26), (⟨"ThreadSlotsModel", "goes", "()I"⟩, 26), (⟨"ThreadSlotsModel", "canGo", "(I)Z"⟩, 26), (⟨"ThreadSlotsModel", "choose", "()I"⟩, 26), (⟨"ThreadSlotsModel", "topRank", "()I"⟩, 26), (⟨"ThreadSlotsModel", "overdue", "()I"⟩, 26), (⟨"ThreadSlotsModel", "turn", "(I)I"⟩, 26), (⟨"ThreadSlotsModel", "drawn", "(I)I"⟩, 26), (⟨"ThreadSlotsModel", "fewest", "(IZ)I"⟩, 26)]
theorem lw_r2 : ∀ q ∈ lw_privs_2, lw_okq q := List.forall_mem_cons.mpr ⟨lw_p16, List.forall_mem_cons.mpr ⟨lw_p17, List.forall_mem_cons.mpr ⟨lw_p18, List.forall_mem_cons.mpr ⟨lw_p19, List.forall_mem_cons.mpr ⟨lw_p20, List.forall_mem_cons.mpr ⟨lw_p21, List.forall_mem_cons.mpr ⟨lw_p22, List.forall_mem_cons.mpr ⟨lw_p23, List.forall_mem_cons.mpr ⟨lw_p24, List.forall_mem_cons.mpr ⟨lw_p25, List.forall_mem_cons.mpr ⟨lw_p26, List.forall_mem_cons.mpr ⟨lw_p27, List.forall_mem_cons.mpr ⟨lw_p28, List.forall_mem_cons.mpr ⟨lw_p29, List.forall_mem_cons.mpr ⟨lw_p30, List.forall_mem_cons.mpr ⟨lw_p31, fun _ h => absurd h List.not_mem_nil⟩⟩⟩⟩⟩⟩⟩⟩⟩⟩⟩⟩⟩⟩⟩⟩
theorem lw_p32 : lw_okq (⟨"ThreadSlotsModel", "isQueue", "(I)Z"⟩, 26) := ⟨⟨by decide +kernel, by decide +kernel⟩, List.mem_of_getElem? (i := 451) (by decide +kernel), List.mem_of_getElem? (i := 632) (by decide +kernel), List.mem_of_getElem? (i := 633) (by decide +kernel)⟩
theorem lw_p33 : lw_okq (⟨"ThreadSlotsModel", "has", "(II)I"⟩, 26) := ⟨⟨by decide +kernel, by decide +kernel⟩, List.mem_of_getElem? (i := 451) (by decide +kernel), List.mem_of_getElem? (i := 640) (by decide +kernel), List.mem_of_getElem? (i := 641) (by decide +kernel)⟩
def lw_privs_3 : List (MethodName × Nat) := [(⟨"ThreadSlotsModel", "isQueue", "(I)Z"⟩, 26), (⟨"ThreadSlotsModel", "has", "(II)I"⟩, 26)]
theorem lw_r3 : ∀ q ∈ lw_privs_3, lw_okq q := List.forall_mem_cons.mpr ⟨lw_p32, List.forall_mem_cons.mpr ⟨lw_p33, fun _ h => absurd h List.not_mem_nil⟩⟩
def lw_privs : List (MethodName × Nat) := lw_privs_1 ++ (lw_privs_2 ++ (lw_privs_3))
def lw_tbl : List Cond := k2_sels lw_privs ++ tables_1
theorem lw_privs_ok : ∀ q ∈ lw_privs, lw_okq q := by
  show ∀ q ∈ lw_privs_1 ++ (lw_privs_2 ++ (lw_privs_3)), lw_okq q
  exact List.forall_mem_append.mpr ⟨lw_r1, List.forall_mem_append.mpr ⟨lw_r2, lw_r3⟩⟩
end
section
/-! ===== BEGIN words of one list among another's, by their places ===== -/
theorem goodIn_r {big : List Cond} (ws : List Cond) (ps : List Nat) (hp : ws = ps.filterMap (fun i => big[i]?)) (h : ws.all goodWord = true) : GoodIn big ws := by
  intro w hw
  have h1 := List.all_eq_true.mp h w hw
  rw [hp] at hw
  obtain ⟨i, -, hi⟩ := List.mem_filterMap.mp hw
  have hm : w ∈ big := by first | exact List.mem_of_getElem? hi | exact List.getElem?_mem hi
  exact ⟨hm, good_of_word h1⟩
theorem goodIn_app {big a b : List Cond} (ha : GoodIn big a) (hb : GoodIn big b) : GoodIn big (a ++ b) := fun w h => (List.mem_append.mp h).elim (ha w) (hb w)
theorem goodIn_ca {big a b : List Cond} {c : Cond} (ha : GoodIn big (c :: a)) (hb : GoodIn big b) : GoodIn big (c :: (a ++ b)) := fun w h => (List.mem_cons.mp h).elim (fun e => ha w (List.mem_cons.mpr (Or.inl e))) (fun h => (List.mem_append.mp h).elim (fun h => ha w (List.mem_cons.mpr (Or.inr h))) (hb w))
theorem goodIn_sub {big ws : List Cond} (hm : ∀ w ∈ ws, w ∈ big) (h : ws.all goodWord = true) : GoodIn big ws := fun w hw => ⟨hm w hw, good_of_word (List.all_eq_true.mp h w hw)⟩
/-! ===== END ===== -/

/-! ===== BEGIN exceptions that leave a method, and their catching by the caller (launches without stack traces) ===== -/
section VXA
/-! The laws vx_back, vx_callV, vx_callS, vx_callSW, vx_throw0, vx_throwS follow proofs of the library, with one case more: JvmDerived/Free/Laws.lean (Back.of_free), Shelf42/LK1.lean (callV, callS), Shelf/KitTraced.lean (throwNew0V, throwNewS). -/
/-- where a method has thrown q: the class by its name, the cell, what was written, the world -/
def vx_T (XC : String → State → State → Prop) (st : State) (q : Addr) (t : State) (mc ms : Nat) (free : Addr → Prop) : Prop :=
  ∃ (E : String) (ce : Cell) (L : List Loc), XC E st t ∧ t.heap[q]? = some ce ∧ ce.vm = .none ∧ st.vm.findClass E = some ce.cls ∧ st.WarmedH t.vm ∧ st.sameButNew ({ t with vm := st.vm } : State) L mc ms ∧ ∀ z ∈ L, free z.base
def vx_Q (Qc : Array Value → State → Outcome → State → Prop) (XC : String → State → State → Prop) (mc ms : Nat) (free : Addr → Prop) : Array Value → State → Outcome → State → Prop := fun a st o t =>
  (Qc a st o t ∧ ∃ L, FrameEnd st o t L mc ms ∧ ∀ q ∈ L, free q.base) ∨ ∃ q, o = .threw q ∧ vx_T XC st q t mc ms free
/-- a callee that returns or throws -/
def vx_Met (l : Launch) (y : MethodName) (ws : List Cond) (rm : Room) (Pc : Array Value → State → Prop) (Qc : Array Value → State → Outcome → State → Prop) (XC : String → State → State → Prop) (mc ms : Nat) (free : Addr → Prop) : Prop :=
  MetFree l y (headSpec ws rm) Pc (fun _ _ _ _ _ => True) (vx_Q Qc XC mc ms free)
def vx_Post (XC : String → State → State → Prop) (mc ms : Nat) (free : Addr → Prop) : Pt → Array Value → Addr → Pt → Prop := fun A a q B =>
  ∃ (g : JFrame) (mk : MethodId) (t : State) (L : List Loc) (E : String) (ce : Cell), B.U.heap = t.heap ∧ B.U.vm = t.vm ∧ XC E (A.U.calling g mk a) t ∧ t.heap[q]? = some ce ∧ ce.vm = .none ∧ A.U.vm.findClass E = some ce.cls ∧ B.locs = A.locs ++ L ∧ (∀ z ∈ L, free z.base) ∧ B.cells = A.cells + mc ∧ B.slots = A.slots + ms
def vx_Back (l : Launch) (R : Room) (p : Program) (e : Env) (below : List Frame) (s : State) (sargs : Array Value) (y : MethodName) (len W9 : Nat)
    (Pre : Pt → Array Value → Prop) (Post : Pt → Array Value → Option Value → Pt → Prop) (PostX : Pt → Array Value → Addr → Pt → Prop) : Prop :=
  ∀ (m : MethodId) (meth : Method) (c : Code) (A : Pt) (g : JFrame) (ig : Instr) (mk : MethodId) (a : Array Value),
    Stand p l e R s m sargs below meth c A.U A.locs A.cells A.slots → g.method = m → g.locals.size = c.maxLocals → decode c.code g.pc = .ok (ig, len) →
    2 * g.monitorRoom + (g.stack.map fun v => v.category).sum ≤ W9 → A.U.methodNamed? y = some mk → Pre A a →
    (∃ (v : Option Value) (B : Pt), Stand p l e R s m sargs below meth c B.U B.locs B.cells B.slots ∧ Post A a v B ∧
      Steps p.tables e below (doInvoke e (A.U.setTop g) [] mk a).1 (B.U.setTop { g with pc := g.pc + len, stack := v.toList ++ g.stack })) ∨
    (∃ (q : Addr) (B : Pt), Stand p l e R s m sargs below meth c B.U B.locs B.cells B.slots ∧ PostX A a q B ∧
      Steps p.tables e below (doInvoke e (A.U.setTop g) [] mk a).1 ((B.U.setTop g).pushFrame (.throwing q)))
section Payer
variable {l : Launch} {R : Room} {p : Program} {e : Env} {below : List Frame} {s : State} {sargs : Array Value} {y : MethodName} {len W9 : Nat}
theorem vx_back {ws : List Cond} {rm : Room} {Pc : Array Value → State → Prop} {Qc : Array Value → State → Outcome → State → Prop} {XC : String → State → State → Prop} {mc ms : Nat} {free : Addr → Prop} {bytes : ByteArray} {maxL : Nat} {ret : Option FieldType}
    (hM : vx_Met l y ws rm Pc Qc XC mc ms free) (hblind : FrameBlind Pc) (hrc : rm.cells = mc) (hrs : rm.slots = ms)
    (hframes : rm.frames + 1 ≤ R.frames) (hlocals : W9 + (maxL + 11) + rm.locals ≤ R.locals)
    (hws : ∀ w ∈ ws, ∀ a' U, s.WarmedH U.vm → w.before a' U = true) (hcode : Cond.code y bytes maxL ret ∈ ws) (hinit : ∀ a' U, s.WarmedH U.vm → (Cond.initialized y.cls).before a' U = true) :
    vx_Back l R p e below s sargs y len W9 (PreOf R mc ms Pc) (PostOf Qc mc ms free) (vx_Post XC mc ms free) := by
  intro m meth c A g ig mk a X hg hsize hdg hW hn hp
  have h1 : (headSpec ws rm).pre.before a A.U = true := atoms_intro fun w hw => hws w hw _ _ X.warmed
  have h2 : (Cond.code y bytes maxL ret).before a A.U = true := hws _ hcode _ _ X.warmed
  have h3 : (Cond.initialized y.cls).before a A.U = true := hinit _ _ X.warmed
  have h4 : A.cells + (headSpec ws rm).room.cells ≤ R.cells := by rw [show (headSpec ws rm).room.cells = mc from hrc]; exact hp.1
  have h5 : A.slots + (headSpec ws rm).room.slots ≤ R.slots := by rw [show (headSpec ws rm).room.slots = ms from hrs]; exact hp.2.1
  have hPc : Pc a (A.U.calling g mk a) := hblind _ _ _ _ hp.2.2
  obtain ⟨U, Ls, c0, s0⟩ := A
  dsimp only [Pt.U, Pt.locs, Pt.cells, Pt.slots] at h1 h2 h3 h4 h5 X hn hPc ⊢
  obtain ⟨methY, cY, hmY, hcY, -, hlY, -, -, -, -⟩ := Cond.code_spec hn h2
  obtain ⟨kY, hkY, -⟩ := className_of_methodNamed hn
  have hinitY : kY.init = .initialized := Cond.initialized_spec (findClass_of_methodNamed hn) hkY h3
  have h : At U g.method c below := by rw [hg]; exact X.here
  have hlocals9 : W9 + (maxL + 11) + (headSpec ws rm).room.locals ≤ R.locals := hlocals
  have happ : (headSpec ws rm).appliesLoose y e.platform (U.calling g mk a) = true :=
    Spec.appliesLoose_calling (g := g) h hdg hn hkY hinitY
      (X.room_calling (g := g) (R' := (headSpec ws rm).room) hsize hmY hcY hframes (by rw [hlY]; omega) h4 h5) h1
  obtain ⟨mid, hmid⟩ := h.above
  have hfr : (U.setTop g).frames = (.java g :: mid) ++ below := by rw [State.frames_setTop' g h.top, hmid]; rfl
  obtain ⟨o, s₂, hsteps, -, hend, hq⟩ := Steps.callFree hM p X.admits X.cas X.clock (acts := []) hfr happ hPc trivial
  have hq' : vx_Q Qc XC mc ms free a (U.calling g mk a) o s₂ := hq
  rw [State.frames_setTop' g h.top] at hend
  obtain ⟨g₀, hg0⟩ := Option.isSome_iff_exists.mp h.top
  obtain ⟨r, hr⟩ := State.topJava?_eq_some.mp hg0
  have hr' : (({ U with heap := s₂.heap, slotsUsed := s₂.slotsUsed } : State).setVm s₂.vm).frames = .java g₀ :: r := hr
  rcases hq' with ⟨hqc, L, hfe, hL⟩ | ⟨q, rfl, E, ce, L, hx, hce, hcv, hcl, hW₂, hsm, hL⟩
  · obtain ⟨⟨v, rfl⟩, hW₂, e2, q2, q3, q4, q5, q6⟩ := id hfe
    have e3 : s₂ = ({ (U.calling g mk a).setFrames s₂.frames with heap := s₂.heap, slotsUsed := s₂.slotsUsed } : State).setVm s₂.vm := by
      have : s₂ = ({ s₂ with vm := (U.calling g mk a).vm } : State).setVm s₂.vm := rfl
      rw [e2] at this
      exact this
    obtain ⟨c₂, i₂, len₂, hc₂, hd₂, hf₂⟩ := hend
    have hW' : U.WarmedH s₂.vm := hW₂
    have hcc : c₂ = c := by
      have h1 : s₂.code? g.method = U.code? g.method := by
        rw [State.code?_eq, State.code?_eq, hW'.alike.method?]
      exact Option.some.inj (hc₂.symm.trans (h1.trans h.code))
    subst hcc
    have hlen : len₂ = len := by rw [hdg] at hd₂; cases hd₂; rfl
    subst hlen
    have hs₂ : s₂ = (({ U with heap := s₂.heap, slotsUsed := s₂.slotsUsed } : State).setVm s₂.vm).setTop { g with pc := g.pc + len₂, stack := v.toList ++ g.stack } := by
      refine e3.trans ?_
      rw [hf₂, State.calling_eq h.top, State.setFrames_setFrames, State.setTop_of_frames _ hr', hr]
      rfl
    have hsame : U.sameButNew ({ U with heap := s₂.heap, slotsUsed := s₂.slotsUsed } : State) L mc ms := by
      refine ⟨?_, q2, q3, q4, q5, q6⟩
      obtain ⟨t, ht, -⟩ := State.frames_cons hr
      show ({ U with heap := s₂.heap, slotsUsed := s₂.slotsUsed } : State) = { U.setFrames U.frames with heap := s₂.heap, slotsUsed := s₂.slotsUsed }
      rw [State.setFrames_self ht]
    subst hg
    refine Or.inl ⟨v, ⟨(({ U with heap := s₂.heap, slotsUsed := s₂.slotsUsed } : State).setVm s₂.vm), Ls ++ L, c0 + mc, s0 + ms⟩,
      ⟨X.admits, X.cas, X.clock, X.frames, X.room, X.hears, X.method, X.code, (X.here.setHeapUsed s₂.heap s₂.slotsUsed).setVm hW'.alike, X.tail, State.WarmedH.trans X.warmed hW', X.limits, X.bytes, X.same.trans (hsame.setVm s.vm)⟩,
      ⟨g, mk, s₂, L, rfl, rfl, hqc, rfl, hL, rfl, rfl⟩, ?_⟩
    show Steps p.tables e below _ ((({ U with heap := s₂.heap, slotsUsed := s₂.slotsUsed } : State).setVm s₂.vm).setTop { g with pc := g.pc + len₂, stack := v.toList ++ g.stack })
    rw [← hs₂]
    exact hsteps
  · obtain ⟨e2, q2, q3, q4, q5, q6⟩ := id hsm
    have e3 : s₂ = ({ (U.calling g mk a).setFrames s₂.frames with heap := s₂.heap, slotsUsed := s₂.slotsUsed } : State).setVm s₂.vm := by
      have : s₂ = ({ s₂ with vm := (U.calling g mk a).vm } : State).setVm s₂.vm := rfl
      rw [e2] at this
      exact this
    have hf₂ : s₂.frames = .throwing q :: .java g :: U.frames.tail := hend
    have hW' : U.WarmedH s₂.vm := hW₂
    have hs₂ : s₂ = ((({ U with heap := s₂.heap, slotsUsed := s₂.slotsUsed } : State).setVm s₂.vm).setTop g).pushFrame (.throwing q) := by
      refine e3.trans ?_
      rw [hf₂, State.calling_eq h.top, State.setFrames_setFrames, State.pushFrame, State.frames_setTop _ hr', State.setTop_of_frames _ hr', State.setFrames_setFrames, hr]
      rfl
    have hsame : U.sameButNew ({ U with heap := s₂.heap, slotsUsed := s₂.slotsUsed } : State) L mc ms := by
      refine ⟨?_, q2, q3, q4, q5, q6⟩
      obtain ⟨t, ht, -⟩ := State.frames_cons hr
      show ({ U with heap := s₂.heap, slotsUsed := s₂.slotsUsed } : State) = { U.setFrames U.frames with heap := s₂.heap, slotsUsed := s₂.slotsUsed }
      rw [State.setFrames_self ht]
    subst hg
    refine Or.inr ⟨q, ⟨(({ U with heap := s₂.heap, slotsUsed := s₂.slotsUsed } : State).setVm s₂.vm), Ls ++ L, c0 + mc, s0 + ms⟩,
      ⟨X.admits, X.cas, X.clock, X.frames, X.room, X.hears, X.method, X.code, (X.here.setHeapUsed s₂.heap s₂.slotsUsed).setVm hW'.alike, X.tail, State.WarmedH.trans X.warmed hW', X.limits, X.bytes, X.same.trans (hsame.setVm s.vm)⟩,
      ⟨g, mk, s₂, L, E, ce, rfl, rfl, hx, hce, hcv, hcl, rfl, hL, rfl, rfl⟩, ?_⟩
    show Steps p.tables e below _ (((({ U with heap := s₂.heap, slotsUsed := s₂.slotsUsed } : State).setVm s₂.vm).setTop g).pushFrame (.throwing q))
    rw [← hs₂]
    exact hsteps
end Payer
section Calls
variable {p : Program} {l : Launch} {e : Env} {R : Room} {s : State} {m : MethodId} {args : Array Value} {below : List Frame} {meth : Method} {c : Code} {T : State} {locs : List Loc} {cells slots : Nat}
theorem vx_callV (X : Stand p l e R s m args below meth c T locs cells slots) (hexec : p.tables.exec = Jvm.exec) {own C : String} {index : Nat} {y : MethodName} {bytes : ByteArray} {maxL : Nat} {ret : Option FieldType}
    (hown : s.vm.findClass own = some m.cls) (hlink : (Cond.methodLink own index y).before args s = true) (hinst : (Cond.instanceMethod y).before args s = true) (hsel : (Cond.selects C y y).before args s = true)
    (hcode : (Cond.code y bytes maxL ret).before args s = true) (hy : y.cls ≠ "java/lang/invoke/MethodHandle" ∧ y.cls ≠ "java/lang/invoke/VarHandle")
    {W9 : Nat} {Pre : Pt → Array Value → Prop} {Post : Pt → Array Value → Option Value → Pt → Prop} {PostX : Pt → Array Value → Addr → Pt → Prop} (hK : vx_Back l R p e below s args y 3 W9 Pre Post PostX)
    {b : Addr} {cellB : Cell} (hcell : T.heap[b]? = some cellB) (hobj : cellB.vm.isStatics = false) (hcls : s.vm.findClass C = some cellB.cls)
    {g : JFrame} (hg : g.method = m) (hsize : g.locals.size = c.maxLocals) {argsL rest : List Value} (hlen : ∀ sig, parseMethodDescriptor y.desc = some sig → argsL.length = sig.parameters.length)
    (hstack : g.stack = argsL.reverse ++ .ref b :: rest) (hW : 2 * g.monitorRoom + (rest.map fun v => v.category).sum ≤ W9) (hdg : decode c.code g.pc = .ok (.invokevirtual index, 3))
    (hpre : ∀ vm₁, s.WarmedH vm₁ → Pre ⟨T.setVm vm₁, locs, cells, slots⟩ (Value.ref b :: argsL).toArray) :
    (∃ (v : Option Value) (vm₁ : Vm) (B : Pt), s.WarmedH vm₁ ∧ Stand p l e R s m args below meth c B.U B.locs B.cells B.slots ∧ Post ⟨T.setVm vm₁, locs, cells, slots⟩ (Value.ref b :: argsL).toArray v B ∧
      ∀ target, Steps p.tables e below (B.U.setTop { g with pc := g.pc + 3, stack := v.toList ++ rest }) target → Steps p.tables e below (T.setTop g) target) ∨
    (∃ (q : Addr) (vm₁ : Vm) (B : Pt), s.WarmedH vm₁ ∧ Stand p l e R s m args below meth c B.U B.locs B.cells B.slots ∧ PostX ⟨T.setVm vm₁, locs, cells, slots⟩ (Value.ref b :: argsL).toArray q B ∧
      Steps p.tables e below (T.setTop g) ((B.U.setTop { g with stack := rest }).pushFrame (.throwing q))) := by
  obtain ⟨mk, methM, hnamed, hmethM, hstM, habM⟩ := Cond.instanceMethod_spec hinst
  obtain ⟨methM', cM, hmethM', -, -, -, -, -, -, hsigM⟩ := Cond.code_spec hnamed hcode
  cases hmethM.symm.trans hmethM'
  obtain ⟨c2, r2, m2, q1, q2, q3, q4, kP, hkP, hkPi⟩ := Cond.selects_spec hsel
  cases hcls.symm.trans q1
  cases (State.methodFound?_of_named hnamed hy).symm.trans q2
  cases hnamed.symm.trans q3
  have hselP : selectMethod e.platform s.vm cellB.cls mk = .method mk := by rw [Launch.admits_selectMethod X.admits]; exact q4
  obtain ⟨vm₁, X₁, hstep₁⟩ := X.invokevirtual hexec hown hlink hnamed hmethM hstM hkP hkPi hy (a := b) (cell := cellB) hcell
    (fun z h => by rw [h] at hobj; cases hobj) hselP hmethM habM hkP hkPi (g := g) hg (argsL := argsL) (rest := rest) (hlen _ hsigM) hstack hdg
  rcases hK m meth c ⟨T.setVm vm₁, locs, cells, slots⟩ { g with stack := rest } (.invokevirtual index) mk (Value.ref b :: argsL).toArray X₁ hg hsize hdg hW (X₁.named hnamed) (hpre vm₁ X₁.warmed) with ⟨v, B, X', hpost, hsteps⟩ | ⟨q, B, X', hpost, hsteps⟩
  · exact Or.inl ⟨v, vm₁, B, X₁.warmed, X', hpost, fun target h => hstep₁ _ fun acts => by rw [doInvoke_state]; exact hsteps.trans h⟩
  · exact Or.inr ⟨q, vm₁, B, X₁.warmed, X', hpost, hstep₁ _ fun acts => by rw [doInvoke_state]; exact hsteps⟩
theorem vx_callS (X : Stand p l e R s m args below meth c T locs cells slots) (hexec : p.tables.exec = Jvm.exec) {own : String} {index : Nat} {y : MethodName} {bytes : ByteArray} {maxL : Nat} {ret : Option FieldType}
    (hown : s.vm.findClass own = some m.cls) (hlink : (Cond.methodLink own index y).before args s = true) (hstat : (Cond.static y).before args s = true) (hinit : (Cond.initialized y.cls).before args s = true)
    (hcode : (Cond.code y bytes maxL ret).before args s = true) (hy : y.cls ≠ "java/lang/invoke/MethodHandle" ∧ y.cls ≠ "java/lang/invoke/VarHandle")
    {W9 : Nat} {Pre : Pt → Array Value → Prop} {Post : Pt → Array Value → Option Value → Pt → Prop} {PostX : Pt → Array Value → Addr → Pt → Prop} (hK : vx_Back l R p e below s args y 3 W9 Pre Post PostX)
    {g : JFrame} (hg : g.method = m) (hsize : g.locals.size = c.maxLocals) {argsL rest : List Value} (hlen : ∀ sig, parseMethodDescriptor y.desc = some sig → argsL.length = sig.parameters.length)
    (hstack : g.stack = argsL.reverse ++ rest) (hW : 2 * g.monitorRoom + (rest.map fun v => v.category).sum ≤ W9) (hdg : decode c.code g.pc = .ok (.invokestatic index, 3))
    (hpre : ∀ vm₁, s.WarmedH vm₁ → Pre ⟨T.setVm vm₁, locs, cells, slots⟩ argsL.toArray) :
    (∃ (v : Option Value) (vm₁ : Vm) (B : Pt), s.WarmedH vm₁ ∧ Stand p l e R s m args below meth c B.U B.locs B.cells B.slots ∧ Post ⟨T.setVm vm₁, locs, cells, slots⟩ argsL.toArray v B ∧
      ∀ target, Steps p.tables e below (B.U.setTop { g with pc := g.pc + 3, stack := v.toList ++ rest }) target → Steps p.tables e below (T.setTop g) target) ∨
    (∃ (q : Addr) (vm₁ : Vm) (B : Pt), s.WarmedH vm₁ ∧ Stand p l e R s m args below meth c B.U B.locs B.cells B.slots ∧ PostX ⟨T.setVm vm₁, locs, cells, slots⟩ argsL.toArray q B ∧
      Steps p.tables e below (T.setTop g) ((B.U.setTop { g with stack := rest }).pushFrame (.throwing q))) := by
  obtain ⟨mk, hnamed⟩ := Cond.code_named hcode
  obtain ⟨methM, cM, hmethM, -, -, -, -, -, -, hsigM⟩ := Cond.code_spec hnamed hcode
  have hstatic : methM.isStatic = true := Cond.static_spec hnamed hmethM hstat
  obtain ⟨kP, hkP, -⟩ := className_of_methodNamed hnamed
  have hinitP : kP.init = .initialized := Cond.initialized_spec (findClass_of_methodNamed hnamed) hkP hinit
  obtain ⟨vm₁, X₁, hstep₁⟩ := X.invokestatic hexec hown hlink hnamed hmethM hstatic hkP hinitP hy (g := g) hg (argsL := argsL) (rest := rest) (hlen _ hsigM) hstack hdg
  rcases hK m meth c ⟨T.setVm vm₁, locs, cells, slots⟩ { g with stack := rest } (.invokestatic index) mk argsL.toArray X₁ hg hsize hdg hW (X₁.named hnamed) (hpre vm₁ X₁.warmed) with ⟨v, B, X', hpost, hsteps⟩ | ⟨q, B, X', hpost, hsteps⟩
  · exact Or.inl ⟨v, vm₁, B, X₁.warmed, X', hpost, fun target h => hstep₁ _ fun acts => by rw [doInvoke_state]; exact hsteps.trans h⟩
  · exact Or.inr ⟨q, vm₁, B, X₁.warmed, X', hpost, hstep₁ _ fun acts => by rw [doInvoke_state]; exact hsteps⟩
end Calls
theorem vx_cls {s : State} {T : State} {vm₁ : Vm} {E : String} {k : ClassId} (hW : s.WarmedH vm₁) (h : (T.setVm vm₁).vm.findClass E = some k) : s.vm.findClass E = some k := by
  have h1 : vm₁.findClass E = some k := h
  rw [hW.alike.findClass] at h1
  exact h1
/-- the method's frame g, with q thrown over it -/
def vx_W (p : Program) (l : Launch) (e : Env) (R : Room) (s : State) (m : MethodId) (args : Array Value) (below : List Frame) (meth : Method) (c : Code) (H : Heap) (locs : List Loc) (cells slots : Nat) (Q : State → Prop) (g : JFrame) (q : Addr) : Prop :=
  ∀ T : State, T.heap = H → Stand p l e R s m args below meth c T locs cells slots → ∃ t, Steps p.tables e below ((T.setTop g).pushFrame (.throwing q)) t ∧ Q t
def vx_Run (p : Program) (l : Launch) (e : Env) (R : Room) (s : State) (m : MethodId) (args : Array Value) (below : List Frame) (meth : Method) (c : Code) (H : Heap) (locs : List Loc) (cells slots mc ms : Nat) (g : JFrame) (rest : List Value) (Qa : State → Outcome → State → Prop) (XC : String → State → State → Prop) (free : Addr → Prop) : Prop :=
  ∀ T : State, T.heap = H → Stand p l e R s m args below meth c T locs cells slots →
    (∃ (v : Option Value) (st₀ t T' : State) (L : List Loc), st₀.heap = H ∧ Stand p l e R s m args below meth c T' (locs ++ L) (cells + mc) (slots + ms) ∧ (∀ q ∈ L, free q.base) ∧ T'.heap = t.heap ∧ T'.vm = t.vm ∧ Qa st₀ (.returned v) t ∧
      Goes p e below T g T' { g with pc := g.pc + 3, stack := v.toList ++ rest }) ∨
    (∃ (q : Addr) (st₀ t T' : State) (L : List Loc) (E : String) (ce : Cell), st₀.heap = H ∧ Stand p l e R s m args below meth c T' (locs ++ L) (cells + mc) (slots + ms) ∧ (∀ z ∈ L, free z.base) ∧ T'.heap = t.heap ∧ T'.vm = t.vm ∧ XC E st₀ t ∧ t.heap[q]? = some ce ∧ ce.vm = .none ∧ s.vm.findClass E = some ce.cls ∧
      Steps p.tables e below (T.setTop g) ((T'.setTop { g with stack := rest }).pushFrame (.throwing q)))
def vx_X {S : Type} (px : S → Prop) (B : String → S → State → Prop) (A : Nat → Prop) : String → State → State → Prop := fun E st t => ∃ u : S, px u ∧ B E u t ∧ va_F A st t
section Runs
variable {p : Program} {l : Launch} {e : Env} {R : Room} {s : State} {m : MethodId} {args : Array Value} {below : List Frame} {meth : Method} {c : Code} {H : Heap} {locs : List Loc} {cells slots : Nat}
variable {y : MethodName} {bytes cc : ByteArray} {maxL nL mc ms n index : Nat} {ret : Option FieldType} {ws : List Cond} {rm : Room} {Pc : Array Value → State → Prop} {Qc : Array Value → State → Outcome → State → Prop} {XC : String → State → State → Prop} {free : Addr → Prop} {Ts : List Cond} {own C : String} {b : Addr} {As rest : List Value} {g : JFrame}
theorem vx_callBack (cb : CallB R s args own index y bytes maxL ret ws rm mc ms n) (hM : vx_Met l y ws rm Pc Qc XC mc ms free) (hbl : FrameBlind Pc) : vx_Back l R p e below s args y 3 8 (PreOf R mc ms Pc) (PostOf Qc mc ms free) (vx_Post XC mc ms free) := by
  obtain ⟨hrc, hrs, hfr, hlo, hws, hcw, -, hini, -⟩ := cb
  exact vx_back (bytes := bytes) (maxL := maxL) (ret := ret) hM hbl hrc hrs hfr hlo hws hcw (fun a' U hW => word_at hW (Or.inl (by first | rfl | simp [Cond.onTables, Cond.keeps, Cond.steady])) hini)
theorem vx_runV (S : CallFix p m c cc nL s args Ts own) (hM : vx_Met l y ws rm Pc Qc XC mc ms free) (cw : CallW R s args own C index y bytes maxL ret ws rm mc ms n) (hp : PreV s H C b Pc As)
    (hg : g.method = m) (hn : As.length = n) (hsize : g.locals.size = nL) (hstack : g.stack = As.reverse ++ .ref b :: rest) (hW : 2 * g.monitorRoom + (rest.map fun v => v.category).sum ≤ 8) (hdg : decode cc g.pc = .ok (.invokevirtual index, 3)) (hf : cells + mc ≤ R.cells ∧ slots + ms ≤ R.slots) :
    vx_Run p l e R s m args below meth c H locs cells slots mc ms g rest (Qc (Value.ref b :: As).toArray) XC free := by
  have hK : vx_Back l R p e below s args y 3 8 (PreOf R mc ms Pc) (PostOf Qc mc ms free) (vx_Post XC mc ms free) := vx_callBack cw.1 hM hp.1
  obtain ⟨⟨-, -, -, -, -, -, hcode, -, hy, hlen, hl⟩, hin, hse⟩ := cw
  obtain ⟨hx, hb, hml, ho, -⟩ := S
  obtain ⟨-, ⟨cellB, hcB, hoB, hclB⟩, hPc⟩ := hp
  intro T hT X
  rcases vx_callV X hx (C := C) (bytes := bytes) (maxL := maxL) (ret := ret) ho hl hin hse hcode hy hK (by rw [hT]; exact hcB) hoB hclB hg (hsize.trans hml.symm) (argsL := As) (rest := rest) (fun sig h => hn.trans (hlen sig h)) hstack hW (by rw [hb]; exact hdg)
    (fun vm₁ hW₁ => ⟨hf.1, hf.2, hPc (T.setVm vm₁) hT hW₁⟩) with ⟨v, vm₁, ⟨U', l2, c2, s2⟩, hW₁, X', ⟨g', mk, t, L, e1, e2, hq, h1, hL, h2, h3⟩, st⟩ | ⟨q, vm₁, ⟨U', l2, c2, s2⟩, hW₁, X', ⟨g', mk, t, L, E, ce, e1, e2, hq, hce, hcv, hcl, h1, hL, h2, h3⟩, st⟩
  · dsimp only [Pt.U, Pt.locs, Pt.cells, Pt.slots] at X' e1 e2 h1 h2 h3 st
    subst h1; subst h2; subst h3
    exact Or.inl ⟨v, (T.setVm vm₁).calling g' mk (Value.ref b :: As).toArray, t, U', L, hT, X', hL, e1, e2, hq, st⟩
  · dsimp only [Pt.U, Pt.locs, Pt.cells, Pt.slots] at X' e1 e2 h1 h2 h3 st hcl
    subst h1; subst h2; subst h3
    exact Or.inr ⟨q, (T.setVm vm₁).calling g' mk (Value.ref b :: As).toArray, t, U', L, E, ce, hT, X', hL, e1, e2, hq, hce, hcv, vx_cls hW₁ hcl, st⟩
theorem vx_runS (S : CallFix p m c cc nL s args Ts own) (hM : vx_Met l y ws rm Pc Qc XC mc ms free) (cw : CallB R s args own index y bytes maxL ret ws rm mc ms n ∧ (Cond.static y).before args s = true) (hp : PreS s H Pc As)
    (hg : g.method = m) (hn : As.length = n) (hsize : g.locals.size = nL) (hstack : g.stack = As.reverse ++ rest) (hW : 2 * g.monitorRoom + (rest.map fun v => v.category).sum ≤ 8) (hdg : decode cc g.pc = .ok (.invokestatic index, 3)) (hf : cells + mc ≤ R.cells ∧ slots + ms ≤ R.slots) :
    vx_Run p l e R s m args below meth c H locs cells slots mc ms g rest (Qc As.toArray) XC free := by
  have hK : vx_Back l R p e below s args y 3 8 (PreOf R mc ms Pc) (PostOf Qc mc ms free) (vx_Post XC mc ms free) := vx_callBack cw.1 hM hp.1
  obtain ⟨⟨-, -, -, -, -, -, hcode, hini, hy, hlen, hl⟩, hstt⟩ := cw
  obtain ⟨hx, hb, hml, ho, -⟩ := S
  intro T hT X
  rcases vx_callS X hx (bytes := bytes) (maxL := maxL) (ret := ret) ho hl hstt hini hcode hy hK hg (hsize.trans hml.symm) (argsL := As) (rest := rest) (fun sig h => hn.trans (hlen sig h)) hstack hW (by rw [hb]; exact hdg)
    (fun vm₁ hW₁ => ⟨hf.1, hf.2, hp.2 (T.setVm vm₁) hT hW₁⟩) with ⟨v, vm₁, ⟨U', l2, c2, s2⟩, hW₁, X', ⟨g', mk, t, L, e1, e2, hq, h1, hL, h2, h3⟩, st⟩ | ⟨q, vm₁, ⟨U', l2, c2, s2⟩, hW₁, X', ⟨g', mk, t, L, E, ce, e1, e2, hq, hce, hcv, hcl, h1, hL, h2, h3⟩, st⟩
  · dsimp only [Pt.U, Pt.locs, Pt.cells, Pt.slots] at X' e1 e2 h1 h2 h3 st
    subst h1; subst h2; subst h3
    exact Or.inl ⟨v, (T.setVm vm₁).calling g' mk As.toArray, t, U', L, hT, X', hL, e1, e2, hq, st⟩
  · dsimp only [Pt.U, Pt.locs, Pt.cells, Pt.slots] at X' e1 e2 h1 h2 h3 st hcl
    subst h1; subst h2; subst h3
    exact Or.inr ⟨q, (T.setVm vm₁).calling g' mk As.toArray, t, U', L, E, ce, hT, X', hL, e1, e2, hq, hce, hcv, vx_cls hW₁ hcl, st⟩
end Runs
section Rows
variable {p : Program} {l : Launch} {e : Env} {R : Room} {s : State} {m : MethodId} {args : Array Value} {below : List Frame} {meth : Method} {c : Code} {H : Heap} {locs : List Loc} {cells slots : Nat} {Q : State → Prop}
variable {mc ms : Nat} {free : Addr → Prop} {A0 A1 : Nat → Prop} {H0 : Heap} {a : Array Value} {pc : Nat} {ls : Array Slot} {st0 rest : List Value}
theorem vx_keep {st₀ t T' : State} {L : List Loc} (h0 : st₀.heap = H) (e1 : T'.heap = t.heap) (hS : va_S A0 H0 H locs) (hA : ∀ q, q < H.size → A1 q → A0 q) (hf : ∀ q, free q → A0 q) (hL : ∀ q ∈ L, free q.base) (hF : va_F A1 st₀ t) :
    H.size ≤ T'.heap.size ∧ (∀ q : Nat, q < H.size → ¬ A1 q → T'.heap[q]? = H[q]?) ∧ va_S A0 H0 T'.heap (locs ++ L) := by
  obtain ⟨hz, hk⟩ := hF
  rw [h0] at hz hk
  exact ⟨by rw [e1]; exact hz, fun q h1 h2 => by rw [e1]; exact hk q h1 h2,
    ⟨Nat.le_trans hS.1 (by rw [e1]; exact hz), fun q h1 h2 => by rw [e1, hk q (Nat.lt_of_lt_of_le h1 hS.1) (fun z => h2 (hA q (Nat.lt_of_lt_of_le h1 hS.1) z))]; exact hS.2.1 q h1 h2, fun q hq => by
      rcases List.mem_append.mp hq with h | h
      · exact hS.2.2 q h
      · exact hf _ (hL q h)⟩⟩
theorem vx_calli {S SX : Type} {post : Int32 → S → Prop} {px : SX → Prop} {B : S → State → Prop} {BX : String → SX → State → Prop} {AX : Nat → Prop} (hr : vx_Run p l e R s m args below meth c H locs cells slots mc ms (F0 m pc ls st0) rest (va_Qi post B A1 a) (vx_X px BX AX) free) (hS : va_S A0 H0 H locs) (hA : ∀ q, q < H.size → A1 q → A0 q) (hf : ∀ q, free q → A0 q) (hAX : ∀ q, q < H.size → AX q → A0 q)
    (kx : ∀ (E : String) (ce : Cell) (q9 : Addr) (u : SX) (t : State) (H1 : Heap) (locs1 : List Loc), t.heap = H1 → s.vm.Alike t.vm → px u → BX E u t → H.size ≤ H1.size → (∀ q : Nat, q < H.size → ¬ AX q → H1[q]? = H[q]?) → va_S A0 H0 H1 locs1 → H1[q9]? = some ce → ce.vm = .none → s.vm.findClass E = some ce.cls → vx_W p l e R s m args below meth c H1 locs1 (cells + mc) (slots + ms) Q (F0 m pc ls rest) q9)
    (kk : ∀ (r : Int32) (u : S) (t : State) (H1 : Heap) (locs1 : List Loc), t.heap = H1 → s.vm.Alike t.vm → post r u → B u t → H.size ≤ H1.size → (∀ q : Nat, q < H.size → ¬ A1 q → H1[q]? = H[q]?) → va_S A0 H0 H1 locs1 → W p l e R s m args below meth c H1 locs1 (cells + mc) (slots + ms) Q (F0 m (pc + 3) ls (.int r :: rest))) : W p l e R s m args below meth c H locs cells slots Q (F0 m pc ls st0) := by
  intro T hT X
  rcases hr T hT X with ⟨v, st₀, t, T', L, h0, X', hL, e1, e2, ⟨⟨r, u, hv, hp, hb⟩, hF⟩, st⟩ | ⟨q, st₀, t, T', L, E, ce, h0, X', hL, e1, e2, ⟨u, hp, hb, hF⟩, hce, hcv, hcl, st⟩
  · cases hv
    obtain ⟨k1, k2, k3⟩ := vx_keep h0 e1 hS hA hf hL hF
    obtain ⟨t2, a1, b1⟩ := kk r u t T'.heap (locs ++ L) e1.symm (by rw [← e2]; exact X'.warmed.alike) hp hb k1 k2 k3 T' rfl X'
    exact ⟨t2, st t2 a1, b1⟩
  · obtain ⟨k1, k2, k3⟩ := vx_keep h0 e1 hS hAX hf hL hF
    obtain ⟨t2, a1, b1⟩ := kx E ce q u t T'.heap (locs ++ L) e1.symm (by rw [← e2]; exact X'.warmed.alike) hp hb k1 k2 k3 (by rw [e1]; exact hce) hcv hcl T' rfl X'
    exact ⟨t2, st.trans a1, b1⟩
theorem vx_calll {S SX : Type} {post : Int64 → S → Prop} {px : SX → Prop} {B : S → State → Prop} {BX : String → SX → State → Prop} {AX : Nat → Prop} (hr : vx_Run p l e R s m args below meth c H locs cells slots mc ms (F0 m pc ls st0) rest (va_Ql post B A1 a) (vx_X px BX AX) free) (hS : va_S A0 H0 H locs) (hA : ∀ q, q < H.size → A1 q → A0 q) (hf : ∀ q, free q → A0 q) (hAX : ∀ q, q < H.size → AX q → A0 q)
    (kx : ∀ (E : String) (ce : Cell) (q9 : Addr) (u : SX) (t : State) (H1 : Heap) (locs1 : List Loc), t.heap = H1 → s.vm.Alike t.vm → px u → BX E u t → H.size ≤ H1.size → (∀ q : Nat, q < H.size → ¬ AX q → H1[q]? = H[q]?) → va_S A0 H0 H1 locs1 → H1[q9]? = some ce → ce.vm = .none → s.vm.findClass E = some ce.cls → vx_W p l e R s m args below meth c H1 locs1 (cells + mc) (slots + ms) Q (F0 m pc ls rest) q9)
    (kk : ∀ (r : Int64) (u : S) (t : State) (H1 : Heap) (locs1 : List Loc), t.heap = H1 → s.vm.Alike t.vm → post r u → B u t → H.size ≤ H1.size → (∀ q : Nat, q < H.size → ¬ A1 q → H1[q]? = H[q]?) → va_S A0 H0 H1 locs1 → W p l e R s m args below meth c H1 locs1 (cells + mc) (slots + ms) Q (F0 m (pc + 3) ls (.long r :: rest))) : W p l e R s m args below meth c H locs cells slots Q (F0 m pc ls st0) := by
  intro T hT X
  rcases hr T hT X with ⟨v, st₀, t, T', L, h0, X', hL, e1, e2, ⟨⟨r, u, hv, hp, hb⟩, hF⟩, st⟩ | ⟨q, st₀, t, T', L, E, ce, h0, X', hL, e1, e2, ⟨u, hp, hb, hF⟩, hce, hcv, hcl, st⟩
  · cases hv
    obtain ⟨k1, k2, k3⟩ := vx_keep h0 e1 hS hA hf hL hF
    obtain ⟨t2, a1, b1⟩ := kk r u t T'.heap (locs ++ L) e1.symm (by rw [← e2]; exact X'.warmed.alike) hp hb k1 k2 k3 T' rfl X'
    exact ⟨t2, st t2 a1, b1⟩
  · obtain ⟨k1, k2, k3⟩ := vx_keep h0 e1 hS hAX hf hL hF
    obtain ⟨t2, a1, b1⟩ := kx E ce q u t T'.heap (locs ++ L) e1.symm (by rw [← e2]; exact X'.warmed.alike) hp hb k1 k2 k3 (by rw [e1]; exact hce) hcv hcl T' rfl X'
    exact ⟨t2, st.trans a1, b1⟩
theorem vx_callf {S SX : Type} {post : UInt32 → S → Prop} {px : SX → Prop} {B : S → State → Prop} {BX : String → SX → State → Prop} {AX : Nat → Prop} (hr : vx_Run p l e R s m args below meth c H locs cells slots mc ms (F0 m pc ls st0) rest (va_Qf post B A1 a) (vx_X px BX AX) free) (hS : va_S A0 H0 H locs) (hA : ∀ q, q < H.size → A1 q → A0 q) (hf : ∀ q, free q → A0 q) (hAX : ∀ q, q < H.size → AX q → A0 q)
    (kx : ∀ (E : String) (ce : Cell) (q9 : Addr) (u : SX) (t : State) (H1 : Heap) (locs1 : List Loc), t.heap = H1 → s.vm.Alike t.vm → px u → BX E u t → H.size ≤ H1.size → (∀ q : Nat, q < H.size → ¬ AX q → H1[q]? = H[q]?) → va_S A0 H0 H1 locs1 → H1[q9]? = some ce → ce.vm = .none → s.vm.findClass E = some ce.cls → vx_W p l e R s m args below meth c H1 locs1 (cells + mc) (slots + ms) Q (F0 m pc ls rest) q9)
    (kk : ∀ (r : UInt32) (u : S) (t : State) (H1 : Heap) (locs1 : List Loc), t.heap = H1 → s.vm.Alike t.vm → post r u → B u t → H.size ≤ H1.size → (∀ q : Nat, q < H.size → ¬ A1 q → H1[q]? = H[q]?) → va_S A0 H0 H1 locs1 → W p l e R s m args below meth c H1 locs1 (cells + mc) (slots + ms) Q (F0 m (pc + 3) ls (.float r :: rest))) : W p l e R s m args below meth c H locs cells slots Q (F0 m pc ls st0) := by
  intro T hT X
  rcases hr T hT X with ⟨v, st₀, t, T', L, h0, X', hL, e1, e2, ⟨⟨r, u, hv, hp, hb⟩, hF⟩, st⟩ | ⟨q, st₀, t, T', L, E, ce, h0, X', hL, e1, e2, ⟨u, hp, hb, hF⟩, hce, hcv, hcl, st⟩
  · cases hv
    obtain ⟨k1, k2, k3⟩ := vx_keep h0 e1 hS hA hf hL hF
    obtain ⟨t2, a1, b1⟩ := kk r u t T'.heap (locs ++ L) e1.symm (by rw [← e2]; exact X'.warmed.alike) hp hb k1 k2 k3 T' rfl X'
    exact ⟨t2, st t2 a1, b1⟩
  · obtain ⟨k1, k2, k3⟩ := vx_keep h0 e1 hS hAX hf hL hF
    obtain ⟨t2, a1, b1⟩ := kx E ce q u t T'.heap (locs ++ L) e1.symm (by rw [← e2]; exact X'.warmed.alike) hp hb k1 k2 k3 (by rw [e1]; exact hce) hcv hcl T' rfl X'
    exact ⟨t2, st.trans a1, b1⟩
theorem vx_calld {S SX : Type} {post : UInt64 → S → Prop} {px : SX → Prop} {B : S → State → Prop} {BX : String → SX → State → Prop} {AX : Nat → Prop} (hr : vx_Run p l e R s m args below meth c H locs cells slots mc ms (F0 m pc ls st0) rest (va_Qd post B A1 a) (vx_X px BX AX) free) (hS : va_S A0 H0 H locs) (hA : ∀ q, q < H.size → A1 q → A0 q) (hf : ∀ q, free q → A0 q) (hAX : ∀ q, q < H.size → AX q → A0 q)
    (kx : ∀ (E : String) (ce : Cell) (q9 : Addr) (u : SX) (t : State) (H1 : Heap) (locs1 : List Loc), t.heap = H1 → s.vm.Alike t.vm → px u → BX E u t → H.size ≤ H1.size → (∀ q : Nat, q < H.size → ¬ AX q → H1[q]? = H[q]?) → va_S A0 H0 H1 locs1 → H1[q9]? = some ce → ce.vm = .none → s.vm.findClass E = some ce.cls → vx_W p l e R s m args below meth c H1 locs1 (cells + mc) (slots + ms) Q (F0 m pc ls rest) q9)
    (kk : ∀ (r : UInt64) (u : S) (t : State) (H1 : Heap) (locs1 : List Loc), t.heap = H1 → s.vm.Alike t.vm → post r u → B u t → H.size ≤ H1.size → (∀ q : Nat, q < H.size → ¬ A1 q → H1[q]? = H[q]?) → va_S A0 H0 H1 locs1 → W p l e R s m args below meth c H1 locs1 (cells + mc) (slots + ms) Q (F0 m (pc + 3) ls (.double r :: rest))) : W p l e R s m args below meth c H locs cells slots Q (F0 m pc ls st0) := by
  intro T hT X
  rcases hr T hT X with ⟨v, st₀, t, T', L, h0, X', hL, e1, e2, ⟨⟨r, u, hv, hp, hb⟩, hF⟩, st⟩ | ⟨q, st₀, t, T', L, E, ce, h0, X', hL, e1, e2, ⟨u, hp, hb, hF⟩, hce, hcv, hcl, st⟩
  · cases hv
    obtain ⟨k1, k2, k3⟩ := vx_keep h0 e1 hS hA hf hL hF
    obtain ⟨t2, a1, b1⟩ := kk r u t T'.heap (locs ++ L) e1.symm (by rw [← e2]; exact X'.warmed.alike) hp hb k1 k2 k3 T' rfl X'
    exact ⟨t2, st t2 a1, b1⟩
  · obtain ⟨k1, k2, k3⟩ := vx_keep h0 e1 hS hAX hf hL hF
    obtain ⟨t2, a1, b1⟩ := kx E ce q u t T'.heap (locs ++ L) e1.symm (by rw [← e2]; exact X'.warmed.alike) hp hb k1 k2 k3 (by rw [e1]; exact hce) hcv hcl T' rfl X'
    exact ⟨t2, st.trans a1, b1⟩
theorem vx_callv {S SX : Type} {post : S → Prop} {px : SX → Prop} {B : S → State → Prop} {BX : String → SX → State → Prop} {AX : Nat → Prop} (hr : vx_Run p l e R s m args below meth c H locs cells slots mc ms (F0 m pc ls st0) rest (va_Qv post B A1 a) (vx_X px BX AX) free) (hS : va_S A0 H0 H locs) (hA : ∀ q, q < H.size → A1 q → A0 q) (hf : ∀ q, free q → A0 q) (hAX : ∀ q, q < H.size → AX q → A0 q)
    (kx : ∀ (E : String) (ce : Cell) (q9 : Addr) (u : SX) (t : State) (H1 : Heap) (locs1 : List Loc), t.heap = H1 → s.vm.Alike t.vm → px u → BX E u t → H.size ≤ H1.size → (∀ q : Nat, q < H.size → ¬ AX q → H1[q]? = H[q]?) → va_S A0 H0 H1 locs1 → H1[q9]? = some ce → ce.vm = .none → s.vm.findClass E = some ce.cls → vx_W p l e R s m args below meth c H1 locs1 (cells + mc) (slots + ms) Q (F0 m pc ls rest) q9)
    (kk : ∀ (u : S) (t : State) (H1 : Heap) (locs1 : List Loc), t.heap = H1 → s.vm.Alike t.vm → post u → B u t → H.size ≤ H1.size → (∀ q : Nat, q < H.size → ¬ A1 q → H1[q]? = H[q]?) → va_S A0 H0 H1 locs1 → W p l e R s m args below meth c H1 locs1 (cells + mc) (slots + ms) Q (F0 m (pc + 3) ls (rest))) : W p l e R s m args below meth c H locs cells slots Q (F0 m pc ls st0) := by
  intro T hT X
  rcases hr T hT X with ⟨v, st₀, t, T', L, h0, X', hL, e1, e2, ⟨⟨u, hv, hp, hb⟩, hF⟩, st⟩ | ⟨q, st₀, t, T', L, E, ce, h0, X', hL, e1, e2, ⟨u, hp, hb, hF⟩, hce, hcv, hcl, st⟩
  · cases hv
    obtain ⟨k1, k2, k3⟩ := vx_keep h0 e1 hS hA hf hL hF
    obtain ⟨t2, a1, b1⟩ := kk u t T'.heap (locs ++ L) e1.symm (by rw [← e2]; exact X'.warmed.alike) hp hb k1 k2 k3 T' rfl X'
    exact ⟨t2, st t2 a1, b1⟩
  · obtain ⟨k1, k2, k3⟩ := vx_keep h0 e1 hS hAX hf hL hF
    obtain ⟨t2, a1, b1⟩ := kx E ce q u t T'.heap (locs ++ L) e1.symm (by rw [← e2]; exact X'.warmed.alike) hp hb k1 k2 k3 (by rw [e1]; exact hce) hcv hcl T' rfl X'
    exact ⟨t2, st.trans a1, b1⟩
/-- caught by the row x of this method's table; the rows ahead don't take it -/
theorem vx_catch {own name : String} {E : String} {ce : Cell} {q : Addr} (hown : s.vm.findClass own = some m.cls) (pre : List ExceptionTableEntry) (x : ExceptionTableEntry) (suf : List ExceptionTableEntry) (hsplit : c.exceptionTable.toList = pre ++ x :: suf)
    (hpass : ∀ z ∈ pre, covers z pc = false ∨ (z.catchType ≠ 0 ∧ ∃ nm : String, (Cond.classLink own z.catchType nm).before args s = true ∧ va_Nc E nm s)) (hx : covers x pc = true) (h0 : x.catchType ≠ 0)
    (hlink : (Cond.classLink own x.catchType name).before args s = true) (hcast : (Cond.castable E name).before args s = true) (hcell : H[q]? = some ce) (hv : ce.vm = .none) (hcl : s.vm.findClass E = some ce.cls)
    (kk : W p l e R s m args below meth c H locs cells slots Q (F0 m x.handlerPc ls [.ref q])) : vx_W p l e R s m args below meth c H locs cells slots Q (F0 m pc ls rest) q := by
  intro T hT X
  have hpl : e.platform.magicAccessors = ({} : Platform).magicAccessors := by rw [X.admits.platform]
  obtain ⟨c3, c4, hc3, hc4, hasg⟩ := Cond.castable_spec hcast
  cases Option.some.inj (hc3.symm.trans hcl)
  obtain ⟨c5, hc5, hcl5⟩ := Cond.classLink_spec hown hlink e.platform hpl
  cases Option.some.inj (hc4.symm.trans hc5)
  obtain ⟨vm', X', st⟩ := X.thenCaughtThrough q (g := F0 m pc ls rest) rfl (Steps.refl _) (by rw [hT]; exact hcell) (by rw [hv]; rfl) (by obtain ⟨k9, h9, -⟩ := Vm.findClass_spec hcl; exact ⟨k9, h9⟩) pre x suf hsplit
    (fun z hz => by
      rcases hpass z hz with h | ⟨hz0, nm, hl1, hn1⟩
      · exact Or.inl h
      · obtain ⟨c6, hc6, hcl6⟩ := Cond.classLink_spec hown hl1 e.platform hpl
        obtain ⟨a8, b8, h1, h2, h3⟩ := hn1
        cases Option.some.inj (h1.symm.trans hcl)
        cases Option.some.inj (h2.symm.trans hc6)
        exact Or.inr ⟨hz0, _, hcl6, h3⟩) hx (Or.inr ⟨h0, c4, hcl5, hasg⟩)
  obtain ⟨t, a1, b1⟩ := kk (T.setVm vm') hT X'
  exact ⟨t, st.trans a1, b1⟩
end Rows
section Ends
variable {p : Program} {l : Launch} {e : Env} {R : Room} {s : State} {m : MethodId} {args : Array Value} {below : List Frame} {meth : Method} {c : Code} {H : Heap} {locs : List Loc} {cells slots : Nat} {Q : State → Prop}
variable {mc ms : Nat} {free : Addr → Prop} {A0 A1 : Nat → Prop} {H0 : Heap} {a : Array Value} {ls : Array Slot} {st0 rest : List Value}
variable {Qc : Array Value → State → Outcome → State → Prop} {XC : String → State → State → Prop}
/-- what a body that may throw owes at its end -/
def vx_MQ (below : List Frame) (Qc : Array Value → State → Outcome → State → Prop) (XC : String → State → State → Prop) (a : Array Value) (s : State) (mc ms : Nat) (free : Addr → Prop) : State → Prop := fun t =>
  ∃ o, t.status = .running ∧ Ended t below o ∧ vx_Q Qc XC mc ms free a s o t
theorem vx_ret {g : JFrame} {mc ms : Nat} (k : W p l e R s m args below meth c H locs cells slots (MQ below Qc args s mc ms free) g) : W p l e R s m args below meth c H locs cells slots (vx_MQ below Qc XC args s mc ms free) g := by
  intro T hT X
  obtain ⟨t, a1, o, b1, b2, b3, b4⟩ := k T hT X
  exact ⟨t, a1, o, b1, b2, Or.inl ⟨b3, b4⟩⟩
/-- not caught here: it goes on to the caller -/
theorem vx_widen {g : JFrame} {q : Addr} {k n : Nat} (h1 : cells ≤ k) (h2 : slots ≤ n) (kk : vx_W p l e R s m args below meth c H locs k n Q g q) : vx_W p l e R s m args below meth c H locs cells slots Q g q := fun T hT X => kk T hT (stand_widen X h1 h2)
theorem vx_out {pc : Nat} {E : String} {ce : Cell} {q : Addr} {mc ms : Nat} (hout : ∀ x ∈ c.exceptionTable.toList, covers x pc = false) (hlocks : meth.locks = false) (hcell : H[q]? = some ce) (hv : ce.vm = .none) (hcl : s.vm.findClass E = some ce.cls)
    (hx : ∀ t : State, t.heap = H → s.vm.Alike t.vm → XC E s t) (hf : ∀ z ∈ locs, free z.base) (hc : cells ≤ mc) (hs : slots ≤ ms) :
    vx_W p l e R s m args below meth c H locs cells slots (vx_MQ below Qc XC args s mc ms free) (F0 m pc ls rest) q := by
  intro T hT X
  obtain ⟨st1, hrun, hend, hW, hsm⟩ := X.leaveThrown q (g := F0 m pc ls rest) rfl rfl rfl hout hlocks
  have hcell9 : (T.setFrames (.throwing q :: below)).heap[q]? = some ce := by
    show T.heap[q]? = some ce
    rw [hT]; exact hcell
  exact ⟨_, st1, .threw q, hrun, hend, Or.inr ⟨q, rfl, E, ce, locs, hx _ hT hW.alike, hcell9, hv, hcl, hW, hsm.mono hc hs, hf⟩⟩
theorem vx_frame {U : State} {k n : Nat} (h : s.sameButNew ({ U with vm := s.vm } : State) locs k n) : s.heap.size ≤ U.heap.size ∧ ∀ q : Nat, q < s.heap.size → (∀ z ∈ locs, z.base ≠ q) → U.heap[q]? = s.heap[q]? := by
  obtain ⟨-, h2, -, -, -, h6⟩ := h
  refine ⟨h2, fun q hq hz => ?_⟩
  obtain ⟨c9, e1, e2, e3, e4⟩ := h6 q _ (Array.getElem?_eq_getElem hq)
  have hs : c9.slots = (s.heap[q]).slots := Array.ext_getElem? fun i => e4 i fun hm => hz _ hm rfl
  have h9 : c9 = s.heap[q] := by
    rw [hs] at e2
    exact e2
  have e5 : U.heap[q]? = some c9 := e1
  rw [e5, h9, Array.getElem?_eq_getElem hq]
/-- the words of a throw but the four that speak of the heap -/
def vx_no (w : Cond) : Bool := decide (w ≠ .isRef (.static Bundle.tN "UNASSIGNED_STACK" Bundle.steD)) && decide (w ≠ .isRef (.static Bundle.tN "SUPPRESSED_SENTINEL" Bundle.listD)) && decide (w ≠ .laysStatic Bundle.tN "UNASSIGNED_STACK" Bundle.steD) && decide (w ≠ .laysStatic Bundle.tN "SUPPRESSED_SENTINEL" Bundle.listD)
def vx_at0 (own : String) (ic : Nat) (X : String) (names : List String) : List Cond := (Bundle.ownAtoms0 own ic X names).filter vx_no
def vx_atS (own : String) (ic : Nat) (X : String) (names : List String) : List Cond := (Bundle.ownAtoms own ic X names).filter vx_no
/-- a word that the tables alone decide, or a good one -/
def vx_ot (w : Cond) : Bool := w.onTables || goodWord w
theorem vx_ot_at {args a' : Array Value} {s U : State} {w : Cond} (hW : s.WarmedH U.vm) (hvm : s.vm = U.vm) (hg : vx_ot w = true) (h : w.before args s = true) : w.before a' U = true := by
  simp only [vx_ot, Bool.or_eq_true] at hg
  rcases hg with hg | hg
  · exact va_tabs hg hvm h
  · exact word_at hW (good_of_word hg) h
/-- a list's words: the good ones out of the method's own list, the others by premises of their own -/
theorem vx_hat {args : Array Value} {s : State} {L B : List Cond} (h1 : ∀ w ∈ L.filter goodWord, w.before args s = true) (h2 : ∀ w ∈ L.filter (fun w => !goodWord w), w ∈ B) (h3 : ∀ w ∈ B, w.before args s = true) : ∀ w ∈ L, w.before args s = true := by
  intro w hw
  by_cases g : goodWord w = true
  · exact h1 w (List.mem_filter.mpr ⟨hw, g⟩)
  · refine h3 w (h2 w (List.mem_filter.mpr ⟨hw, ?_⟩))
    show (!goodWord w) = true
    cases hgw : goodWord w
    · rfl
    · exact absurd hgw g
theorem vx_c {args : Array Value} {s : State} {w : Cond} {B : List Cond} (h : w.before args s = true) (t : ∀ w ∈ B, w.before args s = true) : ∀ w' ∈ w :: B, w'.before args s = true := fun w' h' => (List.mem_cons.mp h').elim (fun e => by rw [e]; exact h) (t w')
theorem vx_n {args : Array Value} {s : State} : ∀ w ∈ ([] : List Cond), w.before args s = true := fun _ h => nomatch h
theorem vx_own {args : Array Value} {s : State} {L : List Cond} (h1 : ∀ w ∈ L.filter vx_no, w.before args s = true)
    (hU : (Cond.isRef (.static Bundle.tN "UNASSIGNED_STACK" Bundle.steD)).before args s = true) (hN : (Cond.isRef (.static Bundle.tN "SUPPRESSED_SENTINEL" Bundle.listD)).before args s = true)
    (lU : (Cond.laysStatic Bundle.tN "UNASSIGNED_STACK" Bundle.steD).before args s = true) (lN : (Cond.laysStatic Bundle.tN "SUPPRESSED_SENTINEL" Bundle.listD).before args s = true) : ∀ w ∈ L, w.before args s = true := by
  intro w hw
  by_cases e1 : w = .isRef (.static Bundle.tN "UNASSIGNED_STACK" Bundle.steD)
  · rw [e1]; exact hU
  · by_cases e2 : w = .isRef (.static Bundle.tN "SUPPRESSED_SENTINEL" Bundle.listD)
    · rw [e2]; exact hN
    · by_cases e3 : w = .laysStatic Bundle.tN "UNASSIGNED_STACK" Bundle.steD
      · rw [e3]; exact lU
      · by_cases e4 : w = .laysStatic Bundle.tN "SUPPRESSED_SENTINEL" Bundle.listD
        · rw [e4]; exact lN
        · exact h1 w (List.mem_filter.mpr ⟨hw, by unfold vx_no; rw [decide_eq_true e1, decide_eq_true e2, decide_eq_true e3, decide_eq_true e4]; rfl⟩)
/-- where a static field lies, its class's statics cell in H -/
def vx_L (C n d : String) (A : Nat → Prop) (U : State) (H : Heap) : Prop := ∃ (c : ClassId) (k : Class) (i : Nat) (f : Field) (a : Nat) (cell : Cell), U.vm.findClass C = some c ∧ U.fieldFound? C n d = some (c, k, i, f) ∧ f.isStatic = true ∧ k.statics = some a ∧ H[a]? = some cell ∧ cell.vm.isStatics = true ∧ cell.cls = c ∧ f.slot < cell.slots.size ∧ k.staticTypes[f.slot]? = some f.type ∧ ¬ A a
theorem vx_L.moved {C n d : String} {A : Nat → Prop} {u U : State} {H : Heap} (hvm : u.vm.Alike U.vm) (h : vx_L C n d A u H) : vx_L C n d A U H := by
  obtain ⟨c, k, i, f, a, cell, h1, h2, h3, h4, h5, h6, h7, h8, h9, h10⟩ := h
  obtain ⟨k', hi', he⟩ := State.fieldFound?_setVm hvm h2
  exact ⟨c, k', i, f, a, cell, by rw [hvm.findClass]; exact h1, hi', h3, by rw [he]; exact h4, h5, h6, h7, h8, by rw [he]; exact h9, h10⟩
theorem vx_L.kept {C n d : String} {A : Nat → Prop} {U : State} {H H1 : Heap} (h : vx_L C n d A U H) (hq : ∀ a : Nat, a < H.size → ¬ A a → H1[a]? = H[a]?) : vx_L C n d A U H1 := by
  obtain ⟨c, k, i, f, a, cell, h1, h2, h3, h4, h5, h6, h7, h8, h9, h10⟩ := h
  exact ⟨c, k, i, f, a, cell, h1, h2, h3, h4, by rw [hq a (Array.getElem?_eq_some_iff.mp h5).1 h10]; exact h5, h6, h7, h8, h9, h10⟩
theorem vx_L.narrow {C n d : String} {A B : Nat → Prop} {U : State} {H : Heap} (h : vx_L C n d A U H) (hAB : ∀ q, B q → A q) : vx_L C n d B U H := by
  obtain ⟨c, k, i, f, a, cell, h1, h2, h3, h4, h5, h6, h7, h8, h9, h10⟩ := h
  exact ⟨c, k, i, f, a, cell, h1, h2, h3, h4, h5, h6, h7, h8, h9, fun z => h10 (hAB _ z)⟩
theorem vx_L.word {C n d : String} {A : Nat → Prop} {s : State} {args : Array Value} (h : vx_L C n d A s s.heap) : (Cond.laysStatic C n d).before args s = true := by
  obtain ⟨c, k, i, f, a, cell, h1, h2, h3, h4, h5, h6, h7, h8, h9, -⟩ := h
  show (Cond.laysStatic C n d).holds args s none s [] = true
  exact Cond.laysStatic_of h1 h2 h3 h4 h5 h6 h7 h8 h9
/-- .. and what it holds: null or some reference -/
def vx_Zq (C n d : String) (A : Nat → Prop) (U : State) (H : Heap) : Prop := va_Zq C n d A U H ∧ vx_L C n d A U H
theorem vx_Zq.moved {C n d : String} {A : Nat → Prop} {u U : State} {H : Heap} (hvm : u.vm.Alike U.vm) (h : vx_Zq C n d A u H) : vx_Zq C n d A U H := ⟨va_Zq.moved hvm h.1, vx_L.moved hvm h.2⟩
theorem vx_Zq.kept {C n d : String} {A : Nat → Prop} {U : State} {H H1 : Heap} (h : vx_Zq C n d A U H) (hq : ∀ a : Nat, a < H.size → ¬ A a → H1[a]? = H[a]?) : vx_Zq C n d A U H1 := ⟨va_Zq.kept h.1 hq, vx_L.kept h.2 hq⟩
theorem vx_Zq.narrow {C n d : String} {A B : Nat → Prop} {U : State} {H : Heap} (h : vx_Zq C n d A U H) (hAB : ∀ q, B q → A q) : vx_Zq C n d B U H := ⟨va_Zq.narrow h.1 hAB, vx_L.narrow h.2 hAB⟩
theorem vx_Zqof {args : Array Value} {s : State} {C n d : String} {A : Nat → Prop} (hl : (Cond.laysStatic C n d).before args s = true) (hini : (Cond.initialized C).before args s = true) (h : (Cond.isRef (.static C n d)).before args s = true) (hA : ∀ a : Nat, a < s.heap.size → ¬ A a) : vx_Zq C n d A s s.heap := by
  refine ⟨va_Zqof hl hini h hA, ?_⟩
  obtain ⟨c, k, i, f, a, cell, h1, h2, h3, h4, h5, h6, h7, h8, h9⟩ := Cond.laysStatic_spec hl
  exact ⟨c, k, i, f, a, cell, h1, h2, h3, h4, h5, h6, h7, h8, h9, hA a (Array.getElem?_eq_some_iff.mp h5).1⟩
theorem vx_isRef {C n d : String} {v : Value} {A : Nat → Prop} {s : State} {args : Array Value} (h : va_Z C n d v A s s.heap) (hv : v.isRef = true) : (Cond.isRef (.static C n d)).before args s = true := by
  obtain ⟨cf, kf, fi, f, a, cell, h1, h2, h3, h4, h5, h6, h7, -⟩ := h
  have he : (Term.static C n d).eval args s none [] s = some v := by
    simp [Term.eval, State.fieldNamed?, h1, h2, h4, h5, h6, h7]
  simp only [Cond.before, Cond.holds, Cond.value, he]
  cases v <;> simp_all [Value.isRef]
theorem vx_isRefq {C n d : String} {A : Nat → Prop} {s : State} {args : Array Value} (h : va_Zq C n d A s s.heap) : (Cond.isRef (.static C n d)).before args s = true := by
  rcases h with h | ⟨t, h⟩
  · exact vx_isRef h rfl
  · exact vx_isRef h rfl
/-- the same frame, seen from here: as if the method were called anew in this heap -/
theorem vx_rebase {T : State} (X : Stand p l e R s m args below meth c T locs cells slots) {R' : Room} (hf : R'.frames ≤ R.frames) (hl : R'.locals ≤ R.locals) (hc : cells + R'.cells ≤ R.cells) (hs : slots + R'.slots ≤ R.slots) :
    Stand p l e R' ((T.setVm s.vm).setFrames (.invoking m args :: below)) m args below meth c T [] 0 0 := by
  have htop : (T.setVm s.vm).topJava?.isSome := X.here.top
  have hF : ((T.setVm s.vm).setFrames (.invoking m args :: below)).frames = .invoking m args :: below := State.frames_setFrames _ (State.cur_lt_of_top htop)
  obtain ⟨g₀, hg0⟩ := Option.isSome_iff_exists.mp htop
  obtain ⟨r, hr⟩ := State.topJava?_eq_some.mp hg0
  have hl9 : e.platform.stackLimits (T.setVm s.vm).me = e.platform.stackLimits s.me := X.limits
  have hb9 : (T.setVm s.vm).me.stackBytes = s.me.stackBytes := X.bytes
  refine ⟨X.admits, X.cas, X.clock, hF, ?_, X.hears, X.method, X.code, X.here, X.tail, X.warmed, ?_, ?_, ?_⟩
  · have h := X.room
    have hU : ((T.setVm s.vm).setFrames (.invoking m args :: below)).localsInUse = s.localsInUse := by
      rw [State.localsInUse_invoking hF (meth := meth) (c := c) X.method X.code, State.localsInUse_invoking X.frames X.method X.code]
    simp only [State.hasRoom, Bool.and_eq_true, decide_eq_true_eq] at h ⊢
    obtain ⟨⟨⟨⟨h1, h2, h3, h4, h5, h6⟩, h7⟩, h8⟩, h9⟩ := h
    rw [X.frames, List.length_cons] at h2 h3
    have q1 := X.heapSize
    have q2 := X.used
    simp only [hF, hU, List.length_cons, State.stackLimits_setFrames, State.stackBytes_setFrames, hl9, hb9]
    refine ⟨⟨⟨⟨by omega, by omega, by omega, by omega, by omega, h6⟩, ?_⟩, ?_⟩, X.book⟩
    · show T.heap.size + R'.cells ≤ e.platform.maxCells
      omega
    · show T.slotsUsed + R'.slots ≤ e.platform.maxSlots
      omega
  · rw [State.stackLimits_setFrames]; rfl
  · rw [State.stackBytes_setFrames]; rfl
  · refine ⟨?_, Nat.le_refl _, Nat.le_refl _, ?_, ?_, fun a c9 h9 => ⟨c9, h9, rfl, rfl, fun _ _ => rfl⟩⟩
    · obtain ⟨t, ht, -⟩ := State.frames_cons hr
      show T.setVm s.vm = { ((T.setVm s.vm).setFrames (.invoking m args :: below)).setFrames (T.setVm s.vm).frames with heap := T.heap, slotsUsed := T.slotsUsed }
      rw [State.setFrames_setFrames, State.setFrames_self ht]
      rfl
    · show T.slotsUsed = T.slotsUsed + ((T.heap.toList.drop T.heap.size).map (·.slots.size)).sum
      rw [List.drop_eq_nil_of_le (Nat.le_of_eq Array.length_toList)]
      rfl
    · show ((T.heap.toList.drop T.heap.size).map (·.slots.size)).sum ≤ 0
      rw [List.drop_eq_nil_of_le (Nat.le_of_eq Array.length_toList)]
      exact Nat.le_refl _
/-- 'throw new E()': new; dup; invokespecial; athrow -/
theorem vx_throw0 {cc : ByteArray} {pc : Nat} (hexec : p.tables.exec = Jvm.exec) (hb : c.code = cc) (hl : l.stackTraces = false) {own cls : String} {names : List String} {ik ic mc ms : Nat} {A : Nat → Prop}
    (hown : s.vm.findClass own = some m.cls) (hcls : Bundle.fit cls = true) (hnames : ∀ n ∈ names, Bundle.fit n = true)
    (hk : (Cond.classLink own ik cls).before args s = true) (hini : (Cond.initialized cls).before args s = true) (hat : ∀ w ∈ vx_at0 own ic cls names, w.before args s = true)
    (hgood : ∀ w ∈ Cond.classLink own ik cls :: Cond.initialized cls :: vx_at0 own ic cls names, vx_ot w = true)
    (hU : vx_Zq Bundle.tN "UNASSIGNED_STACK" Bundle.steD A s s.heap) (hN : vx_Zq Bundle.tN "SUPPRESSED_SENTINEL" Bundle.listD A s s.heap) (hS : va_S A s.heap H locs) (hsize : ls.size = c.maxLocals)
    (d0 : decode cc pc = .ok (.new ik, 3)) (d3 : decode cc (pc + 3) = .ok (.dup, 1)) (d4 : decode cc (pc + 4) = .ok (.invokespecial ic, 3)) (d7 : decode cc (pc + 7) = .ok (.athrow, 1))
    (hout : ∀ x ∈ c.exceptionTable.toList, covers x (pc + 7) = false)
    (hRframes : names.length + 3 < R.frames) (hRlocals : (rest.map fun v => v.category).sum + (13 * (names.length + 1) + 42) ≤ R.locals) (hRcells : cells + 1 ≤ R.cells) (hRslots : slots + 6 ≤ R.slots) (hlocks : meth.locks = false)
    (hx : ∀ t : State, s.vm.Alike t.vm → H.size ≤ t.heap.size → (∀ q : Nat, q < H.size → t.heap[q]? = H[q]?) → XC cls s t)
    (hf : ∀ z ∈ locs, free z.base) (hc : cells + 1 ≤ mc) (hs : slots + 6 ≤ ms) :
    W p l e R s m args below meth c H locs cells slots (vx_MQ below Qc XC args s mc ms free) (F0 m pc ls rest) := by
  intro T hT X
  have htr : e.platform.stackTraces = false := (show e.platform.stackTraces = l.stackTraces by rw [X.admits.platform]).trans hl
  have Y := vx_rebase X (R' := { frames := R.frames, locals := R.locals, cells := 1, slots := 6 }) (Nat.le_refl _) (Nat.le_refl _) hRcells hRslots
  obtain ⟨s', hA⟩ : ∃ z, z = (T.setVm s.vm).setFrames (.invoking m args :: below) := ⟨_, rfl⟩
  rw [← hA] at Y
  have hvm : s'.vm = s.vm := by rw [hA]; rfl
  have hhp : s'.heap = H := by rw [hA]; exact hT
  have hW0 : s.WarmedH s'.vm := by rw [hvm]; exact State.WarmedH.refl s
  have hat' : ∀ w ∈ vx_at0 own ic cls names, w.before args s' = true := fun w hw => vx_ot_at hW0 hvm.symm (hgood w (List.mem_cons_of_mem _ (List.mem_cons_of_mem _ hw))) (hat w hw)
  have hk' : (Cond.classLink own ik cls).before args s' = true := vx_ot_at hW0 hvm.symm (hgood _ List.mem_cons_self) hk
  have hini' : (Cond.initialized cls).before args s' = true := vx_ot_at hW0 hvm.symm (hgood _ (List.mem_cons_of_mem _ List.mem_cons_self)) hini
  have hU' : vx_Zq Bundle.tN "UNASSIGNED_STACK" Bundle.steD A s' s'.heap := by rw [hhp]; exact vx_Zq.moved hW0.alike (hU.kept hS.2.1)
  have hN' : vx_Zq Bundle.tN "SUPPRESSED_SENTINEL" Bundle.listD A s' s'.heap := by rw [hhp]; exact vx_Zq.moved hW0.alike (hN.kept hS.2.1)
  have h : ∀ w ∈ Bundle.ownAtoms0 own ic cls names, w.before args s' = true := vx_own hat' (vx_isRefq hU'.1) (vx_isRefq hN'.1) hU'.2.word hN'.2.word
  have hown' : s'.vm.findClass own = some m.cls := by rw [hvm]; exact hown
  have hins : (Cond.instantiable cls 6).before args s' = true := h _ (by simp [Bundle.ownAtoms0])
  obtain ⟨vm₁, cX, kX, hfX, hkX, -, -, X₁, st1⟩ := Y.newCold hexec (own := own) (C := cls) (index := ik) (n := 6) hown' hk' hins hini'
    (g := F0 m pc ls rest) rfl (by rw [hb]; exact d0) (Nat.le_refl _) (Nat.le_refl _)
  generalize hT1 : (T.setVm vm₁).pushCell { cls := cX, slots := kX.instanceTypes.map defaultValue, vm := .none } = T1 at X₁ st1
  have hcat : (Value.ref T.heap.size).category = 1 := rfl
  have hcellA : T1.heap[T.heap.size]? = some (freshCell cX kX) := by rw [← hT1]; exact State.heap_pushCell_size _ _
  have d3' : decode c.code (pc + 3) = .ok (.dup, 1) := by rw [hb]; exact d3
  obtain ⟨U, hsteps, hrun, hend, hW, hsame, ce, hce, hO⟩ := X₁.ctorThrow0 hexec htr (own := own) (cls := cls) (names := names) (ic := ic) hown' hcls hnames h (fun x hx => nomatch hx) hfX hkX hcellA (by rw [hhp, hT]; exact Nat.le_refl _)
    (g := { method := m, pc := pc + 4, locals := ls, stack := .ref T.heap.size :: .ref T.heap.size :: rest, locked := none }) rfl hsize rfl rfl (rest := rest) rfl
    (by rw [hb]; exact d4) (by rw [hb]; exact d7) hout hRframes (by simp only [List.map_cons, List.sum_cons, hcat]; omega) hlocks
  obtain ⟨f1, f2⟩ := vx_frame hsame
  rw [hhp] at f1 f2
  have hWs : s.WarmedH U.vm := State.WarmedH.trans hW0 hW
  have hcl : s.vm.findClass cls = some ce.cls := by
    have h9 := hO.cls
    rw [hvm] at h9
    exact h9
  have hall : s.sameButNew ({ U with vm := s.vm } : State) locs mc ms := by
    subst hA
    obtain ⟨e1, e2⟩ := hsame
    rw [State.setFrames_setFrames] at e1
    have h2 : (T.setVm s.vm).sameButNew ({ U with vm := s.vm } : State) [] (0 + 1) (0 + 6) := ⟨e1, e2⟩
    have h3 := X.same.trans h2
    rw [List.append_nil] at h3
    exact h3.mono hc hs
  refine ⟨U, ?_, .threw T.heap.size, hrun, hend, Or.inr ⟨T.heap.size, rfl, cls, ce, locs, hx U hWs.alike f1 (fun q hq => f2 q hq (fun z hz => nomatch hz)), hce, hO.vm, hcl, hWs, hall, hf⟩⟩
  refine st1 _ ?_
  show Steps p.tables e below (T1.setTop { method := m, pc := pc + 3, locals := ls, stack := .ref T.heap.size :: rest, locked := none }) _
  jvm_step X₁.here [X₁.here.top, hexec, d3', Value.category]
  exact hsteps
/-- 'throw new E("text")': new; dup; ldc; invokespecial; athrow -/
theorem vx_throwS {cc : ByteArray} {pc : Nat} (hexec : p.tables.exec = Jvm.exec) (hb : c.code = cc) (hl : l.stackTraces = false) {own cls text : String} {names : List String} {ik is ic mc ms sa : Nat} {A : Nat → Prop}
    (hown : s.vm.findClass own = some m.cls) (hcls : Bundle.fit cls = true) (hnames : ∀ n ∈ names, Bundle.fit n = true)
    (hk : (Cond.classLink own ik cls).before args s = true) (hini : (Cond.initialized cls).before args s = true) (hstr : vk_R own is text sa s) (hat : ∀ w ∈ vx_atS own ic cls names, w.before args s = true)
    (hgood : ∀ w ∈ Cond.classLink own ik cls :: Cond.initialized cls :: vx_atS own ic cls names, vx_ot w = true)
    (hU : vx_Zq Bundle.tN "UNASSIGNED_STACK" Bundle.steD A s s.heap) (hN : vx_Zq Bundle.tN "SUPPRESSED_SENTINEL" Bundle.listD A s s.heap) (hS : va_S A s.heap H locs) (hsize : ls.size = c.maxLocals)
    (d0 : decode cc pc = .ok (.new ik, 3)) (d3 : decode cc (pc + 3) = .ok (.dup, 1)) (d4 : decode cc (pc + 4) = .ok (.ldc is, 2)) (d6 : decode cc (pc + 6) = .ok (.invokespecial ic, 3)) (d9 : decode cc (pc + 9) = .ok (.athrow, 1))
    (hout : ∀ x ∈ c.exceptionTable.toList, covers x (pc + 9) = false)
    (hRframes : names.length + 3 < R.frames) (hRlocals : (rest.map fun v => v.category).sum + (13 * (names.length + 1) + 43) ≤ R.locals) (hRcells : cells + 1 ≤ R.cells) (hRslots : slots + 6 ≤ R.slots) (hlocks : meth.locks = false)
    (hx : ∀ t : State, s.vm.Alike t.vm → H.size ≤ t.heap.size → (∀ q : Nat, q < H.size → t.heap[q]? = H[q]?) → XC cls s t)
    (hf : ∀ z ∈ locs, free z.base) (hc : cells + 1 ≤ mc) (hs : slots + 6 ≤ ms) :
    W p l e R s m args below meth c H locs cells slots (vx_MQ below Qc XC args s mc ms free) (F0 m pc ls rest) := by
  intro T hT X
  have htr : e.platform.stackTraces = false := (show e.platform.stackTraces = l.stackTraces by rw [X.admits.platform]).trans hl
  have Y := vx_rebase X (R' := { frames := R.frames, locals := R.locals, cells := 1, slots := 6 }) (Nat.le_refl _) (Nat.le_refl _) hRcells hRslots
  obtain ⟨s', hA⟩ : ∃ z, z = (T.setVm s.vm).setFrames (.invoking m args :: below) := ⟨_, rfl⟩
  rw [← hA] at Y
  have hvm : s'.vm = s.vm := by rw [hA]; rfl
  have hhp : s'.heap = H := by rw [hA]; exact hT
  have hW0 : s.WarmedH s'.vm := by rw [hvm]; exact State.WarmedH.refl s
  have hat' : ∀ w ∈ vx_atS own ic cls names, w.before args s' = true := fun w hw => vx_ot_at hW0 hvm.symm (hgood w (List.mem_cons_of_mem _ (List.mem_cons_of_mem _ hw))) (hat w hw)
  have hk' : (Cond.classLink own ik cls).before args s' = true := vx_ot_at hW0 hvm.symm (hgood _ List.mem_cons_self) hk
  have hini' : (Cond.initialized cls).before args s' = true := vx_ot_at hW0 hvm.symm (hgood _ (List.mem_cons_of_mem _ List.mem_cons_self)) hini
  have hU' : vx_Zq Bundle.tN "UNASSIGNED_STACK" Bundle.steD A s' s'.heap := by rw [hhp]; exact vx_Zq.moved hW0.alike (hU.kept hS.2.1)
  have hN' : vx_Zq Bundle.tN "SUPPRESSED_SENTINEL" Bundle.listD A s' s'.heap := by rw [hhp]; exact vx_Zq.moved hW0.alike (hN.kept hS.2.1)
  have h : ∀ w ∈ Bundle.ownAtoms own ic cls names, w.before args s' = true := vx_own hat' (vx_isRefq hU'.1) (vx_isRefq hN'.1) hU'.2.word hN'.2.word
  have hown' : s'.vm.findClass own = some m.cls := by rw [hvm]; exact hown
  have hins : (Cond.instantiable cls 6).before args s' = true := h _ (by simp [Bundle.ownAtoms])
  obtain ⟨vm₁, cX, kX, hfX, hkX, -, -, X₁, st1⟩ := Y.newCold hexec (own := own) (C := cls) (index := ik) (n := 6) hown' hk' hins hini'
    (g := F0 m pc ls rest) rfl (by rw [hb]; exact d0) (Nat.le_refl _) (Nat.le_refl _)
  generalize hT1 : (T.setVm vm₁).pushCell { cls := cX, slots := kX.instanceTypes.map defaultValue, vm := .none } = T1 at X₁ st1
  have hcat : (Value.ref T.heap.size).category = 1 := rfl
  have hcellA : T1.heap[T.heap.size]? = some (freshCell cX kX) := by rw [← hT1]; exact State.heap_pushCell_size _ _
  have d3' : decode c.code (pc + 3) = .ok (.dup, 1) := by rw [hb]; exact d3
  have d4' : decode c.code (pc + 4) = .ok (.ldc is, 2) := by rw [hb]; exact d4
  have hstr' : vk_R own is text sa s' := vk_R.warm hW0 hstr
  obtain ⟨U, hsteps, hrun, hend, hW, hsame, ce, hce, hO⟩ := X₁.ctorThrowS hexec htr (own := own) (cls := cls) (names := names) (ic := ic) hown' hcls hnames h (fun x hx => nomatch hx) hfX hkX hcellA (by rw [hhp, hT]; exact Nat.le_refl _) (msg := .ref sa) rfl
    (g := { method := m, pc := pc + 6, locals := ls, stack := .ref sa :: .ref T.heap.size :: .ref T.heap.size :: rest, locked := none }) rfl hsize rfl rfl (rest := rest) rfl
    (by rw [hb]; exact d6) (by rw [hb]; exact d9) hout hRframes (by simp only [List.map_cons, List.sum_cons, hcat]; omega) hlocks
  obtain ⟨f1, f2⟩ := vx_frame hsame
  rw [hhp] at f1 f2
  have hWs : s.WarmedH U.vm := State.WarmedH.trans hW0 hW
  have hcl : s.vm.findClass cls = some ce.cls := by
    have h9 := hO.cls
    rw [hvm] at h9
    exact h9
  have hall : s.sameButNew ({ U with vm := s.vm } : State) locs mc ms := by
    subst hA
    obtain ⟨e1, e2⟩ := hsame
    rw [State.setFrames_setFrames] at e1
    have h2 : (T.setVm s.vm).sameButNew ({ U with vm := s.vm } : State) [] (0 + 1) (0 + 6) := ⟨e1, e2⟩
    have h3 := X.same.trans h2
    rw [List.append_nil] at h3
    exact h3.mono hc hs
  refine ⟨U, ?_, .threw T.heap.size, hrun, hend, Or.inr ⟨T.heap.size, rfl, cls, ce, locs, hx U hWs.alike f1 (fun q hq => f2 q hq (fun z hz => nomatch hz)), hce, hO.vm, hcl, hWs, hall, hf⟩⟩
  refine st1 _ ?_
  show Steps p.tables e below (T1.setTop { method := m, pc := pc + 3, locals := ls, stack := .ref T.heap.size :: rest, locked := none }) _
  jvm_step X₁.here [X₁.here.top, hexec, d3', Value.category]
  exact X₁.ldcString hexec (own := own) (text := text) (index := is) (a := sa) hown' hstr'.1 hstr'.2
    (g := { method := m, pc := pc + 4, locals := ls, stack := .ref T.heap.size :: .ref T.heap.size :: rest, locked := none }) rfl d4' _ hsteps
/-- 'throw new E("text")', the text by a wide index -/
theorem vx_throwSW {cc : ByteArray} {pc : Nat} (hexec : p.tables.exec = Jvm.exec) (hb : c.code = cc) (hl : l.stackTraces = false) {own cls text : String} {names : List String} {ik is ic mc ms sa : Nat} {A : Nat → Prop}
    (hown : s.vm.findClass own = some m.cls) (hcls : Bundle.fit cls = true) (hnames : ∀ n ∈ names, Bundle.fit n = true)
    (hk : (Cond.classLink own ik cls).before args s = true) (hini : (Cond.initialized cls).before args s = true) (hstr : vk_R own is text sa s) (hat : ∀ w ∈ vx_atS own ic cls names, w.before args s = true)
    (hgood : ∀ w ∈ Cond.classLink own ik cls :: Cond.initialized cls :: vx_atS own ic cls names, vx_ot w = true)
    (hU : vx_Zq Bundle.tN "UNASSIGNED_STACK" Bundle.steD A s s.heap) (hN : vx_Zq Bundle.tN "SUPPRESSED_SENTINEL" Bundle.listD A s s.heap) (hS : va_S A s.heap H locs) (hsize : ls.size = c.maxLocals)
    (d0 : decode cc pc = .ok (.new ik, 3)) (d3 : decode cc (pc + 3) = .ok (.dup, 1)) (d4 : decode cc (pc + 4) = .ok (.ldc_w is, 3)) (d7 : decode cc (pc + 7) = .ok (.invokespecial ic, 3)) (d10 : decode cc (pc + 10) = .ok (.athrow, 1))
    (hout : ∀ x ∈ c.exceptionTable.toList, covers x (pc + 10) = false)
    (hRframes : names.length + 3 < R.frames) (hRlocals : (rest.map fun v => v.category).sum + (13 * (names.length + 1) + 43) ≤ R.locals) (hRcells : cells + 1 ≤ R.cells) (hRslots : slots + 6 ≤ R.slots) (hlocks : meth.locks = false)
    (hx : ∀ t : State, s.vm.Alike t.vm → H.size ≤ t.heap.size → (∀ q : Nat, q < H.size → t.heap[q]? = H[q]?) → XC cls s t)
    (hf : ∀ z ∈ locs, free z.base) (hc : cells + 1 ≤ mc) (hs : slots + 6 ≤ ms) :
    W p l e R s m args below meth c H locs cells slots (vx_MQ below Qc XC args s mc ms free) (F0 m pc ls rest) := by
  intro T hT X
  have htr : e.platform.stackTraces = false := (show e.platform.stackTraces = l.stackTraces by rw [X.admits.platform]).trans hl
  have Y := vx_rebase X (R' := { frames := R.frames, locals := R.locals, cells := 1, slots := 6 }) (Nat.le_refl _) (Nat.le_refl _) hRcells hRslots
  obtain ⟨s', hA⟩ : ∃ z, z = (T.setVm s.vm).setFrames (.invoking m args :: below) := ⟨_, rfl⟩
  rw [← hA] at Y
  have hvm : s'.vm = s.vm := by rw [hA]; rfl
  have hhp : s'.heap = H := by rw [hA]; exact hT
  have hW0 : s.WarmedH s'.vm := by rw [hvm]; exact State.WarmedH.refl s
  have hat' : ∀ w ∈ vx_atS own ic cls names, w.before args s' = true := fun w hw => vx_ot_at hW0 hvm.symm (hgood w (List.mem_cons_of_mem _ (List.mem_cons_of_mem _ hw))) (hat w hw)
  have hk' : (Cond.classLink own ik cls).before args s' = true := vx_ot_at hW0 hvm.symm (hgood _ List.mem_cons_self) hk
  have hini' : (Cond.initialized cls).before args s' = true := vx_ot_at hW0 hvm.symm (hgood _ (List.mem_cons_of_mem _ List.mem_cons_self)) hini
  have hU' : vx_Zq Bundle.tN "UNASSIGNED_STACK" Bundle.steD A s' s'.heap := by rw [hhp]; exact vx_Zq.moved hW0.alike (hU.kept hS.2.1)
  have hN' : vx_Zq Bundle.tN "SUPPRESSED_SENTINEL" Bundle.listD A s' s'.heap := by rw [hhp]; exact vx_Zq.moved hW0.alike (hN.kept hS.2.1)
  have h : ∀ w ∈ Bundle.ownAtoms own ic cls names, w.before args s' = true := vx_own hat' (vx_isRefq hU'.1) (vx_isRefq hN'.1) hU'.2.word hN'.2.word
  have hown' : s'.vm.findClass own = some m.cls := by rw [hvm]; exact hown
  have hins : (Cond.instantiable cls 6).before args s' = true := h _ (by simp [Bundle.ownAtoms])
  obtain ⟨vm₁, cX, kX, hfX, hkX, -, -, X₁, st1⟩ := Y.newCold hexec (own := own) (C := cls) (index := ik) (n := 6) hown' hk' hins hini'
    (g := F0 m pc ls rest) rfl (by rw [hb]; exact d0) (Nat.le_refl _) (Nat.le_refl _)
  generalize hT1 : (T.setVm vm₁).pushCell { cls := cX, slots := kX.instanceTypes.map defaultValue, vm := .none } = T1 at X₁ st1
  have hcat : (Value.ref T.heap.size).category = 1 := rfl
  have hcellA : T1.heap[T.heap.size]? = some (freshCell cX kX) := by rw [← hT1]; exact State.heap_pushCell_size _ _
  have d3' : decode c.code (pc + 3) = .ok (.dup, 1) := by rw [hb]; exact d3
  have d4' : decode c.code (pc + 4) = .ok (.ldc_w is, 3) := by rw [hb]; exact d4
  have hstr' : vk_R own is text sa s' := vk_R.warm hW0 hstr
  obtain ⟨U, hsteps, hrun, hend, hW, hsame, ce, hce, hO⟩ := X₁.ctorThrowS hexec htr (own := own) (cls := cls) (names := names) (ic := ic) hown' hcls hnames h (fun x hx => nomatch hx) hfX hkX hcellA (by rw [hhp, hT]; exact Nat.le_refl _) (msg := .ref sa) rfl
    (g := { method := m, pc := pc + 7, locals := ls, stack := .ref sa :: .ref T.heap.size :: .ref T.heap.size :: rest, locked := none }) rfl hsize rfl rfl (rest := rest) rfl
    (by rw [hb]; exact d7) (by rw [hb]; exact d10) hout hRframes (by simp only [List.map_cons, List.sum_cons, hcat]; omega) hlocks
  obtain ⟨f1, f2⟩ := vx_frame hsame
  rw [hhp] at f1 f2
  have hWs : s.WarmedH U.vm := State.WarmedH.trans hW0 hW
  have hcl : s.vm.findClass cls = some ce.cls := by
    have h9 := hO.cls
    rw [hvm] at h9
    exact h9
  have hall : s.sameButNew ({ U with vm := s.vm } : State) locs mc ms := by
    subst hA
    obtain ⟨e1, e2⟩ := hsame
    rw [State.setFrames_setFrames] at e1
    have h2 : (T.setVm s.vm).sameButNew ({ U with vm := s.vm } : State) [] (0 + 1) (0 + 6) := ⟨e1, e2⟩
    have h3 := X.same.trans h2
    rw [List.append_nil] at h3
    exact h3.mono hc hs
  refine ⟨U, ?_, .threw T.heap.size, hrun, hend, Or.inr ⟨T.heap.size, rfl, cls, ce, locs, hx U hWs.alike f1 (fun q hq => f2 q hq (fun z hz => nomatch hz)), hce, hO.vm, hcl, hWs, hall, hf⟩⟩
  refine st1 _ ?_
  show Steps p.tables e below (T1.setTop { method := m, pc := pc + 3, locals := ls, stack := .ref T.heap.size :: rest, locked := none }) _
  jvm_step X₁.here [X₁.here.top, hexec, d3', Value.category]
  exact X₁.ldcStringW hexec (own := own) (text := text) (index := is) (a := sa) hown' hstr'.1 hstr'.2
    (g := { method := m, pc := pc + 4, locals := ls, stack := .ref T.heap.size :: .ref T.heap.size :: rest, locked := none }) rfl d4' _ hsteps
end Ends
section Bodies
variable {l : Launch}
theorem vx_ofW {y : MethodName} {ws ws' : List Cond} {rm : Room} {Pc : Array Value → State → Prop} {Qc : Array Value → State → Outcome → State → Prop} {XC : String → State → State → Prop} {mc ms : Nat} {free : Addr → Prop} {cc : ByteArray} {maxL : Nat} {ret : Option FieldType}
    (hy : plainName y.cls = true) (hw : ws = Cond.code y cc maxL ret :: ws')
    (body : ∀ p e s m args below meth c s₁, BodyLoose p l y (headSpec ws rm) cc maxL ret e s m args below meth c s₁ → c.maxLocals = maxL → (∀ x ∈ c.exceptionTable.toList, False) → Pc args s →
      W p l e (headSpec ws rm).room s m args below meth c s.heap [] 0 0 (vx_MQ below Qc XC args s mc ms free) (entryFrame m args maxL)) : vx_Met l y ws rm Pc Qc XC mc ms free := by
  refine MetFree.of_bodyS (code := cc) (maxLocals := maxL) (ret := ret) hy ?_ ?_
  · intro args s m h hn
    obtain ⟨meth, c, h1, h2, h3, h4, h5, h6, -, -⟩ := Cond.code_spec hn (atoms_spec (ws := ws) h _ (by rw [hw]; exact List.mem_cons_self))
    exact ⟨meth, c, h1, h2, h3, h4, h5, h6⟩
  · intro p e s m args below meth c s₁ B hml hP _
    have hh0 : s₁.heap = s.heap := by rw [B.state]; rfl
    have ht : ∀ x ∈ c.exceptionTable.toList, False := by
      obtain ⟨meth9, c9, h1, h2, -, -, -, -, h7, -⟩ := Cond.code_spec B.named (atoms_spec (ws := ws) B.pre _ (by rw [hw]; exact List.mem_cons_self))
      cases Option.some.inj (h1.symm.trans B.method)
      cases Option.some.inj (h2.symm.trans (Stand.of_body B).code)
      intro x hx
      rw [Array.isEmpty_iff.mp h7] at hx
      cases hx
    obtain ⟨t, a1, o, b1, b2, b3⟩ := body p e s m args below meth c s₁ B hml ht hP s₁ hh0 (Stand.of_body B)
    exact ⟨t, o, a1, b1, b2, b3⟩
/-- the table of a body with handlers -/
theorem vx_table {p : Program} {x y : MethodName} {S : Spec} {cc bytes : ByteArray} {maxL maxL' : Nat} {ret ret' : Option FieldType} {e : Env} {s s₁ : State} {m : MethodId} {args : Array Value} {below : List Frame} {meth : Method} {c : Code} {hh : List (Nat × Nat × Nat × Nat)}
    (B : BodyLoose p l y S cc maxL ret e s m args below meth c s₁) (h : (Cond.codeWith y bytes maxL' ret' hh).before args s = true) : c.exceptionTable.toList = tableOf hh := by
  obtain ⟨m9, meth9, c9, hn9, h1, h2, -, -, h6, -⟩ := Cond.codeWith_spec h
  cases Option.some.inj (hn9.symm.trans B.named)
  cases Option.some.inj (h1.symm.trans B.method)
  cases Option.some.inj (h2.symm.trans (Stand.of_body B).code)
  rw [← h6, table_eq]
end Bodies
end VXA
/-! ===== END ===== -/
/-! ===== BEGIN a static call of a method with an exception table ===== -/
section VXS
variable {p : Program} {l : Launch} {e : Env} {R : Room} {s : State} {m : MethodId} {args : Array Value} {below : List Frame} {meth : Method} {c : Code} {T : State} {H : Heap} {locs : List Loc} {cells slots : Nat}
abbrev vx_CSW (R : Room) (s : State) (args : Array Value) (own : String) (index : Nat) (y : MethodName) (bytes : ByteArray) (maxL : Nat) (ret : Option FieldType) (hh : List (Nat × Nat × Nat × Nat)) (ws : List Cond) (rm : Room) (mc ms n : Nat) : Prop :=
  (rm.cells = mc ∧ rm.slots = ms ∧ rm.frames + 1 ≤ R.frames ∧ 8 + (maxL + 11) + rm.locals ≤ R.locals ∧ (∀ w ∈ ws, ∀ (a' : Array Value) (U : State), s.WarmedH U.vm → w.before a' U = true) ∧ Cond.codeWith y bytes maxL ret hh ∈ ws) ∧
  (Cond.codeWith y bytes maxL ret hh).before args s = true ∧ (Cond.initialized y.cls).before args s = true ∧ (y.cls ≠ "java/lang/invoke/MethodHandle" ∧ y.cls ≠ "java/lang/invoke/VarHandle") ∧
  (∀ sig, parseMethodDescriptor y.desc = some sig → n = sig.parameters.length) ∧ (Cond.methodLink own index y).before args s = true ∧ (Cond.static y).before args s = true
theorem vx_cwSW {own : String} {index maxL mc ms : Nat} {y : MethodName} {bytes : ByteArray} {ret : Option FieldType} {hh : List (Nat × Nat × Nat × Nat)} {Ts ws ws' : List Cond} {rm : Room} (n : Nat) (ht : ∀ w ∈ Ts, w.before args s = true) (hT : GoodIn Ts (va_wsS own index y ws)) (hw : ws = Cond.codeWith y bytes maxL ret hh :: ws') (hrc : rm.cells = mc) (hrs : rm.slots = ms)
    (hd : y.cls ≠ "java/lang/invoke/MethodHandle" ∧ y.cls ≠ "java/lang/invoke/VarHandle" ∧ (parseMethodDescriptor y.desc).map (fun d => d.parameters.length) = some n) (hR : rm.frames + 1 ≤ R.frames ∧ 8 + (maxL + 11) + rm.locals ≤ R.locals) :
    vx_CSW R s args own index y bytes maxL ret hh ws rm mc ms n := by
  have ok : ∀ w ∈ va_wsS own index y ws, w.before args s = true := fun w h => ht w (hT w h).1
  have hG : GoodIn Ts ws := fun w h => hT w (by unfold va_wsS; exact List.mem_append_right _ h)
  have hc : Cond.codeWith y bytes maxL ret hh ∈ ws := by rw [hw]; exact List.mem_cons_self
  refine ⟨⟨hrc, hrs, hR.1, hR.2, pay_in ht hG, hc⟩, ht _ (hG _ hc).1, ok _ (by simp [va_wsS]), ⟨hd.1, hd.2.1⟩, fun sig h => ?_, ok _ (by simp [va_wsS]), ok _ (by simp [va_wsS])⟩
  have h2 := hd.2.2
  rw [h] at h2
  exact (Option.some.inj h2).symm
theorem vx_callSW (X : Stand p l e R s m args below meth c T locs cells slots) (hexec : p.tables.exec = Jvm.exec) {own : String} {index : Nat} {y : MethodName} {bytes : ByteArray} {maxL : Nat} {ret : Option FieldType} {hh : List (Nat × Nat × Nat × Nat)}
    (hown : s.vm.findClass own = some m.cls) (hlink : (Cond.methodLink own index y).before args s = true) (hstat : (Cond.static y).before args s = true) (hinit : (Cond.initialized y.cls).before args s = true)
    (hcode : (Cond.codeWith y bytes maxL ret hh).before args s = true) (hy : y.cls ≠ "java/lang/invoke/MethodHandle" ∧ y.cls ≠ "java/lang/invoke/VarHandle")
    {W9 : Nat} {Pre : Pt → Array Value → Prop} {Post : Pt → Array Value → Option Value → Pt → Prop} (hK : Back l R p e below s args y 3 W9 Pre Post)
    {g : JFrame} (hg : g.method = m) (hsize : g.locals.size = c.maxLocals) {argsL rest : List Value} (hlen : ∀ sig, parseMethodDescriptor y.desc = some sig → argsL.length = sig.parameters.length)
    (hstack : g.stack = argsL.reverse ++ rest) (hW : 2 * g.monitorRoom + (rest.map fun v => v.category).sum ≤ W9) (hdg : decode c.code g.pc = .ok (.invokestatic index, 3))
    (hpre : ∀ vm₁, s.WarmedH vm₁ → Pre ⟨T.setVm vm₁, locs, cells, slots⟩ argsL.toArray) :
    ∃ (v : Option Value) (vm₁ : Vm) (B : Pt), s.WarmedH vm₁ ∧ Stand p l e R s m args below meth c B.U B.locs B.cells B.slots ∧ Post ⟨T.setVm vm₁, locs, cells, slots⟩ argsL.toArray v B ∧
      ∀ target, Steps p.tables e below (B.U.setTop { g with pc := g.pc + 3, stack := v.toList ++ rest }) target → Steps p.tables e below (T.setTop g) target := by
  obtain ⟨mk, methM, cM, hnamed, hmethM, -, -, -, -, -, -, hsigM⟩ := Cond.codeWith_spec hcode
  have hstatic : methM.isStatic = true := Cond.static_spec hnamed hmethM hstat
  obtain ⟨kP, hkP, -⟩ := className_of_methodNamed hnamed
  have hinitP : kP.init = .initialized := Cond.initialized_spec (findClass_of_methodNamed hnamed) hkP hinit
  obtain ⟨vm₁, X₁, hstep₁⟩ := X.invokestatic hexec hown hlink hnamed hmethM hstatic hkP hinitP hy (g := g) hg (argsL := argsL) (rest := rest) (hlen _ hsigM) hstack hdg
  obtain ⟨v, B, X', hpost, hsteps⟩ := hK m meth c ⟨T.setVm vm₁, locs, cells, slots⟩ { g with stack := rest } (.invokestatic index) mk argsL.toArray X₁ hg hsize hdg hW (X₁.named hnamed) (hpre vm₁ X₁.warmed)
  exact ⟨v, vm₁, B, X₁.warmed, X', hpost, fun target h => hstep₁ _ fun acts => by rw [doInvoke_state]; exact hsteps.trans h⟩
theorem vx_runSW {y : MethodName} {bytes cc : ByteArray} {maxL nL mc ms n index : Nat} {ret : Option FieldType} {hh : List (Nat × Nat × Nat × Nat)} {ws : List Cond} {rm : Room} {Pc : Array Value → State → Prop} {Qc : Array Value → State → Outcome → State → Prop} {free : Addr → Prop} {Ts : List Cond} {own : String} {As rest : List Value} {g : JFrame}
    (S : CallFix p m c cc nL s args Ts own) (hM : Met l y ws rm Pc Qc mc ms free) (cw : vx_CSW R s args own index y bytes maxL ret hh ws rm mc ms n) (hp : PreS s H Pc As)
    (hg : g.method = m) (hn : As.length = n) (hsize : g.locals.size = nL) (hstack : g.stack = As.reverse ++ rest) (hW : 2 * g.monitorRoom + (rest.map fun v => v.category).sum ≤ 8) (hdg : decode cc g.pc = .ok (.invokestatic index, 3)) (hf : cells + mc ≤ R.cells ∧ slots + ms ≤ R.slots) :
    va_Run p l e R s m args below meth c H locs cells slots mc ms g rest (Qc As.toArray) (free) := by
  obtain ⟨⟨hrc, hrs, hfr, hlo, hws, hcw⟩, hcode, hini, hy, hlen, hl, hstt⟩ := cw
  have hK : Back l R p e below s args y 3 8 (PreOf R mc ms Pc) (PostOf Qc mc ms free) := va_backW (hh := hh) (bytes := bytes) (maxL := maxL) (ret := ret) hM hp.1 hrc hrs hfr hlo hws hcw (fun a' U hW => word_at hW (Or.inl (by first | rfl | simp [Cond.onTables, Cond.keeps, Cond.steady])) hini)
  obtain ⟨hx, hb, hml, ho, -⟩ := S
  intro T hT X
  obtain ⟨v, vm₁, ⟨U', l2, c2, s2⟩, hW₁, X', ⟨g', mk, t, L, e1, e2, hq, h1, hL, h2, h3⟩, st⟩ := vx_callSW X hx (hh := hh) (bytes := bytes) (maxL := maxL) (ret := ret) ho hl hstt hini hcode hy hK hg (hsize.trans hml.symm) (argsL := As) (rest := rest) (fun sig h => hn.trans (hlen sig h)) hstack hW (by rw [hb]; exact hdg)
    (fun vm₁ hW₁ => ⟨hf.1, hf.2, hp.2 (T.setVm vm₁) hT hW₁⟩)
  dsimp only [Pt.U, Pt.locs, Pt.cells, Pt.slots] at X' e1 e2 h1 h2 h3 st
  subst h1; subst h2; subst h3
  exact ⟨v, (T.setVm vm₁).calling g' mk As.toArray, t, U', L, hT, X', hL, e1, e2, hq, st⟩
/-- not caught here, past rows that name other classes: it goes on to the caller -/
theorem vx_outP {p : Program} {l : Launch} {e : Env} {R : Room} {s : State} {m : MethodId} {args : Array Value} {below : List Frame} {meth : Method} {c : Code} {H : Heap} {locs : List Loc} {cells slots : Nat} {free : Addr → Prop} {ls : Array Slot} {rest : List Value} {Qc : Array Value → State → Outcome → State → Prop} {XC : String → State → State → Prop}
    {pc : Nat} {own E : String} {ce : Cell} {q : Addr} {mc ms : Nat} (hown : s.vm.findClass own = some m.cls) (hlocks : meth.locks = false)
    (hpass : ∀ z ∈ c.exceptionTable.toList, covers z pc = false ∨ (z.catchType ≠ 0 ∧ ∃ nm : String, (Cond.classLink own z.catchType nm).before args s = true ∧ va_Nc E nm s)) (hcell : H[q]? = some ce) (hv : ce.vm = .none) (hcl : s.vm.findClass E = some ce.cls)
    (hx : ∀ t : State, t.heap = H → s.vm.Alike t.vm → XC E s t) (hf : ∀ z ∈ locs, free z.base) (hc : cells ≤ mc) (hs : slots ≤ ms) :
    vx_W p l e R s m args below meth c H locs cells slots (vx_MQ below Qc XC args s mc ms free) (F0 m pc ls rest) q := by
  intro T hT X
  have hpl : e.platform.magicAccessors = ({} : Platform).magicAccessors := by rw [X.admits.platform]
  obtain ⟨vm', hW', X', st⟩ := X.outThrough hlocks q (g := F0 m pc ls rest) rfl rfl rfl (cell := ce) (by rw [hT]; exact hcell) (by rw [hv]; rfl)
    (by obtain ⟨k9, h9, -⟩ := Vm.findClass_spec hcl; exact ⟨k9, h9⟩) (fun z hz => by
      rcases hpass z hz with h | ⟨hz0, nm, hl1, hn1⟩
      · exact Or.inl h
      · obtain ⟨c6, hc6, hcl6⟩ := Cond.classLink_spec hown hl1 e.platform hpl
        obtain ⟨a8, b8, h1, h2, h3⟩ := hn1
        cases Option.some.inj (h1.symm.trans hcl)
        cases Option.some.inj (h2.symm.trans hc6)
        exact Or.inr ⟨hz0, _, hcl6, h3⟩)
  obtain ⟨g₀, hfr⟩ := X'.frames_eq
  have hcell9 : ((T.setVm vm').setFrames (.throwing q :: below)).heap[q]? = some ce := by
    show T.heap[q]? = some ce
    rw [hT]; exact hcell
  have hend : Ended ((T.setVm vm').setFrames (.throwing q :: below)) below (.threw q) := State.frames_setFrames _ (State.cur_lt_of_frames hfr)
  refine ⟨(T.setVm vm').setFrames (.throwing q :: below), ?_, .threw q, X'.here.running, hend, Or.inr ⟨q, rfl, E, ce, locs, hx _ hT (X'.ends _).1.alike, hcell9, hv, hcl, (X'.ends _).1, (X'.ends _).2.mono hc hs, hf⟩⟩
  rw [X.pushThrowing_eq]
  exact st
/-- a thing of a world lies in the heap -/
theorem vx_lt {D : va_G} {cl : List vw_C} {ws : va_W} {H1 : Heap} (h : va_P D cl ws H1) {k : Nat} {q : Nat × va_E} (hk : ws[k]? = some q) : q.1 < H1.size := (h k q hk).lt
end VXS
/-! ===== END ===== -/
/-! ===== BEGIN methods with a table of their own: called by a name, returning or throwing ===== -/
section VXH
/-! vx_backW, vx_callVX, vx_callSX, vx_callVW, vx_runVW, vx_runVX, vx_runSX, vx_ofWH follow the same proofs as their sisters above (Free/Laws.lean, Shelf42/LK1.lean); vx_outP calls Shelf42/NT130.lean (outThrough). -/
section
variable {l : Launch} {R : Room} {p : Program} {e : Env} {below : List Frame} {s : State} {sargs : Array Value} {y : MethodName} {len W9 : Nat}
theorem vx_backW {ws : List Cond} {rm : Room} {Pc : Array Value → State → Prop} {Qc : Array Value → State → Outcome → State → Prop} {XC : String → State → State → Prop} {mc ms : Nat} {free : Addr → Prop} {bytes : ByteArray} {maxL : Nat} {ret : Option FieldType} {hh : List (Nat × Nat × Nat × Nat)}
    (hM : vx_Met l y ws rm Pc Qc XC mc ms free) (hblind : FrameBlind Pc) (hrc : rm.cells = mc) (hrs : rm.slots = ms)
    (hframes : rm.frames + 1 ≤ R.frames) (hlocals : W9 + (maxL + 11) + rm.locals ≤ R.locals)
    (hws : ∀ w ∈ ws, ∀ a' U, s.WarmedH U.vm → w.before a' U = true) (hcode : Cond.codeWith y bytes maxL ret hh ∈ ws) (hinit : ∀ a' U, s.WarmedH U.vm → (Cond.initialized y.cls).before a' U = true) :
    vx_Back l R p e below s sargs y len W9 (PreOf R mc ms Pc) (PostOf Qc mc ms free) (vx_Post XC mc ms free) := by
  intro m meth c A g ig mk a X hg hsize hdg hW hn hp
  have h1 : (headSpec ws rm).pre.before a A.U = true := atoms_intro fun w hw => hws w hw _ _ X.warmed
  have h2 : (Cond.codeWith y bytes maxL ret hh).before a A.U = true := hws _ hcode _ _ X.warmed
  have h3 : (Cond.initialized y.cls).before a A.U = true := hinit _ _ X.warmed
  have h4 : A.cells + (headSpec ws rm).room.cells ≤ R.cells := by rw [show (headSpec ws rm).room.cells = mc from hrc]; exact hp.1
  have h5 : A.slots + (headSpec ws rm).room.slots ≤ R.slots := by rw [show (headSpec ws rm).room.slots = ms from hrs]; exact hp.2.1
  have hPc : Pc a (A.U.calling g mk a) := hblind _ _ _ _ hp.2.2
  obtain ⟨U, Ls, c0, s0⟩ := A
  dsimp only [Pt.U, Pt.locs, Pt.cells, Pt.slots] at h1 h2 h3 h4 h5 X hn hPc ⊢
  obtain ⟨m9, methY, cY, hn9, hmY, hcY, -, hlY, -⟩ := Cond.codeWith_spec h2
  cases Option.some.inj (hn9.symm.trans hn)
  obtain ⟨kY, hkY, -⟩ := className_of_methodNamed hn
  have hinitY : kY.init = .initialized := Cond.initialized_spec (findClass_of_methodNamed hn) hkY h3
  have h : At U g.method c below := by rw [hg]; exact X.here
  have hlocals9 : W9 + (maxL + 11) + (headSpec ws rm).room.locals ≤ R.locals := hlocals
  have happ : (headSpec ws rm).appliesLoose y e.platform (U.calling g mk a) = true :=
    Spec.appliesLoose_calling (g := g) h hdg hn hkY hinitY
      (X.room_calling (g := g) (R' := (headSpec ws rm).room) hsize hmY hcY hframes (by rw [hlY]; omega) h4 h5) h1
  obtain ⟨mid, hmid⟩ := h.above
  have hfr : (U.setTop g).frames = (.java g :: mid) ++ below := by rw [State.frames_setTop' g h.top, hmid]; rfl
  obtain ⟨o, s₂, hsteps, -, hend, hq⟩ := Steps.callFree hM p X.admits X.cas X.clock (acts := []) hfr happ hPc trivial
  have hq' : vx_Q Qc XC mc ms free a (U.calling g mk a) o s₂ := hq
  rw [State.frames_setTop' g h.top] at hend
  obtain ⟨g₀, hg0⟩ := Option.isSome_iff_exists.mp h.top
  obtain ⟨r, hr⟩ := State.topJava?_eq_some.mp hg0
  have hr' : (({ U with heap := s₂.heap, slotsUsed := s₂.slotsUsed } : State).setVm s₂.vm).frames = .java g₀ :: r := hr
  rcases hq' with ⟨hqc, L, hfe, hL⟩ | ⟨q, rfl, E, ce, L, hx, hce, hcv, hcl, hW₂, hsm, hL⟩
  · obtain ⟨⟨v, rfl⟩, hW₂, e2, q2, q3, q4, q5, q6⟩ := id hfe
    have e3 : s₂ = ({ (U.calling g mk a).setFrames s₂.frames with heap := s₂.heap, slotsUsed := s₂.slotsUsed } : State).setVm s₂.vm := by
      have : s₂ = ({ s₂ with vm := (U.calling g mk a).vm } : State).setVm s₂.vm := rfl
      rw [e2] at this
      exact this
    obtain ⟨c₂, i₂, len₂, hc₂, hd₂, hf₂⟩ := hend
    have hW' : U.WarmedH s₂.vm := hW₂
    have hcc : c₂ = c := by
      have h1 : s₂.code? g.method = U.code? g.method := by
        rw [State.code?_eq, State.code?_eq, hW'.alike.method?]
      exact Option.some.inj (hc₂.symm.trans (h1.trans h.code))
    subst hcc
    have hlen : len₂ = len := by rw [hdg] at hd₂; cases hd₂; rfl
    subst hlen
    have hs₂ : s₂ = (({ U with heap := s₂.heap, slotsUsed := s₂.slotsUsed } : State).setVm s₂.vm).setTop { g with pc := g.pc + len₂, stack := v.toList ++ g.stack } := by
      refine e3.trans ?_
      rw [hf₂, State.calling_eq h.top, State.setFrames_setFrames, State.setTop_of_frames _ hr', hr]
      rfl
    have hsame : U.sameButNew ({ U with heap := s₂.heap, slotsUsed := s₂.slotsUsed } : State) L mc ms := by
      refine ⟨?_, q2, q3, q4, q5, q6⟩
      obtain ⟨t, ht, -⟩ := State.frames_cons hr
      show ({ U with heap := s₂.heap, slotsUsed := s₂.slotsUsed } : State) = { U.setFrames U.frames with heap := s₂.heap, slotsUsed := s₂.slotsUsed }
      rw [State.setFrames_self ht]
    subst hg
    refine Or.inl ⟨v, ⟨(({ U with heap := s₂.heap, slotsUsed := s₂.slotsUsed } : State).setVm s₂.vm), Ls ++ L, c0 + mc, s0 + ms⟩,
      ⟨X.admits, X.cas, X.clock, X.frames, X.room, X.hears, X.method, X.code, (X.here.setHeapUsed s₂.heap s₂.slotsUsed).setVm hW'.alike, X.tail, State.WarmedH.trans X.warmed hW', X.limits, X.bytes, X.same.trans (hsame.setVm s.vm)⟩,
      ⟨g, mk, s₂, L, rfl, rfl, hqc, rfl, hL, rfl, rfl⟩, ?_⟩
    show Steps p.tables e below _ ((({ U with heap := s₂.heap, slotsUsed := s₂.slotsUsed } : State).setVm s₂.vm).setTop { g with pc := g.pc + len₂, stack := v.toList ++ g.stack })
    rw [← hs₂]
    exact hsteps
  · obtain ⟨e2, q2, q3, q4, q5, q6⟩ := id hsm
    have e3 : s₂ = ({ (U.calling g mk a).setFrames s₂.frames with heap := s₂.heap, slotsUsed := s₂.slotsUsed } : State).setVm s₂.vm := by
      have : s₂ = ({ s₂ with vm := (U.calling g mk a).vm } : State).setVm s₂.vm := rfl
      rw [e2] at this
      exact this
    have hf₂ : s₂.frames = .throwing q :: .java g :: U.frames.tail := hend
    have hW' : U.WarmedH s₂.vm := hW₂
    have hs₂ : s₂ = ((({ U with heap := s₂.heap, slotsUsed := s₂.slotsUsed } : State).setVm s₂.vm).setTop g).pushFrame (.throwing q) := by
      refine e3.trans ?_
      rw [hf₂, State.calling_eq h.top, State.setFrames_setFrames, State.pushFrame, State.frames_setTop _ hr', State.setTop_of_frames _ hr', State.setFrames_setFrames, hr]
      rfl
    have hsame : U.sameButNew ({ U with heap := s₂.heap, slotsUsed := s₂.slotsUsed } : State) L mc ms := by
      refine ⟨?_, q2, q3, q4, q5, q6⟩
      obtain ⟨t, ht, -⟩ := State.frames_cons hr
      show ({ U with heap := s₂.heap, slotsUsed := s₂.slotsUsed } : State) = { U.setFrames U.frames with heap := s₂.heap, slotsUsed := s₂.slotsUsed }
      rw [State.setFrames_self ht]
    subst hg
    refine Or.inr ⟨q, ⟨(({ U with heap := s₂.heap, slotsUsed := s₂.slotsUsed } : State).setVm s₂.vm), Ls ++ L, c0 + mc, s0 + ms⟩,
      ⟨X.admits, X.cas, X.clock, X.frames, X.room, X.hears, X.method, X.code, (X.here.setHeapUsed s₂.heap s₂.slotsUsed).setVm hW'.alike, X.tail, State.WarmedH.trans X.warmed hW', X.limits, X.bytes, X.same.trans (hsame.setVm s.vm)⟩,
      ⟨g, mk, s₂, L, E, ce, rfl, rfl, hx, hce, hcv, hcl, rfl, hL, rfl, rfl⟩, ?_⟩
    show Steps p.tables e below _ (((({ U with heap := s₂.heap, slotsUsed := s₂.slotsUsed } : State).setVm s₂.vm).setTop g).pushFrame (.throwing q))
    rw [← hs₂]
    exact hsteps
end
variable {p : Program} {l : Launch} {e : Env} {R : Room} {s : State} {m : MethodId} {args : Array Value} {below : List Frame} {meth : Method} {c : Code} {T : State} {H : Heap} {locs : List Loc} {cells slots : Nat}
theorem vx_callVX (X : Stand p l e R s m args below meth c T locs cells slots) (hexec : p.tables.exec = Jvm.exec) {own C : String} {index : Nat} {y : MethodName} {bytes : ByteArray} {maxL : Nat} {ret : Option FieldType} {hh : List (Nat × Nat × Nat × Nat)}
    (hown : s.vm.findClass own = some m.cls) (hlink : (Cond.methodLink own index y).before args s = true) (hinst : (Cond.instanceMethod y).before args s = true) (hsel : (Cond.selects C y y).before args s = true)
    (hcode : (Cond.codeWith y bytes maxL ret hh).before args s = true) (hy : y.cls ≠ "java/lang/invoke/MethodHandle" ∧ y.cls ≠ "java/lang/invoke/VarHandle")
    {W9 : Nat} {Pre : Pt → Array Value → Prop} {Post : Pt → Array Value → Option Value → Pt → Prop} {PostX : Pt → Array Value → Addr → Pt → Prop} (hK : vx_Back l R p e below s args y 3 W9 Pre Post PostX)
    {b : Addr} {cellB : Cell} (hcell : T.heap[b]? = some cellB) (hobj : cellB.vm.isStatics = false) (hcls : s.vm.findClass C = some cellB.cls)
    {g : JFrame} (hg : g.method = m) (hsize : g.locals.size = c.maxLocals) {argsL rest : List Value} (hlen : ∀ sig, parseMethodDescriptor y.desc = some sig → argsL.length = sig.parameters.length)
    (hstack : g.stack = argsL.reverse ++ .ref b :: rest) (hW : 2 * g.monitorRoom + (rest.map fun v => v.category).sum ≤ W9) (hdg : decode c.code g.pc = .ok (.invokevirtual index, 3))
    (hpre : ∀ vm₁, s.WarmedH vm₁ → Pre ⟨T.setVm vm₁, locs, cells, slots⟩ (Value.ref b :: argsL).toArray) :
    (∃ (v : Option Value) (vm₁ : Vm) (B : Pt), s.WarmedH vm₁ ∧ Stand p l e R s m args below meth c B.U B.locs B.cells B.slots ∧ Post ⟨T.setVm vm₁, locs, cells, slots⟩ (Value.ref b :: argsL).toArray v B ∧
      ∀ target, Steps p.tables e below (B.U.setTop { g with pc := g.pc + 3, stack := v.toList ++ rest }) target → Steps p.tables e below (T.setTop g) target) ∨
    (∃ (q : Addr) (vm₁ : Vm) (B : Pt), s.WarmedH vm₁ ∧ Stand p l e R s m args below meth c B.U B.locs B.cells B.slots ∧ PostX ⟨T.setVm vm₁, locs, cells, slots⟩ (Value.ref b :: argsL).toArray q B ∧
      Steps p.tables e below (T.setTop g) ((B.U.setTop { g with stack := rest }).pushFrame (.throwing q))) := by
  obtain ⟨mk, methM, hnamed, hmethM, hstM, habM⟩ := Cond.instanceMethod_spec hinst
  obtain ⟨m8, methM', cM, hn8, hmethM', -, -, -, -, -, -, hsigM⟩ := Cond.codeWith_spec hcode
  cases Option.some.inj (hn8.symm.trans hnamed)
  cases hmethM.symm.trans hmethM'
  obtain ⟨c2, r2, m2, q1, q2, q3, q4, kP, hkP, hkPi⟩ := Cond.selects_spec hsel
  cases hcls.symm.trans q1
  cases (State.methodFound?_of_named hnamed hy).symm.trans q2
  cases hnamed.symm.trans q3
  have hselP : selectMethod e.platform s.vm cellB.cls mk = .method mk := by rw [Launch.admits_selectMethod X.admits]; exact q4
  obtain ⟨vm₁, X₁, hstep₁⟩ := X.invokevirtual hexec hown hlink hnamed hmethM hstM hkP hkPi hy (a := b) (cell := cellB) hcell
    (fun z h => by rw [h] at hobj; cases hobj) hselP hmethM habM hkP hkPi (g := g) hg (argsL := argsL) (rest := rest) (hlen _ hsigM) hstack hdg
  rcases hK m meth c ⟨T.setVm vm₁, locs, cells, slots⟩ { g with stack := rest } (.invokevirtual index) mk (Value.ref b :: argsL).toArray X₁ hg hsize hdg hW (X₁.named hnamed) (hpre vm₁ X₁.warmed) with ⟨v, B, X', hpost, hsteps⟩ | ⟨q, B, X', hpost, hsteps⟩
  · exact Or.inl ⟨v, vm₁, B, X₁.warmed, X', hpost, fun target h => hstep₁ _ fun acts => by rw [doInvoke_state]; exact hsteps.trans h⟩
  · exact Or.inr ⟨q, vm₁, B, X₁.warmed, X', hpost, hstep₁ _ fun acts => by rw [doInvoke_state]; exact hsteps⟩
theorem vx_callSX (X : Stand p l e R s m args below meth c T locs cells slots) (hexec : p.tables.exec = Jvm.exec) {own : String} {index : Nat} {y : MethodName} {bytes : ByteArray} {maxL : Nat} {ret : Option FieldType} {hh : List (Nat × Nat × Nat × Nat)}
    (hown : s.vm.findClass own = some m.cls) (hlink : (Cond.methodLink own index y).before args s = true) (hstat : (Cond.static y).before args s = true) (hinit : (Cond.initialized y.cls).before args s = true)
    (hcode : (Cond.codeWith y bytes maxL ret hh).before args s = true) (hy : y.cls ≠ "java/lang/invoke/MethodHandle" ∧ y.cls ≠ "java/lang/invoke/VarHandle")
    {W9 : Nat} {Pre : Pt → Array Value → Prop} {Post : Pt → Array Value → Option Value → Pt → Prop} {PostX : Pt → Array Value → Addr → Pt → Prop} (hK : vx_Back l R p e below s args y 3 W9 Pre Post PostX)
    {g : JFrame} (hg : g.method = m) (hsize : g.locals.size = c.maxLocals) {argsL rest : List Value} (hlen : ∀ sig, parseMethodDescriptor y.desc = some sig → argsL.length = sig.parameters.length)
    (hstack : g.stack = argsL.reverse ++ rest) (hW : 2 * g.monitorRoom + (rest.map fun v => v.category).sum ≤ W9) (hdg : decode c.code g.pc = .ok (.invokestatic index, 3))
    (hpre : ∀ vm₁, s.WarmedH vm₁ → Pre ⟨T.setVm vm₁, locs, cells, slots⟩ argsL.toArray) :
    (∃ (v : Option Value) (vm₁ : Vm) (B : Pt), s.WarmedH vm₁ ∧ Stand p l e R s m args below meth c B.U B.locs B.cells B.slots ∧ Post ⟨T.setVm vm₁, locs, cells, slots⟩ argsL.toArray v B ∧
      ∀ target, Steps p.tables e below (B.U.setTop { g with pc := g.pc + 3, stack := v.toList ++ rest }) target → Steps p.tables e below (T.setTop g) target) ∨
    (∃ (q : Addr) (vm₁ : Vm) (B : Pt), s.WarmedH vm₁ ∧ Stand p l e R s m args below meth c B.U B.locs B.cells B.slots ∧ PostX ⟨T.setVm vm₁, locs, cells, slots⟩ argsL.toArray q B ∧
      Steps p.tables e below (T.setTop g) ((B.U.setTop { g with stack := rest }).pushFrame (.throwing q))) := by
  obtain ⟨mk, methM, cM, hnamed, hmethM, -, -, -, -, -, -, hsigM⟩ := Cond.codeWith_spec hcode
  have hstatic : methM.isStatic = true := Cond.static_spec hnamed hmethM hstat
  obtain ⟨kP, hkP, -⟩ := className_of_methodNamed hnamed
  have hinitP : kP.init = .initialized := Cond.initialized_spec (findClass_of_methodNamed hnamed) hkP hinit
  obtain ⟨vm₁, X₁, hstep₁⟩ := X.invokestatic hexec hown hlink hnamed hmethM hstatic hkP hinitP hy (g := g) hg (argsL := argsL) (rest := rest) (hlen _ hsigM) hstack hdg
  rcases hK m meth c ⟨T.setVm vm₁, locs, cells, slots⟩ { g with stack := rest } (.invokestatic index) mk argsL.toArray X₁ hg hsize hdg hW (X₁.named hnamed) (hpre vm₁ X₁.warmed) with ⟨v, B, X', hpost, hsteps⟩ | ⟨q, B, X', hpost, hsteps⟩
  · exact Or.inl ⟨v, vm₁, B, X₁.warmed, X', hpost, fun target h => hstep₁ _ fun acts => by rw [doInvoke_state]; exact hsteps.trans h⟩
  · exact Or.inr ⟨q, vm₁, B, X₁.warmed, X', hpost, hstep₁ _ fun acts => by rw [doInvoke_state]; exact hsteps⟩
theorem vx_callVW (X : Stand p l e R s m args below meth c T locs cells slots) (hexec : p.tables.exec = Jvm.exec) {own C : String} {index : Nat} {y : MethodName} {bytes : ByteArray} {maxL : Nat} {ret : Option FieldType} {hh : List (Nat × Nat × Nat × Nat)}
    (hown : s.vm.findClass own = some m.cls) (hlink : (Cond.methodLink own index y).before args s = true) (hinst : (Cond.instanceMethod y).before args s = true) (hsel : (Cond.selects C y y).before args s = true)
    (hcode : (Cond.codeWith y bytes maxL ret hh).before args s = true) (hy : y.cls ≠ "java/lang/invoke/MethodHandle" ∧ y.cls ≠ "java/lang/invoke/VarHandle")
    {W9 : Nat} {Pre : Pt → Array Value → Prop} {Post : Pt → Array Value → Option Value → Pt → Prop} (hK : Back l R p e below s args y 3 W9 Pre Post)
    {b : Addr} {cellB : Cell} (hcell : T.heap[b]? = some cellB) (hobj : cellB.vm.isStatics = false) (hcls : s.vm.findClass C = some cellB.cls)
    {g : JFrame} (hg : g.method = m) (hsize : g.locals.size = c.maxLocals) {argsL rest : List Value} (hlen : ∀ sig, parseMethodDescriptor y.desc = some sig → argsL.length = sig.parameters.length)
    (hstack : g.stack = argsL.reverse ++ .ref b :: rest) (hW : 2 * g.monitorRoom + (rest.map fun v => v.category).sum ≤ W9) (hdg : decode c.code g.pc = .ok (.invokevirtual index, 3))
    (hpre : ∀ vm₁, s.WarmedH vm₁ → Pre ⟨T.setVm vm₁, locs, cells, slots⟩ (Value.ref b :: argsL).toArray) :
    ∃ (v : Option Value) (vm₁ : Vm) (B : Pt), s.WarmedH vm₁ ∧ Stand p l e R s m args below meth c B.U B.locs B.cells B.slots ∧ Post ⟨T.setVm vm₁, locs, cells, slots⟩ (Value.ref b :: argsL).toArray v B ∧
      ∀ target, Steps p.tables e below (B.U.setTop { g with pc := g.pc + 3, stack := v.toList ++ rest }) target → Steps p.tables e below (T.setTop g) target := by
  obtain ⟨mk, methM, hnamed, hmethM, hstM, habM⟩ := Cond.instanceMethod_spec hinst
  obtain ⟨m8, methM', cM, hn8, hmethM', -, -, -, -, -, -, hsigM⟩ := Cond.codeWith_spec hcode
  cases Option.some.inj (hn8.symm.trans hnamed)
  cases hmethM.symm.trans hmethM'
  obtain ⟨c2, r2, m2, q1, q2, q3, q4, kP, hkP, hkPi⟩ := Cond.selects_spec hsel
  cases hcls.symm.trans q1
  cases (State.methodFound?_of_named hnamed hy).symm.trans q2
  cases hnamed.symm.trans q3
  have hselP : selectMethod e.platform s.vm cellB.cls mk = .method mk := by rw [Launch.admits_selectMethod X.admits]; exact q4
  obtain ⟨vm₁, X₁, hstep₁⟩ := X.invokevirtual hexec hown hlink hnamed hmethM hstM hkP hkPi hy (a := b) (cell := cellB) hcell
    (fun z h => by rw [h] at hobj; cases hobj) hselP hmethM habM hkP hkPi (g := g) hg (argsL := argsL) (rest := rest) (hlen _ hsigM) hstack hdg
  obtain ⟨v, B, X', hpost, hsteps⟩ := hK m meth c ⟨T.setVm vm₁, locs, cells, slots⟩ { g with stack := rest } (.invokevirtual index) mk (Value.ref b :: argsL).toArray X₁ hg hsize hdg hW (X₁.named hnamed) (hpre vm₁ X₁.warmed)
  exact ⟨v, vm₁, B, X₁.warmed, X', hpost, fun target h => hstep₁ _ fun acts => by rw [doInvoke_state]; exact hsteps.trans h⟩
abbrev vx_CVW (R : Room) (s : State) (args : Array Value) (own C : String) (index : Nat) (y : MethodName) (bytes : ByteArray) (maxL : Nat) (ret : Option FieldType) (hh : List (Nat × Nat × Nat × Nat)) (ws : List Cond) (rm : Room) (mc ms n : Nat) : Prop :=
  (rm.cells = mc ∧ rm.slots = ms ∧ rm.frames + 1 ≤ R.frames ∧ 8 + (maxL + 11) + rm.locals ≤ R.locals ∧ (∀ w ∈ ws, ∀ (a' : Array Value) (U : State), s.WarmedH U.vm → w.before a' U = true) ∧ Cond.codeWith y bytes maxL ret hh ∈ ws) ∧
  (Cond.codeWith y bytes maxL ret hh).before args s = true ∧ (Cond.initialized y.cls).before args s = true ∧ (y.cls ≠ "java/lang/invoke/MethodHandle" ∧ y.cls ≠ "java/lang/invoke/VarHandle") ∧
  (∀ sig, parseMethodDescriptor y.desc = some sig → n = sig.parameters.length) ∧ (Cond.methodLink own index y).before args s = true ∧ (Cond.instanceMethod y).before args s = true ∧ (Cond.selects C y y).before args s = true
theorem vx_cwVW {own C : String} {index maxL mc ms : Nat} {y : MethodName} {bytes : ByteArray} {ret : Option FieldType} {hh : List (Nat × Nat × Nat × Nat)} {Ts ws ws' : List Cond} {rm : Room} (n : Nat) (ht : ∀ w ∈ Ts, w.before args s = true) (hT : GoodIn Ts (wsV own index C y ws)) (hw : ws = Cond.codeWith y bytes maxL ret hh :: ws') (hrc : rm.cells = mc) (hrs : rm.slots = ms)
    (hd : y.cls = C ∧ y.cls ≠ "java/lang/invoke/MethodHandle" ∧ y.cls ≠ "java/lang/invoke/VarHandle" ∧ (parseMethodDescriptor y.desc).map (fun d => d.parameters.length) = some n) (hR : rm.frames + 1 ≤ R.frames ∧ 8 + (maxL + 11) + rm.locals ≤ R.locals) :
    vx_CVW R s args own C index y bytes maxL ret hh ws rm mc ms n := by
  obtain ⟨hC, hd⟩ := hd
  subst hC
  have ok : ∀ w ∈ wsV own index y.cls y ws, w.before args s = true := fun w h => ht w (hT w h).1
  have hG : GoodIn Ts ws := fun w h => hT w (by unfold wsV; exact List.mem_append_right _ h)
  have hc : Cond.codeWith y bytes maxL ret hh ∈ ws := by rw [hw]; exact List.mem_cons_self
  refine ⟨⟨hrc, hrs, hR.1, hR.2, pay_in ht hG, hc⟩, ht _ (hG _ hc).1, ok _ (by simp [wsV]), ⟨hd.1, hd.2.1⟩, fun sig h => ?_, ok _ (by simp [wsV]), ok _ (by simp [wsV]), ok _ (by simp [wsV])⟩
  have h2 := hd.2.2
  rw [h] at h2
  exact (Option.some.inj h2).symm
theorem vx_runVW {y : MethodName} {bytes cc : ByteArray} {maxL nL mc ms n index : Nat} {ret : Option FieldType} {hh : List (Nat × Nat × Nat × Nat)} {ws : List Cond} {rm : Room} {Pc : Array Value → State → Prop} {Qc : Array Value → State → Outcome → State → Prop} {free : Addr → Prop} {Ts : List Cond} {own C : String} {b : Addr} {As rest : List Value} {g : JFrame}
    (S : CallFix p m c cc nL s args Ts own) (hM : Met l y ws rm Pc Qc mc ms free) (cw : vx_CVW R s args own C index y bytes maxL ret hh ws rm mc ms n) (hp : PreV s H C b Pc As)
    (hg : g.method = m) (hn : As.length = n) (hsize : g.locals.size = nL) (hstack : g.stack = As.reverse ++ .ref b :: rest) (hW : 2 * g.monitorRoom + (rest.map fun v => v.category).sum ≤ 8) (hdg : decode cc g.pc = .ok (.invokevirtual index, 3)) (hf : cells + mc ≤ R.cells ∧ slots + ms ≤ R.slots) :
    va_Run p l e R s m args below meth c H locs cells slots mc ms g rest (Qc (Value.ref b :: As).toArray) free := by
  obtain ⟨⟨hrc, hrs, hfr, hlo, hws, hcw⟩, hcode, hini, hy, hlen, hl, hin, hse⟩ := cw
  have hK : Back l R p e below s args y 3 8 (PreOf R mc ms Pc) (PostOf Qc mc ms free) := va_backW (hh := hh) (bytes := bytes) (maxL := maxL) (ret := ret) hM hp.1 hrc hrs hfr hlo hws hcw (fun a' U hW => word_at hW (Or.inl (by first | rfl | simp [Cond.onTables, Cond.keeps, Cond.steady])) hini)
  obtain ⟨hx, hb, hml, ho, -⟩ := S
  obtain ⟨-, ⟨cellB, hcB, hoB, hclB⟩, hPc⟩ := hp
  intro T hT X
  obtain ⟨v, vm₁, ⟨U', l2, c2, s2⟩, hW₁, X', ⟨g', mk, t, L, e1, e2, hq, h1, hL, h2, h3⟩, st⟩ := vx_callVW X hx (C := C) (hh := hh) (bytes := bytes) (maxL := maxL) (ret := ret) ho hl hin hse hcode hy hK (by rw [hT]; exact hcB) hoB hclB hg (hsize.trans hml.symm) (argsL := As) (rest := rest) (fun sig h => hn.trans (hlen sig h)) hstack hW (by rw [hb]; exact hdg)
    (fun vm₁ hW₁ => ⟨hf.1, hf.2, hPc (T.setVm vm₁) hT hW₁⟩)
  dsimp only [Pt.U, Pt.locs, Pt.cells, Pt.slots] at X' e1 e2 h1 h2 h3 st
  subst h1; subst h2; subst h3
  exact ⟨v, (T.setVm vm₁).calling g' mk (Value.ref b :: As).toArray, t, U', L, hT, X', hL, e1, e2, hq, st⟩
section
variable {y : MethodName} {bytes cc : ByteArray} {maxL nL mc ms n index : Nat} {ret : Option FieldType} {ws : List Cond} {rm : Room} {Pc : Array Value → State → Prop} {Qc : Array Value → State → Outcome → State → Prop} {XC : String → State → State → Prop} {free : Addr → Prop} {Ts : List Cond} {own C : String} {b : Addr} {As rest : List Value} {g : JFrame}
theorem vx_runVX {hh : List (Nat × Nat × Nat × Nat)} (S : CallFix p m c cc nL s args Ts own) (hM : vx_Met l y ws rm Pc Qc XC mc ms free) (cw : vx_CVW R s args own C index y bytes maxL ret hh ws rm mc ms n) (hp : PreV s H C b Pc As)
    (hg : g.method = m) (hn : As.length = n) (hsize : g.locals.size = nL) (hstack : g.stack = As.reverse ++ .ref b :: rest) (hW : 2 * g.monitorRoom + (rest.map fun v => v.category).sum ≤ 8) (hdg : decode cc g.pc = .ok (.invokevirtual index, 3)) (hf : cells + mc ≤ R.cells ∧ slots + ms ≤ R.slots) :
    vx_Run p l e R s m args below meth c H locs cells slots mc ms g rest (Qc (Value.ref b :: As).toArray) XC free := by
  obtain ⟨⟨hrc, hrs, hfr, hlo, hws, hcw⟩, hcode, hini, hy, hlen, hl, hin, hse⟩ := cw
  have hK : vx_Back l R p e below s args y 3 8 (PreOf R mc ms Pc) (PostOf Qc mc ms free) (vx_Post XC mc ms free) := vx_backW (hh := hh) (bytes := bytes) (maxL := maxL) (ret := ret) hM hp.1 hrc hrs hfr hlo hws hcw (fun a' U hW => word_at hW (Or.inl (by first | rfl | simp [Cond.onTables, Cond.keeps, Cond.steady])) hini)
  obtain ⟨hx, hb, hml, ho, -⟩ := S
  obtain ⟨-, ⟨cellB, hcB, hoB, hclB⟩, hPc⟩ := hp
  intro T hT X
  rcases vx_callVX X hx (C := C) (hh := hh) (bytes := bytes) (maxL := maxL) (ret := ret) ho hl hin hse hcode hy hK (by rw [hT]; exact hcB) hoB hclB hg (hsize.trans hml.symm) (argsL := As) (rest := rest) (fun sig h => hn.trans (hlen sig h)) hstack hW (by rw [hb]; exact hdg)
    (fun vm₁ hW₁ => ⟨hf.1, hf.2, hPc (T.setVm vm₁) hT hW₁⟩) with ⟨v, vm₁, ⟨U', l2, c2, s2⟩, hW₁, X', ⟨g', mk, t, L, e1, e2, hq, h1, hL, h2, h3⟩, st⟩ | ⟨q, vm₁, ⟨U', l2, c2, s2⟩, hW₁, X', ⟨g', mk, t, L, E, ce, e1, e2, hq, hce, hcv, hcl, h1, hL, h2, h3⟩, st⟩
  · dsimp only [Pt.U, Pt.locs, Pt.cells, Pt.slots] at X' e1 e2 h1 h2 h3 st
    subst h1; subst h2; subst h3
    exact Or.inl ⟨v, (T.setVm vm₁).calling g' mk (Value.ref b :: As).toArray, t, U', L, hT, X', hL, e1, e2, hq, st⟩
  · dsimp only [Pt.U, Pt.locs, Pt.cells, Pt.slots] at X' e1 e2 h1 h2 h3 st hcl
    subst h1; subst h2; subst h3
    exact Or.inr ⟨q, (T.setVm vm₁).calling g' mk (Value.ref b :: As).toArray, t, U', L, E, ce, hT, X', hL, e1, e2, hq, hce, hcv, vx_cls hW₁ hcl, st⟩
theorem vx_runSX {hh : List (Nat × Nat × Nat × Nat)} (S : CallFix p m c cc nL s args Ts own) (hM : vx_Met l y ws rm Pc Qc XC mc ms free) (cw : vx_CSW R s args own index y bytes maxL ret hh ws rm mc ms n) (hp : PreS s H Pc As)
    (hg : g.method = m) (hn : As.length = n) (hsize : g.locals.size = nL) (hstack : g.stack = As.reverse ++ rest) (hW : 2 * g.monitorRoom + (rest.map fun v => v.category).sum ≤ 8) (hdg : decode cc g.pc = .ok (.invokestatic index, 3)) (hf : cells + mc ≤ R.cells ∧ slots + ms ≤ R.slots) :
    vx_Run p l e R s m args below meth c H locs cells slots mc ms g rest (Qc As.toArray) XC free := by
  obtain ⟨⟨hrc, hrs, hfr, hlo, hws, hcw⟩, hcode, hini, hy, hlen, hl, hstt⟩ := cw
  have hK : vx_Back l R p e below s args y 3 8 (PreOf R mc ms Pc) (PostOf Qc mc ms free) (vx_Post XC mc ms free) := vx_backW (hh := hh) (bytes := bytes) (maxL := maxL) (ret := ret) hM hp.1 hrc hrs hfr hlo hws hcw (fun a' U hW => word_at hW (Or.inl (by first | rfl | simp [Cond.onTables, Cond.keeps, Cond.steady])) hini)
  obtain ⟨hx, hb, hml, ho, -⟩ := S
  intro T hT X
  rcases vx_callSX X hx (hh := hh) (bytes := bytes) (maxL := maxL) (ret := ret) ho hl hstt hini hcode hy hK hg (hsize.trans hml.symm) (argsL := As) (rest := rest) (fun sig h => hn.trans (hlen sig h)) hstack hW (by rw [hb]; exact hdg)
    (fun vm₁ hW₁ => ⟨hf.1, hf.2, hp.2 (T.setVm vm₁) hT hW₁⟩) with ⟨v, vm₁, ⟨U', l2, c2, s2⟩, hW₁, X', ⟨g', mk, t, L, e1, e2, hq, h1, hL, h2, h3⟩, st⟩ | ⟨q, vm₁, ⟨U', l2, c2, s2⟩, hW₁, X', ⟨g', mk, t, L, E, ce, e1, e2, hq, hce, hcv, hcl, h1, hL, h2, h3⟩, st⟩
  · dsimp only [Pt.U, Pt.locs, Pt.cells, Pt.slots] at X' e1 e2 h1 h2 h3 st
    subst h1; subst h2; subst h3
    exact Or.inl ⟨v, (T.setVm vm₁).calling g' mk As.toArray, t, U', L, hT, X', hL, e1, e2, hq, st⟩
  · dsimp only [Pt.U, Pt.locs, Pt.cells, Pt.slots] at X' e1 e2 h1 h2 h3 st hcl
    subst h1; subst h2; subst h3
    exact Or.inr ⟨q, (T.setVm vm₁).calling g' mk As.toArray, t, U', L, E, ce, hT, X', hL, e1, e2, hq, hce, hcv, vx_cls hW₁ hcl, st⟩
end
end VXH
theorem vx_ofWH {l : Launch} {y : MethodName} {ws ws' : List Cond} {rm : Room} {Pc : Array Value → State → Prop} {Qc : Array Value → State → Outcome → State → Prop} {XC : String → State → State → Prop} {mc ms : Nat} {free : Addr → Prop} {cc : ByteArray} {maxL : Nat} {ret : Option FieldType} {hh : List (Nat × Nat × Nat × Nat)}
    (hy : plainName y.cls = true) (hw : ws = Cond.codeWith y cc maxL ret hh :: ws')
    (body : ∀ p e s m args below meth c s₁, BodyLoose p l y (headSpec ws rm) cc maxL ret e s m args below meth c s₁ → c.maxLocals = maxL → Pc args s →
      W p l e (headSpec ws rm).room s m args below meth c s.heap [] 0 0 (vx_MQ below Qc XC args s mc ms free) (entryFrame m args maxL)) : vx_Met l y ws rm Pc Qc XC mc ms free := by
  refine MetFree.of_bodyS (code := cc) (maxLocals := maxL) (ret := ret) hy ?_ ?_
  · intro args s m h hn
    obtain ⟨m9, meth, c, hn9, h1, h2, h3, h4, -, h5, h6, -⟩ := Cond.codeWith_spec (atoms_spec (ws := ws) h _ (by rw [hw]; exact List.mem_cons_self))
    cases hn.symm.trans hn9
    exact ⟨meth, c, h1, h2, h3, h4, h5, h6⟩
  · intro p e s m args below meth c s₁ B hml hP _
    have hh0 : s₁.heap = s.heap := by rw [B.state]; rfl
    obtain ⟨t, a1, o, b1, b2, b3⟩ := body p e s m args below meth c s₁ B hml hP s₁ hh0 (Stand.of_body B)
    exact ⟨t, o, a1, b1, b2, b3⟩
/-! ===== END ===== -/
end
section
abbrev cL_init : ByteArray := prog_2_method_1_code
def yL_init : MethodName := ⟨"ThreadSlots$Line", "<init>", "()V"⟩
theorem dL_init_0 : decode cL_init 0 = .ok (.aload_n 0, 1) := by decide +kernel
theorem dL_init_1 : decode cL_init 1 = .ok (.invokespecial 3, 3) := by decide +kernel
theorem dL_init_4 : decode cL_init 4 = .ok (.aload_n 0, 1) := by decide +kernel
theorem dL_init_5 : decode cL_init 5 = .ok (.bipush 32, 2) := by decide +kernel
theorem dL_init_7 : decode cL_init 7 = .ok (.newarray .int, 2) := by decide +kernel
theorem dL_init_9 : decode cL_init 9 = .ok (.putfield 9, 3) := by decide +kernel
theorem dL_init_12 : decode cL_init 12 = .ok (.aload_n 0, 1) := by decide +kernel
theorem dL_init_13 : decode cL_init 13 = .ok (.bipush 32, 2) := by decide +kernel
theorem dL_init_15 : decode cL_init 15 = .ok (.newarray .int, 2) := by decide +kernel
theorem dL_init_17 : decode cL_init 17 = .ok (.putfield 15, 3) := by decide +kernel
theorem dL_init_20 : decode cL_init 20 = .ok (.aload_n 0, 1) := by decide +kernel
theorem dL_init_21 : decode cL_init 21 = .ok (.bipush 16, 2) := by decide +kernel
theorem dL_init_23 : decode cL_init 23 = .ok (.newarray .int, 2) := by decide +kernel
theorem dL_init_25 : decode cL_init 25 = .ok (.putfield 18, 3) := by decide +kernel
theorem dL_init_28 : decode cL_init 28 = .ok (.iconst 0, 1) := by decide +kernel
theorem dL_init_29 : decode cL_init 29 = .ok (.istore_n 1, 1) := by decide +kernel
theorem dL_init_30 : decode cL_init 30 = .ok (.iload_n 1, 1) := by decide +kernel
theorem dL_init_31 : decode cL_init 31 = .ok (.aload_n 0, 1) := by decide +kernel
theorem dL_init_32 : decode cL_init 32 = .ok (.getfield 18, 3) := by decide +kernel
theorem dL_init_35 : decode cL_init 35 = .ok (.arraylength, 1) := by decide +kernel
theorem dL_init_36 : decode cL_init 36 = .ok (.if_icmp .ge 17, 3) := by decide +kernel
theorem dL_init_39 : decode cL_init 39 = .ok (.aload_n 0, 1) := by decide +kernel
theorem dL_init_40 : decode cL_init 40 = .ok (.getfield 18, 3) := by decide +kernel
theorem dL_init_43 : decode cL_init 43 = .ok (.iload_n 1, 1) := by decide +kernel
theorem dL_init_44 : decode cL_init 44 = .ok (.bipush 32, 2) := by decide +kernel
theorem dL_init_46 : decode cL_init 46 = .ok (.iastore, 1) := by decide +kernel
theorem dL_init_47 : decode cL_init 47 = .ok (.iinc 1 1, 3) := by decide +kernel
theorem dL_init_50 : decode cL_init 50 = .ok (.goto (-20), 3) := by decide +kernel
theorem dL_init_53 : decode cL_init 53 = .ok (.return_, 1) := by decide +kernel
abbrev cL_entriesOf : ByteArray := prog_2_method_2_code
def yL_entriesOf : MethodName := ⟨"ThreadSlots$Line", "entriesOf", "(I)I"⟩
theorem dL_entriesOf_0 : decode cL_entriesOf 0 = .ok (.iconst 0, 1) := by decide +kernel
theorem dL_entriesOf_1 : decode cL_entriesOf 1 = .ok (.istore_n 2, 1) := by decide +kernel
theorem dL_entriesOf_2 : decode cL_entriesOf 2 = .ok (.iconst 0, 1) := by decide +kernel
theorem dL_entriesOf_3 : decode cL_entriesOf 3 = .ok (.istore_n 3, 1) := by decide +kernel
theorem dL_entriesOf_4 : decode cL_entriesOf 4 = .ok (.iload_n 3, 1) := by decide +kernel
theorem dL_entriesOf_5 : decode cL_entriesOf 5 = .ok (.aload_n 0, 1) := by decide +kernel
theorem dL_entriesOf_6 : decode cL_entriesOf 6 = .ok (.getfield 21, 3) := by decide +kernel
theorem dL_entriesOf_9 : decode cL_entriesOf 9 = .ok (.if_icmp .ge 22, 3) := by decide +kernel
theorem dL_entriesOf_12 : decode cL_entriesOf 12 = .ok (.aload_n 0, 1) := by decide +kernel
theorem dL_entriesOf_13 : decode cL_entriesOf 13 = .ok (.getfield 9, 3) := by decide +kernel
theorem dL_entriesOf_16 : decode cL_entriesOf 16 = .ok (.iload_n 3, 1) := by decide +kernel
theorem dL_entriesOf_17 : decode cL_entriesOf 17 = .ok (.iaload, 1) := by decide +kernel
theorem dL_entriesOf_18 : decode cL_entriesOf 18 = .ok (.iload_n 1, 1) := by decide +kernel
theorem dL_entriesOf_19 : decode cL_entriesOf 19 = .ok (.if_icmp .ne 6, 3) := by decide +kernel
theorem dL_entriesOf_22 : decode cL_entriesOf 22 = .ok (.iinc 2 1, 3) := by decide +kernel
theorem dL_entriesOf_25 : decode cL_entriesOf 25 = .ok (.iinc 3 1, 3) := by decide +kernel
theorem dL_entriesOf_28 : decode cL_entriesOf 28 = .ok (.goto (-24), 3) := by decide +kernel
theorem dL_entriesOf_31 : decode cL_entriesOf 31 = .ok (.iload_n 2, 1) := by decide +kernel
theorem dL_entriesOf_32 : decode cL_entriesOf 32 = .ok (.ireturn, 1) := by decide +kernel
abbrev cL_firstOf : ByteArray := prog_2_method_3_code
def yL_firstOf : MethodName := ⟨"ThreadSlots$Line", "firstOf", "(I)I"⟩
theorem dL_firstOf_0 : decode cL_firstOf 0 = .ok (.iconst 0, 1) := by decide +kernel
theorem dL_firstOf_1 : decode cL_firstOf 1 = .ok (.istore_n 2, 1) := by decide +kernel
theorem dL_firstOf_2 : decode cL_firstOf 2 = .ok (.iload_n 2, 1) := by decide +kernel
theorem dL_firstOf_3 : decode cL_firstOf 3 = .ok (.aload_n 0, 1) := by decide +kernel
theorem dL_firstOf_4 : decode cL_firstOf 4 = .ok (.getfield 21, 3) := by decide +kernel
theorem dL_firstOf_7 : decode cL_firstOf 7 = .ok (.if_icmp .ge 26, 3) := by decide +kernel
theorem dL_firstOf_10 : decode cL_firstOf 10 = .ok (.iload_n 1, 1) := by decide +kernel
theorem dL_firstOf_11 : decode cL_firstOf 11 = .ok (.iconst (-1), 1) := by decide +kernel
theorem dL_firstOf_12 : decode cL_firstOf 12 = .ok (.if_icmp .eq 13, 3) := by decide +kernel
theorem dL_firstOf_15 : decode cL_firstOf 15 = .ok (.aload_n 0, 1) := by decide +kernel
theorem dL_firstOf_16 : decode cL_firstOf 16 = .ok (.getfield 9, 3) := by decide +kernel
theorem dL_firstOf_19 : decode cL_firstOf 19 = .ok (.iload_n 2, 1) := by decide +kernel
theorem dL_firstOf_20 : decode cL_firstOf 20 = .ok (.iaload, 1) := by decide +kernel
theorem dL_firstOf_21 : decode cL_firstOf 21 = .ok (.iload_n 1, 1) := by decide +kernel
theorem dL_firstOf_22 : decode cL_firstOf 22 = .ok (.if_icmp .ne 5, 3) := by decide +kernel
theorem dL_firstOf_25 : decode cL_firstOf 25 = .ok (.iload_n 2, 1) := by decide +kernel
theorem dL_firstOf_26 : decode cL_firstOf 26 = .ok (.ireturn, 1) := by decide +kernel
theorem dL_firstOf_27 : decode cL_firstOf 27 = .ok (.iinc 2 1, 3) := by decide +kernel
theorem dL_firstOf_30 : decode cL_firstOf 30 = .ok (.goto (-28), 3) := by decide +kernel
theorem dL_firstOf_33 : decode cL_firstOf 33 = .ok (.iconst (-1), 1) := by decide +kernel
theorem dL_firstOf_34 : decode cL_firstOf 34 = .ok (.ireturn, 1) := by decide +kernel
abbrev cL_append : ByteArray := prog_2_method_4_code
def yL_append : MethodName := ⟨"ThreadSlots$Line", "append", "(II)V"⟩
theorem dL_append_0 : decode cL_append 0 = .ok (.aload_n 0, 1) := by decide +kernel
theorem dL_append_1 : decode cL_append 1 = .ok (.getfield 21, 3) := by decide +kernel
theorem dL_append_4 : decode cL_append 4 = .ok (.bipush 32, 2) := by decide +kernel
theorem dL_append_6 : decode cL_append 6 = .ok (.if_icmp .ge 33, 3) := by decide +kernel
theorem dL_append_9 : decode cL_append 9 = .ok (.aload_n 0, 1) := by decide +kernel
theorem dL_append_10 : decode cL_append 10 = .ok (.getfield 9, 3) := by decide +kernel
theorem dL_append_13 : decode cL_append 13 = .ok (.aload_n 0, 1) := by decide +kernel
theorem dL_append_14 : decode cL_append 14 = .ok (.getfield 21, 3) := by decide +kernel
theorem dL_append_17 : decode cL_append 17 = .ok (.iload_n 1, 1) := by decide +kernel
theorem dL_append_18 : decode cL_append 18 = .ok (.iastore, 1) := by decide +kernel
theorem dL_append_19 : decode cL_append 19 = .ok (.aload_n 0, 1) := by decide +kernel
theorem dL_append_20 : decode cL_append 20 = .ok (.getfield 15, 3) := by decide +kernel
theorem dL_append_23 : decode cL_append 23 = .ok (.aload_n 0, 1) := by decide +kernel
theorem dL_append_24 : decode cL_append 24 = .ok (.getfield 21, 3) := by decide +kernel
theorem dL_append_27 : decode cL_append 27 = .ok (.iload_n 2, 1) := by decide +kernel
theorem dL_append_28 : decode cL_append 28 = .ok (.iastore, 1) := by decide +kernel
theorem dL_append_29 : decode cL_append 29 = .ok (.aload_n 0, 1) := by decide +kernel
theorem dL_append_30 : decode cL_append 30 = .ok (.dup, 1) := by decide +kernel
theorem dL_append_31 : decode cL_append 31 = .ok (.getfield 21, 3) := by decide +kernel
theorem dL_append_34 : decode cL_append 34 = .ok (.iconst 1, 1) := by decide +kernel
theorem dL_append_35 : decode cL_append 35 = .ok (.iadd, 1) := by decide +kernel
theorem dL_append_36 : decode cL_append 36 = .ok (.putfield 21, 3) := by decide +kernel
theorem dL_append_39 : decode cL_append 39 = .ok (.return_, 1) := by decide +kernel
abbrev cL_close : ByteArray := prog_2_method_5_code
def yL_close : MethodName := ⟨"ThreadSlots$Line", "close", "(I)V"⟩
theorem dL_close_0 : decode cL_close 0 = .ok (.iload_n 1, 1) := by decide +kernel
theorem dL_close_1 : decode cL_close 1 = .ok (.istore_n 2, 1) := by decide +kernel
theorem dL_close_2 : decode cL_close 2 = .ok (.iload_n 2, 1) := by decide +kernel
theorem dL_close_3 : decode cL_close 3 = .ok (.aload_n 0, 1) := by decide +kernel
theorem dL_close_4 : decode cL_close 4 = .ok (.getfield 21, 3) := by decide +kernel
theorem dL_close_7 : decode cL_close 7 = .ok (.iconst 1, 1) := by decide +kernel
theorem dL_close_8 : decode cL_close 8 = .ok (.isub, 1) := by decide +kernel
theorem dL_close_9 : decode cL_close 9 = .ok (.if_icmp .ge 37, 3) := by decide +kernel
theorem dL_close_12 : decode cL_close 12 = .ok (.aload_n 0, 1) := by decide +kernel
theorem dL_close_13 : decode cL_close 13 = .ok (.getfield 9, 3) := by decide +kernel
theorem dL_close_16 : decode cL_close 16 = .ok (.iload_n 2, 1) := by decide +kernel
theorem dL_close_17 : decode cL_close 17 = .ok (.aload_n 0, 1) := by decide +kernel
theorem dL_close_18 : decode cL_close 18 = .ok (.getfield 9, 3) := by decide +kernel
theorem dL_close_21 : decode cL_close 21 = .ok (.iload_n 2, 1) := by decide +kernel
theorem dL_close_22 : decode cL_close 22 = .ok (.iconst 1, 1) := by decide +kernel
theorem dL_close_23 : decode cL_close 23 = .ok (.iadd, 1) := by decide +kernel
theorem dL_close_24 : decode cL_close 24 = .ok (.iaload, 1) := by decide +kernel
theorem dL_close_25 : decode cL_close 25 = .ok (.iastore, 1) := by decide +kernel
theorem dL_close_26 : decode cL_close 26 = .ok (.aload_n 0, 1) := by decide +kernel
theorem dL_close_27 : decode cL_close 27 = .ok (.getfield 15, 3) := by decide +kernel
theorem dL_close_30 : decode cL_close 30 = .ok (.iload_n 2, 1) := by decide +kernel
theorem dL_close_31 : decode cL_close 31 = .ok (.aload_n 0, 1) := by decide +kernel
theorem dL_close_32 : decode cL_close 32 = .ok (.getfield 15, 3) := by decide +kernel
theorem dL_close_35 : decode cL_close 35 = .ok (.iload_n 2, 1) := by decide +kernel
theorem dL_close_36 : decode cL_close 36 = .ok (.iconst 1, 1) := by decide +kernel
theorem dL_close_37 : decode cL_close 37 = .ok (.iadd, 1) := by decide +kernel
theorem dL_close_38 : decode cL_close 38 = .ok (.iaload, 1) := by decide +kernel
theorem dL_close_39 : decode cL_close 39 = .ok (.iastore, 1) := by decide +kernel
theorem dL_close_40 : decode cL_close 40 = .ok (.iinc 2 1, 3) := by decide +kernel
theorem dL_close_43 : decode cL_close 43 = .ok (.goto (-41), 3) := by decide +kernel
theorem dL_close_46 : decode cL_close 46 = .ok (.aload_n 0, 1) := by decide +kernel
theorem dL_close_47 : decode cL_close 47 = .ok (.dup, 1) := by decide +kernel
theorem dL_close_48 : decode cL_close 48 = .ok (.getfield 21, 3) := by decide +kernel
theorem dL_close_51 : decode cL_close 51 = .ok (.iconst 1, 1) := by decide +kernel
theorem dL_close_52 : decode cL_close 52 = .ok (.isub, 1) := by decide +kernel
theorem dL_close_53 : decode cL_close 53 = .ok (.putfield 21, 3) := by decide +kernel
theorem dL_close_56 : decode cL_close 56 = .ok (.return_, 1) := by decide +kernel
abbrev cS_init : ByteArray := prog_3_method_1_code
def yS_init : MethodName := ⟨"ThreadSlots$Strand", "<init>", "()V"⟩
theorem dS_init_0 : decode cS_init 0 = .ok (.aload_n 0, 1) := by decide +kernel
theorem dS_init_1 : decode cS_init 1 = .ok (.invokespecial 3, 3) := by decide +kernel
theorem dS_init_4 : decode cS_init 4 = .ok (.aload_n 0, 1) := by decide +kernel
theorem dS_init_5 : decode cS_init 5 = .ok (.bipush 16, 2) := by decide +kernel
theorem dS_init_7 : decode cS_init 7 = .ok (.newarray .int, 2) := by decide +kernel
theorem dS_init_9 : decode cS_init 9 = .ok (.putfield 9, 3) := by decide +kernel
theorem dS_init_12 : decode cS_init 12 = .ok (.return_, 1) := by decide +kernel
abbrev cT_init : ByteArray := prog_1_method_1_code
def yT_init : MethodName := ⟨"ThreadSlots", "<init>", "(II)V"⟩
theorem dT_init_0 : decode cT_init 0 = .ok (.aload_n 0, 1) := by decide +kernel
theorem dT_init_1 : decode cT_init 1 = .ok (.invokespecial 1, 3) := by decide +kernel
theorem dT_init_4 : decode cT_init 4 = .ok (.aload_n 0, 1) := by decide +kernel
theorem dT_init_5 : decode cT_init 5 = .ok (.iconst (-1), 1) := by decide +kernel
theorem dT_init_6 : decode cT_init 6 = .ok (.putfield 9, 3) := by decide +kernel
theorem dT_init_9 : decode cT_init 9 = .ok (.aload_n 0, 1) := by decide +kernel
theorem dT_init_10 : decode cT_init 10 = .ok (.iconst (-1), 1) := by decide +kernel
theorem dT_init_11 : decode cT_init 11 = .ok (.putfield 13, 3) := by decide +kernel
theorem dT_init_14 : decode cT_init 14 = .ok (.aload_n 0, 1) := by decide +kernel
theorem dT_init_15 : decode cT_init 15 = .ok (.iconst 1, 1) := by decide +kernel
theorem dT_init_16 : decode cT_init 16 = .ok (.iload_n 1, 1) := by decide +kernel
theorem dT_init_17 : decode cT_init 17 = .ok (.iconst 1, 1) := by decide +kernel
theorem dT_init_18 : decode cT_init 18 = .ok (.isub, 1) := by decide +kernel
theorem dT_init_19 : decode cT_init 19 = .ok (.bipush 16, 2) := by decide +kernel
theorem dT_init_21 : decode cT_init 21 = .ok (.invokestatic 16, 3) := by decide +kernel
theorem dT_init_24 : decode cT_init 24 = .ok (.iadd, 1) := by decide +kernel
theorem dT_init_25 : decode cT_init 25 = .ok (.anewarray 22, 3) := by decide +kernel
theorem dT_init_28 : decode cT_init 28 = .ok (.putfield 24, 3) := by decide +kernel
theorem dT_init_31 : decode cT_init 31 = .ok (.iconst 0, 1) := by decide +kernel
theorem dT_init_32 : decode cT_init 32 = .ok (.istore_n 3, 1) := by decide +kernel
theorem dT_init_33 : decode cT_init 33 = .ok (.iload_n 3, 1) := by decide +kernel
theorem dT_init_34 : decode cT_init 34 = .ok (.aload_n 0, 1) := by decide +kernel
theorem dT_init_35 : decode cT_init 35 = .ok (.getfield 24, 3) := by decide +kernel
theorem dT_init_38 : decode cT_init 38 = .ok (.arraylength, 1) := by decide +kernel
theorem dT_init_39 : decode cT_init 39 = .ok (.if_icmp .ge 22, 3) := by decide +kernel
theorem dT_init_42 : decode cT_init 42 = .ok (.aload_n 0, 1) := by decide +kernel
theorem dT_init_43 : decode cT_init 43 = .ok (.getfield 24, 3) := by decide +kernel
theorem dT_init_46 : decode cT_init 46 = .ok (.iload_n 3, 1) := by decide +kernel
theorem dT_init_47 : decode cT_init 47 = .ok (.new 22, 3) := by decide +kernel
theorem dT_init_50 : decode cT_init 50 = .ok (.dup, 1) := by decide +kernel
theorem dT_init_51 : decode cT_init 51 = .ok (.invokespecial 28, 3) := by decide +kernel
theorem dT_init_54 : decode cT_init 54 = .ok (.aastore, 1) := by decide +kernel
theorem dT_init_55 : decode cT_init 55 = .ok (.iinc 3 1, 3) := by decide +kernel
theorem dT_init_58 : decode cT_init 58 = .ok (.goto (-25), 3) := by decide +kernel
theorem dT_init_61 : decode cT_init 61 = .ok (.aload_n 0, 1) := by decide +kernel
theorem dT_init_62 : decode cT_init 62 = .ok (.bipush 8, 2) := by decide +kernel
theorem dT_init_64 : decode cT_init 64 = .ok (.anewarray 29, 3) := by decide +kernel
theorem dT_init_67 : decode cT_init 67 = .ok (.putfield 31, 3) := by decide +kernel
theorem dT_init_70 : decode cT_init 70 = .ok (.iconst 0, 1) := by decide +kernel
theorem dT_init_71 : decode cT_init 71 = .ok (.istore_n 3, 1) := by decide +kernel
theorem dT_init_72 : decode cT_init 72 = .ok (.iload_n 3, 1) := by decide +kernel
theorem dT_init_73 : decode cT_init 73 = .ok (.aload_n 0, 1) := by decide +kernel
theorem dT_init_74 : decode cT_init 74 = .ok (.getfield 31, 3) := by decide +kernel
theorem dT_init_77 : decode cT_init 77 = .ok (.arraylength, 1) := by decide +kernel
theorem dT_init_78 : decode cT_init 78 = .ok (.if_icmp .ge 22, 3) := by decide +kernel
theorem dT_init_81 : decode cT_init 81 = .ok (.aload_n 0, 1) := by decide +kernel
theorem dT_init_82 : decode cT_init 82 = .ok (.getfield 31, 3) := by decide +kernel
theorem dT_init_85 : decode cT_init 85 = .ok (.iload_n 3, 1) := by decide +kernel
theorem dT_init_86 : decode cT_init 86 = .ok (.new 29, 3) := by decide +kernel
theorem dT_init_89 : decode cT_init 89 = .ok (.dup, 1) := by decide +kernel
theorem dT_init_90 : decode cT_init 90 = .ok (.invokespecial 35, 3) := by decide +kernel
theorem dT_init_93 : decode cT_init 93 = .ok (.aastore, 1) := by decide +kernel
theorem dT_init_94 : decode cT_init 94 = .ok (.iinc 3 1, 3) := by decide +kernel
theorem dT_init_97 : decode cT_init 97 = .ok (.goto (-25), 3) := by decide +kernel
theorem dT_init_100 : decode cT_init 100 = .ok (.aload_n 0, 1) := by decide +kernel
theorem dT_init_101 : decode cT_init 101 = .ok (.iload_n 2, 1) := by decide +kernel
theorem dT_init_102 : decode cT_init 102 = .ok (.ldc 36, 2) := by decide +kernel
theorem dT_init_104 : decode cT_init 104 = .ok (.iand, 1) := by decide +kernel
theorem dT_init_105 : decode cT_init 105 = .ok (.putfield 37, 3) := by decide +kernel
theorem dT_init_108 : decode cT_init 108 = .ok (.return_, 1) := by decide +kernel
abbrev cT_rule : ByteArray := prog_1_method_2_code
def yT_rule : MethodName := ⟨"ThreadSlots", "rule", "(I)I"⟩
theorem dT_rule_0 : decode cT_rule 0 = .ok (.iload_n 1, 1) := by decide +kernel
theorem dT_rule_1 : decode cT_rule 1 = .ok (.iconst 0, 1) := by decide +kernel
theorem dT_rule_2 : decode cT_rule 2 = .ok (.iconst 3, 1) := by decide +kernel
theorem dT_rule_3 : decode cT_rule 3 = .ok (.invokestatic 40, 3) := by decide +kernel
theorem dT_rule_6 : decode cT_rule 6 = .ok (.aload_n 0, 1) := by decide +kernel
theorem dT_rule_7 : decode cT_rule 7 = .ok (.getfield 44, 3) := by decide +kernel
theorem dT_rule_10 : decode cT_rule 10 = .ok (.istore_n 2, 1) := by decide +kernel
theorem dT_rule_11 : decode cT_rule 11 = .ok (.aload_n 0, 1) := by decide +kernel
theorem dT_rule_12 : decode cT_rule 12 = .ok (.iload_n 1, 1) := by decide +kernel
theorem dT_rule_13 : decode cT_rule 13 = .ok (.putfield 44, 3) := by decide +kernel
theorem dT_rule_16 : decode cT_rule 16 = .ok (.iload_n 2, 1) := by decide +kernel
theorem dT_rule_17 : decode cT_rule 17 = .ok (.ireturn, 1) := by decide +kernel
abbrev cT_bound : ByteArray := prog_1_method_3_code
def yT_bound : MethodName := ⟨"ThreadSlots", "bound", "(I)I"⟩
theorem dT_bound_0 : decode cT_bound 0 = .ok (.iload_n 1, 1) := by decide +kernel
theorem dT_bound_1 : decode cT_bound 1 = .ok (.iconst 0, 1) := by decide +kernel
theorem dT_bound_2 : decode cT_bound 2 = .ok (.sipush 1000, 3) := by decide +kernel
theorem dT_bound_5 : decode cT_bound 5 = .ok (.invokestatic 40, 3) := by decide +kernel
theorem dT_bound_8 : decode cT_bound 8 = .ok (.aload_n 0, 1) := by decide +kernel
theorem dT_bound_9 : decode cT_bound 9 = .ok (.getfield 47, 3) := by decide +kernel
theorem dT_bound_12 : decode cT_bound 12 = .ok (.istore_n 2, 1) := by decide +kernel
theorem dT_bound_13 : decode cT_bound 13 = .ok (.aload_n 0, 1) := by decide +kernel
theorem dT_bound_14 : decode cT_bound 14 = .ok (.iload_n 1, 1) := by decide +kernel
theorem dT_bound_15 : decode cT_bound 15 = .ok (.putfield 47, 3) := by decide +kernel
theorem dT_bound_18 : decode cT_bound 18 = .ok (.iload_n 2, 1) := by decide +kernel
theorem dT_bound_19 : decode cT_bound 19 = .ok (.ireturn, 1) := by decide +kernel
abbrev cT_cost : ByteArray := prog_1_method_4_code
def yT_cost : MethodName := ⟨"ThreadSlots", "cost", "(I)I"⟩
theorem dT_cost_0 : decode cT_cost 0 = .ok (.iload_n 1, 1) := by decide +kernel
theorem dT_cost_1 : decode cT_cost 1 = .ok (.iconst 0, 1) := by decide +kernel
theorem dT_cost_2 : decode cT_cost 2 = .ok (.bipush 20, 2) := by decide +kernel
theorem dT_cost_4 : decode cT_cost 4 = .ok (.invokestatic 40, 3) := by decide +kernel
theorem dT_cost_7 : decode cT_cost 7 = .ok (.aload_n 0, 1) := by decide +kernel
theorem dT_cost_8 : decode cT_cost 8 = .ok (.getfield 50, 3) := by decide +kernel
theorem dT_cost_11 : decode cT_cost 11 = .ok (.istore_n 2, 1) := by decide +kernel
theorem dT_cost_12 : decode cT_cost 12 = .ok (.aload_n 0, 1) := by decide +kernel
theorem dT_cost_13 : decode cT_cost 13 = .ok (.iload_n 1, 1) := by decide +kernel
theorem dT_cost_14 : decode cT_cost 14 = .ok (.putfield 50, 3) := by decide +kernel
theorem dT_cost_17 : decode cT_cost 17 = .ok (.iload_n 2, 1) := by decide +kernel
theorem dT_cost_18 : decode cT_cost 18 = .ok (.ireturn, 1) := by decide +kernel
abbrev cT_ready : ByteArray := prog_1_method_5_code
def yT_ready : MethodName := ⟨"ThreadSlots", "ready", "(IZ)Z"⟩
theorem dT_ready_0 : decode cT_ready 0 = .ok (.aload_n 0, 1) := by decide +kernel
theorem dT_ready_1 : decode cT_ready 1 = .ok (.iload_n 1, 1) := by decide +kernel
theorem dT_ready_2 : decode cT_ready 2 = .ok (.invokevirtual 53, 3) := by decide +kernel
theorem dT_ready_5 : decode cT_ready 5 = .ok (.astore_n 3, 1) := by decide +kernel
theorem dT_ready_6 : decode cT_ready 6 = .ok (.aload_n 3, 1) := by decide +kernel
theorem dT_ready_7 : decode cT_ready 7 = .ok (.getfield 57, 3) := by decide +kernel
theorem dT_ready_10 : decode cT_ready 10 = .ok (.istore 4, 2) := by decide +kernel
theorem dT_ready_12 : decode cT_ready 12 = .ok (.aload_n 3, 1) := by decide +kernel
theorem dT_ready_13 : decode cT_ready 13 = .ok (.iload_n 2, 1) := by decide +kernel
theorem dT_ready_14 : decode cT_ready 14 = .ok (.putfield 57, 3) := by decide +kernel
theorem dT_ready_17 : decode cT_ready 17 = .ok (.iload 4, 2) := by decide +kernel
theorem dT_ready_19 : decode cT_ready 19 = .ok (.ireturn, 1) := by decide +kernel
abbrev cT_rank : ByteArray := prog_1_method_6_code
def yT_rank : MethodName := ⟨"ThreadSlots", "rank", "(II)I"⟩
theorem dT_rank_0 : decode cT_rank 0 = .ok (.aload_n 0, 1) := by decide +kernel
theorem dT_rank_1 : decode cT_rank 1 = .ok (.iload_n 1, 1) := by decide +kernel
theorem dT_rank_2 : decode cT_rank 2 = .ok (.invokevirtual 53, 3) := by decide +kernel
theorem dT_rank_5 : decode cT_rank 5 = .ok (.astore_n 3, 1) := by decide +kernel
theorem dT_rank_6 : decode cT_rank 6 = .ok (.iload_n 2, 1) := by decide +kernel
theorem dT_rank_7 : decode cT_rank 7 = .ok (.iconst 0, 1) := by decide +kernel
theorem dT_rank_8 : decode cT_rank 8 = .ok (.bipush 15, 2) := by decide +kernel
theorem dT_rank_10 : decode cT_rank 10 = .ok (.invokestatic 40, 3) := by decide +kernel
theorem dT_rank_13 : decode cT_rank 13 = .ok (.aload_n 3, 1) := by decide +kernel
theorem dT_rank_14 : decode cT_rank 14 = .ok (.getfield 61, 3) := by decide +kernel
theorem dT_rank_17 : decode cT_rank 17 = .ok (.istore 4, 2) := by decide +kernel
theorem dT_rank_19 : decode cT_rank 19 = .ok (.aload_n 3, 1) := by decide +kernel
theorem dT_rank_20 : decode cT_rank 20 = .ok (.iload_n 2, 1) := by decide +kernel
theorem dT_rank_21 : decode cT_rank 21 = .ok (.putfield 61, 3) := by decide +kernel
theorem dT_rank_24 : decode cT_rank 24 = .ok (.iload 4, 2) := by decide +kernel
theorem dT_rank_26 : decode cT_rank 26 = .ok (.ireturn, 1) := by decide +kernel
abbrev cT_sleep : ByteArray := prog_1_method_7_code
def yT_sleep : MethodName := ⟨"ThreadSlots", "sleep", "(II)I"⟩
theorem dT_sleep_0 : decode cT_sleep 0 = .ok (.aload_n 0, 1) := by decide +kernel
theorem dT_sleep_1 : decode cT_sleep 1 = .ok (.iload_n 1, 1) := by decide +kernel
theorem dT_sleep_2 : decode cT_sleep 2 = .ok (.invokevirtual 53, 3) := by decide +kernel
theorem dT_sleep_5 : decode cT_sleep 5 = .ok (.astore_n 3, 1) := by decide +kernel
theorem dT_sleep_6 : decode cT_sleep 6 = .ok (.iload_n 2, 1) := by decide +kernel
theorem dT_sleep_7 : decode cT_sleep 7 = .ok (.iconst 0, 1) := by decide +kernel
theorem dT_sleep_8 : decode cT_sleep 8 = .ok (.ldc 64, 2) := by decide +kernel
theorem dT_sleep_10 : decode cT_sleep 10 = .ok (.invokestatic 40, 3) := by decide +kernel
theorem dT_sleep_13 : decode cT_sleep 13 = .ok (.aload_n 3, 1) := by decide +kernel
theorem dT_sleep_14 : decode cT_sleep 14 = .ok (.getfield 65, 3) := by decide +kernel
theorem dT_sleep_17 : decode cT_sleep 17 = .ok (.istore 4, 2) := by decide +kernel
theorem dT_sleep_19 : decode cT_sleep 19 = .ok (.aload_n 3, 1) := by decide +kernel
theorem dT_sleep_20 : decode cT_sleep 20 = .ok (.iload_n 2, 1) := by decide +kernel
theorem dT_sleep_21 : decode cT_sleep 21 = .ok (.putfield 65, 3) := by decide +kernel
theorem dT_sleep_24 : decode cT_sleep 24 = .ok (.iload 4, 2) := by decide +kernel
theorem dT_sleep_26 : decode cT_sleep 26 = .ok (.ireturn, 1) := by decide +kernel
abbrev cT_miss : ByteArray := prog_1_method_8_code
def yT_miss : MethodName := ⟨"ThreadSlots", "miss", "(I)I"⟩
theorem dT_miss_0 : decode cT_miss 0 = .ok (.aload_n 0, 1) := by decide +kernel
theorem dT_miss_1 : decode cT_miss 1 = .ok (.iload_n 1, 1) := by decide +kernel
theorem dT_miss_2 : decode cT_miss 2 = .ok (.invokevirtual 53, 3) := by decide +kernel
theorem dT_miss_5 : decode cT_miss 5 = .ok (.astore_n 2, 1) := by decide +kernel
theorem dT_miss_6 : decode cT_miss 6 = .ok (.aload_n 2, 1) := by decide +kernel
theorem dT_miss_7 : decode cT_miss 7 = .ok (.dup, 1) := by decide +kernel
theorem dT_miss_8 : decode cT_miss 8 = .ok (.getfield 68, 3) := by decide +kernel
theorem dT_miss_11 : decode cT_miss 11 = .ok (.iconst 1, 1) := by decide +kernel
theorem dT_miss_12 : decode cT_miss 12 = .ok (.iadd, 1) := by decide +kernel
theorem dT_miss_13 : decode cT_miss 13 = .ok (.putfield 68, 3) := by decide +kernel
theorem dT_miss_16 : decode cT_miss 16 = .ok (.aload_n 2, 1) := by decide +kernel
theorem dT_miss_17 : decode cT_miss 17 = .ok (.getfield 68, 3) := by decide +kernel
theorem dT_miss_20 : decode cT_miss 20 = .ok (.ireturn, 1) := by decide +kernel
abbrev cT_cycle : ByteArray := prog_1_method_9_code
def yT_cycle : MethodName := ⟨"ThreadSlots", "cycle", "()I"⟩
theorem dT_cycle_0 : decode cT_cycle 0 = .ok (.aload_n 0, 1) := by decide +kernel
theorem dT_cycle_1 : decode cT_cycle 1 = .ok (.invokevirtual 71, 3) := by decide +kernel
theorem dT_cycle_4 : decode cT_cycle 4 = .ok (.ireturn, 1) := by decide +kernel
abbrev cT_run : ByteArray := prog_1_method_10_code
def yT_run : MethodName := ⟨"ThreadSlots", "run", "(I)I"⟩
theorem dT_run_0 : decode cT_run 0 = .ok (.iload_n 1, 1) := by decide +kernel
theorem dT_run_1 : decode cT_run 1 = .ok (.iconst 1, 1) := by decide +kernel
theorem dT_run_2 : decode cT_run 2 = .ok (.sipush 2000, 3) := by decide +kernel
theorem dT_run_5 : decode cT_run 5 = .ok (.invokestatic 40, 3) := by decide +kernel
theorem dT_run_8 : decode cT_run 8 = .ok (.iconst 0, 1) := by decide +kernel
theorem dT_run_9 : decode cT_run 9 = .ok (.istore_n 2, 1) := by decide +kernel
theorem dT_run_10 : decode cT_run 10 = .ok (.iconst 0, 1) := by decide +kernel
theorem dT_run_11 : decode cT_run 11 = .ok (.istore_n 3, 1) := by decide +kernel
theorem dT_run_12 : decode cT_run 12 = .ok (.iload_n 3, 1) := by decide +kernel
theorem dT_run_13 : decode cT_run 13 = .ok (.iload_n 1, 1) := by decide +kernel
theorem dT_run_14 : decode cT_run 14 = .ok (.if_icmp .ge 20, 3) := by decide +kernel
theorem dT_run_17 : decode cT_run 17 = .ok (.aload_n 0, 1) := by decide +kernel
theorem dT_run_18 : decode cT_run 18 = .ok (.invokevirtual 71, 3) := by decide +kernel
theorem dT_run_21 : decode cT_run 21 = .ok (.iconst (-1), 1) := by decide +kernel
theorem dT_run_22 : decode cT_run 22 = .ok (.if_icmp .eq 6, 3) := by decide +kernel
theorem dT_run_25 : decode cT_run 25 = .ok (.iinc 2 1, 3) := by decide +kernel
theorem dT_run_28 : decode cT_run 28 = .ok (.iinc 3 1, 3) := by decide +kernel
theorem dT_run_31 : decode cT_run 31 = .ok (.goto (-19), 3) := by decide +kernel
theorem dT_run_34 : decode cT_run 34 = .ok (.iload_n 2, 1) := by decide +kernel
theorem dT_run_35 : decode cT_run 35 = .ok (.ireturn, 1) := by decide +kernel
abbrev cT_part : ByteArray := prog_1_method_11_code
def yT_part : MethodName := ⟨"ThreadSlots", "part", "(III)I"⟩
theorem dT_part_0 : decode cT_part 0 = .ok (.aload_n 0, 1) := by decide +kernel
theorem dT_part_1 : decode cT_part 1 = .ok (.iload_n 1, 1) := by decide +kernel
theorem dT_part_2 : decode cT_part 2 = .ok (.invokevirtual 75, 3) := by decide +kernel
theorem dT_part_5 : decode cT_part 5 = .ok (.astore 4, 2) := by decide +kernel
theorem dT_part_7 : decode cT_part 7 = .ok (.iload_n 2, 1) := by decide +kernel
theorem dT_part_8 : decode cT_part 8 = .ok (.aload_n 0, 1) := by decide +kernel
theorem dT_part_9 : decode cT_part 9 = .ok (.getfield 24, 3) := by decide +kernel
theorem dT_part_12 : decode cT_part 12 = .ok (.arraylength, 1) := by decide +kernel
theorem dT_part_13 : decode cT_part 13 = .ok (.invokestatic 79, 3) := by decide +kernel
theorem dT_part_16 : decode cT_part 16 = .ok (.iload_n 3, 1) := by decide +kernel
theorem dT_part_17 : decode cT_part 17 = .ok (.iconst 0, 1) := by decide +kernel
theorem dT_part_18 : decode cT_part 18 = .ok (.bipush 32, 2) := by decide +kernel
theorem dT_part_20 : decode cT_part 20 = .ok (.invokestatic 40, 3) := by decide +kernel
theorem dT_part_23 : decode cT_part 23 = .ok (.aload 4, 2) := by decide +kernel
theorem dT_part_25 : decode cT_part 25 = .ok (.getfield 83, 3) := by decide +kernel
theorem dT_part_28 : decode cT_part 28 = .ok (.iload_n 2, 1) := by decide +kernel
theorem dT_part_29 : decode cT_part 29 = .ok (.iaload, 1) := by decide +kernel
theorem dT_part_30 : decode cT_part 30 = .ok (.istore 5, 2) := by decide +kernel
theorem dT_part_32 : decode cT_part 32 = .ok (.aload 4, 2) := by decide +kernel
theorem dT_part_34 : decode cT_part 34 = .ok (.getfield 83, 3) := by decide +kernel
theorem dT_part_37 : decode cT_part 37 = .ok (.iload_n 2, 1) := by decide +kernel
theorem dT_part_38 : decode cT_part 38 = .ok (.iload_n 3, 1) := by decide +kernel
theorem dT_part_39 : decode cT_part 39 = .ok (.iastore, 1) := by decide +kernel
theorem dT_part_40 : decode cT_part 40 = .ok (.iload 5, 2) := by decide +kernel
theorem dT_part_42 : decode cT_part 42 = .ok (.ireturn, 1) := by decide +kernel
abbrev cT_put : ByteArray := prog_1_method_12_code
def yT_put : MethodName := ⟨"ThreadSlots", "put", "(III)I"⟩
theorem dT_put_0 : decode cT_put 0 = .ok (.aload_n 0, 1) := by decide +kernel
theorem dT_put_1 : decode cT_put 1 = .ok (.iload_n 1, 1) := by decide +kernel
theorem dT_put_2 : decode cT_put 2 = .ok (.invokevirtual 75, 3) := by decide +kernel
theorem dT_put_5 : decode cT_put 5 = .ok (.astore 4, 2) := by decide +kernel
theorem dT_put_7 : decode cT_put 7 = .ok (.iload_n 2, 1) := by decide +kernel
theorem dT_put_8 : decode cT_put 8 = .ok (.aload_n 0, 1) := by decide +kernel
theorem dT_put_9 : decode cT_put 9 = .ok (.getfield 24, 3) := by decide +kernel
theorem dT_put_12 : decode cT_put 12 = .ok (.arraylength, 1) := by decide +kernel
theorem dT_put_13 : decode cT_put 13 = .ok (.invokestatic 79, 3) := by decide +kernel
theorem dT_put_16 : decode cT_put 16 = .ok (.aload 4, 2) := by decide +kernel
theorem dT_put_18 : decode cT_put 18 = .ok (.iload_n 2, 1) := by decide +kernel
theorem dT_put_19 : decode cT_put 19 = .ok (.invokevirtual 87, 3) := by decide +kernel
theorem dT_put_22 : decode cT_put 22 = .ok (.istore 5, 2) := by decide +kernel
theorem dT_put_24 : decode cT_put 24 = .ok (.iload 5, 2) := by decide +kernel
theorem dT_put_26 : decode cT_put 26 = .ok (.aload 4, 2) := by decide +kernel
theorem dT_put_28 : decode cT_put 28 = .ok (.getfield 83, 3) := by decide +kernel
theorem dT_put_31 : decode cT_put 31 = .ok (.iload_n 2, 1) := by decide +kernel
theorem dT_put_32 : decode cT_put 32 = .ok (.iaload, 1) := by decide +kernel
theorem dT_put_33 : decode cT_put 33 = .ok (.if_icmp .ge 13, 3) := by decide +kernel
theorem dT_put_36 : decode cT_put 36 = .ok (.aload 4, 2) := by decide +kernel
theorem dT_put_38 : decode cT_put 38 = .ok (.getfield 91, 3) := by decide +kernel
theorem dT_put_41 : decode cT_put 41 = .ok (.bipush 32, 2) := by decide +kernel
theorem dT_put_43 : decode cT_put 43 = .ok (.if_icmp .lt 5, 3) := by decide +kernel
theorem dT_put_46 : decode cT_put 46 = .ok (.iconst (-1), 1) := by decide +kernel
theorem dT_put_47 : decode cT_put 47 = .ok (.ireturn, 1) := by decide +kernel
theorem dT_put_48 : decode cT_put 48 = .ok (.aload 4, 2) := by decide +kernel
theorem dT_put_50 : decode cT_put 50 = .ok (.iload_n 2, 1) := by decide +kernel
theorem dT_put_51 : decode cT_put 51 = .ok (.iload_n 3, 1) := by decide +kernel
theorem dT_put_52 : decode cT_put 52 = .ok (.invokevirtual 94, 3) := by decide +kernel
theorem dT_put_55 : decode cT_put 55 = .ok (.iload 5, 2) := by decide +kernel
theorem dT_put_57 : decode cT_put 57 = .ok (.iconst 1, 1) := by decide +kernel
theorem dT_put_58 : decode cT_put 58 = .ok (.iadd, 1) := by decide +kernel
theorem dT_put_59 : decode cT_put 59 = .ok (.ireturn, 1) := by decide +kernel
abbrev cT_take : ByteArray := prog_1_method_13_code
def yT_take : MethodName := ⟨"ThreadSlots", "take", "(II)I"⟩
theorem dT_take_0 : decode cT_take 0 = .ok (.aload_n 0, 1) := by decide +kernel
theorem dT_take_1 : decode cT_take 1 = .ok (.iload_n 1, 1) := by decide +kernel
theorem dT_take_2 : decode cT_take 2 = .ok (.invokevirtual 75, 3) := by decide +kernel
theorem dT_take_5 : decode cT_take 5 = .ok (.astore_n 3, 1) := by decide +kernel
theorem dT_take_6 : decode cT_take 6 = .ok (.iload_n 2, 1) := by decide +kernel
theorem dT_take_7 : decode cT_take 7 = .ok (.iconst (-1), 1) := by decide +kernel
theorem dT_take_8 : decode cT_take 8 = .ok (.if_icmp .eq 12, 3) := by decide +kernel
theorem dT_take_11 : decode cT_take 11 = .ok (.iload_n 2, 1) := by decide +kernel
theorem dT_take_12 : decode cT_take 12 = .ok (.aload_n 0, 1) := by decide +kernel
theorem dT_take_13 : decode cT_take 13 = .ok (.getfield 24, 3) := by decide +kernel
theorem dT_take_16 : decode cT_take 16 = .ok (.arraylength, 1) := by decide +kernel
theorem dT_take_17 : decode cT_take 17 = .ok (.invokestatic 79, 3) := by decide +kernel
theorem dT_take_20 : decode cT_take 20 = .ok (.aload_n 3, 1) := by decide +kernel
theorem dT_take_21 : decode cT_take 21 = .ok (.iload_n 2, 1) := by decide +kernel
theorem dT_take_22 : decode cT_take 22 = .ok (.invokevirtual 97, 3) := by decide +kernel
theorem dT_take_25 : decode cT_take 25 = .ok (.istore 4, 2) := by decide +kernel
theorem dT_take_27 : decode cT_take 27 = .ok (.iload 4, 2) := by decide +kernel
theorem dT_take_29 : decode cT_take 29 = .ok (.ifCond .lt 12, 3) := by decide +kernel
theorem dT_take_32 : decode cT_take 32 = .ok (.iload 4, 2) := by decide +kernel
theorem dT_take_34 : decode cT_take 34 = .ok (.aload_n 3, 1) := by decide +kernel
theorem dT_take_35 : decode cT_take 35 = .ok (.getfield 91, 3) := by decide +kernel
theorem dT_take_38 : decode cT_take 38 = .ok (.if_icmp .lt 13, 3) := by decide +kernel
theorem dT_take_41 : decode cT_take 41 = .ok (.new 100, 3) := by decide +kernel
theorem dT_take_44 : decode cT_take 44 = .ok (.dup, 1) := by decide +kernel
theorem dT_take_45 : decode cT_take 45 = .ok (.ldc 102, 2) := by decide +kernel
theorem dT_take_47 : decode cT_take 47 = .ok (.invokespecial 104, 3) := by decide +kernel
theorem dT_take_50 : decode cT_take 50 = .ok (.athrow, 1) := by decide +kernel
theorem dT_take_51 : decode cT_take 51 = .ok (.aload_n 3, 1) := by decide +kernel
theorem dT_take_52 : decode cT_take 52 = .ok (.getfield 107, 3) := by decide +kernel
theorem dT_take_55 : decode cT_take 55 = .ok (.iload 4, 2) := by decide +kernel
theorem dT_take_57 : decode cT_take 57 = .ok (.iaload, 1) := by decide +kernel
theorem dT_take_58 : decode cT_take 58 = .ok (.istore 5, 2) := by decide +kernel
theorem dT_take_60 : decode cT_take 60 = .ok (.aload_n 3, 1) := by decide +kernel
theorem dT_take_61 : decode cT_take 61 = .ok (.iload 4, 2) := by decide +kernel
theorem dT_take_63 : decode cT_take 63 = .ok (.invokevirtual 110, 3) := by decide +kernel
theorem dT_take_66 : decode cT_take 66 = .ok (.iload 5, 2) := by decide +kernel
theorem dT_take_68 : decode cT_take 68 = .ok (.ireturn, 1) := by decide +kernel
abbrev cT_entry : ByteArray := prog_1_method_14_code
def yT_entry : MethodName := ⟨"ThreadSlots", "entry", "(III)I"⟩
theorem dT_entry_0 : decode cT_entry 0 = .ok (.aload_n 0, 1) := by decide +kernel
theorem dT_entry_1 : decode cT_entry 1 = .ok (.iload_n 1, 1) := by decide +kernel
theorem dT_entry_2 : decode cT_entry 2 = .ok (.invokevirtual 75, 3) := by decide +kernel
theorem dT_entry_5 : decode cT_entry 5 = .ok (.astore 4, 2) := by decide +kernel
theorem dT_entry_7 : decode cT_entry 7 = .ok (.iload_n 2, 1) := by decide +kernel
theorem dT_entry_8 : decode cT_entry 8 = .ok (.aload 4, 2) := by decide +kernel
theorem dT_entry_10 : decode cT_entry 10 = .ok (.getfield 91, 3) := by decide +kernel
theorem dT_entry_13 : decode cT_entry 13 = .ok (.invokestatic 79, 3) := by decide +kernel
theorem dT_entry_16 : decode cT_entry 16 = .ok (.iload_n 3, 1) := by decide +kernel
theorem dT_entry_17 : decode cT_entry 17 = .ok (.iconst 2, 1) := by decide +kernel
theorem dT_entry_18 : decode cT_entry 18 = .ok (.invokestatic 79, 3) := by decide +kernel
theorem dT_entry_21 : decode cT_entry 21 = .ok (.iload_n 3, 1) := by decide +kernel
theorem dT_entry_22 : decode cT_entry 22 = .ok (.ifCond .ne 13, 3) := by decide +kernel
theorem dT_entry_25 : decode cT_entry 25 = .ok (.aload 4, 2) := by decide +kernel
theorem dT_entry_27 : decode cT_entry 27 = .ok (.getfield 114, 3) := by decide +kernel
theorem dT_entry_30 : decode cT_entry 30 = .ok (.iload_n 2, 1) := by decide +kernel
theorem dT_entry_31 : decode cT_entry 31 = .ok (.iaload, 1) := by decide +kernel
theorem dT_entry_32 : decode cT_entry 32 = .ok (.goto 10, 3) := by decide +kernel
theorem dT_entry_35 : decode cT_entry 35 = .ok (.aload 4, 2) := by decide +kernel
theorem dT_entry_37 : decode cT_entry 37 = .ok (.getfield 107, 3) := by decide +kernel
theorem dT_entry_40 : decode cT_entry 40 = .ok (.iload_n 2, 1) := by decide +kernel
theorem dT_entry_41 : decode cT_entry 41 = .ok (.iaload, 1) := by decide +kernel
theorem dT_entry_42 : decode cT_entry 42 = .ok (.ireturn, 1) := by decide +kernel
abbrev cT_set : ByteArray := prog_1_method_15_code
def yT_set : MethodName := ⟨"ThreadSlots", "set", "(II)I"⟩
theorem dT_set_0 : decode cT_set 0 = .ok (.iload_n 1, 1) := by decide +kernel
theorem dT_set_1 : decode cT_set 1 = .ok (.bipush 16, 2) := by decide +kernel
theorem dT_set_3 : decode cT_set 3 = .ok (.invokestatic 79, 3) := by decide +kernel
theorem dT_set_6 : decode cT_set 6 = .ok (.aload_n 0, 1) := by decide +kernel
theorem dT_set_7 : decode cT_set 7 = .ok (.aload_n 0, 1) := by decide +kernel
theorem dT_set_8 : decode cT_set 8 = .ok (.getfield 9, 3) := by decide +kernel
theorem dT_set_11 : decode cT_set 11 = .ok (.iconst (-1), 1) := by decide +kernel
theorem dT_set_12 : decode cT_set 12 = .ok (.if_icmp .ne 7, 3) := by decide +kernel
theorem dT_set_15 : decode cT_set 15 = .ok (.iconst 0, 1) := by decide +kernel
theorem dT_set_16 : decode cT_set 16 = .ok (.goto 7, 3) := by decide +kernel
theorem dT_set_19 : decode cT_set 19 = .ok (.aload_n 0, 1) := by decide +kernel
theorem dT_set_20 : decode cT_set 20 = .ok (.getfield 9, 3) := by decide +kernel
theorem dT_set_23 : decode cT_set 23 = .ok (.invokevirtual 53, 3) := by decide +kernel
theorem dT_set_26 : decode cT_set 26 = .ok (.astore_n 3, 1) := by decide +kernel
theorem dT_set_27 : decode cT_set 27 = .ok (.aload_n 3, 1) := by decide +kernel
theorem dT_set_28 : decode cT_set 28 = .ok (.getfield 117, 3) := by decide +kernel
theorem dT_set_31 : decode cT_set 31 = .ok (.iload_n 1, 1) := by decide +kernel
theorem dT_set_32 : decode cT_set 32 = .ok (.iaload, 1) := by decide +kernel
theorem dT_set_33 : decode cT_set 33 = .ok (.istore 4, 2) := by decide +kernel
theorem dT_set_35 : decode cT_set 35 = .ok (.aload_n 3, 1) := by decide +kernel
theorem dT_set_36 : decode cT_set 36 = .ok (.getfield 117, 3) := by decide +kernel
theorem dT_set_39 : decode cT_set 39 = .ok (.iload_n 1, 1) := by decide +kernel
theorem dT_set_40 : decode cT_set 40 = .ok (.iload_n 2, 1) := by decide +kernel
theorem dT_set_41 : decode cT_set 41 = .ok (.iastore, 1) := by decide +kernel
theorem dT_set_42 : decode cT_set 42 = .ok (.iload 4, 2) := by decide +kernel
theorem dT_set_44 : decode cT_set 44 = .ok (.ireturn, 1) := by decide +kernel
abbrev cT_register : ByteArray := prog_1_method_16_code
def yT_register : MethodName := ⟨"ThreadSlots", "register", "(II)I"⟩
theorem dT_register_0 : decode cT_register 0 = .ok (.aload_n 0, 1) := by decide +kernel
theorem dT_register_1 : decode cT_register 1 = .ok (.iload_n 1, 1) := by decide +kernel
theorem dT_register_2 : decode cT_register 2 = .ok (.invokevirtual 53, 3) := by decide +kernel
theorem dT_register_5 : decode cT_register 5 = .ok (.astore_n 3, 1) := by decide +kernel
theorem dT_register_6 : decode cT_register 6 = .ok (.iload_n 2, 1) := by decide +kernel
theorem dT_register_7 : decode cT_register 7 = .ok (.bipush 16, 2) := by decide +kernel
theorem dT_register_9 : decode cT_register 9 = .ok (.invokestatic 79, 3) := by decide +kernel
theorem dT_register_12 : decode cT_register 12 = .ok (.aload_n 3, 1) := by decide +kernel
theorem dT_register_13 : decode cT_register 13 = .ok (.getfield 117, 3) := by decide +kernel
theorem dT_register_16 : decode cT_register 16 = .ok (.iload_n 2, 1) := by decide +kernel
theorem dT_register_17 : decode cT_register 17 = .ok (.iaload, 1) := by decide +kernel
theorem dT_register_18 : decode cT_register 18 = .ok (.ireturn, 1) := by decide +kernel
abbrev cT_thread : ByteArray := prog_1_method_17_code
def yT_thread : MethodName := ⟨"ThreadSlots", "thread", "(II)I"⟩
theorem dT_thread_0 : decode cT_thread 0 = .ok (.aload_n 0, 1) := by decide +kernel
theorem dT_thread_1 : decode cT_thread 1 = .ok (.iload_n 1, 1) := by decide +kernel
theorem dT_thread_2 : decode cT_thread 2 = .ok (.invokevirtual 53, 3) := by decide +kernel
theorem dT_thread_5 : decode cT_thread 5 = .ok (.astore_n 3, 1) := by decide +kernel
theorem dT_thread_6 : decode cT_thread 6 = .ok (.iload_n 2, 1) := by decide +kernel
theorem dT_thread_7 : decode cT_thread 7 = .ok (.tableswitch 67 0 5 #[37, 42, 47, 52, 57, 62], 37) := by decide +kernel
theorem dT_thread_44 : decode cT_thread 44 = .ok (.aload_n 3, 1) := by decide +kernel
theorem dT_thread_45 : decode cT_thread 45 = .ok (.getfield 120, 3) := by decide +kernel
theorem dT_thread_48 : decode cT_thread 48 = .ok (.ireturn, 1) := by decide +kernel
theorem dT_thread_49 : decode cT_thread 49 = .ok (.aload_n 3, 1) := by decide +kernel
theorem dT_thread_50 : decode cT_thread 50 = .ok (.getfield 123, 3) := by decide +kernel
theorem dT_thread_53 : decode cT_thread 53 = .ok (.ireturn, 1) := by decide +kernel
theorem dT_thread_54 : decode cT_thread 54 = .ok (.aload_n 3, 1) := by decide +kernel
theorem dT_thread_55 : decode cT_thread 55 = .ok (.getfield 126, 3) := by decide +kernel
theorem dT_thread_58 : decode cT_thread 58 = .ok (.ireturn, 1) := by decide +kernel
theorem dT_thread_59 : decode cT_thread 59 = .ok (.aload_n 3, 1) := by decide +kernel
theorem dT_thread_60 : decode cT_thread 60 = .ok (.getfield 68, 3) := by decide +kernel
theorem dT_thread_63 : decode cT_thread 63 = .ok (.ireturn, 1) := by decide +kernel
theorem dT_thread_64 : decode cT_thread 64 = .ok (.aload_n 3, 1) := by decide +kernel
theorem dT_thread_65 : decode cT_thread 65 = .ok (.getfield 65, 3) := by decide +kernel
theorem dT_thread_68 : decode cT_thread 68 = .ok (.ireturn, 1) := by decide +kernel
theorem dT_thread_69 : decode cT_thread 69 = .ok (.aload_n 3, 1) := by decide +kernel
theorem dT_thread_70 : decode cT_thread 70 = .ok (.getfield 129, 3) := by decide +kernel
theorem dT_thread_73 : decode cT_thread 73 = .ok (.ireturn, 1) := by decide +kernel
theorem dT_thread_74 : decode cT_thread 74 = .ok (.new 132, 3) := by decide +kernel
theorem dT_thread_77 : decode cT_thread 77 = .ok (.dup, 1) := by decide +kernel
theorem dT_thread_78 : decode cT_thread 78 = .ok (.ldc 134, 2) := by decide +kernel
theorem dT_thread_80 : decode cT_thread 80 = .ok (.invokespecial 136, 3) := by decide +kernel
theorem dT_thread_83 : decode cT_thread 83 = .ok (.athrow, 1) := by decide +kernel
abbrev cT_share : ByteArray := prog_1_method_18_code
def yT_share : MethodName := ⟨"ThreadSlots", "share", "(II)I"⟩
theorem dT_share_0 : decode cT_share 0 = .ok (.aload_n 0, 1) := by decide +kernel
theorem dT_share_1 : decode cT_share 1 = .ok (.iload_n 1, 1) := by decide +kernel
theorem dT_share_2 : decode cT_share 2 = .ok (.invokevirtual 53, 3) := by decide +kernel
theorem dT_share_5 : decode cT_share 5 = .ok (.astore_n 3, 1) := by decide +kernel
theorem dT_share_6 : decode cT_share 6 = .ok (.iload_n 2, 1) := by decide +kernel
theorem dT_share_7 : decode cT_share 7 = .ok (.iconst 2, 1) := by decide +kernel
theorem dT_share_8 : decode cT_share 8 = .ok (.invokestatic 79, 3) := by decide +kernel
theorem dT_share_11 : decode cT_share 11 = .ok (.aload_n 3, 1) := by decide +kernel
theorem dT_share_12 : decode cT_share 12 = .ok (.getfield 126, 3) := by decide +kernel
theorem dT_share_15 : decode cT_share 15 = .ok (.aload_n 0, 1) := by decide +kernel
theorem dT_share_16 : decode cT_share 16 = .ok (.getfield 137, 3) := by decide +kernel
theorem dT_share_19 : decode cT_share 19 = .ok (.invokestatic 138, 3) := by decide +kernel
theorem dT_share_22 : decode cT_share 22 = .ok (.istore 4, 2) := by decide +kernel
theorem dT_share_24 : decode cT_share 24 = .ok (.iload 4, 2) := by decide +kernel
theorem dT_share_26 : decode cT_share 26 = .ok (.ifCond .ne 13, 3) := by decide +kernel
theorem dT_share_29 : decode cT_share 29 = .ok (.iload_n 2, 1) := by decide +kernel
theorem dT_share_30 : decode cT_share 30 = .ok (.ifCond .ne 7, 3) := by decide +kernel
theorem dT_share_33 : decode cT_share 33 = .ok (.iconst 0, 1) := by decide +kernel
theorem dT_share_34 : decode cT_share 34 = .ok (.goto 4, 3) := by decide +kernel
theorem dT_share_37 : decode cT_share 37 = .ok (.iconst 1, 1) := by decide +kernel
theorem dT_share_38 : decode cT_share 38 = .ok (.ireturn, 1) := by decide +kernel
theorem dT_share_39 : decode cT_share 39 = .ok (.iload_n 2, 1) := by decide +kernel
theorem dT_share_40 : decode cT_share 40 = .ok (.ifCond .ne 10, 3) := by decide +kernel
theorem dT_share_43 : decode cT_share 43 = .ok (.aload_n 3, 1) := by decide +kernel
theorem dT_share_44 : decode cT_share 44 = .ok (.getfield 126, 3) := by decide +kernel
theorem dT_share_47 : decode cT_share 47 = .ok (.goto 7, 3) := by decide +kernel
theorem dT_share_50 : decode cT_share 50 = .ok (.aload_n 0, 1) := by decide +kernel
theorem dT_share_51 : decode cT_share 51 = .ok (.getfield 137, 3) := by decide +kernel
theorem dT_share_54 : decode cT_share 54 = .ok (.iload 4, 2) := by decide +kernel
theorem dT_share_56 : decode cT_share 56 = .ok (.idiv, 1) := by decide +kernel
theorem dT_share_57 : decode cT_share 57 = .ok (.ireturn, 1) := by decide +kernel
abbrev cT_count : ByteArray := prog_1_method_19_code
def yT_count : MethodName := ⟨"ThreadSlots", "count", "(I)I"⟩
theorem dT_count_0 : decode cT_count 0 = .ok (.iload_n 1, 1) := by decide +kernel
theorem dT_count_1 : decode cT_count 1 = .ok (.tableswitch 88 0 7 #[47, 52, 57, 62, 67, 73, 78, 83], 47) := by decide +kernel
theorem dT_count_48 : decode cT_count 48 = .ok (.aload_n 0, 1) := by decide +kernel
theorem dT_count_49 : decode cT_count 49 = .ok (.getfield 141, 3) := by decide +kernel
theorem dT_count_52 : decode cT_count 52 = .ok (.ireturn, 1) := by decide +kernel
theorem dT_count_53 : decode cT_count 53 = .ok (.aload_n 0, 1) := by decide +kernel
theorem dT_count_54 : decode cT_count 54 = .ok (.getfield 137, 3) := by decide +kernel
theorem dT_count_57 : decode cT_count 57 = .ok (.ireturn, 1) := by decide +kernel
theorem dT_count_58 : decode cT_count 58 = .ok (.aload_n 0, 1) := by decide +kernel
theorem dT_count_59 : decode cT_count 59 = .ok (.getfield 144, 3) := by decide +kernel
theorem dT_count_62 : decode cT_count 62 = .ok (.ireturn, 1) := by decide +kernel
theorem dT_count_63 : decode cT_count 63 = .ok (.aload_n 0, 1) := by decide +kernel
theorem dT_count_64 : decode cT_count 64 = .ok (.getfield 147, 3) := by decide +kernel
theorem dT_count_67 : decode cT_count 67 = .ok (.ireturn, 1) := by decide +kernel
theorem dT_count_68 : decode cT_count 68 = .ok (.aload_n 0, 1) := by decide +kernel
theorem dT_count_69 : decode cT_count 69 = .ok (.getfield 24, 3) := by decide +kernel
theorem dT_count_72 : decode cT_count 72 = .ok (.arraylength, 1) := by decide +kernel
theorem dT_count_73 : decode cT_count 73 = .ok (.ireturn, 1) := by decide +kernel
theorem dT_count_74 : decode cT_count 74 = .ok (.aload_n 0, 1) := by decide +kernel
theorem dT_count_75 : decode cT_count 75 = .ok (.getfield 9, 3) := by decide +kernel
theorem dT_count_78 : decode cT_count 78 = .ok (.ireturn, 1) := by decide +kernel
theorem dT_count_79 : decode cT_count 79 = .ok (.aload_n 0, 1) := by decide +kernel
theorem dT_count_80 : decode cT_count 80 = .ok (.getfield 13, 3) := by decide +kernel
theorem dT_count_83 : decode cT_count 83 = .ok (.ireturn, 1) := by decide +kernel
theorem dT_count_84 : decode cT_count 84 = .ok (.aload_n 0, 1) := by decide +kernel
theorem dT_count_85 : decode cT_count 85 = .ok (.invokevirtual 150, 3) := by decide +kernel
theorem dT_count_88 : decode cT_count 88 = .ok (.ireturn, 1) := by decide +kernel
theorem dT_count_89 : decode cT_count 89 = .ok (.iconst (-1), 1) := by decide +kernel
theorem dT_count_90 : decode cT_count 90 = .ok (.ireturn, 1) := by decide +kernel
abbrev cT_playCycle : ByteArray := prog_1_method_20_code
def yT_playCycle : MethodName := ⟨"ThreadSlots", "playCycle", "()I"⟩
theorem dT_playCycle_0 : decode cT_playCycle 0 = .ok (.aload_n 0, 1) := by decide +kernel
theorem dT_playCycle_1 : decode cT_playCycle 1 = .ok (.dup, 1) := by decide +kernel
theorem dT_playCycle_2 : decode cT_playCycle 2 = .ok (.getfield 141, 3) := by decide +kernel
theorem dT_playCycle_5 : decode cT_playCycle 5 = .ok (.iconst 1, 1) := by decide +kernel
theorem dT_playCycle_6 : decode cT_playCycle 6 = .ok (.iadd, 1) := by decide +kernel
theorem dT_playCycle_7 : decode cT_playCycle 7 = .ok (.putfield 141, 3) := by decide +kernel
theorem dT_playCycle_10 : decode cT_playCycle 10 = .ok (.aload_n 0, 1) := by decide +kernel
theorem dT_playCycle_11 : decode cT_playCycle 11 = .ok (.invokevirtual 153, 3) := by decide +kernel
theorem dT_playCycle_14 : decode cT_playCycle 14 = .ok (.aload_n 0, 1) := by decide +kernel
theorem dT_playCycle_15 : decode cT_playCycle 15 = .ok (.invokevirtual 156, 3) := by decide +kernel
theorem dT_playCycle_18 : decode cT_playCycle 18 = .ok (.istore_n 1, 1) := by decide +kernel
theorem dT_playCycle_19 : decode cT_playCycle 19 = .ok (.aload_n 0, 1) := by decide +kernel
theorem dT_playCycle_20 : decode cT_playCycle 20 = .ok (.iload_n 1, 1) := by decide +kernel
theorem dT_playCycle_21 : decode cT_playCycle 21 = .ok (.invokevirtual 159, 3) := by decide +kernel
theorem dT_playCycle_24 : decode cT_playCycle 24 = .ok (.iload_n 1, 1) := by decide +kernel
theorem dT_playCycle_25 : decode cT_playCycle 25 = .ok (.iconst (-1), 1) := by decide +kernel
theorem dT_playCycle_26 : decode cT_playCycle 26 = .ok (.if_icmp .eq 8, 3) := by decide +kernel
theorem dT_playCycle_29 : decode cT_playCycle 29 = .ok (.aload_n 0, 1) := by decide +kernel
theorem dT_playCycle_30 : decode cT_playCycle 30 = .ok (.iload_n 1, 1) := by decide +kernel
theorem dT_playCycle_31 : decode cT_playCycle 31 = .ok (.invokevirtual 162, 3) := by decide +kernel
theorem dT_playCycle_34 : decode cT_playCycle 34 = .ok (.iload_n 1, 1) := by decide +kernel
theorem dT_playCycle_35 : decode cT_playCycle 35 = .ok (.ireturn, 1) := by decide +kernel
abbrev cT_seeWhoCanGo : ByteArray := prog_1_method_21_code
def yT_seeWhoCanGo : MethodName := ⟨"ThreadSlots", "seeWhoCanGo", "()V"⟩
theorem dT_seeWhoCanGo_0 : decode cT_seeWhoCanGo 0 = .ok (.iconst 0, 1) := by decide +kernel
theorem dT_seeWhoCanGo_1 : decode cT_seeWhoCanGo 1 = .ok (.istore_n 1, 1) := by decide +kernel
theorem dT_seeWhoCanGo_2 : decode cT_seeWhoCanGo 2 = .ok (.iload_n 1, 1) := by decide +kernel
theorem dT_seeWhoCanGo_3 : decode cT_seeWhoCanGo 3 = .ok (.aload_n 0, 1) := by decide +kernel
theorem dT_seeWhoCanGo_4 : decode cT_seeWhoCanGo 4 = .ok (.getfield 24, 3) := by decide +kernel
theorem dT_seeWhoCanGo_7 : decode cT_seeWhoCanGo 7 = .ok (.arraylength, 1) := by decide +kernel
theorem dT_seeWhoCanGo_8 : decode cT_seeWhoCanGo 8 = .ok (.if_icmp .ge 55, 3) := by decide +kernel
theorem dT_seeWhoCanGo_11 : decode cT_seeWhoCanGo 11 = .ok (.aload_n 0, 1) := by decide +kernel
theorem dT_seeWhoCanGo_12 : decode cT_seeWhoCanGo 12 = .ok (.getfield 24, 3) := by decide +kernel
theorem dT_seeWhoCanGo_15 : decode cT_seeWhoCanGo 15 = .ok (.iload_n 1, 1) := by decide +kernel
theorem dT_seeWhoCanGo_16 : decode cT_seeWhoCanGo 16 = .ok (.aaload, 1) := by decide +kernel
theorem dT_seeWhoCanGo_17 : decode cT_seeWhoCanGo 17 = .ok (.astore_n 2, 1) := by decide +kernel
theorem dT_seeWhoCanGo_18 : decode cT_seeWhoCanGo 18 = .ok (.aload_n 2, 1) := by decide +kernel
theorem dT_seeWhoCanGo_19 : decode cT_seeWhoCanGo 19 = .ok (.getfield 65, 3) := by decide +kernel
theorem dT_seeWhoCanGo_22 : decode cT_seeWhoCanGo 22 = .ok (.aload_n 0, 1) := by decide +kernel
theorem dT_seeWhoCanGo_23 : decode cT_seeWhoCanGo 23 = .ok (.getfield 141, 3) := by decide +kernel
theorem dT_seeWhoCanGo_26 : decode cT_seeWhoCanGo 26 = .ok (.if_icmp .gt 8, 3) := by decide +kernel
theorem dT_seeWhoCanGo_29 : decode cT_seeWhoCanGo 29 = .ok (.aload_n 2, 1) := by decide +kernel
theorem dT_seeWhoCanGo_30 : decode cT_seeWhoCanGo 30 = .ok (.iconst 0, 1) := by decide +kernel
theorem dT_seeWhoCanGo_31 : decode cT_seeWhoCanGo 31 = .ok (.putfield 65, 3) := by decide +kernel
theorem dT_seeWhoCanGo_34 : decode cT_seeWhoCanGo 34 = .ok (.aload_n 2, 1) := by decide +kernel
theorem dT_seeWhoCanGo_35 : decode cT_seeWhoCanGo 35 = .ok (.aload_n 2, 1) := by decide +kernel
theorem dT_seeWhoCanGo_36 : decode cT_seeWhoCanGo 36 = .ok (.getfield 57, 3) := by decide +kernel
theorem dT_seeWhoCanGo_39 : decode cT_seeWhoCanGo 39 = .ok (.ifCond .eq 14, 3) := by decide +kernel
theorem dT_seeWhoCanGo_42 : decode cT_seeWhoCanGo 42 = .ok (.aload_n 2, 1) := by decide +kernel
theorem dT_seeWhoCanGo_43 : decode cT_seeWhoCanGo 43 = .ok (.getfield 65, 3) := by decide +kernel
theorem dT_seeWhoCanGo_46 : decode cT_seeWhoCanGo 46 = .ok (.ifCond .ne 7, 3) := by decide +kernel
theorem dT_seeWhoCanGo_49 : decode cT_seeWhoCanGo 49 = .ok (.iconst 1, 1) := by decide +kernel
theorem dT_seeWhoCanGo_50 : decode cT_seeWhoCanGo 50 = .ok (.goto 4, 3) := by decide +kernel
theorem dT_seeWhoCanGo_53 : decode cT_seeWhoCanGo 53 = .ok (.iconst 0, 1) := by decide +kernel
theorem dT_seeWhoCanGo_54 : decode cT_seeWhoCanGo 54 = .ok (.putfield 165, 3) := by decide +kernel
theorem dT_seeWhoCanGo_57 : decode cT_seeWhoCanGo 57 = .ok (.iinc 1 1, 3) := by decide +kernel
theorem dT_seeWhoCanGo_60 : decode cT_seeWhoCanGo 60 = .ok (.goto (-58), 3) := by decide +kernel
theorem dT_seeWhoCanGo_63 : decode cT_seeWhoCanGo 63 = .ok (.return_, 1) := by decide +kernel
abbrev cT_findGoer : ByteArray := prog_1_method_22_code
def yT_findGoer : MethodName := ⟨"ThreadSlots", "findGoer", "()I"⟩
theorem dT_findGoer_0 : decode cT_findGoer 0 = .ok (.aload_n 0, 1) := by decide +kernel
theorem dT_findGoer_1 : decode cT_findGoer 1 = .ok (.getfield 168, 3) := by decide +kernel
theorem dT_findGoer_4 : decode cT_findGoer 4 = .ok (.ifCond .le 25, 3) := by decide +kernel
theorem dT_findGoer_7 : decode cT_findGoer 7 = .ok (.aload_n 0, 1) := by decide +kernel
theorem dT_findGoer_8 : decode cT_findGoer 8 = .ok (.dup, 1) := by decide +kernel
theorem dT_findGoer_9 : decode cT_findGoer 9 = .ok (.getfield 168, 3) := by decide +kernel
theorem dT_findGoer_12 : decode cT_findGoer 12 = .ok (.iconst 1, 1) := by decide +kernel
theorem dT_findGoer_13 : decode cT_findGoer 13 = .ok (.isub, 1) := by decide +kernel
theorem dT_findGoer_14 : decode cT_findGoer 14 = .ok (.putfield 168, 3) := by decide +kernel
theorem dT_findGoer_17 : decode cT_findGoer 17 = .ok (.aload_n 0, 1) := by decide +kernel
theorem dT_findGoer_18 : decode cT_findGoer 18 = .ok (.dup, 1) := by decide +kernel
theorem dT_findGoer_19 : decode cT_findGoer 19 = .ok (.getfield 147, 3) := by decide +kernel
theorem dT_findGoer_22 : decode cT_findGoer 22 = .ok (.iconst 1, 1) := by decide +kernel
theorem dT_findGoer_23 : decode cT_findGoer 23 = .ok (.iadd, 1) := by decide +kernel
theorem dT_findGoer_24 : decode cT_findGoer 24 = .ok (.putfield 147, 3) := by decide +kernel
theorem dT_findGoer_27 : decode cT_findGoer 27 = .ok (.iconst (-1), 1) := by decide +kernel
theorem dT_findGoer_28 : decode cT_findGoer 28 = .ok (.ireturn, 1) := by decide +kernel
theorem dT_findGoer_29 : decode cT_findGoer 29 = .ok (.aload_n 0, 1) := by decide +kernel
theorem dT_findGoer_30 : decode cT_findGoer 30 = .ok (.getfield 13, 3) := by decide +kernel
theorem dT_findGoer_33 : decode cT_findGoer 33 = .ok (.iconst (-1), 1) := by decide +kernel
theorem dT_findGoer_34 : decode cT_findGoer 34 = .ok (.if_icmp .eq 23, 3) := by decide +kernel
theorem dT_findGoer_37 : decode cT_findGoer 37 = .ok (.aload_n 0, 1) := by decide +kernel
theorem dT_findGoer_38 : decode cT_findGoer 38 = .ok (.getfield 24, 3) := by decide +kernel
theorem dT_findGoer_41 : decode cT_findGoer 41 = .ok (.aload_n 0, 1) := by decide +kernel
theorem dT_findGoer_42 : decode cT_findGoer 42 = .ok (.getfield 13, 3) := by decide +kernel
theorem dT_findGoer_45 : decode cT_findGoer 45 = .ok (.aaload, 1) := by decide +kernel
theorem dT_findGoer_46 : decode cT_findGoer 46 = .ok (.getfield 165, 3) := by decide +kernel
theorem dT_findGoer_49 : decode cT_findGoer 49 = .ok (.ifCond .eq 8, 3) := by decide +kernel
theorem dT_findGoer_52 : decode cT_findGoer 52 = .ok (.aload_n 0, 1) := by decide +kernel
theorem dT_findGoer_53 : decode cT_findGoer 53 = .ok (.getfield 13, 3) := by decide +kernel
theorem dT_findGoer_56 : decode cT_findGoer 56 = .ok (.ireturn, 1) := by decide +kernel
theorem dT_findGoer_57 : decode cT_findGoer 57 = .ok (.aload_n 0, 1) := by decide +kernel
theorem dT_findGoer_58 : decode cT_findGoer 58 = .ok (.invokevirtual 171, 3) := by decide +kernel
theorem dT_findGoer_61 : decode cT_findGoer 61 = .ok (.istore_n 1, 1) := by decide +kernel
theorem dT_findGoer_62 : decode cT_findGoer 62 = .ok (.iload_n 1, 1) := by decide +kernel
theorem dT_findGoer_63 : decode cT_findGoer 63 = .ok (.iconst (-1), 1) := by decide +kernel
theorem dT_findGoer_64 : decode cT_findGoer 64 = .ok (.if_icmp .ne 15, 3) := by decide +kernel
theorem dT_findGoer_67 : decode cT_findGoer 67 = .ok (.aload_n 0, 1) := by decide +kernel
theorem dT_findGoer_68 : decode cT_findGoer 68 = .ok (.dup, 1) := by decide +kernel
theorem dT_findGoer_69 : decode cT_findGoer 69 = .ok (.getfield 144, 3) := by decide +kernel
theorem dT_findGoer_72 : decode cT_findGoer 72 = .ok (.iconst 1, 1) := by decide +kernel
theorem dT_findGoer_73 : decode cT_findGoer 73 = .ok (.iadd, 1) := by decide +kernel
theorem dT_findGoer_74 : decode cT_findGoer 74 = .ok (.putfield 144, 3) := by decide +kernel
theorem dT_findGoer_77 : decode cT_findGoer 77 = .ok (.iconst (-1), 1) := by decide +kernel
theorem dT_findGoer_78 : decode cT_findGoer 78 = .ok (.ireturn, 1) := by decide +kernel
theorem dT_findGoer_79 : decode cT_findGoer 79 = .ok (.iload_n 1, 1) := by decide +kernel
theorem dT_findGoer_80 : decode cT_findGoer 80 = .ok (.aload_n 0, 1) := by decide +kernel
theorem dT_findGoer_81 : decode cT_findGoer 81 = .ok (.getfield 9, 3) := by decide +kernel
theorem dT_findGoer_84 : decode cT_findGoer 84 = .ok (.if_icmp .eq 18, 3) := by decide +kernel
theorem dT_findGoer_87 : decode cT_findGoer 87 = .ok (.aload_n 0, 1) := by decide +kernel
theorem dT_findGoer_88 : decode cT_findGoer 88 = .ok (.getfield 9, 3) := by decide +kernel
theorem dT_findGoer_91 : decode cT_findGoer 91 = .ok (.iconst (-1), 1) := by decide +kernel
theorem dT_findGoer_92 : decode cT_findGoer 92 = .ok (.if_icmp .eq 10, 3) := by decide +kernel
theorem dT_findGoer_95 : decode cT_findGoer 95 = .ok (.aload_n 0, 1) := by decide +kernel
theorem dT_findGoer_96 : decode cT_findGoer 96 = .ok (.getfield 50, 3) := by decide +kernel
theorem dT_findGoer_99 : decode cT_findGoer 99 = .ok (.ifCond .ne 5, 3) := by decide +kernel
theorem dT_findGoer_102 : decode cT_findGoer 102 = .ok (.iload_n 1, 1) := by decide +kernel
theorem dT_findGoer_103 : decode cT_findGoer 103 = .ok (.ireturn, 1) := by decide +kernel
theorem dT_findGoer_104 : decode cT_findGoer 104 = .ok (.aload_n 0, 1) := by decide +kernel
theorem dT_findGoer_105 : decode cT_findGoer 105 = .ok (.iload_n 1, 1) := by decide +kernel
theorem dT_findGoer_106 : decode cT_findGoer 106 = .ok (.invokevirtual 174, 3) := by decide +kernel
theorem dT_findGoer_109 : decode cT_findGoer 109 = .ok (.iconst (-1), 1) := by decide +kernel
theorem dT_findGoer_110 : decode cT_findGoer 110 = .ok (.ireturn, 1) := by decide +kernel
abbrev cT_beginChangeTo : ByteArray := prog_1_method_23_code
def yT_beginChangeTo : MethodName := ⟨"ThreadSlots", "beginChangeTo", "(I)V"⟩
theorem dT_beginChangeTo_0 : decode cT_beginChangeTo 0 = .ok (.aload_n 0, 1) := by decide +kernel
theorem dT_beginChangeTo_1 : decode cT_beginChangeTo 1 = .ok (.iload_n 1, 1) := by decide +kernel
theorem dT_beginChangeTo_2 : decode cT_beginChangeTo 2 = .ok (.putfield 13, 3) := by decide +kernel
theorem dT_beginChangeTo_5 : decode cT_beginChangeTo 5 = .ok (.aload_n 0, 1) := by decide +kernel
theorem dT_beginChangeTo_6 : decode cT_beginChangeTo 6 = .ok (.aload_n 0, 1) := by decide +kernel
theorem dT_beginChangeTo_7 : decode cT_beginChangeTo 7 = .ok (.getfield 50, 3) := by decide +kernel
theorem dT_beginChangeTo_10 : decode cT_beginChangeTo 10 = .ok (.iconst 1, 1) := by decide +kernel
theorem dT_beginChangeTo_11 : decode cT_beginChangeTo 11 = .ok (.isub, 1) := by decide +kernel
theorem dT_beginChangeTo_12 : decode cT_beginChangeTo 12 = .ok (.putfield 168, 3) := by decide +kernel
theorem dT_beginChangeTo_15 : decode cT_beginChangeTo 15 = .ok (.aload_n 0, 1) := by decide +kernel
theorem dT_beginChangeTo_16 : decode cT_beginChangeTo 16 = .ok (.getfield 24, 3) := by decide +kernel
theorem dT_beginChangeTo_19 : decode cT_beginChangeTo 19 = .ok (.iload_n 1, 1) := by decide +kernel
theorem dT_beginChangeTo_20 : decode cT_beginChangeTo 20 = .ok (.aaload, 1) := by decide +kernel
theorem dT_beginChangeTo_21 : decode cT_beginChangeTo 21 = .ok (.dup, 1) := by decide +kernel
theorem dT_beginChangeTo_22 : decode cT_beginChangeTo 22 = .ok (.getfield 129, 3) := by decide +kernel
theorem dT_beginChangeTo_25 : decode cT_beginChangeTo 25 = .ok (.iconst 1, 1) := by decide +kernel
theorem dT_beginChangeTo_26 : decode cT_beginChangeTo 26 = .ok (.iadd, 1) := by decide +kernel
theorem dT_beginChangeTo_27 : decode cT_beginChangeTo 27 = .ok (.putfield 129, 3) := by decide +kernel
theorem dT_beginChangeTo_30 : decode cT_beginChangeTo 30 = .ok (.aload_n 0, 1) := by decide +kernel
theorem dT_beginChangeTo_31 : decode cT_beginChangeTo 31 = .ok (.dup, 1) := by decide +kernel
theorem dT_beginChangeTo_32 : decode cT_beginChangeTo 32 = .ok (.getfield 147, 3) := by decide +kernel
theorem dT_beginChangeTo_35 : decode cT_beginChangeTo 35 = .ok (.iconst 1, 1) := by decide +kernel
theorem dT_beginChangeTo_36 : decode cT_beginChangeTo 36 = .ok (.iadd, 1) := by decide +kernel
theorem dT_beginChangeTo_37 : decode cT_beginChangeTo 37 = .ok (.putfield 147, 3) := by decide +kernel
theorem dT_beginChangeTo_40 : decode cT_beginChangeTo 40 = .ok (.return_, 1) := by decide +kernel
abbrev cT_letOthersWait : ByteArray := prog_1_method_24_code
def yT_letOthersWait : MethodName := ⟨"ThreadSlots", "letOthersWait", "(I)V"⟩
theorem dT_letOthersWait_0 : decode cT_letOthersWait 0 = .ok (.iconst 0, 1) := by decide +kernel
theorem dT_letOthersWait_1 : decode cT_letOthersWait 1 = .ok (.istore_n 2, 1) := by decide +kernel
theorem dT_letOthersWait_2 : decode cT_letOthersWait 2 = .ok (.iload_n 2, 1) := by decide +kernel
theorem dT_letOthersWait_3 : decode cT_letOthersWait 3 = .ok (.aload_n 0, 1) := by decide +kernel
theorem dT_letOthersWait_4 : decode cT_letOthersWait 4 = .ok (.getfield 24, 3) := by decide +kernel
theorem dT_letOthersWait_7 : decode cT_letOthersWait 7 = .ok (.arraylength, 1) := by decide +kernel
theorem dT_letOthersWait_8 : decode cT_letOthersWait 8 = .ok (.if_icmp .ge 53, 3) := by decide +kernel
theorem dT_letOthersWait_11 : decode cT_letOthersWait 11 = .ok (.aload_n 0, 1) := by decide +kernel
theorem dT_letOthersWait_12 : decode cT_letOthersWait 12 = .ok (.getfield 24, 3) := by decide +kernel
theorem dT_letOthersWait_15 : decode cT_letOthersWait 15 = .ok (.iload_n 2, 1) := by decide +kernel
theorem dT_letOthersWait_16 : decode cT_letOthersWait 16 = .ok (.aaload, 1) := by decide +kernel
theorem dT_letOthersWait_17 : decode cT_letOthersWait 17 = .ok (.astore_n 3, 1) := by decide +kernel
theorem dT_letOthersWait_18 : decode cT_letOthersWait 18 = .ok (.aload_n 3, 1) := by decide +kernel
theorem dT_letOthersWait_19 : decode cT_letOthersWait 19 = .ok (.getfield 165, 3) := by decide +kernel
theorem dT_letOthersWait_22 : decode cT_letOthersWait 22 = .ok (.ifCond .eq 33, 3) := by decide +kernel
theorem dT_letOthersWait_25 : decode cT_letOthersWait 25 = .ok (.iload_n 2, 1) := by decide +kernel
theorem dT_letOthersWait_26 : decode cT_letOthersWait 26 = .ok (.iload_n 1, 1) := by decide +kernel
theorem dT_letOthersWait_27 : decode cT_letOthersWait 27 = .ok (.if_icmp .eq 28, 3) := by decide +kernel
theorem dT_letOthersWait_30 : decode cT_letOthersWait 30 = .ok (.aload_n 3, 1) := by decide +kernel
theorem dT_letOthersWait_31 : decode cT_letOthersWait 31 = .ok (.dup, 1) := by decide +kernel
theorem dT_letOthersWait_32 : decode cT_letOthersWait 32 = .ok (.getfield 120, 3) := by decide +kernel
theorem dT_letOthersWait_35 : decode cT_letOthersWait 35 = .ok (.iconst 1, 1) := by decide +kernel
theorem dT_letOthersWait_36 : decode cT_letOthersWait 36 = .ok (.iadd, 1) := by decide +kernel
theorem dT_letOthersWait_37 : decode cT_letOthersWait 37 = .ok (.putfield 120, 3) := by decide +kernel
theorem dT_letOthersWait_40 : decode cT_letOthersWait 40 = .ok (.aload_n 3, 1) := by decide +kernel
theorem dT_letOthersWait_41 : decode cT_letOthersWait 41 = .ok (.aload_n 3, 1) := by decide +kernel
theorem dT_letOthersWait_42 : decode cT_letOthersWait 42 = .ok (.getfield 123, 3) := by decide +kernel
theorem dT_letOthersWait_45 : decode cT_letOthersWait 45 = .ok (.aload_n 3, 1) := by decide +kernel
theorem dT_letOthersWait_46 : decode cT_letOthersWait 46 = .ok (.getfield 120, 3) := by decide +kernel
theorem dT_letOthersWait_49 : decode cT_letOthersWait 49 = .ok (.invokestatic 177, 3) := by decide +kernel
theorem dT_letOthersWait_52 : decode cT_letOthersWait 52 = .ok (.putfield 123, 3) := by decide +kernel
theorem dT_letOthersWait_55 : decode cT_letOthersWait 55 = .ok (.iinc 2 1, 3) := by decide +kernel
theorem dT_letOthersWait_58 : decode cT_letOthersWait 58 = .ok (.goto (-56), 3) := by decide +kernel
theorem dT_letOthersWait_61 : decode cT_letOthersWait 61 = .ok (.return_, 1) := by decide +kernel
abbrev cT_letGo : ByteArray := prog_1_method_25_code
def yT_letGo : MethodName := ⟨"ThreadSlots", "letGo", "(I)V"⟩
theorem dT_letGo_0 : decode cT_letGo 0 = .ok (.aload_n 0, 1) := by decide +kernel
theorem dT_letGo_1 : decode cT_letGo 1 = .ok (.getfield 24, 3) := by decide +kernel
theorem dT_letGo_4 : decode cT_letGo 4 = .ok (.iload_n 1, 1) := by decide +kernel
theorem dT_letGo_5 : decode cT_letGo 5 = .ok (.aaload, 1) := by decide +kernel
theorem dT_letGo_6 : decode cT_letGo 6 = .ok (.astore_n 2, 1) := by decide +kernel
theorem dT_letGo_7 : decode cT_letGo 7 = .ok (.aload_n 2, 1) := by decide +kernel
theorem dT_letGo_8 : decode cT_letGo 8 = .ok (.iconst 0, 1) := by decide +kernel
theorem dT_letGo_9 : decode cT_letGo 9 = .ok (.putfield 120, 3) := by decide +kernel
theorem dT_letGo_12 : decode cT_letGo 12 = .ok (.aload_n 2, 1) := by decide +kernel
theorem dT_letGo_13 : decode cT_letGo 13 = .ok (.dup, 1) := by decide +kernel
theorem dT_letGo_14 : decode cT_letGo 14 = .ok (.getfield 126, 3) := by decide +kernel
theorem dT_letGo_17 : decode cT_letGo 17 = .ok (.iconst 1, 1) := by decide +kernel
theorem dT_letGo_18 : decode cT_letGo 18 = .ok (.iadd, 1) := by decide +kernel
theorem dT_letGo_19 : decode cT_letGo 19 = .ok (.putfield 126, 3) := by decide +kernel
theorem dT_letGo_22 : decode cT_letGo 22 = .ok (.aload_n 0, 1) := by decide +kernel
theorem dT_letGo_23 : decode cT_letGo 23 = .ok (.dup, 1) := by decide +kernel
theorem dT_letGo_24 : decode cT_letGo 24 = .ok (.getfield 137, 3) := by decide +kernel
theorem dT_letGo_27 : decode cT_letGo 27 = .ok (.iconst 1, 1) := by decide +kernel
theorem dT_letGo_28 : decode cT_letGo 28 = .ok (.iadd, 1) := by decide +kernel
theorem dT_letGo_29 : decode cT_letGo 29 = .ok (.putfield 137, 3) := by decide +kernel
theorem dT_letGo_32 : decode cT_letGo 32 = .ok (.aload_n 0, 1) := by decide +kernel
theorem dT_letGo_33 : decode cT_letGo 33 = .ok (.iload_n 1, 1) := by decide +kernel
theorem dT_letGo_34 : decode cT_letGo 34 = .ok (.putfield 9, 3) := by decide +kernel
theorem dT_letGo_37 : decode cT_letGo 37 = .ok (.aload_n 0, 1) := by decide +kernel
theorem dT_letGo_38 : decode cT_letGo 38 = .ok (.iconst (-1), 1) := by decide +kernel
theorem dT_letGo_39 : decode cT_letGo 39 = .ok (.putfield 13, 3) := by decide +kernel
theorem dT_letGo_42 : decode cT_letGo 42 = .ok (.return_, 1) := by decide +kernel
abbrev cT_choose : ByteArray := prog_1_method_26_code
def yT_choose : MethodName := ⟨"ThreadSlots", "choose", "()I"⟩
theorem dT_choose_0 : decode cT_choose 0 = .ok (.aload_n 0, 1) := by decide +kernel
theorem dT_choose_1 : decode cT_choose 1 = .ok (.invokevirtual 180, 3) := by decide +kernel
theorem dT_choose_4 : decode cT_choose 4 = .ok (.istore_n 1, 1) := by decide +kernel
theorem dT_choose_5 : decode cT_choose 5 = .ok (.iload_n 1, 1) := by decide +kernel
theorem dT_choose_6 : decode cT_choose 6 = .ok (.iconst (-1), 1) := by decide +kernel
theorem dT_choose_7 : decode cT_choose 7 = .ok (.if_icmp .eq 5, 3) := by decide +kernel
theorem dT_choose_10 : decode cT_choose 10 = .ok (.iload_n 1, 1) := by decide +kernel
theorem dT_choose_11 : decode cT_choose 11 = .ok (.ireturn, 1) := by decide +kernel
theorem dT_choose_12 : decode cT_choose 12 = .ok (.aload_n 0, 1) := by decide +kernel
theorem dT_choose_13 : decode cT_choose 13 = .ok (.invokevirtual 183, 3) := by decide +kernel
theorem dT_choose_16 : decode cT_choose 16 = .ok (.istore_n 2, 1) := by decide +kernel
theorem dT_choose_17 : decode cT_choose 17 = .ok (.iload_n 2, 1) := by decide +kernel
theorem dT_choose_18 : decode cT_choose 18 = .ok (.iconst (-1), 1) := by decide +kernel
theorem dT_choose_19 : decode cT_choose 19 = .ok (.if_icmp .ne 5, 3) := by decide +kernel
theorem dT_choose_22 : decode cT_choose 22 = .ok (.iconst (-1), 1) := by decide +kernel
theorem dT_choose_23 : decode cT_choose 23 = .ok (.ireturn, 1) := by decide +kernel
theorem dT_choose_24 : decode cT_choose 24 = .ok (.aload_n 0, 1) := by decide +kernel
theorem dT_choose_25 : decode cT_choose 25 = .ok (.getfield 44, 3) := by decide +kernel
theorem dT_choose_28 : decode cT_choose 28 = .ok (.tableswitch 40 1 3 #[28, 28, 34], 28) := by decide +kernel
theorem dT_choose_56 : decode cT_choose 56 = .ok (.aload_n 0, 1) := by decide +kernel
theorem dT_choose_57 : decode cT_choose 57 = .ok (.iload_n 2, 1) := by decide +kernel
theorem dT_choose_58 : decode cT_choose 58 = .ok (.invokevirtual 186, 3) := by decide +kernel
theorem dT_choose_61 : decode cT_choose 61 = .ok (.ireturn, 1) := by decide +kernel
theorem dT_choose_62 : decode cT_choose 62 = .ok (.aload_n 0, 1) := by decide +kernel
theorem dT_choose_63 : decode cT_choose 63 = .ok (.iload_n 2, 1) := by decide +kernel
theorem dT_choose_64 : decode cT_choose 64 = .ok (.invokevirtual 189, 3) := by decide +kernel
theorem dT_choose_67 : decode cT_choose 67 = .ok (.ireturn, 1) := by decide +kernel
theorem dT_choose_68 : decode cT_choose 68 = .ok (.aload_n 0, 1) := by decide +kernel
theorem dT_choose_69 : decode cT_choose 69 = .ok (.iload_n 2, 1) := by decide +kernel
theorem dT_choose_70 : decode cT_choose 70 = .ok (.invokevirtual 192, 3) := by decide +kernel
theorem dT_choose_73 : decode cT_choose 73 = .ok (.ireturn, 1) := by decide +kernel
abbrev cT_findOverdue : ByteArray := prog_1_method_27_code
def yT_findOverdue : MethodName := ⟨"ThreadSlots", "findOverdue", "()I"⟩
theorem dT_findOverdue_0 : decode cT_findOverdue 0 = .ok (.aload_n 0, 1) := by decide +kernel
theorem dT_findOverdue_1 : decode cT_findOverdue 1 = .ok (.getfield 47, 3) := by decide +kernel
theorem dT_findOverdue_4 : decode cT_findOverdue 4 = .ok (.ifCond .ne 5, 3) := by decide +kernel
theorem dT_findOverdue_7 : decode cT_findOverdue 7 = .ok (.iconst (-1), 1) := by decide +kernel
theorem dT_findOverdue_8 : decode cT_findOverdue 8 = .ok (.ireturn, 1) := by decide +kernel
theorem dT_findOverdue_9 : decode cT_findOverdue 9 = .ok (.iconst (-1), 1) := by decide +kernel
theorem dT_findOverdue_10 : decode cT_findOverdue 10 = .ok (.istore_n 1, 1) := by decide +kernel
theorem dT_findOverdue_11 : decode cT_findOverdue 11 = .ok (.aload_n 0, 1) := by decide +kernel
theorem dT_findOverdue_12 : decode cT_findOverdue 12 = .ok (.getfield 47, 3) := by decide +kernel
theorem dT_findOverdue_15 : decode cT_findOverdue 15 = .ok (.iconst 1, 1) := by decide +kernel
theorem dT_findOverdue_16 : decode cT_findOverdue 16 = .ok (.isub, 1) := by decide +kernel
theorem dT_findOverdue_17 : decode cT_findOverdue 17 = .ok (.istore_n 2, 1) := by decide +kernel
theorem dT_findOverdue_18 : decode cT_findOverdue 18 = .ok (.iconst 0, 1) := by decide +kernel
theorem dT_findOverdue_19 : decode cT_findOverdue 19 = .ok (.istore_n 3, 1) := by decide +kernel
theorem dT_findOverdue_20 : decode cT_findOverdue 20 = .ok (.iload_n 3, 1) := by decide +kernel
theorem dT_findOverdue_21 : decode cT_findOverdue 21 = .ok (.aload_n 0, 1) := by decide +kernel
theorem dT_findOverdue_22 : decode cT_findOverdue 22 = .ok (.getfield 24, 3) := by decide +kernel
theorem dT_findOverdue_25 : decode cT_findOverdue 25 = .ok (.arraylength, 1) := by decide +kernel
theorem dT_findOverdue_26 : decode cT_findOverdue 26 = .ok (.if_icmp .ge 42, 3) := by decide +kernel
theorem dT_findOverdue_29 : decode cT_findOverdue 29 = .ok (.aload_n 0, 1) := by decide +kernel
theorem dT_findOverdue_30 : decode cT_findOverdue 30 = .ok (.getfield 24, 3) := by decide +kernel
theorem dT_findOverdue_33 : decode cT_findOverdue 33 = .ok (.iload_n 3, 1) := by decide +kernel
theorem dT_findOverdue_34 : decode cT_findOverdue 34 = .ok (.aaload, 1) := by decide +kernel
theorem dT_findOverdue_35 : decode cT_findOverdue 35 = .ok (.astore 4, 2) := by decide +kernel
theorem dT_findOverdue_37 : decode cT_findOverdue 37 = .ok (.aload 4, 2) := by decide +kernel
theorem dT_findOverdue_39 : decode cT_findOverdue 39 = .ok (.getfield 165, 3) := by decide +kernel
theorem dT_findOverdue_42 : decode cT_findOverdue 42 = .ok (.ifCond .eq 20, 3) := by decide +kernel
theorem dT_findOverdue_45 : decode cT_findOverdue 45 = .ok (.aload 4, 2) := by decide +kernel
theorem dT_findOverdue_47 : decode cT_findOverdue 47 = .ok (.getfield 120, 3) := by decide +kernel
theorem dT_findOverdue_50 : decode cT_findOverdue 50 = .ok (.iload_n 2, 1) := by decide +kernel
theorem dT_findOverdue_51 : decode cT_findOverdue 51 = .ok (.if_icmp .le 11, 3) := by decide +kernel
theorem dT_findOverdue_54 : decode cT_findOverdue 54 = .ok (.iload_n 3, 1) := by decide +kernel
theorem dT_findOverdue_55 : decode cT_findOverdue 55 = .ok (.istore_n 1, 1) := by decide +kernel
theorem dT_findOverdue_56 : decode cT_findOverdue 56 = .ok (.aload 4, 2) := by decide +kernel
theorem dT_findOverdue_58 : decode cT_findOverdue 58 = .ok (.getfield 120, 3) := by decide +kernel
theorem dT_findOverdue_61 : decode cT_findOverdue 61 = .ok (.istore_n 2, 1) := by decide +kernel
theorem dT_findOverdue_62 : decode cT_findOverdue 62 = .ok (.iinc 3 1, 3) := by decide +kernel
theorem dT_findOverdue_65 : decode cT_findOverdue 65 = .ok (.goto (-45), 3) := by decide +kernel
theorem dT_findOverdue_68 : decode cT_findOverdue 68 = .ok (.iload_n 1, 1) := by decide +kernel
theorem dT_findOverdue_69 : decode cT_findOverdue 69 = .ok (.ireturn, 1) := by decide +kernel
abbrev cT_greatestRank : ByteArray := prog_1_method_28_code
def yT_greatestRank : MethodName := ⟨"ThreadSlots", "greatestRank", "()I"⟩
theorem dT_greatestRank_0 : decode cT_greatestRank 0 = .ok (.iconst (-1), 1) := by decide +kernel
theorem dT_greatestRank_1 : decode cT_greatestRank 1 = .ok (.istore_n 1, 1) := by decide +kernel
theorem dT_greatestRank_2 : decode cT_greatestRank 2 = .ok (.iconst 0, 1) := by decide +kernel
theorem dT_greatestRank_3 : decode cT_greatestRank 3 = .ok (.istore_n 2, 1) := by decide +kernel
theorem dT_greatestRank_4 : decode cT_greatestRank 4 = .ok (.iload_n 2, 1) := by decide +kernel
theorem dT_greatestRank_5 : decode cT_greatestRank 5 = .ok (.aload_n 0, 1) := by decide +kernel
theorem dT_greatestRank_6 : decode cT_greatestRank 6 = .ok (.getfield 24, 3) := by decide +kernel
theorem dT_greatestRank_9 : decode cT_greatestRank 9 = .ok (.arraylength, 1) := by decide +kernel
theorem dT_greatestRank_10 : decode cT_greatestRank 10 = .ok (.if_icmp .ge 36, 3) := by decide +kernel
theorem dT_greatestRank_13 : decode cT_greatestRank 13 = .ok (.aload_n 0, 1) := by decide +kernel
theorem dT_greatestRank_14 : decode cT_greatestRank 14 = .ok (.getfield 24, 3) := by decide +kernel
theorem dT_greatestRank_17 : decode cT_greatestRank 17 = .ok (.iload_n 2, 1) := by decide +kernel
theorem dT_greatestRank_18 : decode cT_greatestRank 18 = .ok (.aaload, 1) := by decide +kernel
theorem dT_greatestRank_19 : decode cT_greatestRank 19 = .ok (.astore_n 3, 1) := by decide +kernel
theorem dT_greatestRank_20 : decode cT_greatestRank 20 = .ok (.aload_n 3, 1) := by decide +kernel
theorem dT_greatestRank_21 : decode cT_greatestRank 21 = .ok (.getfield 165, 3) := by decide +kernel
theorem dT_greatestRank_24 : decode cT_greatestRank 24 = .ok (.ifCond .eq 16, 3) := by decide +kernel
theorem dT_greatestRank_27 : decode cT_greatestRank 27 = .ok (.aload_n 3, 1) := by decide +kernel
theorem dT_greatestRank_28 : decode cT_greatestRank 28 = .ok (.getfield 61, 3) := by decide +kernel
theorem dT_greatestRank_31 : decode cT_greatestRank 31 = .ok (.iload_n 1, 1) := by decide +kernel
theorem dT_greatestRank_32 : decode cT_greatestRank 32 = .ok (.if_icmp .le 8, 3) := by decide +kernel
theorem dT_greatestRank_35 : decode cT_greatestRank 35 = .ok (.aload_n 3, 1) := by decide +kernel
theorem dT_greatestRank_36 : decode cT_greatestRank 36 = .ok (.getfield 61, 3) := by decide +kernel
theorem dT_greatestRank_39 : decode cT_greatestRank 39 = .ok (.istore_n 1, 1) := by decide +kernel
theorem dT_greatestRank_40 : decode cT_greatestRank 40 = .ok (.iinc 2 1, 3) := by decide +kernel
theorem dT_greatestRank_43 : decode cT_greatestRank 43 = .ok (.goto (-39), 3) := by decide +kernel
theorem dT_greatestRank_46 : decode cT_greatestRank 46 = .ok (.iload_n 1, 1) := by decide +kernel
theorem dT_greatestRank_47 : decode cT_greatestRank 47 = .ok (.ireturn, 1) := by decide +kernel
abbrev cT_isCandidate : ByteArray := prog_1_method_29_code
def yT_isCandidate : MethodName := ⟨"ThreadSlots", "isCandidate", "(LThreadSlots$Strand;I)Z"⟩
theorem dT_isCandidate_0 : decode cT_isCandidate 0 = .ok (.aload_n 1, 1) := by decide +kernel
theorem dT_isCandidate_1 : decode cT_isCandidate 1 = .ok (.getfield 165, 3) := by decide +kernel
theorem dT_isCandidate_4 : decode cT_isCandidate 4 = .ok (.ifCond .eq 15, 3) := by decide +kernel
theorem dT_isCandidate_7 : decode cT_isCandidate 7 = .ok (.aload_n 1, 1) := by decide +kernel
theorem dT_isCandidate_8 : decode cT_isCandidate 8 = .ok (.getfield 61, 3) := by decide +kernel
theorem dT_isCandidate_11 : decode cT_isCandidate 11 = .ok (.iload_n 2, 1) := by decide +kernel
theorem dT_isCandidate_12 : decode cT_isCandidate 12 = .ok (.if_icmp .ne 7, 3) := by decide +kernel
theorem dT_isCandidate_15 : decode cT_isCandidate 15 = .ok (.iconst 1, 1) := by decide +kernel
theorem dT_isCandidate_16 : decode cT_isCandidate 16 = .ok (.goto 4, 3) := by decide +kernel
theorem dT_isCandidate_19 : decode cT_isCandidate 19 = .ok (.iconst 0, 1) := by decide +kernel
theorem dT_isCandidate_20 : decode cT_isCandidate 20 = .ok (.ireturn, 1) := by decide +kernel
abbrev cT_findNextInTurn : ByteArray := prog_1_method_30_code
def yT_findNextInTurn : MethodName := ⟨"ThreadSlots", "findNextInTurn", "(I)I"⟩
theorem dT_findNextInTurn_0 : decode cT_findNextInTurn 0 = .ok (.iconst (-1), 1) := by decide +kernel
theorem dT_findNextInTurn_1 : decode cT_findNextInTurn 1 = .ok (.istore_n 2, 1) := by decide +kernel
theorem dT_findNextInTurn_2 : decode cT_findNextInTurn 2 = .ok (.iconst 0, 1) := by decide +kernel
theorem dT_findNextInTurn_3 : decode cT_findNextInTurn 3 = .ok (.istore_n 3, 1) := by decide +kernel
theorem dT_findNextInTurn_4 : decode cT_findNextInTurn 4 = .ok (.iload_n 3, 1) := by decide +kernel
theorem dT_findNextInTurn_5 : decode cT_findNextInTurn 5 = .ok (.aload_n 0, 1) := by decide +kernel
theorem dT_findNextInTurn_6 : decode cT_findNextInTurn 6 = .ok (.getfield 24, 3) := by decide +kernel
theorem dT_findNextInTurn_9 : decode cT_findNextInTurn 9 = .ok (.arraylength, 1) := by decide +kernel
theorem dT_findNextInTurn_10 : decode cT_findNextInTurn 10 = .ok (.if_icmp .ge 40, 3) := by decide +kernel
theorem dT_findNextInTurn_13 : decode cT_findNextInTurn 13 = .ok (.aload_n 0, 1) := by decide +kernel
theorem dT_findNextInTurn_14 : decode cT_findNextInTurn 14 = .ok (.aload_n 0, 1) := by decide +kernel
theorem dT_findNextInTurn_15 : decode cT_findNextInTurn 15 = .ok (.getfield 24, 3) := by decide +kernel
theorem dT_findNextInTurn_18 : decode cT_findNextInTurn 18 = .ok (.iload_n 3, 1) := by decide +kernel
theorem dT_findNextInTurn_19 : decode cT_findNextInTurn 19 = .ok (.aaload, 1) := by decide +kernel
theorem dT_findNextInTurn_20 : decode cT_findNextInTurn 20 = .ok (.iload_n 1, 1) := by decide +kernel
theorem dT_findNextInTurn_21 : decode cT_findNextInTurn 21 = .ok (.invokevirtual 195, 3) := by decide +kernel
theorem dT_findNextInTurn_24 : decode cT_findNextInTurn 24 = .ok (.ifCond .eq 20, 3) := by decide +kernel
theorem dT_findNextInTurn_27 : decode cT_findNextInTurn 27 = .ok (.iload_n 3, 1) := by decide +kernel
theorem dT_findNextInTurn_28 : decode cT_findNextInTurn 28 = .ok (.aload_n 0, 1) := by decide +kernel
theorem dT_findNextInTurn_29 : decode cT_findNextInTurn 29 = .ok (.getfield 9, 3) := by decide +kernel
theorem dT_findNextInTurn_32 : decode cT_findNextInTurn 32 = .ok (.if_icmp .le 5, 3) := by decide +kernel
theorem dT_findNextInTurn_35 : decode cT_findNextInTurn 35 = .ok (.iload_n 3, 1) := by decide +kernel
theorem dT_findNextInTurn_36 : decode cT_findNextInTurn 36 = .ok (.ireturn, 1) := by decide +kernel
theorem dT_findNextInTurn_37 : decode cT_findNextInTurn 37 = .ok (.iload_n 2, 1) := by decide +kernel
theorem dT_findNextInTurn_38 : decode cT_findNextInTurn 38 = .ok (.iconst (-1), 1) := by decide +kernel
theorem dT_findNextInTurn_39 : decode cT_findNextInTurn 39 = .ok (.if_icmp .ne 5, 3) := by decide +kernel
theorem dT_findNextInTurn_42 : decode cT_findNextInTurn 42 = .ok (.iload_n 3, 1) := by decide +kernel
theorem dT_findNextInTurn_43 : decode cT_findNextInTurn 43 = .ok (.istore_n 2, 1) := by decide +kernel
theorem dT_findNextInTurn_44 : decode cT_findNextInTurn 44 = .ok (.iinc 3 1, 3) := by decide +kernel
theorem dT_findNextInTurn_47 : decode cT_findNextInTurn 47 = .ok (.goto (-43), 3) := by decide +kernel
theorem dT_findNextInTurn_50 : decode cT_findNextInTurn 50 = .ok (.iload_n 2, 1) := by decide +kernel
theorem dT_findNextInTurn_51 : decode cT_findNextInTurn 51 = .ok (.ireturn, 1) := by decide +kernel
abbrev cT_findFewest : ByteArray := prog_1_method_31_code
def yT_findFewest : MethodName := ⟨"ThreadSlots", "findFewest", "(I)I"⟩
theorem dT_findFewest_0 : decode cT_findFewest 0 = .ok (.iconst (-1), 1) := by decide +kernel
theorem dT_findFewest_1 : decode cT_findFewest 1 = .ok (.istore_n 2, 1) := by decide +kernel
theorem dT_findFewest_2 : decode cT_findFewest 2 = .ok (.iconst 0, 1) := by decide +kernel
theorem dT_findFewest_3 : decode cT_findFewest 3 = .ok (.istore_n 3, 1) := by decide +kernel
theorem dT_findFewest_4 : decode cT_findFewest 4 = .ok (.iconst 0, 1) := by decide +kernel
theorem dT_findFewest_5 : decode cT_findFewest 5 = .ok (.istore 4, 2) := by decide +kernel
theorem dT_findFewest_7 : decode cT_findFewest 7 = .ok (.iload 4, 2) := by decide +kernel
theorem dT_findFewest_9 : decode cT_findFewest 9 = .ok (.aload_n 0, 1) := by decide +kernel
theorem dT_findFewest_10 : decode cT_findFewest 10 = .ok (.getfield 24, 3) := by decide +kernel
theorem dT_findFewest_13 : decode cT_findFewest 13 = .ok (.arraylength, 1) := by decide +kernel
theorem dT_findFewest_14 : decode cT_findFewest 14 = .ok (.if_icmp .ge 68, 3) := by decide +kernel
theorem dT_findFewest_17 : decode cT_findFewest 17 = .ok (.aload_n 0, 1) := by decide +kernel
theorem dT_findFewest_18 : decode cT_findFewest 18 = .ok (.getfield 24, 3) := by decide +kernel
theorem dT_findFewest_21 : decode cT_findFewest 21 = .ok (.iload 4, 2) := by decide +kernel
theorem dT_findFewest_23 : decode cT_findFewest 23 = .ok (.aaload, 1) := by decide +kernel
theorem dT_findFewest_24 : decode cT_findFewest 24 = .ok (.astore 5, 2) := by decide +kernel
theorem dT_findFewest_26 : decode cT_findFewest 26 = .ok (.aload_n 0, 1) := by decide +kernel
theorem dT_findFewest_27 : decode cT_findFewest 27 = .ok (.getfield 44, 3) := by decide +kernel
theorem dT_findFewest_30 : decode cT_findFewest 30 = .ok (.iconst 1, 1) := by decide +kernel
theorem dT_findFewest_31 : decode cT_findFewest 31 = .ok (.if_icmp .ne 11, 3) := by decide +kernel
theorem dT_findFewest_34 : decode cT_findFewest 34 = .ok (.aload 5, 2) := by decide +kernel
theorem dT_findFewest_36 : decode cT_findFewest 36 = .ok (.getfield 126, 3) := by decide +kernel
theorem dT_findFewest_39 : decode cT_findFewest 39 = .ok (.goto 8, 3) := by decide +kernel
theorem dT_findFewest_42 : decode cT_findFewest 42 = .ok (.aload 5, 2) := by decide +kernel
theorem dT_findFewest_44 : decode cT_findFewest 44 = .ok (.getfield 68, 3) := by decide +kernel
theorem dT_findFewest_47 : decode cT_findFewest 47 = .ok (.istore 6, 2) := by decide +kernel
theorem dT_findFewest_49 : decode cT_findFewest 49 = .ok (.aload_n 0, 1) := by decide +kernel
theorem dT_findFewest_50 : decode cT_findFewest 50 = .ok (.aload 5, 2) := by decide +kernel
theorem dT_findFewest_52 : decode cT_findFewest 52 = .ok (.iload_n 1, 1) := by decide +kernel
theorem dT_findFewest_53 : decode cT_findFewest 53 = .ok (.invokevirtual 195, 3) := by decide +kernel
theorem dT_findFewest_56 : decode cT_findFewest 56 = .ok (.ifCond .eq 20, 3) := by decide +kernel
theorem dT_findFewest_59 : decode cT_findFewest 59 = .ok (.iload_n 2, 1) := by decide +kernel
theorem dT_findFewest_60 : decode cT_findFewest 60 = .ok (.iconst (-1), 1) := by decide +kernel
theorem dT_findFewest_61 : decode cT_findFewest 61 = .ok (.if_icmp .eq 9, 3) := by decide +kernel
theorem dT_findFewest_64 : decode cT_findFewest 64 = .ok (.iload 6, 2) := by decide +kernel
theorem dT_findFewest_66 : decode cT_findFewest 66 = .ok (.iload_n 3, 1) := by decide +kernel
theorem dT_findFewest_67 : decode cT_findFewest 67 = .ok (.if_icmp .ge 9, 3) := by decide +kernel
theorem dT_findFewest_70 : decode cT_findFewest 70 = .ok (.iload 4, 2) := by decide +kernel
theorem dT_findFewest_72 : decode cT_findFewest 72 = .ok (.istore_n 2, 1) := by decide +kernel
theorem dT_findFewest_73 : decode cT_findFewest 73 = .ok (.iload 6, 2) := by decide +kernel
theorem dT_findFewest_75 : decode cT_findFewest 75 = .ok (.istore_n 3, 1) := by decide +kernel
theorem dT_findFewest_76 : decode cT_findFewest 76 = .ok (.iinc 4 1, 3) := by decide +kernel
theorem dT_findFewest_79 : decode cT_findFewest 79 = .ok (.goto (-72), 3) := by decide +kernel
theorem dT_findFewest_82 : decode cT_findFewest 82 = .ok (.iload_n 2, 1) := by decide +kernel
theorem dT_findFewest_83 : decode cT_findFewest 83 = .ok (.ireturn, 1) := by decide +kernel
abbrev cT_findBySeed : ByteArray := prog_1_method_32_code
def yT_findBySeed : MethodName := ⟨"ThreadSlots", "findBySeed", "(I)I"⟩
theorem dT_findBySeed_0 : decode cT_findBySeed 0 = .ok (.iconst 0, 1) := by decide +kernel
theorem dT_findBySeed_1 : decode cT_findBySeed 1 = .ok (.istore_n 2, 1) := by decide +kernel
theorem dT_findBySeed_2 : decode cT_findBySeed 2 = .ok (.iconst 0, 1) := by decide +kernel
theorem dT_findBySeed_3 : decode cT_findBySeed 3 = .ok (.istore_n 3, 1) := by decide +kernel
theorem dT_findBySeed_4 : decode cT_findBySeed 4 = .ok (.iload_n 3, 1) := by decide +kernel
theorem dT_findBySeed_5 : decode cT_findBySeed 5 = .ok (.aload_n 0, 1) := by decide +kernel
theorem dT_findBySeed_6 : decode cT_findBySeed 6 = .ok (.getfield 24, 3) := by decide +kernel
theorem dT_findBySeed_9 : decode cT_findBySeed 9 = .ok (.arraylength, 1) := by decide +kernel
theorem dT_findBySeed_10 : decode cT_findBySeed 10 = .ok (.if_icmp .ge 26, 3) := by decide +kernel
theorem dT_findBySeed_13 : decode cT_findBySeed 13 = .ok (.aload_n 0, 1) := by decide +kernel
theorem dT_findBySeed_14 : decode cT_findBySeed 14 = .ok (.aload_n 0, 1) := by decide +kernel
theorem dT_findBySeed_15 : decode cT_findBySeed 15 = .ok (.getfield 24, 3) := by decide +kernel
theorem dT_findBySeed_18 : decode cT_findBySeed 18 = .ok (.iload_n 3, 1) := by decide +kernel
theorem dT_findBySeed_19 : decode cT_findBySeed 19 = .ok (.aaload, 1) := by decide +kernel
theorem dT_findBySeed_20 : decode cT_findBySeed 20 = .ok (.iload_n 1, 1) := by decide +kernel
theorem dT_findBySeed_21 : decode cT_findBySeed 21 = .ok (.invokevirtual 195, 3) := by decide +kernel
theorem dT_findBySeed_24 : decode cT_findBySeed 24 = .ok (.ifCond .eq 6, 3) := by decide +kernel
theorem dT_findBySeed_27 : decode cT_findBySeed 27 = .ok (.iinc 2 1, 3) := by decide +kernel
theorem dT_findBySeed_30 : decode cT_findBySeed 30 = .ok (.iinc 3 1, 3) := by decide +kernel
theorem dT_findBySeed_33 : decode cT_findBySeed 33 = .ok (.goto (-29), 3) := by decide +kernel
theorem dT_findBySeed_36 : decode cT_findBySeed 36 = .ok (.iload_n 2, 1) := by decide +kernel
theorem dT_findBySeed_37 : decode cT_findBySeed 37 = .ok (.ifCond .ne 5, 3) := by decide +kernel
theorem dT_findBySeed_40 : decode cT_findBySeed 40 = .ok (.iconst (-1), 1) := by decide +kernel
theorem dT_findBySeed_41 : decode cT_findBySeed 41 = .ok (.ireturn, 1) := by decide +kernel
theorem dT_findBySeed_42 : decode cT_findBySeed 42 = .ok (.aload_n 0, 1) := by decide +kernel
theorem dT_findBySeed_43 : decode cT_findBySeed 43 = .ok (.ldc 199, 2) := by decide +kernel
theorem dT_findBySeed_45 : decode cT_findBySeed 45 = .ok (.aload_n 0, 1) := by decide +kernel
theorem dT_findBySeed_46 : decode cT_findBySeed 46 = .ok (.getfield 37, 3) := by decide +kernel
theorem dT_findBySeed_49 : decode cT_findBySeed 49 = .ok (.imul, 1) := by decide +kernel
theorem dT_findBySeed_50 : decode cT_findBySeed 50 = .ok (.sipush 12345, 3) := by decide +kernel
theorem dT_findBySeed_53 : decode cT_findBySeed 53 = .ok (.iadd, 1) := by decide +kernel
theorem dT_findBySeed_54 : decode cT_findBySeed 54 = .ok (.ldc 36, 2) := by decide +kernel
theorem dT_findBySeed_56 : decode cT_findBySeed 56 = .ok (.iand, 1) := by decide +kernel
theorem dT_findBySeed_57 : decode cT_findBySeed 57 = .ok (.putfield 37, 3) := by decide +kernel
theorem dT_findBySeed_60 : decode cT_findBySeed 60 = .ok (.aload_n 0, 1) := by decide +kernel
theorem dT_findBySeed_61 : decode cT_findBySeed 61 = .ok (.getfield 37, 3) := by decide +kernel
theorem dT_findBySeed_64 : decode cT_findBySeed 64 = .ok (.ldc 200, 2) := by decide +kernel
theorem dT_findBySeed_66 : decode cT_findBySeed 66 = .ok (.idiv, 1) := by decide +kernel
theorem dT_findBySeed_67 : decode cT_findBySeed 67 = .ok (.iload_n 2, 1) := by decide +kernel
theorem dT_findBySeed_68 : decode cT_findBySeed 68 = .ok (.irem, 1) := by decide +kernel
theorem dT_findBySeed_69 : decode cT_findBySeed 69 = .ok (.istore_n 3, 1) := by decide +kernel
theorem dT_findBySeed_70 : decode cT_findBySeed 70 = .ok (.iconst 0, 1) := by decide +kernel
theorem dT_findBySeed_71 : decode cT_findBySeed 71 = .ok (.istore 4, 2) := by decide +kernel
theorem dT_findBySeed_73 : decode cT_findBySeed 73 = .ok (.iload 4, 2) := by decide +kernel
theorem dT_findBySeed_75 : decode cT_findBySeed 75 = .ok (.aload_n 0, 1) := by decide +kernel
theorem dT_findBySeed_76 : decode cT_findBySeed 76 = .ok (.getfield 24, 3) := by decide +kernel
theorem dT_findBySeed_79 : decode cT_findBySeed 79 = .ok (.arraylength, 1) := by decide +kernel
theorem dT_findBySeed_80 : decode cT_findBySeed 80 = .ok (.if_icmp .ge 34, 3) := by decide +kernel
theorem dT_findBySeed_83 : decode cT_findBySeed 83 = .ok (.aload_n 0, 1) := by decide +kernel
theorem dT_findBySeed_84 : decode cT_findBySeed 84 = .ok (.aload_n 0, 1) := by decide +kernel
theorem dT_findBySeed_85 : decode cT_findBySeed 85 = .ok (.getfield 24, 3) := by decide +kernel
theorem dT_findBySeed_88 : decode cT_findBySeed 88 = .ok (.iload 4, 2) := by decide +kernel
theorem dT_findBySeed_90 : decode cT_findBySeed 90 = .ok (.aaload, 1) := by decide +kernel
theorem dT_findBySeed_91 : decode cT_findBySeed 91 = .ok (.iload_n 1, 1) := by decide +kernel
theorem dT_findBySeed_92 : decode cT_findBySeed 92 = .ok (.invokevirtual 195, 3) := by decide +kernel
theorem dT_findBySeed_95 : decode cT_findBySeed 95 = .ok (.ifCond .eq 13, 3) := by decide +kernel
theorem dT_findBySeed_98 : decode cT_findBySeed 98 = .ok (.iload_n 3, 1) := by decide +kernel
theorem dT_findBySeed_99 : decode cT_findBySeed 99 = .ok (.ifCond .ne 6, 3) := by decide +kernel
theorem dT_findBySeed_102 : decode cT_findBySeed 102 = .ok (.iload 4, 2) := by decide +kernel
theorem dT_findBySeed_104 : decode cT_findBySeed 104 = .ok (.ireturn, 1) := by decide +kernel
theorem dT_findBySeed_105 : decode cT_findBySeed 105 = .ok (.iinc 3 (-1), 3) := by decide +kernel
theorem dT_findBySeed_108 : decode cT_findBySeed 108 = .ok (.iinc 4 1, 3) := by decide +kernel
theorem dT_findBySeed_111 : decode cT_findBySeed 111 = .ok (.goto (-38), 3) := by decide +kernel
theorem dT_findBySeed_114 : decode cT_findBySeed 114 = .ok (.iconst (-1), 1) := by decide +kernel
theorem dT_findBySeed_115 : decode cT_findBySeed 115 = .ok (.ireturn, 1) := by decide +kernel
abbrev cT_entriesInAll : ByteArray := prog_1_method_33_code
def yT_entriesInAll : MethodName := ⟨"ThreadSlots", "entriesInAll", "()I"⟩
theorem dT_entriesInAll_0 : decode cT_entriesInAll 0 = .ok (.iconst 0, 1) := by decide +kernel
theorem dT_entriesInAll_1 : decode cT_entriesInAll 1 = .ok (.istore_n 1, 1) := by decide +kernel
theorem dT_entriesInAll_2 : decode cT_entriesInAll 2 = .ok (.iconst 0, 1) := by decide +kernel
theorem dT_entriesInAll_3 : decode cT_entriesInAll 3 = .ok (.istore_n 2, 1) := by decide +kernel
theorem dT_entriesInAll_4 : decode cT_entriesInAll 4 = .ok (.iload_n 2, 1) := by decide +kernel
theorem dT_entriesInAll_5 : decode cT_entriesInAll 5 = .ok (.aload_n 0, 1) := by decide +kernel
theorem dT_entriesInAll_6 : decode cT_entriesInAll 6 = .ok (.getfield 31, 3) := by decide +kernel
theorem dT_entriesInAll_9 : decode cT_entriesInAll 9 = .ok (.arraylength, 1) := by decide +kernel
theorem dT_entriesInAll_10 : decode cT_entriesInAll 10 = .ok (.if_icmp .ge 21, 3) := by decide +kernel
theorem dT_entriesInAll_13 : decode cT_entriesInAll 13 = .ok (.iload_n 1, 1) := by decide +kernel
theorem dT_entriesInAll_14 : decode cT_entriesInAll 14 = .ok (.aload_n 0, 1) := by decide +kernel
theorem dT_entriesInAll_15 : decode cT_entriesInAll 15 = .ok (.getfield 31, 3) := by decide +kernel
theorem dT_entriesInAll_18 : decode cT_entriesInAll 18 = .ok (.iload_n 2, 1) := by decide +kernel
theorem dT_entriesInAll_19 : decode cT_entriesInAll 19 = .ok (.aaload, 1) := by decide +kernel
theorem dT_entriesInAll_20 : decode cT_entriesInAll 20 = .ok (.getfield 91, 3) := by decide +kernel
theorem dT_entriesInAll_23 : decode cT_entriesInAll 23 = .ok (.iadd, 1) := by decide +kernel
theorem dT_entriesInAll_24 : decode cT_entriesInAll 24 = .ok (.istore_n 1, 1) := by decide +kernel
theorem dT_entriesInAll_25 : decode cT_entriesInAll 25 = .ok (.iinc 2 1, 3) := by decide +kernel
theorem dT_entriesInAll_28 : decode cT_entriesInAll 28 = .ok (.goto (-24), 3) := by decide +kernel
theorem dT_entriesInAll_31 : decode cT_entriesInAll 31 = .ok (.iload_n 1, 1) := by decide +kernel
theorem dT_entriesInAll_32 : decode cT_entriesInAll 32 = .ok (.ireturn, 1) := by decide +kernel
abbrev cT_strandOf : ByteArray := prog_1_method_34_code
def yT_strandOf : MethodName := ⟨"ThreadSlots", "strandOf", "(I)LThreadSlots$Strand;"⟩
theorem dT_strandOf_0 : decode cT_strandOf 0 = .ok (.iload_n 1, 1) := by decide +kernel
theorem dT_strandOf_1 : decode cT_strandOf 1 = .ok (.aload_n 0, 1) := by decide +kernel
theorem dT_strandOf_2 : decode cT_strandOf 2 = .ok (.getfield 24, 3) := by decide +kernel
theorem dT_strandOf_5 : decode cT_strandOf 5 = .ok (.arraylength, 1) := by decide +kernel
theorem dT_strandOf_6 : decode cT_strandOf 6 = .ok (.invokestatic 79, 3) := by decide +kernel
theorem dT_strandOf_9 : decode cT_strandOf 9 = .ok (.aload_n 0, 1) := by decide +kernel
theorem dT_strandOf_10 : decode cT_strandOf 10 = .ok (.getfield 24, 3) := by decide +kernel
theorem dT_strandOf_13 : decode cT_strandOf 13 = .ok (.iload_n 1, 1) := by decide +kernel
theorem dT_strandOf_14 : decode cT_strandOf 14 = .ok (.aaload, 1) := by decide +kernel
theorem dT_strandOf_15 : decode cT_strandOf 15 = .ok (.areturn, 1) := by decide +kernel
abbrev cT_lineOf : ByteArray := prog_1_method_35_code
def yT_lineOf : MethodName := ⟨"ThreadSlots", "lineOf", "(I)LThreadSlots$Line;"⟩
theorem dT_lineOf_0 : decode cT_lineOf 0 = .ok (.iload_n 1, 1) := by decide +kernel
theorem dT_lineOf_1 : decode cT_lineOf 1 = .ok (.aload_n 0, 1) := by decide +kernel
theorem dT_lineOf_2 : decode cT_lineOf 2 = .ok (.getfield 31, 3) := by decide +kernel
theorem dT_lineOf_5 : decode cT_lineOf 5 = .ok (.arraylength, 1) := by decide +kernel
theorem dT_lineOf_6 : decode cT_lineOf 6 = .ok (.invokestatic 79, 3) := by decide +kernel
theorem dT_lineOf_9 : decode cT_lineOf 9 = .ok (.aload_n 0, 1) := by decide +kernel
theorem dT_lineOf_10 : decode cT_lineOf 10 = .ok (.getfield 31, 3) := by decide +kernel
theorem dT_lineOf_13 : decode cT_lineOf 13 = .ok (.iload_n 1, 1) := by decide +kernel
theorem dT_lineOf_14 : decode cT_lineOf 14 = .ok (.aaload, 1) := by decide +kernel
theorem dT_lineOf_15 : decode cT_lineOf 15 = .ok (.areturn, 1) := by decide +kernel
abbrev cT_checkIndex : ByteArray := prog_1_method_36_code
def yT_checkIndex : MethodName := ⟨"ThreadSlots", "checkIndex", "(II)V"⟩
theorem dT_checkIndex_0 : decode cT_checkIndex 0 = .ok (.iload_n 0, 1) := by decide +kernel
theorem dT_checkIndex_1 : decode cT_checkIndex 1 = .ok (.ifCond .lt 8, 3) := by decide +kernel
theorem dT_checkIndex_4 : decode cT_checkIndex 4 = .ok (.iload_n 0, 1) := by decide +kernel
theorem dT_checkIndex_5 : decode cT_checkIndex 5 = .ok (.iload_n 1, 1) := by decide +kernel
theorem dT_checkIndex_6 : decode cT_checkIndex 6 = .ok (.if_icmp .lt 13, 3) := by decide +kernel
theorem dT_checkIndex_9 : decode cT_checkIndex 9 = .ok (.new 132, 3) := by decide +kernel
theorem dT_checkIndex_12 : decode cT_checkIndex 12 = .ok (.dup, 1) := by decide +kernel
theorem dT_checkIndex_13 : decode cT_checkIndex 13 = .ok (.ldc 201, 2) := by decide +kernel
theorem dT_checkIndex_15 : decode cT_checkIndex 15 = .ok (.invokespecial 136, 3) := by decide +kernel
theorem dT_checkIndex_18 : decode cT_checkIndex 18 = .ok (.athrow, 1) := by decide +kernel
theorem dT_checkIndex_19 : decode cT_checkIndex 19 = .ok (.return_, 1) := by decide +kernel
abbrev cT_checkArgument : ByteArray := prog_1_method_37_code
def yT_checkArgument : MethodName := ⟨"ThreadSlots", "checkArgument", "(III)V"⟩
theorem dT_checkArgument_0 : decode cT_checkArgument 0 = .ok (.iload_n 0, 1) := by decide +kernel
theorem dT_checkArgument_1 : decode cT_checkArgument 1 = .ok (.iload_n 1, 1) := by decide +kernel
theorem dT_checkArgument_2 : decode cT_checkArgument 2 = .ok (.if_icmp .lt 8, 3) := by decide +kernel
theorem dT_checkArgument_5 : decode cT_checkArgument 5 = .ok (.iload_n 0, 1) := by decide +kernel
theorem dT_checkArgument_6 : decode cT_checkArgument 6 = .ok (.iload_n 2, 1) := by decide +kernel
theorem dT_checkArgument_7 : decode cT_checkArgument 7 = .ok (.if_icmp .le 13, 3) := by decide +kernel
theorem dT_checkArgument_10 : decode cT_checkArgument 10 = .ok (.new 203, 3) := by decide +kernel
theorem dT_checkArgument_13 : decode cT_checkArgument 13 = .ok (.dup, 1) := by decide +kernel
theorem dT_checkArgument_14 : decode cT_checkArgument 14 = .ok (.ldc 205, 2) := by decide +kernel
theorem dT_checkArgument_16 : decode cT_checkArgument 16 = .ok (.invokespecial 207, 3) := by decide +kernel
theorem dT_checkArgument_19 : decode cT_checkArgument 19 = .ok (.athrow, 1) := by decide +kernel
theorem dT_checkArgument_20 : decode cT_checkArgument 20 = .ok (.return_, 1) := by decide +kernel
abbrev cT_greatestDivisor : ByteArray := prog_1_method_38_code
def yT_greatestDivisor : MethodName := ⟨"ThreadSlots", "greatestDivisor", "(II)I"⟩
theorem dT_greatestDivisor_0 : decode cT_greatestDivisor 0 = .ok (.iload_n 0, 1) := by decide +kernel
theorem dT_greatestDivisor_1 : decode cT_greatestDivisor 1 = .ok (.istore_n 2, 1) := by decide +kernel
theorem dT_greatestDivisor_2 : decode cT_greatestDivisor 2 = .ok (.iload_n 1, 1) := by decide +kernel
theorem dT_greatestDivisor_3 : decode cT_greatestDivisor 3 = .ok (.istore_n 3, 1) := by decide +kernel
theorem dT_greatestDivisor_4 : decode cT_greatestDivisor 4 = .ok (.iconst 0, 1) := by decide +kernel
theorem dT_greatestDivisor_5 : decode cT_greatestDivisor 5 = .ok (.istore 4, 2) := by decide +kernel
theorem dT_greatestDivisor_7 : decode cT_greatestDivisor 7 = .ok (.iload 4, 2) := by decide +kernel
theorem dT_greatestDivisor_9 : decode cT_greatestDivisor 9 = .ok (.bipush 64, 2) := by decide +kernel
theorem dT_greatestDivisor_11 : decode cT_greatestDivisor 11 = .ok (.if_icmp .ge 23, 3) := by decide +kernel
theorem dT_greatestDivisor_14 : decode cT_greatestDivisor 14 = .ok (.iload_n 3, 1) := by decide +kernel
theorem dT_greatestDivisor_15 : decode cT_greatestDivisor 15 = .ok (.ifCond .eq 19, 3) := by decide +kernel
theorem dT_greatestDivisor_18 : decode cT_greatestDivisor 18 = .ok (.iload_n 2, 1) := by decide +kernel
theorem dT_greatestDivisor_19 : decode cT_greatestDivisor 19 = .ok (.iload_n 3, 1) := by decide +kernel
theorem dT_greatestDivisor_20 : decode cT_greatestDivisor 20 = .ok (.irem, 1) := by decide +kernel
theorem dT_greatestDivisor_21 : decode cT_greatestDivisor 21 = .ok (.istore 5, 2) := by decide +kernel
theorem dT_greatestDivisor_23 : decode cT_greatestDivisor 23 = .ok (.iload_n 3, 1) := by decide +kernel
theorem dT_greatestDivisor_24 : decode cT_greatestDivisor 24 = .ok (.istore_n 2, 1) := by decide +kernel
theorem dT_greatestDivisor_25 : decode cT_greatestDivisor 25 = .ok (.iload 5, 2) := by decide +kernel
theorem dT_greatestDivisor_27 : decode cT_greatestDivisor 27 = .ok (.istore_n 3, 1) := by decide +kernel
theorem dT_greatestDivisor_28 : decode cT_greatestDivisor 28 = .ok (.iinc 4 1, 3) := by decide +kernel
theorem dT_greatestDivisor_31 : decode cT_greatestDivisor 31 = .ok (.goto (-24), 3) := by decide +kernel
theorem dT_greatestDivisor_34 : decode cT_greatestDivisor 34 = .ok (.iload_n 2, 1) := by decide +kernel
theorem dT_greatestDivisor_35 : decode cT_greatestDivisor 35 = .ok (.ireturn, 1) := by decide +kernel
abbrev cJ_floorMod : ByteArray := prog_10_method_50_code
def yJ_floorMod : MethodName := ⟨"java/lang/Math", "floorMod", "(II)I"⟩
theorem dJ_floorMod_0 : decode cJ_floorMod 0 = .ok (.iload_n 0, 1) := by decide +kernel
theorem dJ_floorMod_1 : decode cJ_floorMod 1 = .ok (.iload_n 1, 1) := by decide +kernel
theorem dJ_floorMod_2 : decode cJ_floorMod 2 = .ok (.irem, 1) := by decide +kernel
theorem dJ_floorMod_3 : decode cJ_floorMod 3 = .ok (.istore_n 2, 1) := by decide +kernel
theorem dJ_floorMod_4 : decode cJ_floorMod 4 = .ok (.iload_n 0, 1) := by decide +kernel
theorem dJ_floorMod_5 : decode cJ_floorMod 5 = .ok (.iload_n 1, 1) := by decide +kernel
theorem dJ_floorMod_6 : decode cJ_floorMod 6 = .ok (.ixor, 1) := by decide +kernel
theorem dJ_floorMod_7 : decode cJ_floorMod 7 = .ok (.ifCond .ge 11, 3) := by decide +kernel
theorem dJ_floorMod_10 : decode cJ_floorMod 10 = .ok (.iload_n 2, 1) := by decide +kernel
theorem dJ_floorMod_11 : decode cJ_floorMod 11 = .ok (.ifCond .eq 7, 3) := by decide +kernel
theorem dJ_floorMod_14 : decode cJ_floorMod 14 = .ok (.iload_n 2, 1) := by decide +kernel
theorem dJ_floorMod_15 : decode cJ_floorMod 15 = .ok (.iload_n 1, 1) := by decide +kernel
theorem dJ_floorMod_16 : decode cJ_floorMod 16 = .ok (.iadd, 1) := by decide +kernel
theorem dJ_floorMod_17 : decode cJ_floorMod 17 = .ok (.ireturn, 1) := by decide +kernel
theorem dJ_floorMod_18 : decode cJ_floorMod 18 = .ok (.iload_n 2, 1) := by decide +kernel
theorem dJ_floorMod_19 : decode cJ_floorMod 19 = .ok (.ireturn, 1) := by decide +kernel
end
section
def RT : String := "ThreadSlots"
def FT : u_T := fun k => match k with
  | 0 => ("ThreadSlots", "strands", "[LThreadSlots$Strand;", true)
  | 1 => ("ThreadSlots", "lines", "[LThreadSlots$Line;", true)
  | 2 => ("ThreadSlots", "ruleNow", "I", false)
  | 3 => ("ThreadSlots", "boundNow", "I", false)
  | 4 => ("ThreadSlots", "costNow", "I", false)
  | 5 => ("ThreadSlots", "x", "I", false)
  | 6 => ("ThreadSlots", "lastGone", "I", false)
  | 7 => ("ThreadSlots", "changingTo", "I", false)
  | 8 => ("ThreadSlots", "changeCyclesLeft", "I", false)
  | 9 => ("ThreadSlots", "cycles", "I", false)
  | 10 => ("ThreadSlots", "goneCycles", "I", false)
  | 11 => ("ThreadSlots", "idleCycles", "I", false)
  | _ => ("ThreadSlots", "busyCycles", "I", false)
def tT : Nat → FieldType := fun k => match k with
  | 0 => .array (.object "ThreadSlots$Strand")
  | 1 => .array (.object "ThreadSlots$Line")
  | 2 => .int
  | 3 => .int
  | 4 => .int
  | 5 => .int
  | 6 => .int
  | 7 => .int
  | 8 => .int
  | 9 => .int
  | 10 => .int
  | 11 => .int
  | _ => .int
theorem nT : ∀ a, a < 13 → ∀ b, b < 13 → a ≠ b → (FT a).2.1 ≠ (FT b).2.1 := by decide +kernel
theorem tT_ok : ∀ k, k < 13 → parseFieldDescriptor (FT k).2.2.1 = some (tT k) := by decide +kernel
def RS : String := "ThreadSlots$Strand"
def FS : u_T := fun k => match k with
  | 0 => ("ThreadSlots$Strand", "bank", "[I", true)
  | 1 => ("ThreadSlots$Strand", "isReady", "Z", false)
  | 2 => ("ThreadSlots$Strand", "rankNow", "I", false)
  | 3 => ("ThreadSlots$Strand", "sleepsUntil", "I", false)
  | 4 => ("ThreadSlots$Strand", "misses", "I", false)
  | 5 => ("ThreadSlots$Strand", "waiting", "I", false)
  | 6 => ("ThreadSlots$Strand", "longestWaiting", "I", false)
  | 7 => ("ThreadSlots$Strand", "goneCycles", "I", false)
  | 8 => ("ThreadSlots$Strand", "changesBegun", "I", false)
  | _ => ("ThreadSlots$Strand", "canGo", "Z", false)
def tS : Nat → FieldType := fun k => match k with
  | 0 => .array .int
  | 1 => .boolean
  | 2 => .int
  | 3 => .int
  | 4 => .int
  | 5 => .int
  | 6 => .int
  | 7 => .int
  | 8 => .int
  | _ => .boolean
theorem nS : ∀ a, a < 10 → ∀ b, b < 10 → a ≠ b → (FS a).2.1 ≠ (FS b).2.1 := by decide +kernel
theorem tS_ok : ∀ k, k < 10 → parseFieldDescriptor (FS k).2.2.1 = some (tS k) := by decide +kernel
def RL_ : String := "ThreadSlots$Line"
def FL_ : u_T := fun k => match k with
  | 0 => ("ThreadSlots$Line", "owners", "[I", true)
  | 1 => ("ThreadSlots$Line", "numbers", "[I", true)
  | 2 => ("ThreadSlots$Line", "parts", "[I", true)
  | _ => ("ThreadSlots$Line", "size", "I", false)
def tL : Nat → FieldType := fun k => match k with
  | 0 => .array .int
  | 1 => .array .int
  | 2 => .array .int
  | _ => .int
theorem nL_ : ∀ a, a < 4 → ∀ b, b < 4 → a ≠ b → (FL_ a).2.1 ≠ (FL_ b).2.1 := by decide +kernel
theorem tL_ok : ∀ k, k < 4 → parseFieldDescriptor (FL_ k).2.2.1 = some (tL k) := by decide +kernel
def RM : String := "ThreadSlotsModel"
def FM : u_T := fun k => match k with
  | 0 => ("ThreadSlotsModel", "thrown", "I", false)
  | 1 => ("ThreadSlotsModel", "threads", "I", true)
  | 2 => ("ThreadSlotsModel", "x", "I", false)
  | 3 => ("ThreadSlotsModel", "kind", "I", false)
  | 4 => ("ThreadSlotsModel", "most", "I", false)
  | 5 => ("ThreadSlotsModel", "price", "I", false)
  | 6 => ("ThreadSlotsModel", "cycle", "I", false)
  | 7 => ("ThreadSlotsModel", "gone", "I", false)
  | 8 => ("ThreadSlotsModel", "idle", "I", false)
  | 9 => ("ThreadSlotsModel", "busy", "I", false)
  | 10 => ("ThreadSlotsModel", "last", "I", false)
  | 11 => ("ThreadSlotsModel", "target", "I", false)
  | 12 => ("ThreadSlotsModel", "left", "I", false)
  | 13 => ("ThreadSlotsModel", "on", "[Z", true)
  | 14 => ("ThreadSlotsModel", "ranks", "[I", true)
  | 15 => ("ThreadSlotsModel", "until", "[I", true)
  | 16 => ("ThreadSlotsModel", "misses", "[I", true)
  | 17 => ("ThreadSlotsModel", "waiting", "[I", true)
  | 18 => ("ThreadSlotsModel", "longest", "[I", true)
  | 19 => ("ThreadSlotsModel", "went", "[I", true)
  | 20 => ("ThreadSlotsModel", "changes", "[I", true)
  | 21 => ("ThreadSlotsModel", "registers", "[I", true)
  | 22 => ("ThreadSlotsModel", "size", "[I", true)
  | 23 => ("ThreadSlotsModel", "owner", "[I", true)
  | 24 => ("ThreadSlotsModel", "number", "[I", true)
  | _ => ("ThreadSlotsModel", "parts", "[I", true)
def tM : Nat → FieldType := fun k => match k with
  | 0 => .int
  | 1 => .int
  | 2 => .int
  | 3 => .int
  | 4 => .int
  | 5 => .int
  | 6 => .int
  | 7 => .int
  | 8 => .int
  | 9 => .int
  | 10 => .int
  | 11 => .int
  | 12 => .int
  | 13 => .array .boolean
  | 14 => .array .int
  | 15 => .array .int
  | 16 => .array .int
  | 17 => .array .int
  | 18 => .array .int
  | 19 => .array .int
  | 20 => .array .int
  | 21 => .array .int
  | 22 => .array .int
  | 23 => .array .int
  | 24 => .array .int
  | _ => .array .int
theorem nM : ∀ a, a < 26 → ∀ b, b < 26 → a ≠ b → (FM a).2.1 ≠ (FM b).2.1 := by decide +kernel
theorem tM_ok : ∀ k, k < 26 → parseFieldDescriptor (FM k).2.2.1 = some (tM k) := by decide +kernel
abbrev vwCl : List vw_C := [(RT, FT, 13), (RS, FS, 10), (RL_, FL_, 4), (RM, FM, 26)]
abbrev kT : Nat := 0
abbrev kS : Nat := 1
abbrev kL : Nat := 2
abbrev kM : Nat := 3
abbrev Ad : Type := Nat → Nat → Nat
abbrev Ct : Type := Nat → ClassId
def tyl (ct : Ct) : List (ClassId × FieldType) := [(ct 0, .int), (ct 1, .object "ThreadSlots$Strand"), (ct 2, .object "ThreadSlots$Line"), (ct 3, .long), (ct 4, .boolean)]
def strs : List (String × Nat × String) := [("ThreadSlots", 205, "a number out of its range"), ("ThreadSlots", 201, "no such thread, queue, entry, register or what"), ("ThreadSlots", 102, "no such entry"), ("ThreadSlots", 134, "no such what")]
def exn : List String := ["java/lang/RuntimeException", "java/lang/Exception"]
end
section
/-! The class's state as one function of three numbers; what each method does to it, in the order of its bytecode. -/
abbrev St : Type := Nat → Nat → Nat → Int32
def su (σ : St) (a b c : Nat) (v : Int32) : St := fun x y z => if x = a ∧ y = b ∧ z = c then v else σ x y z
theorem su_eq (σ : St) (a b c : Nat) (v : Int32) : su σ a b c v a b c = v := if_pos ⟨rfl, rfl, rfl⟩
theorem su_ne {σ : St} {a b c x y z : Nat} {v : Int32} (h : ¬ (x = a ∧ y = b ∧ z = c)) : su σ a b c v x y z = σ x y z := if_neg h
theorem su_n1 {σ : St} {a b c x y z : Nat} {v : Int32} (h : x ≠ a) : su σ a b c v x y z = σ x y z := if_neg (fun q => h q.1)
theorem su_n2 {σ : St} {a b c x y z : Nat} {v : Int32} (h : y ≠ b) : su σ a b c v x y z = σ x y z := if_neg (fun q => h q.2.1)
theorem su_n3 {σ : St} {a b c x y z : Nat} {v : Int32} (h : z ≠ c) : su σ a b c v x y z = σ x y z := if_neg (fun q => h q.2.2)
theorem su_r {σ : St} {a b c x y : Nat} {v : Int32} (h : x ≠ a) : su σ a b c v x y = σ x y := funext fun _ => su_n1 h
-- σ 0 0 k: 0 rule, 1 bound, 2 cost, 3 x, 4 lastGone, 5 changingTo, 6 changeCyclesLeft, 7 cycles, 8 gone, 9 idle, 10 busy
-- σ 1 t f: 0 isReady, 1 rank, 2 sleepsUntil, 3 misses, 4 waiting, 5 longest, 6 gone, 7 changesBegun, 8 canGo
-- σ 2 t k bank; σ 3 q 0 size; σ 4 q k owners; σ 5 q k numbers; σ 6 q t parts
def tf_see1 (σ : St) (t : Nat) : St :=
  if σ 0 0 7 < σ 1 t 2 then
    (if σ 1 t 0 = 0 then su σ 1 t 8 0 else if σ 1 t 2 = 0 then su σ 1 t 8 1 else su σ 1 t 8 0)
  else
    (if su σ 1 t 2 0 1 t 0 = 0 then su (su σ 1 t 2 0) 1 t 8 0 else if su σ 1 t 2 0 1 t 2 = 0 then su (su σ 1 t 2 0) 1 t 8 1 else su (su σ 1 t 2 0) 1 t 8 0)
def tf_see : Nat → Nat → St → St
  | 0, _, σ => σ
  | n + 1, t, σ => tf_see n (t + 1) (tf_see1 σ t)
def tf_over (σ : St) : Nat → Nat → Int32 → Int32 → Int32
  | 0, _, best, _ => best
  | n + 1, t, best, most => if σ 1 t 8 = 0 then tf_over σ n (t + 1) best most else if σ 1 t 4 ≤ most then tf_over σ n (t + 1) best most else tf_over σ n (t + 1) (nI t) (σ 1 t 4)
def tf_overdue (N : Nat) (σ : St) : Int32 := if σ 0 0 1 = 0 then -1 else tf_over σ N 0 (-1) (σ 0 0 1 - 1)
def tf_top (σ : St) : Nat → Nat → Int32 → Int32
  | 0, _, top => top
  | n + 1, t, top => if σ 1 t 8 = 0 then tf_top σ n (t + 1) top else if σ 1 t 1 ≤ top then tf_top σ n (t + 1) top else tf_top σ n (t + 1) (σ 1 t 1)
def tf_cand (σ : St) (t : Nat) (top : Int32) : Int32 := if σ 1 t 8 = 0 then 0 else if σ 1 t 1 = top then 1 else 0
def tf_next (σ : St) (top : Int32) : Nat → Nat → Int32 → Int32
  | 0, _, low => low
  | n + 1, t, low => if tf_cand σ t top = 0 then tf_next σ top n (t + 1) low else if nI t ≤ σ 0 0 4 then (if low = -1 then tf_next σ top n (t + 1) (nI t) else tf_next σ top n (t + 1) low) else nI t
def tf_has (σ : St) (t : Nat) : Int32 := if σ 0 0 0 = 1 then σ 1 t 6 else σ 1 t 3
def tf_few (σ : St) (top : Int32) : Nat → Nat → Int32 → Int32 → Int32
  | 0, _, best, _ => best
  | n + 1, t, best, few => if tf_cand σ t top = 0 then tf_few σ top n (t + 1) best few else if best = -1 then tf_few σ top n (t + 1) (nI t) (tf_has σ t) else if few ≤ tf_has σ t then tf_few σ top n (t + 1) best few else tf_few σ top n (t + 1) (nI t) (tf_has σ t)
def tf_cnt (σ : St) (top : Int32) : Nat → Nat → Int32 → Int32
  | 0, _, k => k
  | n + 1, t, k => if tf_cand σ t top = 0 then tf_cnt σ top n (t + 1) k else tf_cnt σ top n (t + 1) (k + 1)
def tf_pick (σ : St) (top : Int32) : Nat → Nat → Int32 → Int32
  | 0, _, _ => -1
  | n + 1, t, k => if tf_cand σ t top = 0 then tf_pick σ top n (t + 1) k else if k = 0 then nI t else tf_pick σ top n (t + 1) (k + (-1))
def tf_x (σ : St) : Int32 := (1103515245 * σ 0 0 3 + 12345) &&& 2147483647
def tf_seedA (N : Nat) (top : Int32) (σ : St) : Int32 :=
  if tf_cnt σ top N 0 0 = 0 then -1 else tf_pick (su σ 0 0 3 (tf_x σ)) top N 0 (tf_x σ / 65536 - tf_x σ / 65536 / tf_cnt σ top N 0 0 * tf_cnt σ top N 0 0)
def tf_seedS (N : Nat) (top : Int32) (σ : St) : St := if tf_cnt σ top N 0 0 = 0 then σ else su σ 0 0 3 (tf_x σ)
def tf_chA (N : Nat) (σ : St) : Int32 :=
  if tf_overdue N σ = -1 then (if tf_top σ N 0 (-1) = -1 then -1 else if σ 0 0 0 = 1 ∨ σ 0 0 0 = 2 then tf_few σ (tf_top σ N 0 (-1)) N 0 (-1) 0 else if σ 0 0 0 = 3 then tf_seedA N (tf_top σ N 0 (-1)) σ else tf_next σ (tf_top σ N 0 (-1)) N 0 (-1))
  else tf_overdue N σ
def tf_chS (N : Nat) (σ : St) : St :=
  if tf_overdue N σ = -1 then (if tf_top σ N 0 (-1) = -1 then σ else if σ 0 0 0 = 1 ∨ σ 0 0 0 = 2 then σ else if σ 0 0 0 = 3 then tf_seedS N (tf_top σ N 0 (-1)) σ else σ) else σ
def tf_begin (σ : St) (t : Nat) : St :=
  su (su (su (su σ 0 0 5 (nI t)) 0 0 6 (σ 0 0 2 - 1)) 1 t 7 (σ 1 t 7 + 1)) 0 0 10 (σ 0 0 10 + 1)
def tf_tailA (N : Nat) (σ : St) : Int32 :=
  if tf_chA N σ = -1 then -1 else if tf_chA N σ = tf_chS N σ 0 0 4 then tf_chA N σ else if tf_chS N σ 0 0 4 = -1 then tf_chA N σ else if tf_chS N σ 0 0 2 = 0 then tf_chA N σ else -1
def tf_tailS (N : Nat) (σ : St) : St :=
  if tf_chA N σ = -1 then su (tf_chS N σ) 0 0 9 (tf_chS N σ 0 0 9 + 1) else if tf_chA N σ = tf_chS N σ 0 0 4 then tf_chS N σ else if tf_chS N σ 0 0 4 = -1 then tf_chS N σ else if tf_chS N σ 0 0 2 = 0 then tf_chS N σ else tf_begin (tf_chS N σ) (tf_chA N σ).toNatClampNeg
def tf_goA (N : Nat) (σ : St) : Int32 :=
  if σ 0 0 6 ≤ 0 then (if σ 0 0 5 = -1 then tf_tailA N σ else if σ 1 (σ 0 0 5).toNatClampNeg 8 = 0 then tf_tailA N σ else σ 0 0 5) else -1
def tf_goS (N : Nat) (σ : St) : St :=
  if σ 0 0 6 ≤ 0 then (if σ 0 0 5 = -1 then tf_tailS N σ else if σ 1 (σ 0 0 5).toNatClampNeg 8 = 0 then tf_tailS N σ else σ) else su (su σ 0 0 6 (σ 0 0 6 - 1)) 0 0 10 (su σ 0 0 6 (σ 0 0 6 - 1) 0 0 10 + 1)
def tf_wt1 (g : Int32) (σ : St) (t : Nat) : St :=
  if σ 1 t 8 = 0 then σ else if nI t = g then σ else
    su (su σ 1 t 4 (σ 1 t 4 + 1)) 1 t 5 (if su σ 1 t 4 (σ 1 t 4 + 1) 1 t 5 < su σ 1 t 4 (σ 1 t 4 + 1) 1 t 4 then su σ 1 t 4 (σ 1 t 4 + 1) 1 t 4 else su σ 1 t 4 (σ 1 t 4 + 1) 1 t 5)
def tf_wt (g : Int32) : Nat → Nat → St → St
  | 0, _, σ => σ
  | n + 1, t, σ => tf_wt g n (t + 1) (tf_wt1 g σ t)
def tf_let (σ : St) (t : Nat) : St :=
  su (su (su (su (su σ 1 t 4 0) 1 t 6 (su σ 1 t 4 0 1 t 6 + 1)) 0 0 8 (σ 0 0 8 + 1)) 0 0 4 (nI t)) 0 0 5 (-1)
def tf_p1 (N : Nat) (σ : St) : St := tf_see N 0 (su σ 0 0 7 (σ 0 0 7 + 1))
def tf_plA (N : Nat) (σ : St) : Int32 := tf_goA N (tf_p1 N σ)
def tf_plS (N : Nat) (σ : St) : St :=
  if tf_plA N σ = -1 then tf_wt (tf_plA N σ) N 0 (tf_goS N (tf_p1 N σ)) else tf_let (tf_wt (tf_plA N σ) N 0 (tf_goS N (tf_p1 N σ))) (tf_plA N σ).toNatClampNeg
def tf_rn (N : Nat) : Nat → St → Int32 → Int32 × St
  | 0, σ, g => (g, σ)
  | n + 1, σ, g => if tf_plA N σ = -1 then tf_rn N n (tf_plS N σ) g else tf_rn N n (tf_plS N σ) (g + 1)
def tf_sum (σ : St) : Nat → Nat → Int32 → Int32
  | 0, _, a => a
  | n + 1, q, a => tf_sum σ n (q + 1) (a + σ 3 q 0)
def tf_ent (σ : St) (q : Nat) (th : Int32) : Nat → Nat → Int32 → Int32
  | 0, _, h => h
  | n + 1, k, h => if σ 4 q k = th then tf_ent σ q th n (k + 1) (h + 1) else tf_ent σ q th n (k + 1) h
def tf_fst (σ : St) (q : Nat) (th : Int32) : Nat → Nat → Int32
  | 0, _ => -1
  | n + 1, k => if th = -1 then nI k else if σ 4 q k = th then nI k else tf_fst σ q th n (k + 1)
def tf_app (σ : St) (q n : Nat) (th v : Int32) : St := su (su (su σ 4 q n th) 5 q n v) 3 q 0 (nI (n + 1))
def tf_cl (q : Nat) : Nat → Nat → St → St
  | 0, _, σ => σ
  | n + 1, k, σ => tf_cl q n (k + 1) (su (su σ 4 q k (σ 4 q (k + 1))) 5 q k (su σ 4 q k (σ 4 q (k + 1)) 5 q (k + 1)))
def tf_gcd : Nat → Int32 → Int32 → Int32
  | 0, a, _ => a
  | n + 1, a, b => if b = 0 then a else tf_gcd n b (a - a / b * b)
def tf_putA (σ : St) (q t K : Nat) : Int32 := if σ 6 q t ≤ tf_ent σ q (nI t) K 0 0 then -1 else if σ 3 q 0 < 32 then tf_ent σ q (nI t) K 0 0 + 1 else -1
def tf_putS (σ : St) (q t K : Nat) (v : Int32) : St := if σ 6 q t ≤ tf_ent σ q (nI t) K 0 0 then σ else if σ 3 q 0 < 32 then tf_app σ q K (nI t) v else σ
def tf_core (σ : St) : Nat := if σ 0 0 4 = -1 then 0 else (σ 0 0 4).toNatClampNeg
def tf_col : Nat → Nat
  | 0 => 4
  | 1 => 5
  | 2 => 6
  | 3 => 3
  | 4 => 2
  | _ => 7
def tf_shA (σ : St) (t : Nat) (x : Int32) : Int32 := if tf_gcd 64 (σ 1 t 6) (σ 0 0 8) = 0 then (if x = 0 then 0 else 1) else (if x = 0 then σ 1 t 6 / tf_gcd 64 (σ 1 t 6) (σ 0 0 8) else σ 0 0 8 / tf_gcd 64 (σ 1 t 6) (σ 0 0 8))
def tf_cntA (N : Nat) (σ : St) (x : Int32) : Int32 := if x = 0 then σ 0 0 7 else if x = 1 then σ 0 0 8 else if x = 2 then σ 0 0 9 else if x = 3 then σ 0 0 10 else if x = 4 then nI N else if x = 5 then σ 0 0 4 else if x = 6 then σ 0 0 5 else if x = 7 then tf_sum σ 8 0 0 else -1
end
section
/-! Worlds by segments; locals by places; a method's context; rows for the walks. -/
def sg : List (Nat × (Nat → Nat × va_E)) → va_W
  | [] => []
  | (n, f) :: r => (List.range n).map f ++ sg r
theorem sg_seg (n : Nat) (f f' : Nat → Nat × va_E) (i : Nat) (x : Nat × va_E) (hi : i < n) (h1 : f' i = x) (h2 : ∀ k, k < n → k ≠ i → f' k = f k) : ((List.range n).map f).set i x = (List.range n).map f' := by
  apply List.ext_getElem?
  intro k
  by_cases hk : k = i
  · subst hk
    rw [List.getElem?_set_self (by simpa using hi)]
    simp [hi, h1]
  · rw [List.getElem?_set_ne (Ne.symm hk)]
    by_cases hn : k < n
    · simp [hn, h2 k hn hk]
    · simp [hn]
theorem sg_at : ∀ (L : List (Nat × (Nat → Nat × va_E))) (j n : Nat) (f : Nat → Nat × va_E), L[j]? = some (n, f) → ∀ i, i < n → ∃ q0, (sg L)[q0]? = some (f i) ∧ ∀ (x : Nat × va_E) (f' : Nat → Nat × va_E), f' i = x → (∀ k, k < n → k ≠ i → f' k = f k) → (sg L).set q0 x = sg (L.set j (n, f')) := by
  intro L
  induction L with
  | nil => intro j n f h; simp at h
  | cons a r ih =>
    intro j n f h i hi
    obtain ⟨n0, f0⟩ := a
    cases j with
    | zero =>
      have h' : (n0, f0) = (n, f) := by simpa using h
      obtain ⟨rfl, rfl⟩ : n0 = n ∧ f0 = f := ⟨congrArg Prod.fst h', congrArg Prod.snd h'⟩
      refine ⟨i, ?_, fun x f' h1 h2 => ?_⟩
      · show ((List.range n0).map f0 ++ sg r)[i]? = _
        rw [List.getElem?_append_left (by simpa using hi)]
        simp [hi]
      · show ((List.range n0).map f0 ++ sg r).set i x = (List.range n0).map f' ++ sg r
        rw [List.set_append_left _ _ (by simpa using hi), sg_seg n0 f0 f' i x hi h1 h2]
    | succ j =>
      have h' : r[j]? = some (n, f) := by simpa using h
      obtain ⟨q0, h1, h2⟩ := ih j n f h' i hi
      refine ⟨n0 + q0, ?_, fun x f' h3 h4 => ?_⟩
      · show ((List.range n0).map f0 ++ sg r)[n0 + q0]? = _
        rw [List.getElem?_append_right (by simp)]
        simpa using h1
      · show ((List.range n0).map f0 ++ sg r).set (n0 + q0) x = (List.range n0).map f0 ++ sg (r.set j (n, f'))
        rw [List.set_append_right _ _ (by simp), ← h2 x f' h3 h4]
        simp
/-- the locals by their places -/
def lq (ls : Array Slot) (nL : Nat) (l : List (Option Value)) : Prop := ls.size = nL ∧ lv_wf ls ∧ ∀ (i : Nat) (v : Value), l[i]? = some (some v) → ls[i]? = some (.val v) ∧ v.category = 1
def lq_l (l : List (Option Value)) : List (Nat × Value) := (List.range l.length).filterMap (fun i => (l[i]?.join).map (fun v => (i, v)))
theorem lq_mem {l : List (Option Value)} {i : Nat} {v : Value} : (i, v) ∈ lq_l l ↔ l[i]? = some (some v) := by
  unfold lq_l
  rw [List.mem_filterMap]
  constructor
  · rintro ⟨j, -, h⟩
    cases hj : l[j]? with
    | none => simp [hj] at h
    | some o =>
      cases o with
      | none => simp [hj] at h
      | some w =>
        simp [hj] at h
        obtain ⟨rfl, rfl⟩ := h
        exact hj
  · intro h
    have hl := (List.getElem?_eq_some_iff.mp h).1
    exact ⟨i, List.mem_range.mpr hl, by simp [h]⟩
theorem lq.has {ls : Array Slot} {nL : Nat} {l : List (Option Value)} (h : lq ls nL l) : lv_has ls nL (lq_l l) := ⟨h.1, h.2.1, fun q hq => (h.2.2 q.1 q.2 (lq_mem.mp hq)).1⟩
theorem lq.at {ls : Array Slot} {nL : Nat} {l : List (Option Value)} (h : lq ls nL l) {i : Nat} {v : Value} (hi : l[i]? = some (some v)) : ls[i]? = some (.val v) := (h.2.2 i v hi).1
theorem lq.set {ls ls' : Array Slot} {nL : Nat} {l : List (Option Value)} {i : Nat} {v : Value} (h : lq ls nL l) (hv : v.category = 1) (h' : lv_has ls' nL ((i, v) :: (lq_l l).filter (fun q => !(q.1 == i) && !(q.1 + 1 == i && q.2.category == 2)))) : lq ls' nL (l.set i (some v)) := by
  refine ⟨h'.1, h'.2.1, fun j w hj => ?_⟩
  by_cases hij : i = j
  · subst hij
    rw [List.getElem?_set] at hj
    simp at hj
    obtain ⟨-, rfl⟩ := hj
    exact ⟨h'.2.2 (i, v) List.mem_cons_self, hv⟩
  · rw [List.getElem?_set_ne hij] at hj
    have hc := (h.2.2 j w hj).2
    refine ⟨h'.2.2 (j, w) (List.mem_cons_of_mem _ (List.mem_filter.mpr ⟨lq_mem.mpr hj, ?_⟩)), hc⟩
    have : ¬ j = i := fun q => hij q.symm
    simp [hc, this]
theorem lq.entry {vs : List Value} {n : Nat} (h : (lg_sl vs).length ≤ n) (hc : ∀ v ∈ vs, v.category = 1) : lq ((lg_sl vs ++ List.replicate (n - (lg_sl vs).length) Slot.unset).toArray) n (vs.map some ++ List.replicate (n - vs.length) none) := by
  have h0 := lv_entry vs h
  refine ⟨h0.1, h0.2.1, fun i v hi => ?_⟩
  have hlt : i < vs.length := by
    rcases Nat.lt_or_ge i vs.length with q | q
    · exact q
    · rw [List.getElem?_append_right (by simpa using q)] at hi
      simp [List.getElem?_replicate] at hi
  have hv : vs[i]? = some v := by
    rw [List.getElem?_append_left (by simpa using hlt)] at hi
    simpa using hi
  refine ⟨?_, hc v (List.mem_of_getElem? hv)⟩
  have key : ∀ (vs : List Value) (b i : Nat) (v : Value), (∀ v ∈ vs, v.category = 1) → vs[i]? = some v → (b + i, v) ∈ lv_args b vs := by
    intro vs
    induction vs with
    | nil => intro b i v _ h; simp at h
    | cons a r ih =>
      intro b i v hc h
      have ha : a.category = 1 := hc a List.mem_cons_self
      have hne : ¬ a.category = 2 := by omega
      show (b + i, v) ∈ (b, a) :: lv_args (if a.category = 2 then b + 2 else b + 1) r
      rw [if_neg hne]
      cases i with
      | zero =>
        have : a = v := by simpa using h
        subst this
        exact List.mem_cons_self
      | succ i =>
        have h2 := ih (b + 1) i v (fun w hw => hc w (List.mem_cons_of_mem _ hw)) (by simpa using h)
        refine List.mem_cons_of_mem _ ?_
        rw [show b + (i + 1) = b + 1 + i by omega]
        exact h2
  have := h0.2.2 (i, v) (by have := key vs 0 i v hc hv; rwa [Nat.zero_add] at this)
  exact this
section QRows
variable {p : Program} {l : Launch} {e : Env} {R : Room} {s : State} {m : MethodId} {args : Array Value} {below : List Frame} {meth : Method} {c : Code} {H : Heap} {locs : List Loc} {cells slots : Nat} {Q : State → Prop}
variable {cc : ByteArray} {pc : Nat} {ls : Array Slot} {rest : List Value} {nL : Nat} {lv : List (Option Value)}
theorem q_iload_n (hx : p.tables.exec = Jvm.exec) (hb : c.code = cc) (hl : lq ls nL lv) {k : Fin 4} {x : Int32} (hdg : decode cc pc = .ok (.iload_n k, 1)) (hv : lv[(k : Nat)]? = some (some (.int x))) (kk : W p l e R s m args below meth c H locs cells slots Q (F0 m (pc + 1) ls (.int x :: rest))) : W p l e R s m args below meth c H locs cells slots Q (F0 m pc ls rest) := lv_iload_n hx hb hdg rfl (hl.at hv) kk
theorem q_iload (hx : p.tables.exec = Jvm.exec) (hb : c.code = cc) (hl : lq ls nL lv) {k : Nat} {x : Int32} (hdg : decode cc pc = .ok (.iload k, 2)) (hv : lv[k]? = some (some (.int x))) (kk : W p l e R s m args below meth c H locs cells slots Q (F0 m (pc + 2) ls (.int x :: rest))) : W p l e R s m args below meth c H locs cells slots Q (F0 m pc ls rest) := lv_iload hx hb hdg (hl.at hv) kk
theorem q_aload_n (hx : p.tables.exec = Jvm.exec) (hb : c.code = cc) (hl : lq ls nL lv) {k : Fin 4} {x : Nat} (hdg : decode cc pc = .ok (.aload_n k, 1)) (hv : lv[(k : Nat)]? = some (some (.ref x))) (kk : W p l e R s m args below meth c H locs cells slots Q (F0 m (pc + 1) ls (.ref x :: rest))) : W p l e R s m args below meth c H locs cells slots Q (F0 m pc ls rest) := lv_aload_n hx hb hdg rfl (hl.at hv) kk
theorem q_aload (hx : p.tables.exec = Jvm.exec) (hb : c.code = cc) (hl : lq ls nL lv) {k : Nat} {x : Nat} (hdg : decode cc pc = .ok (.aload k, 2)) (hv : lv[k]? = some (some (.ref x))) (kk : W p l e R s m args below meth c H locs cells slots Q (F0 m (pc + 2) ls (.ref x :: rest))) : W p l e R s m args below meth c H locs cells slots Q (F0 m pc ls rest) := lv_aload hx hb hdg (hl.at hv) kk
theorem q_istore_n (hx : p.tables.exec = Jvm.exec) (hb : c.code = cc) (hl : lq ls nL lv) {k : Fin 4} {x : Int32} (hdg : decode cc pc = .ok (.istore_n k, 1)) (hn : (k : Nat) < nL) (kk : ∀ ls' : Array Slot, lq ls' nL (lv.set k (some (.int x))) → W p l e R s m args below meth c H locs cells slots Q (F0 m (pc + 1) ls' rest)) : W p l e R s m args below meth c H locs cells slots Q (F0 m pc ls (.int x :: rest)) := lv_istore_n hx hb hdg rfl hl.has hn rfl (fun ls' h' => kk ls' (hl.set rfl h'))
theorem q_istore (hx : p.tables.exec = Jvm.exec) (hb : c.code = cc) (hl : lq ls nL lv) {k : Nat} {x : Int32} (hdg : decode cc pc = .ok (.istore k, 2)) (hn : k < nL) (kk : ∀ ls' : Array Slot, lq ls' nL (lv.set k (some (.int x))) → W p l e R s m args below meth c H locs cells slots Q (F0 m (pc + 2) ls' rest)) : W p l e R s m args below meth c H locs cells slots Q (F0 m pc ls (.int x :: rest)) := lv_istore hx hb hdg hl.has hn rfl (fun ls' h' => kk ls' (hl.set rfl h'))
theorem q_astore_n (hx : p.tables.exec = Jvm.exec) (hb : c.code = cc) (hl : lq ls nL lv) {k : Fin 4} {x : Nat} (hdg : decode cc pc = .ok (.astore_n k, 1)) (hn : (k : Nat) < nL) (kk : ∀ ls' : Array Slot, lq ls' nL (lv.set k (some (.ref x))) → W p l e R s m args below meth c H locs cells slots Q (F0 m (pc + 1) ls' rest)) : W p l e R s m args below meth c H locs cells slots Q (F0 m pc ls (.ref x :: rest)) := lv_astore_n hx hb hdg rfl hl.has hn rfl (fun ls' h' => kk ls' (hl.set rfl h'))
theorem q_astore (hx : p.tables.exec = Jvm.exec) (hb : c.code = cc) (hl : lq ls nL lv) {k : Nat} {x : Nat} (hdg : decode cc pc = .ok (.astore k, 2)) (hn : k < nL) (kk : ∀ ls' : Array Slot, lq ls' nL (lv.set k (some (.ref x))) → W p l e R s m args below meth c H locs cells slots Q (F0 m (pc + 2) ls' rest)) : W p l e R s m args below meth c H locs cells slots Q (F0 m pc ls (.ref x :: rest)) := lv_astore hx hb hdg hl.has hn rfl (fun ls' h' => kk ls' (hl.set rfl h'))
theorem lq_place {ls : Array Slot} {nL : Nat} {l : List (Option Value)} {i : Nat} {v : Value} (hi : l[i]? = some (some v)) : ∃ k : Nat, (lq_l l)[k]? = some (i, v) := List.getElem?_of_mem (lq_mem.mpr hi)
/-- a count that goes up by one -/
theorem q_inc (hx : p.tables.exec = Jvm.exec) (hb : c.code = cc) (hl : lq ls nL lv) {i t : Nat} (hdg : decode cc pc = .ok (.iinc i 1, 3)) (hv : lv[i]? = some (some (.int (nI t)))) (hn : i < nL) (kk : ∀ ls' : Array Slot, lq ls' nL (lv.set i (some (.int (nI (t + 1))))) → W p l e R s m args below meth c H locs cells slots Q (F0 m (pc + 3) ls' rest)) : W p l e R s m args below meth c H locs cells slots Q (F0 m pc ls rest) := by
  obtain ⟨k, hk⟩ := lq_place (ls := ls) (nL := nL) hv
  exact lv_iinc (k := k) (v := nI (t + 1)) hx hb hdg hl.has hk (nI_1 t) hn rfl (fun ls' h' => kk ls' (hl.set rfl h'))
theorem q_iinc (hx : p.tables.exec = Jvm.exec) (hb : c.code = cc) (hl : lq ls nL lv) {i : Nat} {n : Int} {x v : Int32} (hdg : decode cc pc = .ok (.iinc i n, 3)) (hv : lv[i]? = some (some (.int x))) (hw : x + Int32.ofInt n = v) (hn : i < nL) (kk : ∀ ls' : Array Slot, lq ls' nL (lv.set i (some (.int v))) → W p l e R s m args below meth c H locs cells slots Q (F0 m (pc + 3) ls' rest)) : W p l e R s m args below meth c H locs cells slots Q (F0 m pc ls rest) := by
  obtain ⟨k, hk⟩ := lq_place (ls := ls) (nL := nL) hv
  exact lv_iinc (k := k) (v := v) hx hb hdg hl.has hk hw hn rfl (fun ls' h' => kk ls' (hl.set rfl h'))
end QRows
/-! A method's context and contract; ends, throws, calls. -/
def wsG : List Cond := lw_tbl.filter goodWord
def isN : Cond → Bool
  | .fieldLinkNest .. => true
  | .methodLinkNest .. => true
  | .castable .. => true
  | .declares .. => true
  | _ => false
def wsN : List Cond := lw_tbl.filter isN
theorem isN_warm {w : Cond} (hw : isN w = true) {s U : State} (hW : s.WarmedH U.vm) (h : va_Nw w s) : va_Nw w U := by
  cases w <;> first | exact va_Nw.warmF hW h | exact va_Nw.warmM hW h | exact va_Nw.warmC hW h | exact va_Nw.warmD hW h | cases hw
theorem isN_tabs {w : Cond} (hw : isN w = true) : w.onTables = true := by
  cases w <;> first | rfl | cases hw
/-- what a throw and a nest mate's member stand on, beside the good words -/
def En (A : Nat → Prop) (U : State) (H : Heap) : Prop := (∀ w ∈ wsN, va_Nw w U) ∧ (∀ q ∈ strs, ∃ a, vk_R q.1 q.2.1 q.2.2 a U) ∧ vx_Zq Bundle.tN "UNASSIGNED_STACK" Bundle.steD A U H ∧ vx_Zq Bundle.tN "SUPPRESSED_SENTINEL" Bundle.listD A U H
theorem En.warm {A : Nat → Prop} {s U : State} {H : Heap} (hW : s.WarmedH U.vm) (h : En A s H) : En A U H :=
  ⟨fun w hw => isN_warm (List.mem_filter.mp hw).2 hW (h.1 w hw), fun q hq => by obtain ⟨a, ha⟩ := h.2.1 q hq; exact ⟨a, vk_R.warm hW ha⟩, vx_Zq.moved hW.alike h.2.2.1, vx_Zq.moved hW.alike h.2.2.2⟩
theorem En.same {A : Nat → Prop} {s U : State} {H : Heap} (hv : U.vm = s.vm) (h : En A s H) : En A U H := En.warm (by rw [hv]; exact State.WarmedH.refl s) h
theorem En.kept {A : Nat → Prop} {U : State} {H H1 : Heap} (h : En A U H) (hq : ∀ a : Nat, a < H.size → ¬ A a → H1[a]? = H[a]?) : En A U H1 := ⟨h.1, h.2.1, vx_Zq.kept h.2.2.1 hq, vx_Zq.kept h.2.2.2 hq⟩
theorem En.narrow {A B : Nat → Prop} {U : State} {H : Heap} (h : En A U H) (hAB : ∀ q, B q → A q) : En B U H := ⟨h.1, h.2.1, vx_Zq.narrow h.2.2.1 hAB, vx_Zq.narrow h.2.2.2 hAB⟩
/-- a method's context -/
def cx (p : Program) (l : Launch) (s : State) (m : MethodId) (args : Array Value) (meth : Method) (c : Code) (cc : ByteArray) (nL : Nat) (own : String) (ct : Ct) (D : va_G) (A : Nat → Prop) : Prop :=
  p.tables.exec = Jvm.exec ∧ c.code = cc ∧ c.maxLocals = nL ∧ s.vm.findClass own = some m.cls ∧ (∀ w ∈ wsG, w.before args s = true) ∧ va_K D vwCl (tyl ct) s ∧ En A s s.heap ∧ (∀ q, s.heap.size ≤ q → A q) ∧ meth.locks = false ∧ l.stackTraces = false
def wl (D : va_G) (A : Nat → Prop) (s : State) (ws : va_W) (H : Heap) (locs : List Loc) : Prop := va_P D vwCl ws H ∧ va_D A ws ∧ va_S A s.heap H locs
def KP (D : va_G) (ct : Ct) (av : List Value) (sz : Nat) (w0 : va_W) : Array Value → State → Prop := va_Pc av (fun U => U.heap.size = sz ∧ va_P D vwCl w0 U.heap ∧ va_K D vwCl (tyl ct) U ∧ va_D (fun _ => True) w0 ∧ En (va_A w0 sz) U U.heap)
def KQ (D : va_G) (ct : Ct) (A : Nat → Prop) (Φ : Option Value → va_W → Prop) : Array Value → State → Outcome → State → Prop := fun _ st oc t => (∃ (v : Option Value) (w1 : va_W), oc = .returned v ∧ Φ v w1 ∧ va_P D vwCl w1 t.heap ∧ va_K D vwCl (tyl ct) t ∧ va_D A w1) ∧ va_F A st t
def KX (D : va_G) (ct : Ct) (A : Nat → Prop) (Ψ : String → va_W → Prop) : String → State → State → Prop := fun E st t => (∃ (w1 : va_W), Ψ E w1 ∧ va_P D vwCl w1 t.heap ∧ va_K D vwCl (tyl ct) t ∧ va_D A w1) ∧ va_F A st t
/-- y, from the world w0 with the arguments av: it returns v with the world w1 where Φ v w1, or throws an E with Ψ E w1 -/
def Kt (l : Launch) (y : MethodName) (cc : ByteArray) (nL : Nat) (ret : Option FieldType) (rm : Room) (mc ms : Nat) (D : va_G) (ct : Ct) (av : List Value) (sz : Nat) (w0 : va_W) (Φ : Option Value → va_W → Prop) (Ψ : String → va_W → Prop) : Prop :=
  vx_Met l y (.code y cc nL ret :: wsG) rm (KP D ct av sz w0) (KQ D ct (va_A w0 sz) Φ) (KX D ct (va_A w0 sz) Ψ) mc ms (va_A w0 sz)
theorem KP_blind {D : va_G} {ct : Ct} {av : List Value} {sz : Nat} {w0 : va_W} : FrameBlind (KP D ct av sz w0) := by
  intro a U g mk q
  obtain ⟨q1, q2, q3, q4, q5, q6⟩ := q
  have q7 : En (va_A w0 sz) (U.calling g mk a) U.heap := En.same (s := U) rfl q6
  exact ⟨q1, q2, q3, va_K.moved (u := U) (U := U.calling g mk a) (Vm.Alike.refl U.vm) q4, q5, q7⟩
theorem kt_of {l : Launch} {y : MethodName} {cc : ByteArray} {nL : Nat} {ret : Option FieldType} {rm : Room} {mc ms : Nat} {D : va_G} {ct : Ct} {av : List Value} {sz : Nat} {w0 : va_W} {Φ : Option Value → va_W → Prop} {Ψ : String → va_W → Prop} (hst : l.stackTraces = false)
    (hy : plainName y.cls = true) (hav : (lg_sl av).length ≤ nL) (hcat : ∀ v ∈ av, v.category = 1)
    (body : ∀ (p : Program) (e : Env) (s : State) (m : MethodId) (args : Array Value) (below : List Frame) (meth : Method) (c : Code) (A : Nat → Prop) (ls : Array Slot), cx p l s m args meth c cc nL y.cls ct D A → (∀ x ∈ c.exceptionTable.toList, False) → meth.sig.returnType = ret → wl D A s w0 s.heap [] → lq ls nL (av.map some ++ List.replicate (nL - av.length) none) →
      ∀ Q : State → Prop, Q = vx_MQ below (KQ D ct A Φ) (KX D ct A Ψ) args s mc ms A → W p l e rm s m args below meth c s.heap [] 0 0 Q (F0 m 0 ls [])) : Kt l y cc nL ret rm mc ms D ct av sz w0 Φ Ψ := by
  refine vx_ofW (cc := cc) (maxL := nL) (ret := ret) hy rfl ?_
  intro p e s m args below meth c s₁ B hml hne hv
  obtain ⟨rfl, hsz, hP, hK, hD0, hE⟩ := hv
  subst hsz
  have hD := hD0.self (sz := s.heap.size)
  have hts := atoms_spec (ws := .code y cc nL ret :: wsG) B.pre
  rw [lg_entry_eq]
  exact body p e s m av.toArray below meth c (va_A w0 s.heap.size) _ ⟨B.exec, B.bytes, hml, findClass_of_methodNamed B.named, fun w hw => hts w (List.mem_cons_of_mem _ hw), hK, hE, fun q h => Or.inr h, B.notSynchronized, hst⟩ hne B.returns ⟨hP, hD, va_S.rf⟩ (lq.entry hav hcat) _ rfl
section Ends2
variable {p : Program} {l : Launch} {e : Env} {R : Room} {s : State} {m : MethodId} {args : Array Value} {below : List Frame} {meth : Method} {c : Code} {H : Heap} {locs : List Loc} {cells slots mc ms : Nat} {Q : State → Prop}
variable {cc : ByteArray} {pc : Nat} {ls : Array Slot} {rest : List Value} {nL : Nat} {own : String} {ct : Ct} {D : va_G} {A : Nat → Prop} {w1 : va_W} {Φ : Option Value → va_W → Prop} {Ψ : String → va_W → Prop}
theorem tr_i (hQ : Q = vx_MQ below (KQ D ct A Φ) (KX D ct A Ψ) args s mc ms A) (C : cx p l s m args meth c cc nL own ct D A) (hw : wl D A s w1 H locs) (hr : meth.sig.returnType = some .int) (hc : cells ≤ mc) (hs : slots ≤ ms) {v : Int32} (hdg : decode cc pc = .ok (.ireturn, 1)) (hΦ : Φ (some (.int v)) w1) :
    W p l e R s m args below meth c H locs cells slots Q (F0 m pc ls [.int v]) := by
  subst hQ
  exact W.widen hc hs (vx_ret (W.iret C.1 C.2.1 hr (fun t ht hW => ⟨⟨_, w1, rfl, hΦ, by rw [ht]; exact hw.1, va_K.moved hW.alike C.2.2.2.2.2.1, hw.2.1⟩, hw.2.2.F ht⟩) hw.2.2.2.2 hdg C.2.2.2.2.2.2.2.2.1))
theorem tr_z (hQ : Q = vx_MQ below (KQ D ct A Φ) (KX D ct A Ψ) args s mc ms A) (C : cx p l s m args meth c cc nL own ct D A) (hw : wl D A s w1 H locs) (hr : meth.sig.returnType = some .boolean) (hc : cells ≤ mc) (hs : slots ≤ ms) {v : Int32} (hdg : decode cc pc = .ok (.ireturn, 1)) (hz : v = 0 ∨ v = 1) (hΦ : Φ (some (.int v)) w1) :
    W p l e R s m args below meth c H locs cells slots Q (F0 m pc ls [.int v]) := by
  subst hQ
  exact W.widen hc hs (vx_ret (W.zret C.1 C.2.1 hr (by rcases hz with rfl | rfl <;> rfl) (fun t ht hW => ⟨⟨_, w1, rfl, hΦ, by rw [ht]; exact hw.1, va_K.moved hW.alike C.2.2.2.2.2.1, hw.2.1⟩, hw.2.2.F ht⟩) hw.2.2.2.2 hdg C.2.2.2.2.2.2.2.2.1))
theorem tr_v (hQ : Q = vx_MQ below (KQ D ct A Φ) (KX D ct A Ψ) args s mc ms A) (C : cx p l s m args meth c cc nL own ct D A) (hw : wl D A s w1 H locs) (hr : meth.sig.returnType = none) (hc : cells ≤ mc) (hs : slots ≤ ms) (hdg : decode cc pc = .ok (.return_, 1)) (hΦ : Φ none w1) :
    W p l e R s m args below meth c H locs cells slots Q (F0 m pc ls []) := by
  subst hQ
  exact W.widen hc hs (vx_ret (W.vret C.1 C.2.1 hr (fun t ht hW => ⟨⟨_, w1, rfl, hΦ, by rw [ht]; exact hw.1, va_K.moved hW.alike C.2.2.2.2.2.1, hw.2.1⟩, hw.2.2.F ht⟩) hw.2.2.2.2 hdg C.2.2.2.2.2.2.2.2.1))
theorem tr_a (hQ : Q = vx_MQ below (KQ D ct A Φ) (KX D ct A Ψ) args s mc ms A) (C : cx p l s m args meth c cc nL own ct D A) (hw : wl D A s w1 H locs) {cn : String} (hr : meth.sig.returnType = some (.object cn)) (hc : cells ≤ mc) (hs : slots ≤ ms) {a : Nat} (hdg : decode cc pc = .ok (.areturn, 1)) (hΦ : Φ (some (.ref a)) w1) :
    W p l e R s m args below meth c H locs cells slots Q (F0 m pc ls [.ref a]) := by
  subst hQ
  exact W.widen hc hs (vx_ret (W.aret C.1 C.2.1 hr (Or.inl ⟨cn, rfl⟩) (Or.inr ⟨a, rfl⟩) (fun t ht hW => ⟨⟨_, w1, rfl, hΦ, by rw [ht]; exact hw.1, va_K.moved hW.alike C.2.2.2.2.2.1, hw.2.1⟩, hw.2.2.F ht⟩) hw.2.2.2.2 hdg C.2.2.2.2.2.2.2.2.1))
/-- an exception of a callee goes on to the caller -/
theorem tr_x (hQ : Q = vx_MQ below (KQ D ct A Φ) (KX D ct A Ψ) args s mc ms A) (C : cx p l s m args meth c cc nL own ct D A) (hne : ∀ x ∈ c.exceptionTable.toList, False) (hw : wl D A s w1 H locs) (hc : cells ≤ mc) (hs : slots ≤ ms) {E : String} {ce : Cell} {q : Addr} (hΨ : Ψ E w1) (hcell : H[q]? = some ce) (hv : ce.vm = .none) (hcl : s.vm.findClass E = some ce.cls) :
    vx_W p l e R s m args below meth c H locs cells slots Q (F0 m pc ls rest) q := by
  subst hQ
  exact vx_out (fun x hx => (hne x hx).elim) C.2.2.2.2.2.2.2.2.1 hcell hv hcl (fun t ht hW => ⟨⟨w1, hΨ, by rw [ht]; exact hw.1, va_K.moved hW C.2.2.2.2.2.1, hw.2.1⟩, hw.2.2.F ht⟩) hw.2.2.2.2 hc hs
end Ends2
/-- the frame: the callee's world is the left part, the right part stays -/
theorem fr_L {A : Nat → Prop} {D : va_G} {cl : List vw_C} {wa wb w1 : va_W} {H H1 : Heap} (hP : va_P D cl (wa ++ wb) H) (hD : va_D A (wa ++ wb)) (hk : ∀ q : Nat, q < H.size → ¬ va_A wa H.size q → H1[q]? = H[q]?) (hF : ∀ q, va_A wa H.size q → A q) (hP1 : va_P D cl w1 H1) (hD1 : va_D (va_A wa H.size) w1) : va_P D cl (w1 ++ wb) H1 ∧ va_D A (w1 ++ wb) := by
  have hb : ∀ (k : Nat) (q : Nat × va_E), wb[k]? = some q → (wa ++ wb)[wa.length + k]? = some q := fun k q h => by rw [List.getElem?_append_right (by omega), Nat.add_sub_cancel_left]; exact h
  have ha : ∀ (k : Nat) (q : Nat × va_E), wa[k]? = some q → (wa ++ wb)[k]? = some q ∧ k < wa.length := fun k q h => by
    have hl := (List.getElem?_eq_some_iff.mp h).1
    exact ⟨by rw [List.getElem?_append_left hl]; exact h, hl⟩
  have apart : ∀ (k : Nat) (q : Nat × va_E), wb[k]? = some q → q.1 < H.size ∧ ¬ va_A wa H.size q.1 := by
    intro k q hq
    have h2 := hb k q hq
    have hl := (hP _ q h2).lt
    refine ⟨hl, fun h => ?_⟩
    rcases h with ⟨k2, e, h⟩ | h
    · obtain ⟨h3, h4⟩ := ha k2 _ h
      have := hD.1 _ _ q (q.1, e) h2 h3 rfl
      omega
    · omega
  refine ⟨va_P.app hP1 (fun k q hq => (hP _ q (hb k q hq)).kept (hk q.1 (apart k q hq).1 (apart k q hq).2)), va_D.app (hD1.weaken (fun k q _ h => hF q.1 h)) ⟨fun i j x y hx hy hxy => ?_, fun k q hq => hD.2 _ q (hb k q hq)⟩ (fun i j x y hx hy hxy => ?_)⟩
  · have := hD.1 _ _ x y (hb i x hx) (hb j y hy) hxy
    omega
  · exact (apart j y hy).2 (by rw [← hxy]; exact hD1.2 i x hx)
theorem fr_R {A : Nat → Prop} {D : va_G} {cl : List vw_C} {wa wb w1 : va_W} {H H1 : Heap} (hP : va_P D cl (wa ++ wb) H) (hD : va_D A (wa ++ wb)) (hk : ∀ q : Nat, q < H.size → ¬ va_A wb H.size q → H1[q]? = H[q]?) (hF : ∀ q, va_A wb H.size q → A q) (hP1 : va_P D cl w1 H1) (hD1 : va_D (va_A wb H.size) w1) : va_P D cl (wa ++ w1) H1 ∧ va_D A (wa ++ w1) := by
  have hb : ∀ (k : Nat) (q : Nat × va_E), wb[k]? = some q → (wa ++ wb)[wa.length + k]? = some q := fun k q h => by rw [List.getElem?_append_right (by omega), Nat.add_sub_cancel_left]; exact h
  have ha : ∀ (k : Nat) (q : Nat × va_E), wa[k]? = some q → (wa ++ wb)[k]? = some q ∧ k < wa.length := fun k q h => by
    have hl := (List.getElem?_eq_some_iff.mp h).1
    exact ⟨by rw [List.getElem?_append_left hl]; exact h, hl⟩
  have apart : ∀ (k : Nat) (q : Nat × va_E), wa[k]? = some q → q.1 < H.size ∧ ¬ va_A wb H.size q.1 := by
    intro k q hq
    obtain ⟨h2, h4⟩ := ha k q hq
    have hl := (hP _ q h2).lt
    refine ⟨hl, fun h => ?_⟩
    rcases h with ⟨k2, e, h⟩ | h
    · have := hD.1 _ _ q (q.1, e) h2 (hb k2 _ h) rfl
      omega
    · omega
  refine ⟨va_P.app (fun k q hq => (hP _ q (ha k q hq).1).kept (hk q.1 (apart k q hq).1 (apart k q hq).2)) hP1, va_D.app ⟨fun i j x y hx hy hxy => hD.1 _ _ x y (ha i x hx).1 (ha j y hy).1 hxy, fun k q hq => hD.2 _ q (ha k q hq).1⟩ (hD1.weaken (fun k q _ h => hF q.1 h)) (fun i j x y hx hy hxy => ?_)⟩
  exact (apart i x hx).2 (by rw [hxy]; exact hD1.2 j y hy)
section Calls2
variable {p : Program} {l : Launch} {e : Env} {R : Room} {s : State} {m : MethodId} {args : Array Value} {below : List Frame} {meth : Method} {c : Code} {H : Heap} {locs : List Loc} {cells slots mc ms : Nat} {Q : State → Prop}
variable {cc : ByteArray} {pc : Nat} {ls : Array Slot} {rest st0 : List Value} {nL : Nat} {own : String} {ct : Ct} {D : va_G} {A : Nat → Prop} {w0 wa wb : va_W} {Φ : Option Value → va_W → Prop} {Ψ : String → va_W → Prop} {av : Array Value}
theorem fr_A {D : va_G} {s : State} {A : Nat → Prop} (hA : ∀ q, s.heap.size ≤ q → A q) (hw : wl D A s w0 H locs) : ∀ q, va_A w0 H.size q → A q := by
  intro q h
  rcases h with ⟨k, e, h⟩ | h
  · exact hw.2.1.2 k _ h
  · exact hA q (Nat.le_trans hw.2.2.1 h)
/-- behind a call whose world is the left part of the caller's -/
theorem tc_L (hr : vx_Run p l e R s m args below meth c H locs cells slots mc ms (F0 m pc ls st0) rest (KQ D ct (va_A wa H.size) Φ av) (KX D ct (va_A wa H.size) Ψ) (va_A wa H.size)) (C : cx p l s m args meth c cc nL own ct D A) (hw : wl D A s (wa ++ wb) H locs)
    (kx : ∀ (E : String) (ce : Cell) (q : Addr) (w1 : va_W) (H1 : Heap) (locs1 : List Loc), Ψ E w1 → wl D A s (w1 ++ wb) H1 locs1 → H1[q]? = some ce → ce.vm = .none → s.vm.findClass E = some ce.cls → vx_W p l e R s m args below meth c H1 locs1 (cells + mc) (slots + ms) Q (F0 m pc ls rest) q)
    (kk : ∀ (v : Option Value) (w1 : va_W) (H1 : Heap) (locs1 : List Loc), Φ v w1 → wl D A s (w1 ++ wb) H1 locs1 → W p l e R s m args below meth c H1 locs1 (cells + mc) (slots + ms) Q (F0 m (pc + 3) ls (v.toList ++ rest))) : W p l e R s m args below meth c H locs cells slots Q (F0 m pc ls st0) := by
  have hAA : ∀ q, va_A wa H.size q → A q := by
    intro q h
    rcases h with ⟨k, e, h⟩ | h
    · exact hw.2.1.2 k (q, e) (by rw [List.getElem?_append_left (List.getElem?_eq_some_iff.mp h).1]; exact h)
    · exact C.2.2.2.2.2.2.2.1 q (Nat.le_trans hw.2.2.1 h)
  intro T hT X
  rcases hr T hT X with ⟨v, st₀, t, T', L, h0, X', hL, e1, e2, ⟨⟨v', w1, hv, hp, hP1, hK1, hD1⟩, hF⟩, st⟩ | ⟨q, st₀, t, T', L, E, ce, h0, X', hL, e1, e2, ⟨⟨w1, hp, hP1, hK1, hD1⟩, hF⟩, hce, hcv, hcl, st⟩
  · cases hv
    obtain ⟨k1, k2, k3⟩ := vx_keep h0 e1 hw.2.2 (fun q _ h => hAA q h) hAA hL hF
    obtain ⟨g1, g2⟩ := fr_L hw.1 hw.2.1 k2 hAA (by rw [e1]; exact hP1) hD1
    obtain ⟨t2, a1, b1⟩ := kk v w1 T'.heap (locs ++ L) hp ⟨g1, g2, k3⟩ T' rfl X'
    exact ⟨t2, st t2 a1, b1⟩
  · obtain ⟨k1, k2, k3⟩ := vx_keep h0 e1 hw.2.2 (fun q _ h => hAA q h) hAA hL hF
    obtain ⟨g1, g2⟩ := fr_L hw.1 hw.2.1 k2 hAA (by rw [e1]; exact hP1) hD1
    obtain ⟨t2, a1, b1⟩ := kx E ce q w1 T'.heap (locs ++ L) hp ⟨g1, g2, k3⟩ (by rw [e1]; exact hce) hcv hcl T' rfl X'
    exact ⟨t2, st.trans a1, b1⟩
theorem tc_R (hr : vx_Run p l e R s m args below meth c H locs cells slots mc ms (F0 m pc ls st0) rest (KQ D ct (va_A wb H.size) Φ av) (KX D ct (va_A wb H.size) Ψ) (va_A wb H.size)) (C : cx p l s m args meth c cc nL own ct D A) (hw : wl D A s (wa ++ wb) H locs)
    (kx : ∀ (E : String) (ce : Cell) (q : Addr) (w1 : va_W) (H1 : Heap) (locs1 : List Loc), Ψ E w1 → wl D A s (wa ++ w1) H1 locs1 → H1[q]? = some ce → ce.vm = .none → s.vm.findClass E = some ce.cls → vx_W p l e R s m args below meth c H1 locs1 (cells + mc) (slots + ms) Q (F0 m pc ls rest) q)
    (kk : ∀ (v : Option Value) (w1 : va_W) (H1 : Heap) (locs1 : List Loc), Φ v w1 → wl D A s (wa ++ w1) H1 locs1 → W p l e R s m args below meth c H1 locs1 (cells + mc) (slots + ms) Q (F0 m (pc + 3) ls (v.toList ++ rest))) : W p l e R s m args below meth c H locs cells slots Q (F0 m pc ls st0) := by
  have hAA : ∀ q, va_A wb H.size q → A q := by
    intro q h
    rcases h with ⟨k, e, h⟩ | h
    · exact hw.2.1.2 (wa.length + k) (q, e) (by rw [List.getElem?_append_right (by omega), Nat.add_sub_cancel_left]; exact h)
    · exact C.2.2.2.2.2.2.2.1 q (Nat.le_trans hw.2.2.1 h)
  intro T hT X
  rcases hr T hT X with ⟨v, st₀, t, T', L, h0, X', hL, e1, e2, ⟨⟨v', w1, hv, hp, hP1, hK1, hD1⟩, hF⟩, st⟩ | ⟨q, st₀, t, T', L, E, ce, h0, X', hL, e1, e2, ⟨⟨w1, hp, hP1, hK1, hD1⟩, hF⟩, hce, hcv, hcl, st⟩
  · cases hv
    obtain ⟨k1, k2, k3⟩ := vx_keep h0 e1 hw.2.2 (fun q _ h => hAA q h) hAA hL hF
    obtain ⟨g1, g2⟩ := fr_R hw.1 hw.2.1 k2 hAA (by rw [e1]; exact hP1) hD1
    obtain ⟨t2, a1, b1⟩ := kk v w1 T'.heap (locs ++ L) hp ⟨g1, g2, k3⟩ T' rfl X'
    exact ⟨t2, st t2 a1, b1⟩
  · obtain ⟨k1, k2, k3⟩ := vx_keep h0 e1 hw.2.2 (fun q _ h => hAA q h) hAA hL hF
    obtain ⟨g1, g2⟩ := fr_R hw.1 hw.2.1 k2 hAA (by rw [e1]; exact hP1) hD1
    obtain ⟨t2, a1, b1⟩ := kx E ce q w1 T'.heap (locs ++ L) hp ⟨g1, g2, k3⟩ (by rw [e1]; exact hce) hcv hcl T' rfl X'
    exact ⟨t2, st.trans a1, b1⟩
/-- what a callee asks of its start, out of the caller's context; its world is a part of the caller's -/
theorem tc_pre (C : cx p l s m args meth c cc nL own ct D A) (hP : va_P D vwCl w0 H) (hD : va_D A w0) (hS : va_S A s.heap H locs) {av : List Value} : ∀ U : State, U.heap = H → s.WarmedH U.vm → KP D ct av H.size w0 av.toArray U := by
  intro U hU hW
  refine ⟨rfl, by rw [hU], by rw [hU]; exact hP, va_K.moved hW.alike C.2.2.2.2.2.1, hD.weaken (fun _ _ _ _ => trivial), ?_⟩
  rw [hU]
  have h1 : En A U H := En.warm hW (En.kept C.2.2.2.2.2.2.1 hS.2.1)
  exact En.narrow h1 (fr_A (w0 := w0) (H := H) (locs := locs) C.2.2.2.2.2.2.2.1 ⟨hP, hD, hS⟩)
theorem wsG_in {y : MethodName} {cc0 : ByteArray} {n0 : Nat} {ret0 : Option FieldType} (h : Cond.code y cc0 n0 ret0 ∈ lw_tbl) : GoodIn wsG (.code y cc0 n0 ret0 :: wsG) := by
  intro w hw
  rcases List.mem_cons.mp hw with rfl | hw
  · exact ⟨List.mem_filter.mpr ⟨h, rfl⟩, Or.inl rfl⟩
  · exact ⟨hw, good_of_word (List.mem_filter.mp hw).2⟩
end Calls2
theorem met_of {l : Launch} {y : MethodName} {cc : ByteArray} {nL : Nat} {ret : Option FieldType} {rm : Room} {mc ms : Nat} {D : va_G} {ct : Ct} {av : List Value} {sz : Nat} {w0 : va_W} {Φ : Option Value → va_W → Prop} (h : Kt l y cc nL ret rm mc ms D ct av sz w0 Φ (fun _ _ => False)) : Met l y (.code y cc nL ret :: wsG) rm (KP D ct av sz w0) (KQ D ct (va_A w0 sz) Φ) mc ms (va_A w0 sz) := by
  intro p e ha hc hk s m args below hf happ hP hK
  obtain ⟨k, o, h1, h2, h3, hQ⟩ := h p e ha hc hk s m args below hf happ hP hK
  rcases hQ with hQ | ⟨q, rfl, E, ce, L, ⟨⟨w1, hx, -⟩, -⟩, -⟩
  · exact ⟨k, o, h1, h2, h3, hQ⟩
  · exact hx.elim
theorem vx_of_va {p : Program} {l : Launch} {e : Env} {R : Room} {s : State} {m : MethodId} {args : Array Value} {below : List Frame} {meth : Method} {c : Code} {H : Heap} {locs : List Loc} {cells slots mc ms : Nat} {g : JFrame} {rest : List Value} {Qa : State → Outcome → State → Prop} {XC : String → State → State → Prop} {free : Addr → Prop} (h : va_Run p l e R s m args below meth c H locs cells slots mc ms g rest Qa free) : vx_Run p l e R s m args below meth c H locs cells slots mc ms g rest Qa XC free := fun T hT X => Or.inl (h T hT X)
section Calls3
variable {p : Program} {l : Launch} {e : Env} {R : Room} {s : State} {m : MethodId} {args : Array Value} {below : List Frame} {meth : Method} {c : Code} {H : Heap} {locs : List Loc} {cells slots mc ms : Nat} {Q : State → Prop}
variable {cc : ByteArray} {pc : Nat} {ls : Array Slot} {rest st0 : List Value} {nL : Nat} {lv : List (Option Value)} {own : String} {ct : Ct} {D : va_G} {A : Nat → Prop} {w0 : va_W} {Φ : Option Value → va_W → Prop} {Ψ : String → va_W → Prop}
variable {y : MethodName} {yc : ByteArray} {yL index n : Nat} {ret : Option FieldType} {rm : Room} {b : Nat} {As : List Value} {K : String}
/-- a virtual call of a method that the words name -/
theorem tc_V (C : cx p l s m args meth c cc nL own ct D A) (hl : lq ls nL lv) (hM : Kt l y yc yL ret rm mc ms D ct (.ref b :: As) H.size w0 Φ Ψ) (hP : va_P D vwCl w0 H) (hD : va_D A w0) (hS : va_S A s.heap H locs)
    (hg : GoodIn wsG (wsV own index K y (.code y yc yL ret :: wsG))) (hrecv : ∃ cellB : Cell, H[b]? = some cellB ∧ cellB.vm.isStatics = false ∧ s.vm.findClass K = some cellB.cls)
    (hd : y.cls = K ∧ y.cls ≠ "java/lang/invoke/MethodHandle" ∧ y.cls ≠ "java/lang/invoke/VarHandle" ∧ (parseMethodDescriptor y.desc).map (fun d => d.parameters.length) = some As.length)
    (hrc : rm.cells = mc) (hrs : rm.slots = ms) (hR : rm.frames + 1 ≤ R.frames ∧ 8 + (yL + 11) + rm.locals ≤ R.locals) (hroom : (rest.map fun v => v.category).sum ≤ 8) (hf : cells + mc ≤ R.cells ∧ slots + ms ≤ R.slots)
    (hdg : decode cc pc = .ok (.invokevirtual index, 3)) (hst : st0 = As.reverse ++ .ref b :: rest) :
    vx_Run p l e R s m args below meth c H locs cells slots mc ms (F0 m pc ls st0) rest (KQ D ct (va_A w0 H.size) Φ (Value.ref b :: As).toArray) (KX D ct (va_A w0 H.size) Ψ) (va_A w0 H.size) :=
  vx_runV ⟨C.1, C.2.1, C.2.2.1, C.2.2.2.1, C.2.2.2.2.1⟩ hM (cwV As.length C.2.2.2.2.1 hg rfl hrc hrs hd hR) ⟨KP_blind, hrecv, tc_pre C hP hD hS⟩ rfl rfl hl.1 hst (lv_room hroom) hdg hf
/-- a static call -/
theorem tc_S (C : cx p l s m args meth c cc nL own ct D A) (hl : lq ls nL lv) (hM : Kt l y yc yL ret rm mc ms D ct As H.size w0 Φ Ψ) (hP : va_P D vwCl w0 H) (hD : va_D A w0) (hS : va_S A s.heap H locs)
    (hg : GoodIn wsG (va_wsS own index y (.code y yc yL ret :: wsG)))
    (hd : y.cls ≠ "java/lang/invoke/MethodHandle" ∧ y.cls ≠ "java/lang/invoke/VarHandle" ∧ (parseMethodDescriptor y.desc).map (fun d => d.parameters.length) = some As.length)
    (hrc : rm.cells = mc) (hrs : rm.slots = ms) (hR : rm.frames + 1 ≤ R.frames ∧ 8 + (yL + 11) + rm.locals ≤ R.locals) (hroom : (rest.map fun v => v.category).sum ≤ 8) (hf : cells + mc ≤ R.cells ∧ slots + ms ≤ R.slots)
    (hdg : decode cc pc = .ok (.invokestatic index, 3)) (hst : st0 = As.reverse ++ rest) :
    vx_Run p l e R s m args below meth c H locs cells slots mc ms (F0 m pc ls st0) rest (KQ D ct (va_A w0 H.size) Φ As.toArray) (KX D ct (va_A w0 H.size) Ψ) (va_A w0 H.size) :=
  vx_runS ⟨C.1, C.2.1, C.2.2.1, C.2.2.2.1, C.2.2.2.2.1⟩ hM (va_cwS As.length C.2.2.2.2.1 hg rfl hrc hrs hd hR) ⟨KP_blind, tc_pre C hP hD hS⟩ rfl rfl hl.1 hst (lv_room hroom) hdg hf
/-- a private method of a nest mate -/
theorem tc_N (C : cx p l s m args meth c cc nL own ct D A) (hl : lq ls nL lv) {host : String} (hM : Kt l y yc yL ret rm mc ms D ct (.ref b :: As) H.size w0 Φ (fun _ _ => False)) (hP : va_P D vwCl w0 H) (hD : va_D A w0) (hS : va_S A s.heap H locs)
    (hcode : Cond.code y yc yL ret ∈ lw_tbl) (hlk : Cond.methodLinkNest own index y host ∈ wsN) (hws : Cond.instanceMethod y ∈ wsG ∧ Cond.selects K y y ∈ wsG ∧ Cond.initialized y.cls ∈ wsG) (hrecv : ∃ cellB : Cell, H[b]? = some cellB ∧ cellB.vm.isStatics = false ∧ s.vm.findClass K = some cellB.cls)
    (hd : y.cls ≠ "java/lang/invoke/MethodHandle" ∧ y.cls ≠ "java/lang/invoke/VarHandle" ∧ (parseMethodDescriptor y.desc).map (fun d => d.parameters.length) = some As.length)
    (hrc : rm.cells = mc) (hrs : rm.slots = ms) (hR : rm.frames + 1 ≤ R.frames ∧ 8 + (yL + 11) + rm.locals ≤ R.locals) (hroom : (rest.map fun v => v.category).sum ≤ 8) (hf : cells + mc ≤ R.cells ∧ slots + ms ≤ R.slots)
    (hdg : decode cc pc = .ok (.invokevirtual index, 3)) (hst : st0 = As.reverse ++ .ref b :: rest) :
    vx_Run p l e R s m args below meth c H locs cells slots mc ms (F0 m pc ls st0) rest (KQ D ct (va_A w0 H.size) Φ (Value.ref b :: As).toArray) (KX D ct (va_A w0 H.size) (fun _ _ => False)) (va_A w0 H.size) := by
  refine vx_of_va ?_
  exact va_runVN (host := host) ⟨C.1, C.2.1, C.2.2.1, C.2.2.2.1, C.2.2.2.2.1⟩ (met_of hM) ⟨va_cnB As.length C.2.2.2.2.1 (wsG_in hcode) rfl hrc hrs (C.2.2.2.2.2.2.1.1 _ hlk) (C.2.2.2.2.1 _ hws.2.2) hd hR, C.2.2.2.2.1 _ hws.1, C.2.2.2.2.1 _ hws.2.1⟩ ⟨KP_blind, hrecv, tc_pre C hP hD hS⟩ rfl rfl hl.1 hst (lv_room hroom) hdg hf
end Calls3
theorem lq.drop {ls : Array Slot} {nL : Nat} {l : List (Option Value)} (h : lq ls nL l) (k : Nat) : lq ls nL (l.set k none) := by
  refine ⟨h.1, h.2.1, fun i v hi => h.2.2 i v ?_⟩
  by_cases hk : k = i
  · subst hk
    rw [List.getElem?_set] at hi
    simp at hi
  · rw [List.getElem?_set_ne hk] at hi
    exact hi
section Q5
variable {p : Program} {l : Launch} {e : Env} {R : Room} {s : State} {m : MethodId} {args : Array Value} {below : List Frame} {meth : Method} {c : Code} {H : Heap} {locs : List Loc} {cells slots mc ms : Nat} {Q : State → Prop}
variable {cc : ByteArray} {pc : Nat} {ls : Array Slot} {rest st0 : List Value} {nL : Nat} {lv : List (Option Value)} {own : String} {ct : Ct} {D : va_G} {A : Nat → Prop} {w0 : va_W} {Φ : Option Value → va_W → Prop} {Ψ : String → va_W → Prop} {av : Array Value}
theorem q_inc1 (hx : p.tables.exec = Jvm.exec) (hb : c.code = cc) (hl : lq ls nL lv) {i : Nat} {x : Int32} (hdg : decode cc pc = .ok (.iinc i 1, 3)) (hv : lv[i]? = some (some (.int x))) (hn : i < nL) (kk : ∀ ls' : Array Slot, lq ls' nL (lv.set i (some (.int (x + 1)))) → W p l e R s m args below meth c H locs cells slots Q (F0 m (pc + 3) ls' rest)) : W p l e R s m args below meth c H locs cells slots Q (F0 m pc ls rest) := q_iinc hx hb hl hdg hv rfl hn kk
theorem q_incm (hx : p.tables.exec = Jvm.exec) (hb : c.code = cc) (hl : lq ls nL lv) {i : Nat} {x : Int32} (hdg : decode cc pc = .ok (.iinc i (-1), 3)) (hv : lv[i]? = some (some (.int x))) (hn : i < nL) (kk : ∀ ls' : Array Slot, lq ls' nL (lv.set i (some (.int (x + (-1))))) → W p l e R s m args below meth c H locs cells slots Q (F0 m (pc + 3) ls' rest)) : W p l e R s m args below meth c H locs cells slots Q (F0 m pc ls rest) := q_iinc hx hb hl hdg hv rfl hn kk
theorem tc_E (hr : vx_Run p l e R s m args below meth c H locs cells slots mc ms (F0 m pc ls st0) rest (KQ D ct (va_A w0 H.size) Φ av) (KX D ct (va_A w0 H.size) Ψ) (va_A w0 H.size)) (C : cx p l s m args meth c cc nL own ct D A) (hw : wl D A s w0 H locs)
    (kx : ∀ (E : String) (ce : Cell) (q : Addr) (w1 : va_W) (H1 : Heap) (locs1 : List Loc), Ψ E w1 → wl D A s w1 H1 locs1 → H1[q]? = some ce → ce.vm = .none → s.vm.findClass E = some ce.cls → vx_W p l e R s m args below meth c H1 locs1 (cells + mc) (slots + ms) Q (F0 m pc ls rest) q)
    (kk : ∀ (v : Option Value) (w1 : va_W) (H1 : Heap) (locs1 : List Loc), Φ v w1 → wl D A s w1 H1 locs1 → W p l e R s m args below meth c H1 locs1 (cells + mc) (slots + ms) Q (F0 m (pc + 3) ls (v.toList ++ rest))) : W p l e R s m args below meth c H locs cells slots Q (F0 m pc ls st0) :=
  tc_L (wa := w0) (wb := []) hr C (by rw [List.append_nil]; exact hw) (fun E ce q w1 H1 locs1 h1 h2 => kx E ce q w1 H1 locs1 h1 (by rw [List.append_nil] at h2; exact h2)) (fun v w1 H1 locs1 h1 h2 => kk v w1 H1 locs1 h1 (by rw [List.append_nil] at h2; exact h2))
/-- throw new E("text"), out of this method -/
theorem tt_S (hQ : Q = vx_MQ below (KQ D ct A Φ) (KX D ct A Ψ) args s mc ms A) (C : cx p l s m args meth c cc nL own ct D A) (hne : ∀ x ∈ c.exceptionTable.toList, False) {w1 : va_W} (hw : wl D A s w1 H locs) (hl : lq ls nL lv) {cls text : String} {ik is ic : Nat}
    (hx : (own, is, text) ∈ strs ∧ Cond.classLink own ik cls ∈ wsG ∧ Cond.initialized cls ∈ wsG ∧ Bundle.fit cls = true ∧ (∀ w ∈ vx_atS own ic cls exn, w ∈ wsG ∨ w ∈ wsN) ∧ (∀ w ∈ Cond.classLink own ik cls :: Cond.initialized cls :: vx_atS own ic cls exn, vx_ot w = true))
    (d : decode cc pc = .ok (.new ik, 3) ∧ decode cc (pc + 3) = .ok (.dup, 1) ∧ decode cc (pc + 4) = .ok (.ldc is, 2) ∧ decode cc (pc + 6) = .ok (.invokespecial ic, 3) ∧ decode cc (pc + 9) = .ok (.athrow, 1))
    (hR : 5 < R.frames ∧ (rest.map fun v => v.category).sum + 82 ≤ R.locals ∧ cells + 1 ≤ R.cells ∧ slots + 6 ≤ R.slots ∧ cells + 1 ≤ mc ∧ slots + 6 ≤ ms) (hΨ : Ψ cls w1) :
    W p l e R s m args below meth c H locs cells slots Q (F0 m pc ls rest) := by
  subst hQ
  obtain ⟨x1, x2, x3, x4, x5, x6⟩ := hx
  obtain ⟨d0, d3, d4, d6, d9⟩ := d
  obtain ⟨r1, r2, r3, r4, r5, r6⟩ := hR
  obtain ⟨sa, hsa⟩ := C.2.2.2.2.2.2.1.2.1 _ x1
  refine vx_throwS (A := A) (names := exn) C.1 C.2.1 C.2.2.2.2.2.2.2.2.2 C.2.2.2.1 x4 (by decide +kernel) (C.2.2.2.2.1 _ x2) (C.2.2.2.2.1 _ x3) hsa
    (fun w hw => (x5 w hw).elim (fun h => C.2.2.2.2.1 _ h) (fun h => va_Nw.use (isN_tabs (List.mem_filter.mp h).2) (C.2.2.2.2.2.2.1.1 _ h))) x6 C.2.2.2.2.2.2.1.2.2.1 C.2.2.2.2.2.2.1.2.2.2 hw.2.2 (hl.1.trans C.2.2.1.symm) d0 d3 d4 d6 d9 (fun x hx => (hne x hx).elim) r1 r2 r3 r4 C.2.2.2.2.2.2.2.2.1 ?_ hw.2.2.2.2 r5 r6
  intro t hW hz hq
  refine ⟨⟨w1, hΨ, hw.1.kept (fun k x hx => hq x.1 (hw.1 k x hx).lt), va_K.moved hW C.2.2.2.2.2.1, hw.2.1⟩, Nat.le_trans hw.2.2.1 hz, fun q h1 h2 => ?_⟩
  rw [hq q (Nat.lt_of_lt_of_le h1 hw.2.2.1)]
  exact hw.2.2.2.1 q h1 h2
end Q5
def r0 (k : Nat) : Room := { frames := k, cells := 0, slots := 0, locals := 40 * k }
def r1 (k : Nat) : Room := { frames := k, cells := 1, slots := 6, locals := 40 * k }
theorem argc (x lo hi : Int32) : (¬ x < lo ∧ x ≤ hi) ∨ (x < lo ∨ ¬ x ≤ hi) := by
  by_cases h1 : x < lo
  · exact Or.inr (Or.inl h1)
  · by_cases h2 : x ≤ hi
    · exact Or.inl ⟨h1, h2⟩
    · exact Or.inr (Or.inr h2)
theorem ixc (x : Int32) (n : Nat) (hn : n < 2 ^ 31) : (∃ t, t < n ∧ x = nI t) ∨ (x < 0 ∨ ¬ x < nI n) := by
  rcases pk_ix x hn with h | h | h
  · exact Or.inr (Or.inl h)
  · refine Or.inr (Or.inr ?_)
    rw [Int32.lt_iff_toInt_lt]
    rw [Int32.le_iff_toInt_le] at h
    omega
  · exact Or.inl h
theorem argn (x : Int32) (lo hi : Nat) (hh : hi < 2 ^ 31) (hlo : lo < 2 ^ 31) : (∃ k, (lo ≤ k ∧ k ≤ hi) ∧ x = nI k) ∨ (x < nI lo ∨ ¬ x ≤ nI hi) := by
  by_cases h0 : x < nI lo
  · exact Or.inr (Or.inl h0)
  by_cases h1 : x ≤ nI hi
  · refine Or.inl ?_
    rw [Int32.lt_iff_toInt_lt, nI_toInt hlo] at h0
    rw [Int32.le_iff_toInt_le, nI_toInt hh] at h1
    have hz : ¬ x < 0 := by rw [Int32.lt_iff_toInt_lt, Int32.toInt_zero]; omega
    obtain ⟨j, hj, rfl⟩ := nI_of hz
    rw [nI_toInt hj] at h0 h1
    exact ⟨j, ⟨by omega, by omega⟩, rfl⟩
  · exact Or.inr (Or.inr h1)
theorem sw3 (x : Int32) : x = 1 ∨ x = 2 ∨ x = 3 ∨ ((¬ x = 1 ∧ ¬ x = 2 ∧ ¬ x = 3) ∧ (x.toInt < 1 ∨ 3 < x.toInt)) := by
  by_cases h1 : x = 1
  · exact Or.inl h1
  by_cases h2 : x = 2
  · exact Or.inr (Or.inl h2)
  by_cases h3 : x = 3
  · exact Or.inr (Or.inr (Or.inl h3))
  refine Or.inr (Or.inr (Or.inr ⟨⟨h1, h2, h3⟩, ?_⟩))
  have g1 : ¬ x.toInt = 1 := fun q => h1 (Int32.toInt_inj.mp q)
  have g2 : ¬ x.toInt = 2 := fun q => h2 (Int32.toInt_inj.mp q)
  have g3 : ¬ x.toInt = 3 := fun q => h3 (Int32.toInt_inj.mp q)
  omega
theorem sw_in (x : Int32) (n : Nat) (hn : n < 2 ^ 31) : (∃ j, j < n ∧ x = nI j) ∨ (x.toInt < 0 ∨ (n : Int) ≤ x.toInt) := by
  rcases pk_ix x hn with h | h | h
  · rw [Int32.lt_iff_toInt_lt, Int32.toInt_zero] at h; exact Or.inr (Or.inl h)
  · rw [Int32.le_iff_toInt_le, nI_toInt hn] at h; exact Or.inr (Or.inr h)
  · exact Or.inl h
theorem sw6 (x : Int32) : x = 0 ∨ x = 1 ∨ x = 2 ∨ x = 3 ∨ x = 4 ∨ x = 5 ∨ (x.toInt < 0 ∨ 5 < x.toInt) := by
  rcases sw_in x 6 (by decide) with ⟨j, hj, rfl⟩ | h
  · rcases (show j = 0 ∨ j = 1 ∨ j = 2 ∨ j = 3 ∨ j = 4 ∨ j = 5 by omega) with rfl | rfl | rfl | rfl | rfl | rfl
    · exact Or.inl rfl
    · exact Or.inr (Or.inl rfl)
    · exact Or.inr (Or.inr (Or.inl rfl))
    · exact Or.inr (Or.inr (Or.inr (Or.inl rfl)))
    · exact Or.inr (Or.inr (Or.inr (Or.inr (Or.inl rfl))))
    · exact Or.inr (Or.inr (Or.inr (Or.inr (Or.inr (Or.inl rfl)))))
  · exact Or.inr (Or.inr (Or.inr (Or.inr (Or.inr (Or.inr (by omega))))))
theorem sw8 (x : Int32) : x = 0 ∨ x = 1 ∨ x = 2 ∨ x = 3 ∨ x = 4 ∨ x = 5 ∨ x = 6 ∨ x = 7 ∨ ((¬ x = 0 ∧ ¬ x = 1 ∧ ¬ x = 2 ∧ ¬ x = 3 ∧ ¬ x = 4 ∧ ¬ x = 5 ∧ ¬ x = 6 ∧ ¬ x = 7) ∧ (x.toInt < 0 ∨ 7 < x.toInt)) := by
  rcases sw_in x 8 (by decide) with ⟨j, hj, rfl⟩ | h
  · rcases (show j = 0 ∨ j = 1 ∨ j = 2 ∨ j = 3 ∨ j = 4 ∨ j = 5 ∨ j = 6 ∨ j = 7 by omega) with rfl | rfl | rfl | rfl | rfl | rfl | rfl | rfl
    · exact Or.inl rfl
    · exact Or.inr (Or.inl rfl)
    · exact Or.inr (Or.inr (Or.inl rfl))
    · exact Or.inr (Or.inr (Or.inr (Or.inl rfl)))
    · exact Or.inr (Or.inr (Or.inr (Or.inr (Or.inl rfl))))
    · exact Or.inr (Or.inr (Or.inr (Or.inr (Or.inr (Or.inl rfl)))))
    · exact Or.inr (Or.inr (Or.inr (Or.inr (Or.inr (Or.inr (Or.inl rfl))))))
    · exact Or.inr (Or.inr (Or.inr (Or.inr (Or.inr (Or.inr (Or.inr (Or.inl rfl)))))))
  · have h2 : x.toInt < 0 ∨ 7 < x.toInt := by omega
    have ne : ∀ (k : Int32), 0 ≤ k.toInt → k.toInt ≤ 7 → ¬ x = k := fun k k1 k2 q => by subst q; omega
    exact Or.inr (Or.inr (Or.inr (Or.inr (Or.inr (Or.inr (Or.inr (Or.inr ⟨⟨ne 0 (by decide) (by decide), ne 1 (by decide) (by decide), ne 2 (by decide) (by decide), ne 3 (by decide) (by decide), ne 4 (by decide) (by decide), ne 5 (by decide) (by decide), ne 6 (by decide) (by decide), ne 7 (by decide) (by decide)⟩, h2⟩)))))))
theorem nI_m1 {t : Nat} (h : t < 2 ^ 31) : ¬ nI t = -1 := fun q => nI_pos h (by rw [q]; decide)
theorem ix_of {x : Int32} {K : Nat} (h0 : ¬ x < 0) (h1 : x < nI K) (hK : K < 2 ^ 31) : ∃ j, j < K ∧ x = nI j := by
  rcases ixc x K hK with h | h | h
  · exact h
  · exact absurd h h0
  · exact absurd h1 h
theorem takec (x : Int32) (n : Nat) (hn : n < 2 ^ 31) : x = -1 ∨ (∃ t, t < n ∧ x = nI t) ∨ ((x < 0 ∨ ¬ x < nI n) ∧ ¬ x = -1) := by
  by_cases h : x = -1
  · exact Or.inl h
  · rcases ixc x n hn with h1 | h1
    · exact Or.inr (Or.inl h1)
    · exact Or.inr (Or.inr ⟨h1, h⟩)
end
section
/-! The class's world, and the rows of its fields and arrays. kT kS kL: the places of the classes in vwCl; aliases RT FT tT .. of the names. -/
theorem inG {w : Cond} (h : w ∈ lw_tbl) (hg : goodWord w = true) : w ∈ wsG := List.mem_filter.mpr ⟨h, hg⟩
theorem inN {w : Cond} (h : w ∈ lw_tbl) (hg : isN w = true) : w ∈ wsN := List.mem_filter.mpr ⟨h, hg⟩
theorem iT : ∀ w ∈ u_ws RT FT 13, w ∈ wsG := fun w hw => inG ((by decide +kernel : ∀ w ∈ u_ws RT FT 13, w ∈ lw_tbl) w hw) ((by decide +kernel : ∀ w ∈ u_ws RT FT 13, goodWord w = true) w hw)
theorem fT_ref : ∀ k, k < 13 → (FT k).1 = RT := by decide +kernel
theorem fT_same (k : Nat) (hk : k < 13) (s : State) : ∀ x, s.fieldFound? (FT k).1 (FT k).2.1 (FT k).2.2.1 = some x → s.fieldFound? RT (FT k).2.1 (FT k).2.2.1 = some x := fun x h => by rw [fT_ref k hk] at h; exact h
theorem iS : ∀ w ∈ u_ws RS FS 10, w ∈ wsG := fun w hw => inG ((by decide +kernel : ∀ w ∈ u_ws RS FS 10, w ∈ lw_tbl) w hw) ((by decide +kernel : ∀ w ∈ u_ws RS FS 10, goodWord w = true) w hw)
theorem fS_ref : ∀ k, k < 10 → (FS k).1 = RS := by decide +kernel
theorem fS_same (k : Nat) (hk : k < 10) (s : State) : ∀ x, s.fieldFound? (FS k).1 (FS k).2.1 (FS k).2.2.1 = some x → s.fieldFound? RS (FS k).2.1 (FS k).2.2.1 = some x := fun x h => by rw [fS_ref k hk] at h; exact h
theorem iL : ∀ w ∈ u_ws RL_ FL_ 4, w ∈ wsG := fun w hw => inG ((by decide +kernel : ∀ w ∈ u_ws RL_ FL_ 4, w ∈ lw_tbl) w hw) ((by decide +kernel : ∀ w ∈ u_ws RL_ FL_ 4, goodWord w = true) w hw)
theorem fL_ref : ∀ k, k < 4 → (FL_ k).1 = RL_ := by decide +kernel
theorem fL_same (k : Nat) (hk : k < 4) (s : State) : ∀ x, s.fieldFound? (FL_ k).1 (FL_ k).2.1 (FL_ k).2.2.1 = some x → s.fieldFound? RL_ (FL_ k).2.1 (FL_ k).2.2.1 = some x := fun x h => by rw [fL_ref k hk] at h; exact h
theorem fT_fin0 : ∀ j, j < 11 → (FT (j + 2)).2.2.2 = false ∧ parseFieldDescriptor (FT (j + 2)).2.2.1 = some .int := by decide +kernel
theorem fT_fin (j : Nat) (hj : j < 11) : (FT (j + 2)).2.2.2 = false ∧ parseFieldDescriptor (FT (j + 2)).2.2.1 = some .int := fT_fin0 j hj
theorem fS_fin : ∀ j, j < 9 → (FS (j + 1)).2.2.2 = false := by decide +kernel
def fT (ad : Ad) (σ : St) : List Value := [.ref (ad 0 1), .ref (ad 0 2), .int (σ 0 0 0), .int (σ 0 0 1), .int (σ 0 0 2), .int (σ 0 0 3), .int (σ 0 0 4), .int (σ 0 0 5), .int (σ 0 0 6), .int (σ 0 0 7), .int (σ 0 0 8), .int (σ 0 0 9), .int (σ 0 0 10)]
def fS (ad : Ad) (σ : St) (t : Nat) : List Value := [.ref (ad 2 t), .int (σ 1 t 0), .int (σ 1 t 1), .int (σ 1 t 2), .int (σ 1 t 3), .int (σ 1 t 4), .int (σ 1 t 5), .int (σ 1 t 6), .int (σ 1 t 7), .int (σ 1 t 8)]
def fL (ad : Ad) (σ : St) (q : Nat) : List Value := [.ref (ad 4 q), .ref (ad 5 q), .ref (ad 6 q), .int (σ 3 q 0)]
abbrev eI (c : ClassId) (n : Nat) (f : Nat → Int32) : va_E := .inl (c, n, .inl f)
abbrev eQ (c : ClassId) (n : Nat) (f : Nat → Option Nat) : va_E := .inl (c, n, .inr (.inr (.inr (.inr f))))
def sT (ct : Ct) (ad : Ad) (N : Nat) (σ : St) : List (Nat × (Nat → Nat × va_E)) :=
  [(1, fun _ => (ad 0 0, .inr (kT, fT ad σ))), (1, fun _ => (ad 0 1, eQ (ct 1) N (fun t => some (ad 1 t)))), (1, fun _ => (ad 0 2, eQ (ct 2) 8 (fun q => some (ad 3 q)))),
   (N, fun t => (ad 1 t, .inr (kS, fS ad σ t))), (N, fun t => (ad 2 t, eI (ct 0) 16 (σ 2 t))), (8, fun q => (ad 3 q, .inr (kL, fL ad σ q))), (8, fun q => (ad 4 q, eI (ct 0) 32 (σ 4 q))), (8, fun q => (ad 5 q, eI (ct 0) 32 (σ 5 q))), (8, fun q => (ad 6 q, eI (ct 0) 16 (σ 6 q)))]
def wT (ct : Ct) (ad : Ad) (N : Nat) (σ : St) : va_W := sg (sT ct ad N σ)
theorem fT_su {ad : Ad} {σ : St} {v : Int32} : ∀ j, j < 11 → fT ad (su σ 0 0 j v) = (fT ad σ).set (j + 2) (.int v) := by
  intro j hj
  rcases (show j = 0 ∨ j = 1 ∨ j = 2 ∨ j = 3 ∨ j = 4 ∨ j = 5 ∨ j = 6 ∨ j = 7 ∨ j = 8 ∨ j = 9 ∨ j = 10 by omega) with rfl | rfl | rfl | rfl | rfl | rfl | rfl | rfl | rfl | rfl | rfl <;> simp [fT, su]
theorem fS_su {ad : Ad} {σ : St} {v : Int32} {t : Nat} : ∀ j, j < 9 → fS ad (su σ 1 t j v) t = (fS ad σ t).set (j + 1) (.int v) := by
  intro j hj
  rcases (show j = 0 ∨ j = 1 ∨ j = 2 ∨ j = 3 ∨ j = 4 ∨ j = 5 ∨ j = 6 ∨ j = 7 ∨ j = 8 by omega) with rfl | rfl | rfl | rfl | rfl | rfl | rfl | rfl | rfl <;> simp [fS, su]
theorem fS_ne {ad : Ad} {σ : St} {v : Int32} {t j t' : Nat} (h : t' ≠ t) : fS ad (su σ 1 t j v) t' = fS ad σ t' := by simp [fS, su, h]
theorem sT_0 {ct : Ct} {ad : Ad} {N j : Nat} {σ : St} {v : Int32} : sT ct ad N (su σ 0 0 j v) = (sT ct ad N σ).set 0 (1, fun _ => (ad 0 0, .inr (kT, fT ad (su σ 0 0 j v)))) := by
  simp [sT, fS, fL, su, su_r]
theorem sT_1 {ct : Ct} {ad : Ad} {N t j : Nat} {σ : St} {v : Int32} : sT ct ad N (su σ 1 t j v) = (sT ct ad N σ).set 3 (N, fun t' => (ad 1 t', .inr (kS, fS ad (su σ 1 t j v) t'))) := by
  simp [sT, fT, fL, su, su_r]
theorem sT_2 {ct : Ct} {ad : Ad} {N t j : Nat} {σ : St} {v : Int32} : sT ct ad N (su σ 2 t j v) = (sT ct ad N σ).set 4 (N, fun t' => (ad 2 t', eI (ct 0) 16 (su σ 2 t j v 2 t'))) := by
  simp [sT, fT, fS, fL, su, su_r]
theorem sT_3 {ct : Ct} {ad : Ad} {N q : Nat} {σ : St} {v : Int32} : sT ct ad N (su σ 3 q 0 v) = (sT ct ad N σ).set 5 (8, fun q' => (ad 3 q', .inr (kL, fL ad (su σ 3 q 0 v) q'))) := by
  simp [sT, fT, fS, su, su_r]
theorem sT_4 {ct : Ct} {ad : Ad} {N q j : Nat} {σ : St} {v : Int32} : sT ct ad N (su σ 4 q j v) = (sT ct ad N σ).set 6 (8, fun q' => (ad 4 q', eI (ct 0) 32 (su σ 4 q j v 4 q'))) := by
  simp [sT, fT, fS, fL, su, su_r]
theorem sT_5 {ct : Ct} {ad : Ad} {N q j : Nat} {σ : St} {v : Int32} : sT ct ad N (su σ 5 q j v) = (sT ct ad N σ).set 7 (8, fun q' => (ad 5 q', eI (ct 0) 32 (su σ 5 q j v 5 q'))) := by
  simp [sT, fT, fS, fL, su, su_r]
theorem sT_6 {ct : Ct} {ad : Ad} {N q j : Nat} {σ : St} {v : Int32} : sT ct ad N (su σ 6 q j v) = (sT ct ad N σ).set 8 (8, fun q' => (ad 6 q', eI (ct 0) 16 (su σ 6 q j v 6 q'))) := by
  simp [sT, fT, fS, fL, su, su_r]
theorem su_upd {σ : St} {a t j : Nat} {v : Int32} : su σ a t j v a t = upd (σ a t) j v := by
  funext z
  by_cases h : z = j
  · subst h; rw [su_eq]; simp [upd]
  · rw [su_n3 h]; simp [upd, h]
theorem su_row {σ : St} {a t j t' : Nat} {v : Int32} (h : t' ≠ t) : su σ a t j v a t' = σ a t' := by
  funext z
  exact su_n2 h
section Fields
variable {p : Program} {l : Launch} {e : Env} {R : Room} {s : State} {m : MethodId} {args : Array Value} {below : List Frame} {meth : Method} {c : Code} {H : Heap} {locs : List Loc} {cells slots : Nat} {Q : State → Prop}
variable {cc : ByteArray} {pc : Nat} {ls : Array Slot} {rest : List Value} {nL : Nat} {own host : String} {ct : Ct} {D : va_G} {A : Nat → Prop} {ad : Ad} {N index k t j q : Nat} {σ : St}
theorem tg_T (C : cx p l s m args meth c cc nL own ct D A) (hw : wl D A s (wT ct ad N σ) H locs) (k : Nat) (hlink : Cond.fieldLink own index RT (FT k).2.1 (FT k).2.2.1 ∈ wsG) (hk : k < 13) {v : Value} (hv : (fT ad σ)[k]? = some v) (hdg : decode cc pc = .ok (.getfield index, 3))
    (kk : W p l e R s m args below meth c H locs cells slots Q (F0 m (pc + 3) ls (v :: rest))) : W p l e R s m args below meth c H locs cells slots Q (F0 m pc ls (.ref (ad 0 0) :: rest)) := by
  obtain ⟨q0, h1, -⟩ := sg_at (sT ct ad N σ) 0 1 _ rfl 0 (by decide)
  exact va_get (ref := RT) C.1 C.2.1 C.2.2.2.2.1 iT C.2.2.2.1 C.2.2.2.2.2.1 hw.1 q0 h1 rfl k hk (C.2.2.2.2.1 _ hlink) (fT_same k hk _) hv hdg kk
theorem tg_S (C : cx p l s m args meth c cc nL own ct D A) (hw : wl D A s (wT ct ad N σ) H locs) (k : Nat) (hlink : Cond.fieldLinkNest own index RS (FS k).2.1 (FS k).2.2.1 host ∈ wsN) (hk : k < 10) (ht : t < N) {v : Value} (hv : (fS ad σ t)[k]? = some v) (hdg : decode cc pc = .ok (.getfield index, 3))
    (kk : W p l e R s m args below meth c H locs cells slots Q (F0 m (pc + 3) ls (v :: rest))) : W p l e R s m args below meth c H locs cells slots Q (F0 m pc ls (.ref (ad 1 t) :: rest)) := by
  obtain ⟨q0, h1, -⟩ := sg_at (sT ct ad N σ) 3 N _ rfl t ht
  exact va_getN (ref := RS) C.1 C.2.1 C.2.2.2.2.1 iS C.2.2.2.1 C.2.2.2.2.2.1 hw.1 q0 h1 rfl k hk (va_Nw.use rfl (C.2.2.2.2.2.2.1.1 _ hlink)) (fS_same k hk _) hv hdg kk
theorem tg_LN (C : cx p l s m args meth c cc nL own ct D A) (hw : wl D A s (wT ct ad N σ) H locs) (k : Nat) (hlink : Cond.fieldLinkNest own index RL_ (FL_ k).2.1 (FL_ k).2.2.1 host ∈ wsN) (hk : k < 4) (hq : q < 8) {v : Value} (hv : (fL ad σ q)[k]? = some v) (hdg : decode cc pc = .ok (.getfield index, 3))
    (kk : W p l e R s m args below meth c H locs cells slots Q (F0 m (pc + 3) ls (v :: rest))) : W p l e R s m args below meth c H locs cells slots Q (F0 m pc ls (.ref (ad 3 q) :: rest)) := by
  obtain ⟨q0, h1, -⟩ := sg_at (sT ct ad N σ) 5 8 _ rfl q hq
  exact va_getN (ref := RL_) C.1 C.2.1 C.2.2.2.2.1 iL C.2.2.2.1 C.2.2.2.2.2.1 hw.1 q0 h1 rfl k hk (va_Nw.use rfl (C.2.2.2.2.2.2.1.1 _ hlink)) (fL_same k hk _) hv hdg kk
theorem tg_L (C : cx p l s m args meth c cc nL own ct D A) (hw : wl D A s (wT ct ad N σ) H locs) (k : Nat) (hlink : Cond.fieldLink own index RL_ (FL_ k).2.1 (FL_ k).2.2.1 ∈ wsG) (hk : k < 4) (hq : q < 8) {v : Value} (hv : (fL ad σ q)[k]? = some v) (hdg : decode cc pc = .ok (.getfield index, 3))
    (kk : W p l e R s m args below meth c H locs cells slots Q (F0 m (pc + 3) ls (v :: rest))) : W p l e R s m args below meth c H locs cells slots Q (F0 m pc ls (.ref (ad 3 q) :: rest)) := by
  obtain ⟨q0, h1, -⟩ := sg_at (sT ct ad N σ) 5 8 _ rfl q hq
  exact va_get (ref := RL_) C.1 C.2.1 C.2.2.2.2.1 iL C.2.2.2.1 C.2.2.2.2.2.1 hw.1 q0 h1 rfl k hk (C.2.2.2.2.1 _ hlink) (fL_same k hk _) hv hdg kk
theorem tp_T (C : cx p l s m args meth c cc nL own ct D A) (hw : wl D A s (wT ct ad N σ) H locs) (j : Nat) (hlink : Cond.fieldLink own index RT (FT (j + 2)).2.1 (FT (j + 2)).2.2.1 ∈ wsG) (hj : j < 11) {v : Int32} (hdg : decode cc pc = .ok (.putfield index, 3))
    (kk : ∀ (H1 : Heap) (locs1 : List Loc), wl D A s (wT ct ad N (su σ 0 0 j v)) H1 locs1 → W p l e R s m args below meth c H1 locs1 cells slots Q (F0 m (pc + 3) ls rest)) : W p l e R s m args below meth c H locs cells slots Q (F0 m pc ls (.int v :: .ref (ad 0 0) :: rest)) := by
  obtain ⟨q0, h1, h2⟩ := sg_at (sT ct ad N σ) 0 1 _ rfl 0 (by decide)
  have h3 := h2 (ad 0 0, .inr (kT, (fT ad σ).set (j + 2) (.int v))) (fun _ => (ad 0 0, .inr (kT, fT ad (su σ 0 0 j v)))) (by rw [fT_su j hj]) (fun k hk hne => by omega)
  rw [← sT_0] at h3
  have h3 : (wT ct ad N σ).set q0 _ = wT ct ad N _ := h3
  refine va_put (ref := RT) (ty := .int) C.1 C.2.1 C.2.2.2.2.1 iT tT tT_ok nT C.2.2.2.1 C.2.2.2.2.2.1 hw.1 hw.2.1 hw.2.2 q0 h1 rfl (j + 2) (by omega) (C.2.2.2.2.1 _ hlink) (fT_same (j + 2) (by omega) _) (fT_fin j hj).1 (fT_fin j hj).2 rfl rfl (by simp [fT]; omega) hdg (fun H1 locs1 a b c => ?_)
  rw [h3] at a b
  exact kk H1 locs1 ⟨a, b, c⟩
theorem tp_S (C : cx p l s m args meth c cc nL own ct D A) (hw : wl D A s (wT ct ad N σ) H locs) (j : Nat) (hlink : Cond.fieldLinkNest own index RS (FS (j + 1)).2.1 (FS (j + 1)).2.2.1 host ∈ wsN) (hj : j < 9) (ht : t < N) {v : Int32} (hz : (j = 0 ∨ j = 8) → (v = 0 ∨ v = 1)) (hdg : decode cc pc = .ok (.putfield index, 3))
    (kk : ∀ (H1 : Heap) (locs1 : List Loc), wl D A s (wT ct ad N (su σ 1 t j v)) H1 locs1 → W p l e R s m args below meth c H1 locs1 cells slots Q (F0 m (pc + 3) ls rest)) : W p l e R s m args below meth c H locs cells slots Q (F0 m pc ls (.int v :: .ref (ad 1 t) :: rest)) := by
  obtain ⟨q0, h1, h2⟩ := sg_at (sT ct ad N σ) 3 N _ rfl t ht
  have h3 := h2 (ad 1 t, .inr (kS, (fS ad σ t).set (j + 1) (.int v))) (fun t' => (ad 1 t', .inr (kS, fS ad (su σ 1 t j v) t'))) (by rw [fS_su j hj]) (fun k hk hne => by rw [fS_ne hne])
  rw [← sT_1] at h3
  have h3 : (wT ct ad N σ).set q0 _ = wT ct ad N _ := h3
  have hty : ∃ ty, parseFieldDescriptor (FS (j + 1)).2.2.1 = some ty ∧ narrow ty (.int v) = .int v ∧ fits ty (.int v) = true := by
    by_cases hb : j = 0 ∨ j = 8
    · refine ⟨.boolean, ?_, ?_, ?_⟩
      · rcases hb with rfl | rfl <;> decide +kernel
      · rcases hz hb with rfl | rfl <;> rfl
      · rcases hz hb with rfl | rfl <;> rfl
    · refine ⟨.int, ?_, rfl, rfl⟩
      rcases (show j = 1 ∨ j = 2 ∨ j = 3 ∨ j = 4 ∨ j = 5 ∨ j = 6 ∨ j = 7 by omega) with rfl | rfl | rfl | rfl | rfl | rfl | rfl <;> decide +kernel
  obtain ⟨ty, e1, e2, e3⟩ := hty
  refine va_putN (ref := RS) (ty := ty) C.1 C.2.1 C.2.2.2.2.1 iS tS tS_ok nS C.2.2.2.1 C.2.2.2.2.2.1 hw.1 hw.2.1 hw.2.2 q0 h1 rfl (j + 1) (by omega) (va_Nw.use rfl (C.2.2.2.2.2.2.1.1 _ hlink)) (fS_same (j + 1) (by omega) _) (fS_fin j hj) e1 e2 e3 (by simp [fS]; omega) hdg (fun H1 locs1 a b c => ?_)
  rw [h3] at a b
  exact kk H1 locs1 ⟨a, b, c⟩
theorem tp_L (C : cx p l s m args meth c cc nL own ct D A) (hw : wl D A s (wT ct ad N σ) H locs) (hlink : Cond.fieldLink own index RL_ (FL_ 3).2.1 (FL_ 3).2.2.1 ∈ wsG) (hq : q < 8) {v : Int32} (hdg : decode cc pc = .ok (.putfield index, 3))
    (kk : ∀ (H1 : Heap) (locs1 : List Loc), wl D A s (wT ct ad N (su σ 3 q 0 v)) H1 locs1 → W p l e R s m args below meth c H1 locs1 cells slots Q (F0 m (pc + 3) ls rest)) : W p l e R s m args below meth c H locs cells slots Q (F0 m pc ls (.int v :: .ref (ad 3 q) :: rest)) := by
  obtain ⟨q0, h1, h2⟩ := sg_at (sT ct ad N σ) 5 8 _ rfl q hq
  have h3 := h2 (ad 3 q, .inr (kL, (fL ad σ q).set 3 (.int v))) (fun q' => (ad 3 q', .inr (kL, fL ad (su σ 3 q 0 v) q'))) (by simp [fL, su]) (fun k hk hne => by simp [fL, su, hne])
  rw [← sT_3] at h3
  have h3 : (wT ct ad N σ).set q0 _ = wT ct ad N _ := h3
  refine va_put (ref := RL_) (ty := .int) C.1 C.2.1 C.2.2.2.2.1 iL tL tL_ok nL_ C.2.2.2.1 C.2.2.2.2.2.1 hw.1 hw.2.1 hw.2.2 q0 h1 rfl 3 (by omega) (C.2.2.2.2.1 _ hlink) (fL_same 3 (by omega) _) rfl (by decide +kernel) rfl rfl (by simp [fL]) hdg (fun H1 locs1 a b c => ?_)
  rw [h3] at a b
  exact kk H1 locs1 ⟨a, b, c⟩
/-- lengths and elements of the class's arrays -/
theorem ta_lenS (C : cx p l s m args meth c cc nL own ct D A) (hw : wl D A s (wT ct ad N σ) H locs) (hdg : decode cc pc = .ok (.arraylength, 1)) (kk : W p l e R s m args below meth c H locs cells slots Q (F0 m (pc + 1) ls (.int (nI N) :: rest))) : W p l e R s m args below meth c H locs cells slots Q (F0 m pc ls (.ref (ad 0 1) :: rest)) := by
  obtain ⟨q0, h1, -⟩ := sg_at (sT ct ad N σ) 1 1 _ rfl 0 (by decide)
  exact va_alen C.1 C.2.1 C.2.2.2.2.2.1 hw.1 q0 1 h1 rfl rfl hdg kk
theorem ta_lenL (C : cx p l s m args meth c cc nL own ct D A) (hw : wl D A s (wT ct ad N σ) H locs) (hdg : decode cc pc = .ok (.arraylength, 1)) (kk : W p l e R s m args below meth c H locs cells slots Q (F0 m (pc + 1) ls (.int (nI 8) :: rest))) : W p l e R s m args below meth c H locs cells slots Q (F0 m pc ls (.ref (ad 0 2) :: rest)) := by
  obtain ⟨q0, h1, -⟩ := sg_at (sT ct ad N σ) 2 1 _ rfl 0 (by decide)
  exact va_alen C.1 C.2.1 C.2.2.2.2.2.1 hw.1 q0 2 h1 rfl rfl hdg kk
theorem ta_S (C : cx p l s m args meth c cc nL own ct D A) (hw : wl D A s (wT ct ad N σ) H locs) (hN : N ≤ 16) (ht : t < N) {i : Int32} (hi : i = nI t) (hdg : decode cc pc = .ok (.aaload, 1)) (kk : W p l e R s m args below meth c H locs cells slots Q (F0 m (pc + 1) ls (.ref (ad 1 t) :: rest))) : W p l e R s m args below meth c H locs cells slots Q (F0 m pc ls (.int i :: .ref (ad 0 1) :: rest)) := by
  subst hi
  obtain ⟨q0, h1, -⟩ := sg_at (sT ct ad N σ) 1 1 _ rfl 0 (by decide)
  refine va_aldq C.1 C.2.1 C.2.2.2.2.2.1 hw.1 q0 1 h1 rfl (vp_in_nI ht (by omega)) hdg ?_
  rw [nI_clamp (by omega)]
  exact kk
theorem ta_L (C : cx p l s m args meth c cc nL own ct D A) (hw : wl D A s (wT ct ad N σ) H locs) (hq : q < 8) {i : Int32} (hi : i = nI q) (hdg : decode cc pc = .ok (.aaload, 1)) (kk : W p l e R s m args below meth c H locs cells slots Q (F0 m (pc + 1) ls (.ref (ad 3 q) :: rest))) : W p l e R s m args below meth c H locs cells slots Q (F0 m pc ls (.int i :: .ref (ad 0 2) :: rest)) := by
  subst hi
  obtain ⟨q0, h1, -⟩ := sg_at (sT ct ad N σ) 2 1 _ rfl 0 (by decide)
  refine va_aldq C.1 C.2.1 C.2.2.2.2.2.1 hw.1 q0 2 h1 rfl (vp_in_nI hq (by omega)) hdg ?_
  rw [nI_clamp (by omega)]
  exact kk
theorem ta_g2 (C : cx p l s m args meth c cc nL own ct D A) (hw : wl D A s (wT ct ad N σ) H locs) (ht : t < N) (hk : k < 16) {i : Int32} (hi : i = nI k) (hdg : decode cc pc = .ok (.iaload, 1)) (kk : W p l e R s m args below meth c H locs cells slots Q (F0 m (pc + 1) ls (.int (σ 2 t k) :: rest))) : W p l e R s m args below meth c H locs cells slots Q (F0 m pc ls (.int i :: .ref (ad 2 t) :: rest)) := by
  subst hi
  obtain ⟨q0, h1, -⟩ := sg_at (sT ct ad N σ) 4 N _ rfl t ht
  refine va_iald C.1 C.2.1 C.2.2.2.2.2.1 hw.1 q0 0 h1 rfl (vp_in_nI hk (by omega)) hdg ?_
  rw [nI_clamp (by omega)]
  exact kk
theorem ta_p2 (C : cx p l s m args meth c cc nL own ct D A) (hw : wl D A s (wT ct ad N σ) H locs) (ht : t < N) (hk : k < 16) {i x : Int32} (hi : i = nI k) (hdg : decode cc pc = .ok (.iastore, 1)) (kk : ∀ (H1 : Heap) (locs1 : List Loc), wl D A s (wT ct ad N (su σ 2 t k x)) H1 locs1 → W p l e R s m args below meth c H1 locs1 cells slots Q (F0 m (pc + 1) ls rest)) : W p l e R s m args below meth c H locs cells slots Q (F0 m pc ls (.int x :: .int i :: .ref (ad 2 t) :: rest)) := by
  subst hi
  obtain ⟨q0, h1, h2⟩ := sg_at (sT ct ad N σ) 4 N _ rfl t ht
  have h3 := h2 (ad 2 t, eI (ct 0) 16 (upd (σ 2 t) k x)) (fun r => (ad 2 r, eI (ct 0) 16 (su σ 2 t k x 2 r))) (by rw [su_upd]) (fun r hr hne => by rw [su_row hne])
  rw [← sT_2] at h3
  have h3 : (wT ct ad N σ).set q0 _ = wT ct ad N _ := h3
  refine va_iast C.1 C.2.1 C.2.2.2.2.2.1 hw.1 hw.2.1 hw.2.2 q0 0 h1 rfl (vp_in_nI hk (by omega)) hdg (fun H1 locs1 a b c => ?_)
  rw [nI_clamp (by omega), h3] at a b
  exact kk H1 locs1 ⟨a, b, c⟩
theorem ta_g4 (C : cx p l s m args meth c cc nL own ct D A) (hw : wl D A s (wT ct ad N σ) H locs) (hq : q < 8) (hk : k < 32) {i : Int32} (hi : i = nI k) (hdg : decode cc pc = .ok (.iaload, 1)) (kk : W p l e R s m args below meth c H locs cells slots Q (F0 m (pc + 1) ls (.int (σ 4 q k) :: rest))) : W p l e R s m args below meth c H locs cells slots Q (F0 m pc ls (.int i :: .ref (ad 4 q) :: rest)) := by
  subst hi
  obtain ⟨q0, h1, -⟩ := sg_at (sT ct ad N σ) 6 8 _ rfl q hq
  refine va_iald C.1 C.2.1 C.2.2.2.2.2.1 hw.1 q0 0 h1 rfl (vp_in_nI hk (by omega)) hdg ?_
  rw [nI_clamp (by omega)]
  exact kk
theorem ta_p4 (C : cx p l s m args meth c cc nL own ct D A) (hw : wl D A s (wT ct ad N σ) H locs) (hq : q < 8) (hk : k < 32) {i x : Int32} (hi : i = nI k) (hdg : decode cc pc = .ok (.iastore, 1)) (kk : ∀ (H1 : Heap) (locs1 : List Loc), wl D A s (wT ct ad N (su σ 4 q k x)) H1 locs1 → W p l e R s m args below meth c H1 locs1 cells slots Q (F0 m (pc + 1) ls rest)) : W p l e R s m args below meth c H locs cells slots Q (F0 m pc ls (.int x :: .int i :: .ref (ad 4 q) :: rest)) := by
  subst hi
  obtain ⟨q0, h1, h2⟩ := sg_at (sT ct ad N σ) 6 8 _ rfl q hq
  have h3 := h2 (ad 4 q, eI (ct 0) 32 (upd (σ 4 q) k x)) (fun r => (ad 4 r, eI (ct 0) 32 (su σ 4 q k x 4 r))) (by rw [su_upd]) (fun r hr hne => by rw [su_row hne])
  rw [← sT_4] at h3
  have h3 : (wT ct ad N σ).set q0 _ = wT ct ad N _ := h3
  refine va_iast C.1 C.2.1 C.2.2.2.2.2.1 hw.1 hw.2.1 hw.2.2 q0 0 h1 rfl (vp_in_nI hk (by omega)) hdg (fun H1 locs1 a b c => ?_)
  rw [nI_clamp (by omega), h3] at a b
  exact kk H1 locs1 ⟨a, b, c⟩
theorem ta_g5 (C : cx p l s m args meth c cc nL own ct D A) (hw : wl D A s (wT ct ad N σ) H locs) (hq : q < 8) (hk : k < 32) {i : Int32} (hi : i = nI k) (hdg : decode cc pc = .ok (.iaload, 1)) (kk : W p l e R s m args below meth c H locs cells slots Q (F0 m (pc + 1) ls (.int (σ 5 q k) :: rest))) : W p l e R s m args below meth c H locs cells slots Q (F0 m pc ls (.int i :: .ref (ad 5 q) :: rest)) := by
  subst hi
  obtain ⟨q0, h1, -⟩ := sg_at (sT ct ad N σ) 7 8 _ rfl q hq
  refine va_iald C.1 C.2.1 C.2.2.2.2.2.1 hw.1 q0 0 h1 rfl (vp_in_nI hk (by omega)) hdg ?_
  rw [nI_clamp (by omega)]
  exact kk
theorem ta_p5 (C : cx p l s m args meth c cc nL own ct D A) (hw : wl D A s (wT ct ad N σ) H locs) (hq : q < 8) (hk : k < 32) {i x : Int32} (hi : i = nI k) (hdg : decode cc pc = .ok (.iastore, 1)) (kk : ∀ (H1 : Heap) (locs1 : List Loc), wl D A s (wT ct ad N (su σ 5 q k x)) H1 locs1 → W p l e R s m args below meth c H1 locs1 cells slots Q (F0 m (pc + 1) ls rest)) : W p l e R s m args below meth c H locs cells slots Q (F0 m pc ls (.int x :: .int i :: .ref (ad 5 q) :: rest)) := by
  subst hi
  obtain ⟨q0, h1, h2⟩ := sg_at (sT ct ad N σ) 7 8 _ rfl q hq
  have h3 := h2 (ad 5 q, eI (ct 0) 32 (upd (σ 5 q) k x)) (fun r => (ad 5 r, eI (ct 0) 32 (su σ 5 q k x 5 r))) (by rw [su_upd]) (fun r hr hne => by rw [su_row hne])
  rw [← sT_5] at h3
  have h3 : (wT ct ad N σ).set q0 _ = wT ct ad N _ := h3
  refine va_iast C.1 C.2.1 C.2.2.2.2.2.1 hw.1 hw.2.1 hw.2.2 q0 0 h1 rfl (vp_in_nI hk (by omega)) hdg (fun H1 locs1 a b c => ?_)
  rw [nI_clamp (by omega), h3] at a b
  exact kk H1 locs1 ⟨a, b, c⟩
theorem ta_g6 (C : cx p l s m args meth c cc nL own ct D A) (hw : wl D A s (wT ct ad N σ) H locs) (hq : q < 8) (hk : k < 16) {i : Int32} (hi : i = nI k) (hdg : decode cc pc = .ok (.iaload, 1)) (kk : W p l e R s m args below meth c H locs cells slots Q (F0 m (pc + 1) ls (.int (σ 6 q k) :: rest))) : W p l e R s m args below meth c H locs cells slots Q (F0 m pc ls (.int i :: .ref (ad 6 q) :: rest)) := by
  subst hi
  obtain ⟨q0, h1, -⟩ := sg_at (sT ct ad N σ) 8 8 _ rfl q hq
  refine va_iald C.1 C.2.1 C.2.2.2.2.2.1 hw.1 q0 0 h1 rfl (vp_in_nI hk (by omega)) hdg ?_
  rw [nI_clamp (by omega)]
  exact kk
theorem ta_p6 (C : cx p l s m args meth c cc nL own ct D A) (hw : wl D A s (wT ct ad N σ) H locs) (hq : q < 8) (hk : k < 16) {i x : Int32} (hi : i = nI k) (hdg : decode cc pc = .ok (.iastore, 1)) (kk : ∀ (H1 : Heap) (locs1 : List Loc), wl D A s (wT ct ad N (su σ 6 q k x)) H1 locs1 → W p l e R s m args below meth c H1 locs1 cells slots Q (F0 m (pc + 1) ls rest)) : W p l e R s m args below meth c H locs cells slots Q (F0 m pc ls (.int x :: .int i :: .ref (ad 6 q) :: rest)) := by
  subst hi
  obtain ⟨q0, h1, h2⟩ := sg_at (sT ct ad N σ) 8 8 _ rfl q hq
  have h3 := h2 (ad 6 q, eI (ct 0) 16 (upd (σ 6 q) k x)) (fun r => (ad 6 r, eI (ct 0) 16 (su σ 6 q k x 6 r))) (by rw [su_upd]) (fun r hr hne => by rw [su_row hne])
  rw [← sT_6] at h3
  have h3 : (wT ct ad N σ).set q0 _ = wT ct ad N _ := h3
  refine va_iast C.1 C.2.1 C.2.2.2.2.2.1 hw.1 hw.2.1 hw.2.2 q0 0 h1 rfl (vp_in_nI hk (by omega)) hdg (fun H1 locs1 a b c => ?_)
  rw [nI_clamp (by omega), h3] at a b
  exact kk H1 locs1 ⟨a, b, c⟩
end Fields
theorem gV {own K : String} {idx yL : Nat} {y : MethodName} {yc : ByteArray} {ret : Option FieldType} (h1 : Cond.methodLink own idx y ∈ lw_tbl) (h2 : Cond.instanceMethod y ∈ lw_tbl) (h3 : Cond.selects K y y ∈ lw_tbl) (h4 : Cond.initialized K ∈ lw_tbl) (h5 : Cond.code y yc yL ret ∈ lw_tbl) : GoodIn wsG (wsV own idx K y (.code y yc yL ret :: wsG)) := by
  intro w hw
  unfold wsV at hw
  rcases List.mem_append.mp hw with hw | hw
  · simp only [List.mem_cons, List.not_mem_nil, or_false] at hw
    rcases hw with rfl | rfl | rfl | rfl
    · exact ⟨inG h1 rfl, Or.inl rfl⟩
    · exact ⟨inG h2 rfl, Or.inl rfl⟩
    · exact ⟨inG h3 rfl, Or.inl rfl⟩
    · exact ⟨inG h4 rfl, Or.inl rfl⟩
  · exact wsG_in h5 w hw
theorem gS {own : String} {idx yL : Nat} {y : MethodName} {yc : ByteArray} {ret : Option FieldType} (h1 : Cond.methodLink own idx y ∈ lw_tbl) (h2 : Cond.static y ∈ lw_tbl) (h4 : Cond.initialized y.cls ∈ lw_tbl) (h5 : Cond.code y yc yL ret ∈ lw_tbl) : GoodIn wsG (va_wsS own idx y (.code y yc yL ret :: wsG)) := by
  intro w hw
  unfold va_wsS at hw
  rcases List.mem_append.mp hw with hw | hw
  · simp only [List.mem_cons, List.not_mem_nil, or_false] at hw
    rcases hw with rfl | rfl | rfl
    · exact ⟨inG h1 rfl, Or.inl rfl⟩
    · exact ⟨inG h2 rfl, Or.inl rfl⟩
    · exact ⟨inG h4 rfl, Or.inl rfl⟩
  · exact wsG_in h5 w hw
end
section
theorem inGN {w : Cond} (h : w ∈ lw_tbl) (hg : (goodWord w || isN w) = true) : w ∈ wsG ∨ w ∈ wsN := by
  rcases Bool.or_eq_true _ _ |>.mp hg with q | q
  · exact Or.inl (inG h q)
  · exact Or.inr (inN h q)
theorem hd_T_init : yT_init.cls ≠ "java/lang/invoke/MethodHandle" ∧ yT_init.cls ≠ "java/lang/invoke/VarHandle" ∧ (parseMethodDescriptor yT_init.desc).map (fun d => d.parameters.length) = some 2 := by decide +kernel
theorem hv_T_init : yT_init.cls = "ThreadSlots" ∧ yT_init.cls ≠ "java/lang/invoke/MethodHandle" ∧ yT_init.cls ≠ "java/lang/invoke/VarHandle" ∧ (parseMethodDescriptor yT_init.desc).map (fun d => d.parameters.length) = some 2 := ⟨rfl, hd_T_init⟩
theorem hd_T_rule : yT_rule.cls ≠ "java/lang/invoke/MethodHandle" ∧ yT_rule.cls ≠ "java/lang/invoke/VarHandle" ∧ (parseMethodDescriptor yT_rule.desc).map (fun d => d.parameters.length) = some 1 := by decide +kernel
theorem hv_T_rule : yT_rule.cls = "ThreadSlots" ∧ yT_rule.cls ≠ "java/lang/invoke/MethodHandle" ∧ yT_rule.cls ≠ "java/lang/invoke/VarHandle" ∧ (parseMethodDescriptor yT_rule.desc).map (fun d => d.parameters.length) = some 1 := ⟨rfl, hd_T_rule⟩
theorem hd_T_bound : yT_bound.cls ≠ "java/lang/invoke/MethodHandle" ∧ yT_bound.cls ≠ "java/lang/invoke/VarHandle" ∧ (parseMethodDescriptor yT_bound.desc).map (fun d => d.parameters.length) = some 1 := by decide +kernel
theorem hv_T_bound : yT_bound.cls = "ThreadSlots" ∧ yT_bound.cls ≠ "java/lang/invoke/MethodHandle" ∧ yT_bound.cls ≠ "java/lang/invoke/VarHandle" ∧ (parseMethodDescriptor yT_bound.desc).map (fun d => d.parameters.length) = some 1 := ⟨rfl, hd_T_bound⟩
theorem hd_T_cost : yT_cost.cls ≠ "java/lang/invoke/MethodHandle" ∧ yT_cost.cls ≠ "java/lang/invoke/VarHandle" ∧ (parseMethodDescriptor yT_cost.desc).map (fun d => d.parameters.length) = some 1 := by decide +kernel
theorem hv_T_cost : yT_cost.cls = "ThreadSlots" ∧ yT_cost.cls ≠ "java/lang/invoke/MethodHandle" ∧ yT_cost.cls ≠ "java/lang/invoke/VarHandle" ∧ (parseMethodDescriptor yT_cost.desc).map (fun d => d.parameters.length) = some 1 := ⟨rfl, hd_T_cost⟩
theorem hd_T_ready : yT_ready.cls ≠ "java/lang/invoke/MethodHandle" ∧ yT_ready.cls ≠ "java/lang/invoke/VarHandle" ∧ (parseMethodDescriptor yT_ready.desc).map (fun d => d.parameters.length) = some 2 := by decide +kernel
theorem hv_T_ready : yT_ready.cls = "ThreadSlots" ∧ yT_ready.cls ≠ "java/lang/invoke/MethodHandle" ∧ yT_ready.cls ≠ "java/lang/invoke/VarHandle" ∧ (parseMethodDescriptor yT_ready.desc).map (fun d => d.parameters.length) = some 2 := ⟨rfl, hd_T_ready⟩
theorem hd_T_rank : yT_rank.cls ≠ "java/lang/invoke/MethodHandle" ∧ yT_rank.cls ≠ "java/lang/invoke/VarHandle" ∧ (parseMethodDescriptor yT_rank.desc).map (fun d => d.parameters.length) = some 2 := by decide +kernel
theorem hv_T_rank : yT_rank.cls = "ThreadSlots" ∧ yT_rank.cls ≠ "java/lang/invoke/MethodHandle" ∧ yT_rank.cls ≠ "java/lang/invoke/VarHandle" ∧ (parseMethodDescriptor yT_rank.desc).map (fun d => d.parameters.length) = some 2 := ⟨rfl, hd_T_rank⟩
theorem hd_T_sleep : yT_sleep.cls ≠ "java/lang/invoke/MethodHandle" ∧ yT_sleep.cls ≠ "java/lang/invoke/VarHandle" ∧ (parseMethodDescriptor yT_sleep.desc).map (fun d => d.parameters.length) = some 2 := by decide +kernel
theorem hv_T_sleep : yT_sleep.cls = "ThreadSlots" ∧ yT_sleep.cls ≠ "java/lang/invoke/MethodHandle" ∧ yT_sleep.cls ≠ "java/lang/invoke/VarHandle" ∧ (parseMethodDescriptor yT_sleep.desc).map (fun d => d.parameters.length) = some 2 := ⟨rfl, hd_T_sleep⟩
theorem hd_T_miss : yT_miss.cls ≠ "java/lang/invoke/MethodHandle" ∧ yT_miss.cls ≠ "java/lang/invoke/VarHandle" ∧ (parseMethodDescriptor yT_miss.desc).map (fun d => d.parameters.length) = some 1 := by decide +kernel
theorem hv_T_miss : yT_miss.cls = "ThreadSlots" ∧ yT_miss.cls ≠ "java/lang/invoke/MethodHandle" ∧ yT_miss.cls ≠ "java/lang/invoke/VarHandle" ∧ (parseMethodDescriptor yT_miss.desc).map (fun d => d.parameters.length) = some 1 := ⟨rfl, hd_T_miss⟩
theorem hd_T_cycle : yT_cycle.cls ≠ "java/lang/invoke/MethodHandle" ∧ yT_cycle.cls ≠ "java/lang/invoke/VarHandle" ∧ (parseMethodDescriptor yT_cycle.desc).map (fun d => d.parameters.length) = some 0 := by decide +kernel
theorem hv_T_cycle : yT_cycle.cls = "ThreadSlots" ∧ yT_cycle.cls ≠ "java/lang/invoke/MethodHandle" ∧ yT_cycle.cls ≠ "java/lang/invoke/VarHandle" ∧ (parseMethodDescriptor yT_cycle.desc).map (fun d => d.parameters.length) = some 0 := ⟨rfl, hd_T_cycle⟩
theorem hd_T_run : yT_run.cls ≠ "java/lang/invoke/MethodHandle" ∧ yT_run.cls ≠ "java/lang/invoke/VarHandle" ∧ (parseMethodDescriptor yT_run.desc).map (fun d => d.parameters.length) = some 1 := by decide +kernel
theorem hv_T_run : yT_run.cls = "ThreadSlots" ∧ yT_run.cls ≠ "java/lang/invoke/MethodHandle" ∧ yT_run.cls ≠ "java/lang/invoke/VarHandle" ∧ (parseMethodDescriptor yT_run.desc).map (fun d => d.parameters.length) = some 1 := ⟨rfl, hd_T_run⟩
theorem hd_T_part : yT_part.cls ≠ "java/lang/invoke/MethodHandle" ∧ yT_part.cls ≠ "java/lang/invoke/VarHandle" ∧ (parseMethodDescriptor yT_part.desc).map (fun d => d.parameters.length) = some 3 := by decide +kernel
theorem hv_T_part : yT_part.cls = "ThreadSlots" ∧ yT_part.cls ≠ "java/lang/invoke/MethodHandle" ∧ yT_part.cls ≠ "java/lang/invoke/VarHandle" ∧ (parseMethodDescriptor yT_part.desc).map (fun d => d.parameters.length) = some 3 := ⟨rfl, hd_T_part⟩
theorem hd_T_put : yT_put.cls ≠ "java/lang/invoke/MethodHandle" ∧ yT_put.cls ≠ "java/lang/invoke/VarHandle" ∧ (parseMethodDescriptor yT_put.desc).map (fun d => d.parameters.length) = some 3 := by decide +kernel
theorem hv_T_put : yT_put.cls = "ThreadSlots" ∧ yT_put.cls ≠ "java/lang/invoke/MethodHandle" ∧ yT_put.cls ≠ "java/lang/invoke/VarHandle" ∧ (parseMethodDescriptor yT_put.desc).map (fun d => d.parameters.length) = some 3 := ⟨rfl, hd_T_put⟩
theorem hd_T_take : yT_take.cls ≠ "java/lang/invoke/MethodHandle" ∧ yT_take.cls ≠ "java/lang/invoke/VarHandle" ∧ (parseMethodDescriptor yT_take.desc).map (fun d => d.parameters.length) = some 2 := by decide +kernel
theorem hv_T_take : yT_take.cls = "ThreadSlots" ∧ yT_take.cls ≠ "java/lang/invoke/MethodHandle" ∧ yT_take.cls ≠ "java/lang/invoke/VarHandle" ∧ (parseMethodDescriptor yT_take.desc).map (fun d => d.parameters.length) = some 2 := ⟨rfl, hd_T_take⟩
theorem hd_T_entry : yT_entry.cls ≠ "java/lang/invoke/MethodHandle" ∧ yT_entry.cls ≠ "java/lang/invoke/VarHandle" ∧ (parseMethodDescriptor yT_entry.desc).map (fun d => d.parameters.length) = some 3 := by decide +kernel
theorem hv_T_entry : yT_entry.cls = "ThreadSlots" ∧ yT_entry.cls ≠ "java/lang/invoke/MethodHandle" ∧ yT_entry.cls ≠ "java/lang/invoke/VarHandle" ∧ (parseMethodDescriptor yT_entry.desc).map (fun d => d.parameters.length) = some 3 := ⟨rfl, hd_T_entry⟩
theorem hd_T_set : yT_set.cls ≠ "java/lang/invoke/MethodHandle" ∧ yT_set.cls ≠ "java/lang/invoke/VarHandle" ∧ (parseMethodDescriptor yT_set.desc).map (fun d => d.parameters.length) = some 2 := by decide +kernel
theorem hv_T_set : yT_set.cls = "ThreadSlots" ∧ yT_set.cls ≠ "java/lang/invoke/MethodHandle" ∧ yT_set.cls ≠ "java/lang/invoke/VarHandle" ∧ (parseMethodDescriptor yT_set.desc).map (fun d => d.parameters.length) = some 2 := ⟨rfl, hd_T_set⟩
theorem hd_T_register : yT_register.cls ≠ "java/lang/invoke/MethodHandle" ∧ yT_register.cls ≠ "java/lang/invoke/VarHandle" ∧ (parseMethodDescriptor yT_register.desc).map (fun d => d.parameters.length) = some 2 := by decide +kernel
theorem hv_T_register : yT_register.cls = "ThreadSlots" ∧ yT_register.cls ≠ "java/lang/invoke/MethodHandle" ∧ yT_register.cls ≠ "java/lang/invoke/VarHandle" ∧ (parseMethodDescriptor yT_register.desc).map (fun d => d.parameters.length) = some 2 := ⟨rfl, hd_T_register⟩
theorem hd_T_thread : yT_thread.cls ≠ "java/lang/invoke/MethodHandle" ∧ yT_thread.cls ≠ "java/lang/invoke/VarHandle" ∧ (parseMethodDescriptor yT_thread.desc).map (fun d => d.parameters.length) = some 2 := by decide +kernel
theorem hv_T_thread : yT_thread.cls = "ThreadSlots" ∧ yT_thread.cls ≠ "java/lang/invoke/MethodHandle" ∧ yT_thread.cls ≠ "java/lang/invoke/VarHandle" ∧ (parseMethodDescriptor yT_thread.desc).map (fun d => d.parameters.length) = some 2 := ⟨rfl, hd_T_thread⟩
theorem hd_T_share : yT_share.cls ≠ "java/lang/invoke/MethodHandle" ∧ yT_share.cls ≠ "java/lang/invoke/VarHandle" ∧ (parseMethodDescriptor yT_share.desc).map (fun d => d.parameters.length) = some 2 := by decide +kernel
theorem hv_T_share : yT_share.cls = "ThreadSlots" ∧ yT_share.cls ≠ "java/lang/invoke/MethodHandle" ∧ yT_share.cls ≠ "java/lang/invoke/VarHandle" ∧ (parseMethodDescriptor yT_share.desc).map (fun d => d.parameters.length) = some 2 := ⟨rfl, hd_T_share⟩
theorem hd_T_count : yT_count.cls ≠ "java/lang/invoke/MethodHandle" ∧ yT_count.cls ≠ "java/lang/invoke/VarHandle" ∧ (parseMethodDescriptor yT_count.desc).map (fun d => d.parameters.length) = some 1 := by decide +kernel
theorem hv_T_count : yT_count.cls = "ThreadSlots" ∧ yT_count.cls ≠ "java/lang/invoke/MethodHandle" ∧ yT_count.cls ≠ "java/lang/invoke/VarHandle" ∧ (parseMethodDescriptor yT_count.desc).map (fun d => d.parameters.length) = some 1 := ⟨rfl, hd_T_count⟩
theorem hd_T_playCycle : yT_playCycle.cls ≠ "java/lang/invoke/MethodHandle" ∧ yT_playCycle.cls ≠ "java/lang/invoke/VarHandle" ∧ (parseMethodDescriptor yT_playCycle.desc).map (fun d => d.parameters.length) = some 0 := by decide +kernel
theorem hv_T_playCycle : yT_playCycle.cls = "ThreadSlots" ∧ yT_playCycle.cls ≠ "java/lang/invoke/MethodHandle" ∧ yT_playCycle.cls ≠ "java/lang/invoke/VarHandle" ∧ (parseMethodDescriptor yT_playCycle.desc).map (fun d => d.parameters.length) = some 0 := ⟨rfl, hd_T_playCycle⟩
theorem hd_T_seeWhoCanGo : yT_seeWhoCanGo.cls ≠ "java/lang/invoke/MethodHandle" ∧ yT_seeWhoCanGo.cls ≠ "java/lang/invoke/VarHandle" ∧ (parseMethodDescriptor yT_seeWhoCanGo.desc).map (fun d => d.parameters.length) = some 0 := by decide +kernel
theorem hv_T_seeWhoCanGo : yT_seeWhoCanGo.cls = "ThreadSlots" ∧ yT_seeWhoCanGo.cls ≠ "java/lang/invoke/MethodHandle" ∧ yT_seeWhoCanGo.cls ≠ "java/lang/invoke/VarHandle" ∧ (parseMethodDescriptor yT_seeWhoCanGo.desc).map (fun d => d.parameters.length) = some 0 := ⟨rfl, hd_T_seeWhoCanGo⟩
theorem hd_T_findGoer : yT_findGoer.cls ≠ "java/lang/invoke/MethodHandle" ∧ yT_findGoer.cls ≠ "java/lang/invoke/VarHandle" ∧ (parseMethodDescriptor yT_findGoer.desc).map (fun d => d.parameters.length) = some 0 := by decide +kernel
theorem hv_T_findGoer : yT_findGoer.cls = "ThreadSlots" ∧ yT_findGoer.cls ≠ "java/lang/invoke/MethodHandle" ∧ yT_findGoer.cls ≠ "java/lang/invoke/VarHandle" ∧ (parseMethodDescriptor yT_findGoer.desc).map (fun d => d.parameters.length) = some 0 := ⟨rfl, hd_T_findGoer⟩
theorem hd_T_beginChangeTo : yT_beginChangeTo.cls ≠ "java/lang/invoke/MethodHandle" ∧ yT_beginChangeTo.cls ≠ "java/lang/invoke/VarHandle" ∧ (parseMethodDescriptor yT_beginChangeTo.desc).map (fun d => d.parameters.length) = some 1 := by decide +kernel
theorem hv_T_beginChangeTo : yT_beginChangeTo.cls = "ThreadSlots" ∧ yT_beginChangeTo.cls ≠ "java/lang/invoke/MethodHandle" ∧ yT_beginChangeTo.cls ≠ "java/lang/invoke/VarHandle" ∧ (parseMethodDescriptor yT_beginChangeTo.desc).map (fun d => d.parameters.length) = some 1 := ⟨rfl, hd_T_beginChangeTo⟩
theorem hd_T_letOthersWait : yT_letOthersWait.cls ≠ "java/lang/invoke/MethodHandle" ∧ yT_letOthersWait.cls ≠ "java/lang/invoke/VarHandle" ∧ (parseMethodDescriptor yT_letOthersWait.desc).map (fun d => d.parameters.length) = some 1 := by decide +kernel
theorem hv_T_letOthersWait : yT_letOthersWait.cls = "ThreadSlots" ∧ yT_letOthersWait.cls ≠ "java/lang/invoke/MethodHandle" ∧ yT_letOthersWait.cls ≠ "java/lang/invoke/VarHandle" ∧ (parseMethodDescriptor yT_letOthersWait.desc).map (fun d => d.parameters.length) = some 1 := ⟨rfl, hd_T_letOthersWait⟩
theorem hd_T_letGo : yT_letGo.cls ≠ "java/lang/invoke/MethodHandle" ∧ yT_letGo.cls ≠ "java/lang/invoke/VarHandle" ∧ (parseMethodDescriptor yT_letGo.desc).map (fun d => d.parameters.length) = some 1 := by decide +kernel
theorem hv_T_letGo : yT_letGo.cls = "ThreadSlots" ∧ yT_letGo.cls ≠ "java/lang/invoke/MethodHandle" ∧ yT_letGo.cls ≠ "java/lang/invoke/VarHandle" ∧ (parseMethodDescriptor yT_letGo.desc).map (fun d => d.parameters.length) = some 1 := ⟨rfl, hd_T_letGo⟩
theorem hd_T_choose : yT_choose.cls ≠ "java/lang/invoke/MethodHandle" ∧ yT_choose.cls ≠ "java/lang/invoke/VarHandle" ∧ (parseMethodDescriptor yT_choose.desc).map (fun d => d.parameters.length) = some 0 := by decide +kernel
theorem hv_T_choose : yT_choose.cls = "ThreadSlots" ∧ yT_choose.cls ≠ "java/lang/invoke/MethodHandle" ∧ yT_choose.cls ≠ "java/lang/invoke/VarHandle" ∧ (parseMethodDescriptor yT_choose.desc).map (fun d => d.parameters.length) = some 0 := ⟨rfl, hd_T_choose⟩
theorem hd_T_findOverdue : yT_findOverdue.cls ≠ "java/lang/invoke/MethodHandle" ∧ yT_findOverdue.cls ≠ "java/lang/invoke/VarHandle" ∧ (parseMethodDescriptor yT_findOverdue.desc).map (fun d => d.parameters.length) = some 0 := by decide +kernel
theorem hv_T_findOverdue : yT_findOverdue.cls = "ThreadSlots" ∧ yT_findOverdue.cls ≠ "java/lang/invoke/MethodHandle" ∧ yT_findOverdue.cls ≠ "java/lang/invoke/VarHandle" ∧ (parseMethodDescriptor yT_findOverdue.desc).map (fun d => d.parameters.length) = some 0 := ⟨rfl, hd_T_findOverdue⟩
theorem hd_T_greatestRank : yT_greatestRank.cls ≠ "java/lang/invoke/MethodHandle" ∧ yT_greatestRank.cls ≠ "java/lang/invoke/VarHandle" ∧ (parseMethodDescriptor yT_greatestRank.desc).map (fun d => d.parameters.length) = some 0 := by decide +kernel
theorem hv_T_greatestRank : yT_greatestRank.cls = "ThreadSlots" ∧ yT_greatestRank.cls ≠ "java/lang/invoke/MethodHandle" ∧ yT_greatestRank.cls ≠ "java/lang/invoke/VarHandle" ∧ (parseMethodDescriptor yT_greatestRank.desc).map (fun d => d.parameters.length) = some 0 := ⟨rfl, hd_T_greatestRank⟩
theorem hd_T_isCandidate : yT_isCandidate.cls ≠ "java/lang/invoke/MethodHandle" ∧ yT_isCandidate.cls ≠ "java/lang/invoke/VarHandle" ∧ (parseMethodDescriptor yT_isCandidate.desc).map (fun d => d.parameters.length) = some 2 := by decide +kernel
theorem hv_T_isCandidate : yT_isCandidate.cls = "ThreadSlots" ∧ yT_isCandidate.cls ≠ "java/lang/invoke/MethodHandle" ∧ yT_isCandidate.cls ≠ "java/lang/invoke/VarHandle" ∧ (parseMethodDescriptor yT_isCandidate.desc).map (fun d => d.parameters.length) = some 2 := ⟨rfl, hd_T_isCandidate⟩
theorem hd_T_findNextInTurn : yT_findNextInTurn.cls ≠ "java/lang/invoke/MethodHandle" ∧ yT_findNextInTurn.cls ≠ "java/lang/invoke/VarHandle" ∧ (parseMethodDescriptor yT_findNextInTurn.desc).map (fun d => d.parameters.length) = some 1 := by decide +kernel
theorem hv_T_findNextInTurn : yT_findNextInTurn.cls = "ThreadSlots" ∧ yT_findNextInTurn.cls ≠ "java/lang/invoke/MethodHandle" ∧ yT_findNextInTurn.cls ≠ "java/lang/invoke/VarHandle" ∧ (parseMethodDescriptor yT_findNextInTurn.desc).map (fun d => d.parameters.length) = some 1 := ⟨rfl, hd_T_findNextInTurn⟩
theorem hd_T_findFewest : yT_findFewest.cls ≠ "java/lang/invoke/MethodHandle" ∧ yT_findFewest.cls ≠ "java/lang/invoke/VarHandle" ∧ (parseMethodDescriptor yT_findFewest.desc).map (fun d => d.parameters.length) = some 1 := by decide +kernel
theorem hv_T_findFewest : yT_findFewest.cls = "ThreadSlots" ∧ yT_findFewest.cls ≠ "java/lang/invoke/MethodHandle" ∧ yT_findFewest.cls ≠ "java/lang/invoke/VarHandle" ∧ (parseMethodDescriptor yT_findFewest.desc).map (fun d => d.parameters.length) = some 1 := ⟨rfl, hd_T_findFewest⟩
theorem hd_T_findBySeed : yT_findBySeed.cls ≠ "java/lang/invoke/MethodHandle" ∧ yT_findBySeed.cls ≠ "java/lang/invoke/VarHandle" ∧ (parseMethodDescriptor yT_findBySeed.desc).map (fun d => d.parameters.length) = some 1 := by decide +kernel
theorem hv_T_findBySeed : yT_findBySeed.cls = "ThreadSlots" ∧ yT_findBySeed.cls ≠ "java/lang/invoke/MethodHandle" ∧ yT_findBySeed.cls ≠ "java/lang/invoke/VarHandle" ∧ (parseMethodDescriptor yT_findBySeed.desc).map (fun d => d.parameters.length) = some 1 := ⟨rfl, hd_T_findBySeed⟩
theorem hd_T_entriesInAll : yT_entriesInAll.cls ≠ "java/lang/invoke/MethodHandle" ∧ yT_entriesInAll.cls ≠ "java/lang/invoke/VarHandle" ∧ (parseMethodDescriptor yT_entriesInAll.desc).map (fun d => d.parameters.length) = some 0 := by decide +kernel
theorem hv_T_entriesInAll : yT_entriesInAll.cls = "ThreadSlots" ∧ yT_entriesInAll.cls ≠ "java/lang/invoke/MethodHandle" ∧ yT_entriesInAll.cls ≠ "java/lang/invoke/VarHandle" ∧ (parseMethodDescriptor yT_entriesInAll.desc).map (fun d => d.parameters.length) = some 0 := ⟨rfl, hd_T_entriesInAll⟩
theorem hd_T_strandOf : yT_strandOf.cls ≠ "java/lang/invoke/MethodHandle" ∧ yT_strandOf.cls ≠ "java/lang/invoke/VarHandle" ∧ (parseMethodDescriptor yT_strandOf.desc).map (fun d => d.parameters.length) = some 1 := by decide +kernel
theorem hv_T_strandOf : yT_strandOf.cls = "ThreadSlots" ∧ yT_strandOf.cls ≠ "java/lang/invoke/MethodHandle" ∧ yT_strandOf.cls ≠ "java/lang/invoke/VarHandle" ∧ (parseMethodDescriptor yT_strandOf.desc).map (fun d => d.parameters.length) = some 1 := ⟨rfl, hd_T_strandOf⟩
theorem hd_T_lineOf : yT_lineOf.cls ≠ "java/lang/invoke/MethodHandle" ∧ yT_lineOf.cls ≠ "java/lang/invoke/VarHandle" ∧ (parseMethodDescriptor yT_lineOf.desc).map (fun d => d.parameters.length) = some 1 := by decide +kernel
theorem hv_T_lineOf : yT_lineOf.cls = "ThreadSlots" ∧ yT_lineOf.cls ≠ "java/lang/invoke/MethodHandle" ∧ yT_lineOf.cls ≠ "java/lang/invoke/VarHandle" ∧ (parseMethodDescriptor yT_lineOf.desc).map (fun d => d.parameters.length) = some 1 := ⟨rfl, hd_T_lineOf⟩
theorem hd_T_checkIndex : yT_checkIndex.cls ≠ "java/lang/invoke/MethodHandle" ∧ yT_checkIndex.cls ≠ "java/lang/invoke/VarHandle" ∧ (parseMethodDescriptor yT_checkIndex.desc).map (fun d => d.parameters.length) = some 2 := by decide +kernel
theorem hv_T_checkIndex : yT_checkIndex.cls = "ThreadSlots" ∧ yT_checkIndex.cls ≠ "java/lang/invoke/MethodHandle" ∧ yT_checkIndex.cls ≠ "java/lang/invoke/VarHandle" ∧ (parseMethodDescriptor yT_checkIndex.desc).map (fun d => d.parameters.length) = some 2 := ⟨rfl, hd_T_checkIndex⟩
theorem hd_T_checkArgument : yT_checkArgument.cls ≠ "java/lang/invoke/MethodHandle" ∧ yT_checkArgument.cls ≠ "java/lang/invoke/VarHandle" ∧ (parseMethodDescriptor yT_checkArgument.desc).map (fun d => d.parameters.length) = some 3 := by decide +kernel
theorem hv_T_checkArgument : yT_checkArgument.cls = "ThreadSlots" ∧ yT_checkArgument.cls ≠ "java/lang/invoke/MethodHandle" ∧ yT_checkArgument.cls ≠ "java/lang/invoke/VarHandle" ∧ (parseMethodDescriptor yT_checkArgument.desc).map (fun d => d.parameters.length) = some 3 := ⟨rfl, hd_T_checkArgument⟩
theorem hd_T_greatestDivisor : yT_greatestDivisor.cls ≠ "java/lang/invoke/MethodHandle" ∧ yT_greatestDivisor.cls ≠ "java/lang/invoke/VarHandle" ∧ (parseMethodDescriptor yT_greatestDivisor.desc).map (fun d => d.parameters.length) = some 2 := by decide +kernel
theorem hv_T_greatestDivisor : yT_greatestDivisor.cls = "ThreadSlots" ∧ yT_greatestDivisor.cls ≠ "java/lang/invoke/MethodHandle" ∧ yT_greatestDivisor.cls ≠ "java/lang/invoke/VarHandle" ∧ (parseMethodDescriptor yT_greatestDivisor.desc).map (fun d => d.parameters.length) = some 2 := ⟨rfl, hd_T_greatestDivisor⟩
theorem hd_S_init : yS_init.cls ≠ "java/lang/invoke/MethodHandle" ∧ yS_init.cls ≠ "java/lang/invoke/VarHandle" ∧ (parseMethodDescriptor yS_init.desc).map (fun d => d.parameters.length) = some 0 := by decide +kernel
theorem hv_S_init : yS_init.cls = "ThreadSlots$Strand" ∧ yS_init.cls ≠ "java/lang/invoke/MethodHandle" ∧ yS_init.cls ≠ "java/lang/invoke/VarHandle" ∧ (parseMethodDescriptor yS_init.desc).map (fun d => d.parameters.length) = some 0 := ⟨rfl, hd_S_init⟩
theorem hd_L_init : yL_init.cls ≠ "java/lang/invoke/MethodHandle" ∧ yL_init.cls ≠ "java/lang/invoke/VarHandle" ∧ (parseMethodDescriptor yL_init.desc).map (fun d => d.parameters.length) = some 0 := by decide +kernel
theorem hv_L_init : yL_init.cls = "ThreadSlots$Line" ∧ yL_init.cls ≠ "java/lang/invoke/MethodHandle" ∧ yL_init.cls ≠ "java/lang/invoke/VarHandle" ∧ (parseMethodDescriptor yL_init.desc).map (fun d => d.parameters.length) = some 0 := ⟨rfl, hd_L_init⟩
theorem hd_L_entriesOf : yL_entriesOf.cls ≠ "java/lang/invoke/MethodHandle" ∧ yL_entriesOf.cls ≠ "java/lang/invoke/VarHandle" ∧ (parseMethodDescriptor yL_entriesOf.desc).map (fun d => d.parameters.length) = some 1 := by decide +kernel
theorem hv_L_entriesOf : yL_entriesOf.cls = "ThreadSlots$Line" ∧ yL_entriesOf.cls ≠ "java/lang/invoke/MethodHandle" ∧ yL_entriesOf.cls ≠ "java/lang/invoke/VarHandle" ∧ (parseMethodDescriptor yL_entriesOf.desc).map (fun d => d.parameters.length) = some 1 := ⟨rfl, hd_L_entriesOf⟩
theorem hd_L_firstOf : yL_firstOf.cls ≠ "java/lang/invoke/MethodHandle" ∧ yL_firstOf.cls ≠ "java/lang/invoke/VarHandle" ∧ (parseMethodDescriptor yL_firstOf.desc).map (fun d => d.parameters.length) = some 1 := by decide +kernel
theorem hv_L_firstOf : yL_firstOf.cls = "ThreadSlots$Line" ∧ yL_firstOf.cls ≠ "java/lang/invoke/MethodHandle" ∧ yL_firstOf.cls ≠ "java/lang/invoke/VarHandle" ∧ (parseMethodDescriptor yL_firstOf.desc).map (fun d => d.parameters.length) = some 1 := ⟨rfl, hd_L_firstOf⟩
theorem hd_L_append : yL_append.cls ≠ "java/lang/invoke/MethodHandle" ∧ yL_append.cls ≠ "java/lang/invoke/VarHandle" ∧ (parseMethodDescriptor yL_append.desc).map (fun d => d.parameters.length) = some 2 := by decide +kernel
theorem hv_L_append : yL_append.cls = "ThreadSlots$Line" ∧ yL_append.cls ≠ "java/lang/invoke/MethodHandle" ∧ yL_append.cls ≠ "java/lang/invoke/VarHandle" ∧ (parseMethodDescriptor yL_append.desc).map (fun d => d.parameters.length) = some 2 := ⟨rfl, hd_L_append⟩
theorem hd_L_close : yL_close.cls ≠ "java/lang/invoke/MethodHandle" ∧ yL_close.cls ≠ "java/lang/invoke/VarHandle" ∧ (parseMethodDescriptor yL_close.desc).map (fun d => d.parameters.length) = some 1 := by decide +kernel
theorem hv_L_close : yL_close.cls = "ThreadSlots$Line" ∧ yL_close.cls ≠ "java/lang/invoke/MethodHandle" ∧ yL_close.cls ≠ "java/lang/invoke/VarHandle" ∧ (parseMethodDescriptor yL_close.desc).map (fun d => d.parameters.length) = some 1 := ⟨rfl, hd_L_close⟩
theorem l_T_9 : Cond.fieldLink "ThreadSlots" 9 RT (FT 6).2.1 (FT 6).2.2.1 ∈ wsG := inG (List.mem_of_getElem? (i := 128) (by decide +kernel)) rfl
theorem l_T_13 : Cond.fieldLink "ThreadSlots" 13 RT (FT 7).2.1 (FT 7).2.2.1 ∈ wsG := inG (List.mem_of_getElem? (i := 129) (by decide +kernel)) rfl
theorem l_T_24 : Cond.fieldLink "ThreadSlots" 24 RT (FT 0).2.1 (FT 0).2.2.1 ∈ wsG := inG (List.mem_of_getElem? (i := 122) (by decide +kernel)) rfl
theorem l_T_31 : Cond.fieldLink "ThreadSlots" 31 RT (FT 1).2.1 (FT 1).2.2.1 ∈ wsG := inG (List.mem_of_getElem? (i := 123) (by decide +kernel)) rfl
theorem l_T_37 : Cond.fieldLink "ThreadSlots" 37 RT (FT 5).2.1 (FT 5).2.2.1 ∈ wsG := inG (List.mem_of_getElem? (i := 127) (by decide +kernel)) rfl
theorem l_T_44 : Cond.fieldLink "ThreadSlots" 44 RT (FT 2).2.1 (FT 2).2.2.1 ∈ wsG := inG (List.mem_of_getElem? (i := 124) (by decide +kernel)) rfl
theorem l_T_47 : Cond.fieldLink "ThreadSlots" 47 RT (FT 3).2.1 (FT 3).2.2.1 ∈ wsG := inG (List.mem_of_getElem? (i := 125) (by decide +kernel)) rfl
theorem l_T_50 : Cond.fieldLink "ThreadSlots" 50 RT (FT 4).2.1 (FT 4).2.2.1 ∈ wsG := inG (List.mem_of_getElem? (i := 126) (by decide +kernel)) rfl
theorem l_T_57 : Cond.fieldLinkNest "ThreadSlots" 57 RS (FS 1).2.1 (FS 1).2.2.1 "ThreadSlots" ∈ wsN := inN (List.mem_of_getElem? (i := 66) (by decide +kernel)) rfl
theorem l_T_61 : Cond.fieldLinkNest "ThreadSlots" 61 RS (FS 2).2.1 (FS 2).2.2.1 "ThreadSlots" ∈ wsN := inN (List.mem_of_getElem? (i := 67) (by decide +kernel)) rfl
theorem l_T_65 : Cond.fieldLinkNest "ThreadSlots" 65 RS (FS 3).2.1 (FS 3).2.2.1 "ThreadSlots" ∈ wsN := inN (List.mem_of_getElem? (i := 68) (by decide +kernel)) rfl
theorem l_T_68 : Cond.fieldLinkNest "ThreadSlots" 68 RS (FS 4).2.1 (FS 4).2.2.1 "ThreadSlots" ∈ wsN := inN (List.mem_of_getElem? (i := 69) (by decide +kernel)) rfl
theorem l_T_83 : Cond.fieldLinkNest "ThreadSlots" 83 RL_ (FL_ 2).2.1 (FL_ 2).2.2.1 "ThreadSlots" ∈ wsN := inN (List.mem_of_getElem? (i := 109) (by decide +kernel)) rfl
theorem l_T_91 : Cond.fieldLinkNest "ThreadSlots" 91 RL_ (FL_ 3).2.1 (FL_ 3).2.2.1 "ThreadSlots" ∈ wsN := inN (List.mem_of_getElem? (i := 111) (by decide +kernel)) rfl
theorem l_T_107 : Cond.fieldLinkNest "ThreadSlots" 107 RL_ (FL_ 1).2.1 (FL_ 1).2.2.1 "ThreadSlots" ∈ wsN := inN (List.mem_of_getElem? (i := 107) (by decide +kernel)) rfl
theorem l_T_114 : Cond.fieldLinkNest "ThreadSlots" 114 RL_ (FL_ 0).2.1 (FL_ 0).2.2.1 "ThreadSlots" ∈ wsN := inN (List.mem_of_getElem? (i := 105) (by decide +kernel)) rfl
theorem l_T_117 : Cond.fieldLinkNest "ThreadSlots" 117 RS (FS 0).2.1 (FS 0).2.2.1 "ThreadSlots" ∈ wsN := inN (List.mem_of_getElem? (i := 65) (by decide +kernel)) rfl
theorem l_T_120 : Cond.fieldLinkNest "ThreadSlots" 120 RS (FS 5).2.1 (FS 5).2.2.1 "ThreadSlots" ∈ wsN := inN (List.mem_of_getElem? (i := 70) (by decide +kernel)) rfl
theorem l_T_123 : Cond.fieldLinkNest "ThreadSlots" 123 RS (FS 6).2.1 (FS 6).2.2.1 "ThreadSlots" ∈ wsN := inN (List.mem_of_getElem? (i := 71) (by decide +kernel)) rfl
theorem l_T_126 : Cond.fieldLinkNest "ThreadSlots" 126 RS (FS 7).2.1 (FS 7).2.2.1 "ThreadSlots" ∈ wsN := inN (List.mem_of_getElem? (i := 72) (by decide +kernel)) rfl
theorem l_T_129 : Cond.fieldLinkNest "ThreadSlots" 129 RS (FS 8).2.1 (FS 8).2.2.1 "ThreadSlots" ∈ wsN := inN (List.mem_of_getElem? (i := 73) (by decide +kernel)) rfl
theorem l_T_137 : Cond.fieldLink "ThreadSlots" 137 RT (FT 10).2.1 (FT 10).2.2.1 ∈ wsG := inG (List.mem_of_getElem? (i := 132) (by decide +kernel)) rfl
theorem l_T_141 : Cond.fieldLink "ThreadSlots" 141 RT (FT 9).2.1 (FT 9).2.2.1 ∈ wsG := inG (List.mem_of_getElem? (i := 131) (by decide +kernel)) rfl
theorem l_T_144 : Cond.fieldLink "ThreadSlots" 144 RT (FT 11).2.1 (FT 11).2.2.1 ∈ wsG := inG (List.mem_of_getElem? (i := 133) (by decide +kernel)) rfl
theorem l_T_147 : Cond.fieldLink "ThreadSlots" 147 RT (FT 12).2.1 (FT 12).2.2.1 ∈ wsG := inG (List.mem_of_getElem? (i := 134) (by decide +kernel)) rfl
theorem l_T_165 : Cond.fieldLinkNest "ThreadSlots" 165 RS (FS 9).2.1 (FS 9).2.2.1 "ThreadSlots" ∈ wsN := inN (List.mem_of_getElem? (i := 74) (by decide +kernel)) rfl
theorem l_T_168 : Cond.fieldLink "ThreadSlots" 168 RT (FT 8).2.1 (FT 8).2.2.1 ∈ wsG := inG (List.mem_of_getElem? (i := 130) (by decide +kernel)) rfl
theorem l_L_9 : Cond.fieldLink "ThreadSlots$Line" 9 RL_ (FL_ 0).2.1 (FL_ 0).2.2.1 ∈ wsG := inG (List.mem_of_getElem? (i := 104) (by decide +kernel)) rfl
theorem l_L_15 : Cond.fieldLink "ThreadSlots$Line" 15 RL_ (FL_ 1).2.1 (FL_ 1).2.2.1 ∈ wsG := inG (List.mem_of_getElem? (i := 106) (by decide +kernel)) rfl
theorem l_L_18 : Cond.fieldLink "ThreadSlots$Line" 18 RL_ (FL_ 2).2.1 (FL_ 2).2.2.1 ∈ wsG := inG (List.mem_of_getElem? (i := 108) (by decide +kernel)) rfl
theorem l_L_21 : Cond.fieldLink "ThreadSlots$Line" 21 RL_ (FL_ 3).2.1 (FL_ 3).2.2.1 ∈ wsG := inG (List.mem_of_getElem? (i := 110) (by decide +kernel)) rfl
theorem l_S_9 : Cond.fieldLink "ThreadSlots$Strand" 9 RS (FS 0).2.1 (FS 0).2.2.1 ∈ wsG := inG (List.mem_of_getElem? (i := 64) (by decide +kernel)) rfl
theorem g_T_40 : GoodIn wsG (va_wsS "ThreadSlots" 40 yT_checkArgument (.code yT_checkArgument cT_checkArgument 3 none :: wsG)) := gS (List.mem_of_getElem? (i := 242) (by decide +kernel)) (List.mem_of_getElem? (i := 243) (by decide +kernel)) (List.mem_of_getElem? (i := 35) (by decide +kernel)) (List.mem_of_getElem? (i := 244) (by decide +kernel))
theorem g_T_53 : GoodIn wsG (wsV "ThreadSlots" 53 "ThreadSlots" yT_strandOf (.code yT_strandOf cT_strandOf 2 (some (.object "ThreadSlots$Strand")) :: wsG)) := gV (List.mem_of_getElem? (i := 335) (by decide +kernel)) (List.mem_of_getElem? (i := 337) (by decide +kernel)) (List.mem_of_getElem? (i := 15) (by decide +kernel)) (List.mem_of_getElem? (i := 35) (by decide +kernel)) (List.mem_of_getElem? (i := 338) (by decide +kernel))
theorem g_T_71 : GoodIn wsG (wsV "ThreadSlots" 71 "ThreadSlots" yT_playCycle (.code yT_playCycle cT_playCycle 2 (some .int) :: wsG)) := gV (List.mem_of_getElem? (i := 166) (by decide +kernel)) (List.mem_of_getElem? (i := 168) (by decide +kernel)) (List.mem_of_getElem? (i := 0) (by decide +kernel)) (List.mem_of_getElem? (i := 35) (by decide +kernel)) (List.mem_of_getElem? (i := 169) (by decide +kernel))
theorem g_T_75 : GoodIn wsG (wsV "ThreadSlots" 75 "ThreadSlots" yT_lineOf (.code yT_lineOf cT_lineOf 2 (some (.object "ThreadSlots$Line")) :: wsG)) := gV (List.mem_of_getElem? (i := 394) (by decide +kernel)) (List.mem_of_getElem? (i := 396) (by decide +kernel)) (List.mem_of_getElem? (i := 16) (by decide +kernel)) (List.mem_of_getElem? (i := 35) (by decide +kernel)) (List.mem_of_getElem? (i := 397) (by decide +kernel))
theorem g_T_79 : GoodIn wsG (va_wsS "ThreadSlots" 79 yT_checkIndex (.code yT_checkIndex cT_checkIndex 2 none :: wsG)) := gS (List.mem_of_getElem? (i := 339) (by decide +kernel)) (List.mem_of_getElem? (i := 340) (by decide +kernel)) (List.mem_of_getElem? (i := 35) (by decide +kernel)) (List.mem_of_getElem? (i := 341) (by decide +kernel))
theorem g_T_87 : Cond.code yL_entriesOf cL_entriesOf 4 (some .int) ∈ lw_tbl := List.mem_of_getElem? (i := 408) (by decide +kernel)
theorem gn_T_87 : Cond.methodLinkNest "ThreadSlots" 87 yL_entriesOf "ThreadSlots" ∈ wsN := inN (List.mem_of_getElem? (i := 405) (by decide +kernel)) rfl
theorem gw_T_87 : Cond.instanceMethod yL_entriesOf ∈ wsG ∧ Cond.selects "ThreadSlots$Line" yL_entriesOf yL_entriesOf ∈ wsG ∧ Cond.initialized yL_entriesOf.cls ∈ wsG := ⟨inG (List.mem_of_getElem? (i := 407) (by decide +kernel)) rfl, inG (List.mem_of_getElem? (i := 17) (by decide +kernel)) rfl, inG (List.mem_of_getElem? (i := 38) (by decide +kernel)) rfl⟩
theorem g_T_94 : Cond.code yL_append cL_append 3 none ∈ lw_tbl := List.mem_of_getElem? (i := 412) (by decide +kernel)
theorem gn_T_94 : Cond.methodLinkNest "ThreadSlots" 94 yL_append "ThreadSlots" ∈ wsN := inN (List.mem_of_getElem? (i := 409) (by decide +kernel)) rfl
theorem gw_T_94 : Cond.instanceMethod yL_append ∈ wsG ∧ Cond.selects "ThreadSlots$Line" yL_append yL_append ∈ wsG ∧ Cond.initialized yL_append.cls ∈ wsG := ⟨inG (List.mem_of_getElem? (i := 411) (by decide +kernel)) rfl, inG (List.mem_of_getElem? (i := 18) (by decide +kernel)) rfl, inG (List.mem_of_getElem? (i := 38) (by decide +kernel)) rfl⟩
theorem g_T_97 : Cond.code yL_firstOf cL_firstOf 3 (some .int) ∈ lw_tbl := List.mem_of_getElem? (i := 424) (by decide +kernel)
theorem gn_T_97 : Cond.methodLinkNest "ThreadSlots" 97 yL_firstOf "ThreadSlots" ∈ wsN := inN (List.mem_of_getElem? (i := 421) (by decide +kernel)) rfl
theorem gw_T_97 : Cond.instanceMethod yL_firstOf ∈ wsG ∧ Cond.selects "ThreadSlots$Line" yL_firstOf yL_firstOf ∈ wsG ∧ Cond.initialized yL_firstOf.cls ∈ wsG := ⟨inG (List.mem_of_getElem? (i := 423) (by decide +kernel)) rfl, inG (List.mem_of_getElem? (i := 19) (by decide +kernel)) rfl, inG (List.mem_of_getElem? (i := 38) (by decide +kernel)) rfl⟩
theorem g_T_110 : Cond.code yL_close cL_close 3 none ∈ lw_tbl := List.mem_of_getElem? (i := 444) (by decide +kernel)
theorem gn_T_110 : Cond.methodLinkNest "ThreadSlots" 110 yL_close "ThreadSlots" ∈ wsN := inN (List.mem_of_getElem? (i := 441) (by decide +kernel)) rfl
theorem gw_T_110 : Cond.instanceMethod yL_close ∈ wsG ∧ Cond.selects "ThreadSlots$Line" yL_close yL_close ∈ wsG ∧ Cond.initialized yL_close.cls ∈ wsG := ⟨inG (List.mem_of_getElem? (i := 443) (by decide +kernel)) rfl, inG (List.mem_of_getElem? (i := 20) (by decide +kernel)) rfl, inG (List.mem_of_getElem? (i := 38) (by decide +kernel)) rfl⟩
theorem g_T_138 : GoodIn wsG (va_wsS "ThreadSlots" 138 yT_greatestDivisor (.code yT_greatestDivisor cT_greatestDivisor 6 (some .int) :: wsG)) := gS (List.mem_of_getElem? (i := 481) (by decide +kernel)) (List.mem_of_getElem? (i := 482) (by decide +kernel)) (List.mem_of_getElem? (i := 35) (by decide +kernel)) (List.mem_of_getElem? (i := 483) (by decide +kernel))
theorem g_T_150 : GoodIn wsG (wsV "ThreadSlots" 150 "ThreadSlots" yT_entriesInAll (.code yT_entriesInAll cT_entriesInAll 3 (some .int) :: wsG)) := gV (List.mem_of_getElem? (i := 227) (by decide +kernel)) (List.mem_of_getElem? (i := 229) (by decide +kernel)) (List.mem_of_getElem? (i := 13) (by decide +kernel)) (List.mem_of_getElem? (i := 35) (by decide +kernel)) (List.mem_of_getElem? (i := 230) (by decide +kernel))
theorem g_T_153 : GoodIn wsG (wsV "ThreadSlots" 153 "ThreadSlots" yT_seeWhoCanGo (.code yT_seeWhoCanGo cT_seeWhoCanGo 3 none :: wsG)) := gV (List.mem_of_getElem? (i := 170) (by decide +kernel)) (List.mem_of_getElem? (i := 172) (by decide +kernel)) (List.mem_of_getElem? (i := 1) (by decide +kernel)) (List.mem_of_getElem? (i := 35) (by decide +kernel)) (List.mem_of_getElem? (i := 173) (by decide +kernel))
theorem g_T_156 : GoodIn wsG (wsV "ThreadSlots" 156 "ThreadSlots" yT_findGoer (.code yT_findGoer cT_findGoer 2 (some .int) :: wsG)) := gV (List.mem_of_getElem? (i := 174) (by decide +kernel)) (List.mem_of_getElem? (i := 176) (by decide +kernel)) (List.mem_of_getElem? (i := 2) (by decide +kernel)) (List.mem_of_getElem? (i := 35) (by decide +kernel)) (List.mem_of_getElem? (i := 177) (by decide +kernel))
theorem g_T_159 : GoodIn wsG (wsV "ThreadSlots" 159 "ThreadSlots" yT_letOthersWait (.code yT_letOthersWait cT_letOthersWait 4 none :: wsG)) := gV (List.mem_of_getElem? (i := 212) (by decide +kernel)) (List.mem_of_getElem? (i := 214) (by decide +kernel)) (List.mem_of_getElem? (i := 11) (by decide +kernel)) (List.mem_of_getElem? (i := 35) (by decide +kernel)) (List.mem_of_getElem? (i := 215) (by decide +kernel))
theorem g_T_162 : GoodIn wsG (wsV "ThreadSlots" 162 "ThreadSlots" yT_letGo (.code yT_letGo cT_letGo 3 none :: wsG)) := gV (List.mem_of_getElem? (i := 219) (by decide +kernel)) (List.mem_of_getElem? (i := 221) (by decide +kernel)) (List.mem_of_getElem? (i := 12) (by decide +kernel)) (List.mem_of_getElem? (i := 35) (by decide +kernel)) (List.mem_of_getElem? (i := 222) (by decide +kernel))
theorem g_T_171 : GoodIn wsG (wsV "ThreadSlots" 171 "ThreadSlots" yT_choose (.code yT_choose cT_choose 3 (some .int) :: wsG)) := gV (List.mem_of_getElem? (i := 178) (by decide +kernel)) (List.mem_of_getElem? (i := 180) (by decide +kernel)) (List.mem_of_getElem? (i := 3) (by decide +kernel)) (List.mem_of_getElem? (i := 35) (by decide +kernel)) (List.mem_of_getElem? (i := 181) (by decide +kernel))
theorem g_T_174 : GoodIn wsG (wsV "ThreadSlots" 174 "ThreadSlots" yT_beginChangeTo (.code yT_beginChangeTo cT_beginChangeTo 2 none :: wsG)) := gV (List.mem_of_getElem? (i := 208) (by decide +kernel)) (List.mem_of_getElem? (i := 210) (by decide +kernel)) (List.mem_of_getElem? (i := 10) (by decide +kernel)) (List.mem_of_getElem? (i := 35) (by decide +kernel)) (List.mem_of_getElem? (i := 211) (by decide +kernel))
theorem g_T_180 : GoodIn wsG (wsV "ThreadSlots" 180 "ThreadSlots" yT_findOverdue (.code yT_findOverdue cT_findOverdue 5 (some .int) :: wsG)) := gV (List.mem_of_getElem? (i := 182) (by decide +kernel)) (List.mem_of_getElem? (i := 184) (by decide +kernel)) (List.mem_of_getElem? (i := 4) (by decide +kernel)) (List.mem_of_getElem? (i := 35) (by decide +kernel)) (List.mem_of_getElem? (i := 185) (by decide +kernel))
theorem g_T_183 : GoodIn wsG (wsV "ThreadSlots" 183 "ThreadSlots" yT_greatestRank (.code yT_greatestRank cT_greatestRank 4 (some .int) :: wsG)) := gV (List.mem_of_getElem? (i := 186) (by decide +kernel)) (List.mem_of_getElem? (i := 188) (by decide +kernel)) (List.mem_of_getElem? (i := 5) (by decide +kernel)) (List.mem_of_getElem? (i := 35) (by decide +kernel)) (List.mem_of_getElem? (i := 189) (by decide +kernel))
theorem g_T_186 : GoodIn wsG (wsV "ThreadSlots" 186 "ThreadSlots" yT_findFewest (.code yT_findFewest cT_findFewest 7 (some .int) :: wsG)) := gV (List.mem_of_getElem? (i := 190) (by decide +kernel)) (List.mem_of_getElem? (i := 192) (by decide +kernel)) (List.mem_of_getElem? (i := 6) (by decide +kernel)) (List.mem_of_getElem? (i := 35) (by decide +kernel)) (List.mem_of_getElem? (i := 193) (by decide +kernel))
theorem g_T_189 : GoodIn wsG (wsV "ThreadSlots" 189 "ThreadSlots" yT_findBySeed (.code yT_findBySeed cT_findBySeed 5 (some .int) :: wsG)) := gV (List.mem_of_getElem? (i := 198) (by decide +kernel)) (List.mem_of_getElem? (i := 200) (by decide +kernel)) (List.mem_of_getElem? (i := 8) (by decide +kernel)) (List.mem_of_getElem? (i := 35) (by decide +kernel)) (List.mem_of_getElem? (i := 201) (by decide +kernel))
theorem g_T_192 : GoodIn wsG (wsV "ThreadSlots" 192 "ThreadSlots" yT_findNextInTurn (.code yT_findNextInTurn cT_findNextInTurn 4 (some .int) :: wsG)) := gV (List.mem_of_getElem? (i := 204) (by decide +kernel)) (List.mem_of_getElem? (i := 206) (by decide +kernel)) (List.mem_of_getElem? (i := 9) (by decide +kernel)) (List.mem_of_getElem? (i := 35) (by decide +kernel)) (List.mem_of_getElem? (i := 207) (by decide +kernel))
theorem g_T_195 : GoodIn wsG (wsV "ThreadSlots" 195 "ThreadSlots" yT_isCandidate (.code yT_isCandidate cT_isCandidate 3 (some .boolean) :: wsG)) := gV (List.mem_of_getElem? (i := 194) (by decide +kernel)) (List.mem_of_getElem? (i := 196) (by decide +kernel)) (List.mem_of_getElem? (i := 7) (by decide +kernel)) (List.mem_of_getElem? (i := 35) (by decide +kernel)) (List.mem_of_getElem? (i := 197) (by decide +kernel))
theorem k_T_36 : Cond.constant "ThreadSlots" 36 2147483647 ∈ wsG := inG (List.mem_of_getElem? (i := 121) (by decide +kernel)) rfl
theorem k_T_199 : Cond.constant "ThreadSlots" 199 1103515245 ∈ wsG := inG (List.mem_of_getElem? (i := 202) (by decide +kernel)) rfl
theorem k_T_200 : Cond.constant "ThreadSlots" 200 65536 ∈ wsG := inG (List.mem_of_getElem? (i := 203) (by decide +kernel)) rfl
theorem k_T_64 : Cond.constant "ThreadSlots" 64 1000000 ∈ wsG := inG (List.mem_of_getElem? (i := 372) (by decide +kernel)) rfl
theorem x_T_cidx : ("ThreadSlots", 201, "no such thread, queue, entry, register or what") ∈ strs ∧ Cond.classLink "ThreadSlots" 132 "java/lang/IndexOutOfBoundsException" ∈ wsG ∧ Cond.initialized "java/lang/IndexOutOfBoundsException" ∈ wsG ∧ Bundle.fit "java/lang/IndexOutOfBoundsException" = true ∧ (∀ w ∈ vx_atS "ThreadSlots" 136 "java/lang/IndexOutOfBoundsException" exn, w ∈ wsG ∨ w ∈ wsN) ∧ (∀ w ∈ Cond.classLink "ThreadSlots" 132 "java/lang/IndexOutOfBoundsException" :: Cond.initialized "java/lang/IndexOutOfBoundsException" :: vx_atS "ThreadSlots" 136 "java/lang/IndexOutOfBoundsException" exn, vx_ot w = true) := ⟨by decide +kernel, inG (List.mem_of_getElem? (i := 342) (by decide +kernel)) rfl, inG (List.mem_of_getElem? (i := 44) (by decide +kernel)) rfl, by decide +kernel, fun w hw => inGN ((by decide +kernel : ∀ w ∈ vx_atS "ThreadSlots" 136 "java/lang/IndexOutOfBoundsException" exn, w ∈ lw_tbl) w hw) ((by decide +kernel : ∀ w ∈ vx_atS "ThreadSlots" 136 "java/lang/IndexOutOfBoundsException" exn, (goodWord w || isN w) = true) w hw), by decide +kernel⟩
theorem x_T_carg : ("ThreadSlots", 205, "a number out of its range") ∈ strs ∧ Cond.classLink "ThreadSlots" 203 "java/lang/IllegalArgumentException" ∈ wsG ∧ Cond.initialized "java/lang/IllegalArgumentException" ∈ wsG ∧ Bundle.fit "java/lang/IllegalArgumentException" = true ∧ (∀ w ∈ vx_atS "ThreadSlots" 207 "java/lang/IllegalArgumentException" exn, w ∈ wsG ∨ w ∈ wsN) ∧ (∀ w ∈ Cond.classLink "ThreadSlots" 203 "java/lang/IllegalArgumentException" :: Cond.initialized "java/lang/IllegalArgumentException" :: vx_atS "ThreadSlots" 207 "java/lang/IllegalArgumentException" exn, vx_ot w = true) := ⟨by decide +kernel, inG (List.mem_of_getElem? (i := 245) (by decide +kernel)) rfl, inG (List.mem_of_getElem? (i := 43) (by decide +kernel)) rfl, by decide +kernel, fun w hw => inGN ((by decide +kernel : ∀ w ∈ vx_atS "ThreadSlots" 207 "java/lang/IllegalArgumentException" exn, w ∈ lw_tbl) w hw) ((by decide +kernel : ∀ w ∈ vx_atS "ThreadSlots" 207 "java/lang/IllegalArgumentException" exn, (goodWord w || isN w) = true) w hw), by decide +kernel⟩
theorem x_T_what : ("ThreadSlots", 134, "no such what") ∈ strs ∧ Cond.classLink "ThreadSlots" 132 "java/lang/IndexOutOfBoundsException" ∈ wsG ∧ Cond.initialized "java/lang/IndexOutOfBoundsException" ∈ wsG ∧ Bundle.fit "java/lang/IndexOutOfBoundsException" = true ∧ (∀ w ∈ vx_atS "ThreadSlots" 136 "java/lang/IndexOutOfBoundsException" exn, w ∈ wsG ∨ w ∈ wsN) ∧ (∀ w ∈ Cond.classLink "ThreadSlots" 132 "java/lang/IndexOutOfBoundsException" :: Cond.initialized "java/lang/IndexOutOfBoundsException" :: vx_atS "ThreadSlots" 136 "java/lang/IndexOutOfBoundsException" exn, vx_ot w = true) := ⟨by decide +kernel, inG (List.mem_of_getElem? (i := 342) (by decide +kernel)) rfl, inG (List.mem_of_getElem? (i := 44) (by decide +kernel)) rfl, by decide +kernel, fun w hw => inGN ((by decide +kernel : ∀ w ∈ vx_atS "ThreadSlots" 136 "java/lang/IndexOutOfBoundsException" exn, w ∈ lw_tbl) w hw) ((by decide +kernel : ∀ w ∈ vx_atS "ThreadSlots" 136 "java/lang/IndexOutOfBoundsException" exn, (goodWord w || isN w) = true) w hw), by decide +kernel⟩
theorem x_T_entry : ("ThreadSlots", 102, "no such entry") ∈ strs ∧ Cond.classLink "ThreadSlots" 100 "java/lang/IllegalStateException" ∈ wsG ∧ Cond.initialized "java/lang/IllegalStateException" ∈ wsG ∧ Bundle.fit "java/lang/IllegalStateException" = true ∧ (∀ w ∈ vx_atS "ThreadSlots" 104 "java/lang/IllegalStateException" exn, w ∈ wsG ∨ w ∈ wsN) ∧ (∀ w ∈ Cond.classLink "ThreadSlots" 100 "java/lang/IllegalStateException" :: Cond.initialized "java/lang/IllegalStateException" :: vx_atS "ThreadSlots" 104 "java/lang/IllegalStateException" exn, vx_ot w = true) := ⟨by decide +kernel, inG (List.mem_of_getElem? (i := 425) (by decide +kernel)) rfl, inG (List.mem_of_getElem? (i := 45) (by decide +kernel)) rfl, by decide +kernel, fun w hw => inGN ((by decide +kernel : ∀ w ∈ vx_atS "ThreadSlots" 104 "java/lang/IllegalStateException" exn, w ∈ lw_tbl) w hw) ((by decide +kernel : ∀ w ∈ vx_atS "ThreadSlots" 104 "java/lang/IllegalStateException" exn, (goodWord w || isN w) = true) w hw), by decide +kernel⟩
theorem mx_1 : Cond.methodLink "ThreadSlots" 177 Lib.Math.max.name ∈ wsG := inG (List.mem_of_getElem? (i := 216) (by decide +kernel)) rfl
theorem mx_2 : Cond.static Lib.Math.max.name ∈ wsG := inG (List.mem_of_getElem? (i := 217) (by decide +kernel)) rfl
theorem mx_3 : Cond.initialized "java/lang/Math" ∈ wsG := inG (List.mem_of_getElem? (i := 36) (by decide +kernel)) rfl
theorem mx_4 : Cond.code Lib.Math.max.name Lib.Math.max.code 2 (some .int) ∈ wsG := inG (List.mem_of_getElem? (i := 218) (by decide +kernel)) rfl
theorem re_T {p : Program} {l : Launch} {s : State} {m : MethodId} {args : Array Value} {meth : Method} {c : Code} {cc : ByteArray} {nL N : Nat} {own : String} {ct : Ct} {D : va_G} {A : Nat → Prop} {ad : Ad} {σ : St} {H : Heap} {locs : List Loc} (C : cx p l s m args meth c cc nL own ct D A) (hw : wl D A s (wT ct ad N σ) H locs) : ∃ cellB : Cell, H[ad 0 0]? = some cellB ∧ cellB.vm.isStatics = false ∧ s.vm.findClass "ThreadSlots" = some cellB.cls := by
  obtain ⟨q0, h1, -⟩ := sg_at (sT ct ad N σ) 0 1 _ rfl 0 (by decide)
  exact va_recv C.2.2.2.2.2.1 hw.1 (ci := kT) (q := (RT, FT, 13)) rfl h1
theorem re_L {p : Program} {l : Launch} {s : State} {m : MethodId} {args : Array Value} {meth : Method} {c : Code} {cc : ByteArray} {nL N q : Nat} {own : String} {ct : Ct} {D : va_G} {A : Nat → Prop} {ad : Ad} {σ : St} {H : Heap} {locs : List Loc} (C : cx p l s m args meth c cc nL own ct D A) (hw : wl D A s (wT ct ad N σ) H locs) (hq : q < 8) : ∃ cellB : Cell, H[ad 3 q]? = some cellB ∧ cellB.vm.isStatics = false ∧ s.vm.findClass "ThreadSlots$Line" = some cellB.cls := by
  obtain ⟨q0, h1, -⟩ := sg_at (sT ct ad N σ) 5 8 _ rfl q hq
  exact va_recv C.2.2.2.2.2.1 hw.1 (ci := kL) (q := (RL_, FL_, 4)) rfl h1
end
section
/-! Numbers of threads: -1, or below N; what each function leaves as it was. -/
def ix (N : Nat) (x : Int32) : Prop := x = -1 ∨ ∃ t, t < N ∧ x = nI t
theorem ix_m {N : Nat} : ix N (-1) := Or.inl rfl
theorem ix_t {N t : Nat} (h : t < N) : ix N (nI t) := Or.inr ⟨t, h, rfl⟩
theorem tf_over_ix (N : Nat) (σ : St) : ∀ (n t : Nat) (b k : Int32), t + n = N → ix N b → ix N (tf_over σ n t b k) := by
  intro n
  induction n with
  | zero => intro t b k _ h; exact h
  | succ n ih =>
    intro t b k hn h
    unfold tf_over
    split
    · exact ih _ _ _ (by omega) h
    · split
      · exact ih _ _ _ (by omega) h
      · exact ih _ _ _ (by omega) (ix_t (by omega))
theorem tf_next_ix (N : Nat) (σ : St) (top : Int32) : ∀ (n t : Nat) (b : Int32), t + n = N → ix N b → ix N (tf_next σ top n t b) := by
  intro n
  induction n with
  | zero => intro t b _ h; exact h
  | succ n ih =>
    intro t b hn h
    unfold tf_next
    split
    · exact ih _ _ (by omega) h
    · split
      · split
        · exact ih _ _ (by omega) (ix_t (by omega))
        · exact ih _ _ (by omega) h
      · exact ix_t (by omega)
theorem tf_few_ix (N : Nat) (σ : St) (top : Int32) : ∀ (n t : Nat) (b k : Int32), t + n = N → ix N b → ix N (tf_few σ top n t b k) := by
  intro n
  induction n with
  | zero => intro t b k _ h; exact h
  | succ n ih =>
    intro t b k hn h
    unfold tf_few
    split
    · exact ih _ _ _ (by omega) h
    · split
      · exact ih _ _ _ (by omega) (ix_t (by omega))
      · split
        · exact ih _ _ _ (by omega) h
        · exact ih _ _ _ (by omega) (ix_t (by omega))
theorem tf_pick_ix (N : Nat) (σ : St) (top : Int32) : ∀ (n t : Nat) (k : Int32), t + n = N → ix N (tf_pick σ top n t k) := by
  intro n
  induction n with
  | zero => intro t k _; exact ix_m
  | succ n ih =>
    intro t k hn
    unfold tf_pick
    split
    · exact ih _ _ (by omega)
    · split
      · exact ix_t (by omega)
      · exact ih _ _ (by omega)
theorem tf_chA_ix (N : Nat) (σ : St) : ix N (tf_chA N σ) := by
  have h0 : ix N (tf_overdue N σ) := by
    unfold tf_overdue
    split
    · exact ix_m
    · exact tf_over_ix N σ N 0 _ _ (by omega) ix_m
  unfold tf_chA
  split
  · split
    · exact ix_m
    · split
      · exact tf_few_ix N σ _ N 0 _ _ (by omega) ix_m
      · split
        · unfold tf_seedA
          split
          · exact ix_m
          · exact tf_pick_ix N _ _ N 0 _ (by omega)
        · exact tf_next_ix N σ _ N 0 _ (by omega) ix_m
  · exact h0
theorem tf_tailA_ix (N : Nat) (σ : St) : ix N (tf_tailA N σ) := by
  have h := tf_chA_ix N σ
  unfold tf_tailA
  split
  · exact ix_m
  · split
    · exact h
    · split
      · exact h
      · split
        · exact h
        · exact ix_m
theorem tf_goA_ix (N : Nat) (σ : St) (h5 : ix N (σ 0 0 5)) : ix N (tf_goA N σ) := by
  have h := tf_tailA_ix N σ
  unfold tf_goA
  split
  · split
    · exact h
    · split
      · exact h
      · exact h5
  · exact ix_m
theorem ix_cl {N : Nat} {x : Int32} (hN : N ≤ 16) (h : ix N x) (hx : ¬ x = -1) : x.toNatClampNeg < N ∧ x = nI x.toNatClampNeg := by
  rcases h with h | ⟨t, ht, rfl⟩
  · exact absurd h hx
  · rw [nI_clamp (by omega)]
    exact ⟨ht, rfl⟩
/-- see, wait, choose, begin: what they leave -/
theorem tf_see1_k {σ : St} {t a b c : Nat} (h : ¬ (a = 1 ∧ (c = 2 ∨ c = 8))) : tf_see1 σ t a b c = σ a b c := by
  have h2 : ∀ (τ : St) (v : Int32), su τ 1 t 2 v a b c = τ a b c := fun τ v => su_ne (fun q => h ⟨q.1, Or.inl q.2.2⟩)
  have h8 : ∀ (τ : St) (v : Int32), su τ 1 t 8 v a b c = τ a b c := fun τ v => su_ne (fun q => h ⟨q.1, Or.inr q.2.2⟩)
  unfold tf_see1
  repeat' split
  all_goals simp only [h2, h8]
theorem tf_see_k {a b c : Nat} (h : ¬ (a = 1 ∧ (c = 2 ∨ c = 8))) : ∀ (n t : Nat) (σ : St), tf_see n t σ a b c = σ a b c := by
  intro n
  induction n with
  | zero => intro t σ; rfl
  | succ n ih => intro t σ; show tf_see n (t + 1) (tf_see1 σ t) a b c = _; rw [ih, tf_see1_k h]
theorem tf_wt1_k {g : Int32} {σ : St} {t a b c : Nat} (h : ¬ (a = 1 ∧ (c = 4 ∨ c = 5))) : tf_wt1 g σ t a b c = σ a b c := by
  have h2 : ∀ (τ : St) (v : Int32), su τ 1 t 4 v a b c = τ a b c := fun τ v => su_ne (fun q => h ⟨q.1, Or.inl q.2.2⟩)
  have h8 : ∀ (τ : St) (v : Int32), su τ 1 t 5 v a b c = τ a b c := fun τ v => su_ne (fun q => h ⟨q.1, Or.inr q.2.2⟩)
  unfold tf_wt1
  split
  · rfl
  · split
    · rfl
    · rw [h8, h2]
theorem tf_wt_k {g : Int32} {a b c : Nat} (h : ¬ (a = 1 ∧ (c = 4 ∨ c = 5))) : ∀ (n t : Nat) (σ : St), tf_wt g n t σ a b c = σ a b c := by
  intro n
  induction n with
  | zero => intro t σ; rfl
  | succ n ih => intro t σ; show tf_wt g n (t + 1) (tf_wt1 g σ t) a b c = _; rw [ih, tf_wt1_k h]
theorem tf_chS_k {N : Nat} {σ : St} {a b c : Nat} (h : ¬ (a = 0 ∧ b = 0 ∧ c = 3)) : tf_chS N σ a b c = σ a b c := by
  unfold tf_chS tf_seedS
  repeat' split
  all_goals first | rfl | exact su_ne h
theorem tf_p1_k {N : Nat} {σ : St} {a b c : Nat} (h : ¬ (a = 1 ∧ (c = 2 ∨ c = 8))) (h7 : ¬ (a = 0 ∧ b = 0 ∧ c = 7)) : tf_p1 N σ a b c = σ a b c := by
  unfold tf_p1
  rw [tf_see_k h, su_ne h7]
theorem p1_5 {N : Nat} {σ : St} (h : ix N (σ 0 0 5)) : ix N (tf_p1 N σ 0 0 5) := by
  rw [tf_p1_k (by decide) (by decide)]
  exact h
theorem tf_begin_5 {σ : St} {t : Nat} : tf_begin σ t 0 0 5 = nI t := by
  unfold tf_begin
  rw [su_n3 (by decide), su_n1 (by decide), su_n3 (by decide), su_eq]
theorem go_5 {N : Nat} {σ : St} (hN : N ≤ 16) (h : ix N (σ 0 0 5)) : ix N (tf_goS N σ 0 0 5) := by
  have hc : tf_chS N σ 0 0 5 = σ 0 0 5 := tf_chS_k (by decide)
  have ht : ix N (tf_tailS N σ 0 0 5) := by
    unfold tf_tailS
    by_cases h1 : tf_chA N σ = -1
    · rw [if_pos h1, su_n3 (by decide), hc]; exact h
    · rw [if_neg h1]
      split
      · rw [hc]; exact h
      · split
        · rw [hc]; exact h
        · split
          · rw [hc]; exact h
          · rw [tf_begin_5]
            exact ix_t (ix_cl hN (tf_chA_ix N σ) h1).1
  unfold tf_goS
  split
  · split
    · exact ht
    · split
      · exact ht
      · exact h
  · rw [su_n3 (by decide), su_n3 (by decide)]; exact h
theorem tf_let_5 {σ : St} {t : Nat} : tf_let σ t 0 0 5 = -1 := by
  unfold tf_let
  rw [su_eq]
theorem pl_5 {N : Nat} {σ : St} (hN : N ≤ 16) (h : ix N (σ 0 0 5)) : ix N (tf_plS N σ 0 0 5) := by
  unfold tf_plS
  split
  · rw [tf_wt_k (by decide)]; exact go_5 hN (p1_5 h)
  · rw [tf_let_5]; exact ix_m
end
section
set_option maxHeartbeats 4000000 in
set_option maxRecDepth 100000 in
theorem c_cidx (l : Launch) (hst : l.stackTraces = false) (D : va_G) (ct : Ct) (w0 : va_W) (sz : Nat) (i n : Int32) (h0 : ¬ i < 0) (h1 : i < n) : Kt l yT_checkIndex cT_checkIndex 2 none (r0 0) 0 0 D ct [.int i, .int n] sz (w0) (fun v w => v = none ∧ w = w0) (fun E w => False) := by
  refine kt_of hst (by decide) (Nat.le_of_ble_eq_true rfl) (by simp [Value.category]) ?_
  intro p e s m args below meth c A ls C hne hr hw hl Q hQ
  have hx := C.1
  have hb := C.2.1
  refine q_iload_n hx hb hl dT_checkIndex_0 rfl ?_
  refine lv_if_lt (tgt := 9) hx hb dT_checkIndex_1 (by decide) (fun q9 => absurd q9 h0) (fun c_1 => ?_)
  refine q_iload_n hx hb hl dT_checkIndex_4 rfl ?_
  refine q_iload_n hx hb hl dT_checkIndex_5 rfl ?_
  refine lv_icmp_lt (tgt := 19) hx hb dT_checkIndex_6 (by decide) (fun c_6 => ?_) (fun q9 => absurd h1 q9)
  exact tr_v hQ C hw hr (Nat.le_of_ble_eq_true rfl) (Nat.le_of_ble_eq_true rfl) dT_checkIndex_19 ⟨rfl, rfl⟩
set_option maxHeartbeats 4000000 in
set_option maxRecDepth 100000 in
theorem x_cidx (l : Launch) (hst : l.stackTraces = false) (D : va_G) (ct : Ct) (w0 : va_W) (sz : Nat) (i n : Int32) (h : i < 0 ∨ ¬ i < n) : Kt l yT_checkIndex cT_checkIndex 2 none (r1 6) 1 6 D ct [.int i, .int n] sz (w0) (fun v w => False) (fun E w => E = "java/lang/IndexOutOfBoundsException" ∧ w = w0) := by
  refine kt_of hst (by decide) (Nat.le_of_ble_eq_true rfl) (by simp [Value.category]) ?_
  intro p e s m args below meth c A ls C hne hr hw hl Q hQ
  have hx := C.1
  have hb := C.2.1
  refine q_iload_n hx hb hl dT_checkIndex_0 rfl ?_
  refine lv_if_lt (tgt := 9) hx hb dT_checkIndex_1 (by decide) (fun c_1 => ?_) (fun c_1 => ?_)
  · exact tt_S (cls := "java/lang/IndexOutOfBoundsException") hQ C hne hw hl x_T_cidx ⟨dT_checkIndex_9, dT_checkIndex_12, dT_checkIndex_13, dT_checkIndex_15, dT_checkIndex_18⟩ ⟨(Nat.le_of_ble_eq_true rfl), (Nat.le_of_ble_eq_true rfl), (Nat.le_of_ble_eq_true rfl), (Nat.le_of_ble_eq_true rfl), (Nat.le_of_ble_eq_true rfl), (Nat.le_of_ble_eq_true rfl)⟩ ⟨rfl, rfl⟩
  refine q_iload_n hx hb hl dT_checkIndex_4 rfl ?_
  refine q_iload_n hx hb hl dT_checkIndex_5 rfl ?_
  refine lv_icmp_lt (tgt := 19) hx hb dT_checkIndex_6 (by decide) (fun q9 => absurd q9 (h.resolve_left c_1)) (fun c_6 => ?_)
  exact tt_S (cls := "java/lang/IndexOutOfBoundsException") hQ C hne hw hl x_T_cidx ⟨dT_checkIndex_9, dT_checkIndex_12, dT_checkIndex_13, dT_checkIndex_15, dT_checkIndex_18⟩ ⟨(Nat.le_of_ble_eq_true rfl), (Nat.le_of_ble_eq_true rfl), (Nat.le_of_ble_eq_true rfl), (Nat.le_of_ble_eq_true rfl), (Nat.le_of_ble_eq_true rfl), (Nat.le_of_ble_eq_true rfl)⟩ ⟨rfl, rfl⟩
set_option maxHeartbeats 4000000 in
set_option maxRecDepth 100000 in
theorem c_carg (l : Launch) (hst : l.stackTraces = false) (D : va_G) (ct : Ct) (w0 : va_W) (sz : Nat) (x lo hi : Int32) (h0 : ¬ x < lo) (h1 : x ≤ hi) : Kt l yT_checkArgument cT_checkArgument 3 none (r0 0) 0 0 D ct [.int x, .int lo, .int hi] sz (w0) (fun v w => v = none ∧ w = w0) (fun E w => False) := by
  refine kt_of hst (by decide) (Nat.le_of_ble_eq_true rfl) (by simp [Value.category]) ?_
  intro p e s m args below meth c A ls C hne hr hw hl Q hQ
  have hx := C.1
  have hb := C.2.1
  refine q_iload_n hx hb hl dT_checkArgument_0 rfl ?_
  refine q_iload_n hx hb hl dT_checkArgument_1 rfl ?_
  refine lv_icmp_lt (tgt := 10) hx hb dT_checkArgument_2 (by decide) (fun q9 => absurd q9 h0) (fun c_2 => ?_)
  refine q_iload_n hx hb hl dT_checkArgument_5 rfl ?_
  refine q_iload_n hx hb hl dT_checkArgument_6 rfl ?_
  refine lv_icmp_le (tgt := 20) hx hb dT_checkArgument_7 (by decide) (fun c_7 => ?_) (fun q9 => absurd h1 q9)
  exact tr_v hQ C hw hr (Nat.le_of_ble_eq_true rfl) (Nat.le_of_ble_eq_true rfl) dT_checkArgument_20 ⟨rfl, rfl⟩
set_option maxHeartbeats 4000000 in
set_option maxRecDepth 100000 in
theorem x_carg (l : Launch) (hst : l.stackTraces = false) (D : va_G) (ct : Ct) (w0 : va_W) (sz : Nat) (x lo hi : Int32) (h : x < lo ∨ ¬ x ≤ hi) : Kt l yT_checkArgument cT_checkArgument 3 none (r1 6) 1 6 D ct [.int x, .int lo, .int hi] sz (w0) (fun v w => False) (fun E w => E = "java/lang/IllegalArgumentException" ∧ w = w0) := by
  refine kt_of hst (by decide) (Nat.le_of_ble_eq_true rfl) (by simp [Value.category]) ?_
  intro p e s m args below meth c A ls C hne hr hw hl Q hQ
  have hx := C.1
  have hb := C.2.1
  refine q_iload_n hx hb hl dT_checkArgument_0 rfl ?_
  refine q_iload_n hx hb hl dT_checkArgument_1 rfl ?_
  refine lv_icmp_lt (tgt := 10) hx hb dT_checkArgument_2 (by decide) (fun c_2 => ?_) (fun c_2 => ?_)
  · exact tt_S (cls := "java/lang/IllegalArgumentException") hQ C hne hw hl x_T_carg ⟨dT_checkArgument_10, dT_checkArgument_13, dT_checkArgument_14, dT_checkArgument_16, dT_checkArgument_19⟩ ⟨(Nat.le_of_ble_eq_true rfl), (Nat.le_of_ble_eq_true rfl), (Nat.le_of_ble_eq_true rfl), (Nat.le_of_ble_eq_true rfl), (Nat.le_of_ble_eq_true rfl), (Nat.le_of_ble_eq_true rfl)⟩ ⟨rfl, rfl⟩
  refine q_iload_n hx hb hl dT_checkArgument_5 rfl ?_
  refine q_iload_n hx hb hl dT_checkArgument_6 rfl ?_
  refine lv_icmp_le (tgt := 20) hx hb dT_checkArgument_7 (by decide) (fun q9 => absurd q9 (h.resolve_left c_2)) (fun c_7 => ?_)
  exact tt_S (cls := "java/lang/IllegalArgumentException") hQ C hne hw hl x_T_carg ⟨dT_checkArgument_10, dT_checkArgument_13, dT_checkArgument_14, dT_checkArgument_16, dT_checkArgument_19⟩ ⟨(Nat.le_of_ble_eq_true rfl), (Nat.le_of_ble_eq_true rfl), (Nat.le_of_ble_eq_true rfl), (Nat.le_of_ble_eq_true rfl), (Nat.le_of_ble_eq_true rfl), (Nat.le_of_ble_eq_true rfl)⟩ ⟨rfl, rfl⟩
set_option maxHeartbeats 4000000 in
set_option maxRecDepth 100000 in
theorem c_str (l : Launch) (hst : l.stackTraces = false) (D : va_G) (ct : Ct) (ad : Ad) (N : Nat) (hN : N ≤ 16) (σ : St) (sz : Nat) (t : Nat) (ht : t < N) (i : Int32) (hi : i = nI t) : Kt l yT_strandOf cT_strandOf 2 (some (.object "ThreadSlots$Strand")) (r0 1) 0 0 D ct [.ref (ad 0 0), .int i] sz (wT ct ad N σ) (fun v w => v = some (.ref (ad 1 t)) ∧ w = wT ct ad N σ) (fun E w => False) := by
  refine kt_of hst (by decide) (Nat.le_of_ble_eq_true rfl) (by simp [Value.category]) ?_
  intro p e s m args below meth c A ls C hne hr hw hl Q hQ
  have hx := C.1
  have hb := C.2.1
  subst hi
  refine q_iload_n hx hb hl dT_strandOf_0 rfl ?_
  refine q_aload_n hx hb hl dT_strandOf_1 rfl ?_
  refine tg_T C hw 0 l_T_24 (by decide) rfl dT_strandOf_2 ?_
  refine ta_lenS C hw dT_strandOf_5 ?_
  refine tc_E (tc_S C hl (c_cidx l hst D ct (wT ct ad N σ) _ (nI t) (nI N) (nI_pos (by omega)) (nI_lt (by omega) (by omega))) hw.1 hw.2.1 hw.2.2 g_T_79 hd_T_checkIndex rfl rfl ⟨(Nat.le_of_ble_eq_true rfl), (Nat.le_of_ble_eq_true rfl)⟩ (Nat.le_of_ble_eq_true rfl) ⟨(Nat.le_of_ble_eq_true rfl), (Nat.le_of_ble_eq_true rfl)⟩ dT_strandOf_6 rfl) C hw (fun E ce q9 w1 H locs hp hw h1 h2 h3 => ?_) (fun v w1 H locs hp hw => ?_)
  · exact hp.elim
  obtain ⟨rfl, rfl⟩ := hp
  dsimp only [Option.toList_some, Option.toList_none, List.cons_append, List.nil_append]
  refine q_aload_n hx hb hl dT_strandOf_9 rfl ?_
  refine tg_T C hw 0 l_T_24 (by decide) rfl dT_strandOf_10 ?_
  refine q_iload_n hx hb hl dT_strandOf_13 rfl ?_
  refine ta_S C hw hN (by assumption) rfl dT_strandOf_14 ?_
  exact tr_a hQ C hw hr (Nat.le_of_ble_eq_true rfl) (Nat.le_of_ble_eq_true rfl) dT_strandOf_15 ⟨rfl, rfl⟩
set_option maxHeartbeats 4000000 in
set_option maxRecDepth 100000 in
theorem x_str (l : Launch) (hst : l.stackTraces = false) (D : va_G) (ct : Ct) (ad : Ad) (N : Nat) (hN : N ≤ 16) (σ : St) (sz : Nat) (i : Int32) (h : i < 0 ∨ ¬ i < nI N) : Kt l yT_strandOf cT_strandOf 2 (some (.object "ThreadSlots$Strand")) (r1 7) 1 6 D ct [.ref (ad 0 0), .int i] sz (wT ct ad N σ) (fun v w => False) (fun E w => E = "java/lang/IndexOutOfBoundsException" ∧ w = wT ct ad N σ) := by
  refine kt_of hst (by decide) (Nat.le_of_ble_eq_true rfl) (by simp [Value.category]) ?_
  intro p e s m args below meth c A ls C hne hr hw hl Q hQ
  have hx := C.1
  have hb := C.2.1
  refine q_iload_n hx hb hl dT_strandOf_0 rfl ?_
  refine q_aload_n hx hb hl dT_strandOf_1 rfl ?_
  refine tg_T C hw 0 l_T_24 (by decide) rfl dT_strandOf_2 ?_
  refine ta_lenS C hw dT_strandOf_5 ?_
  refine tc_E (tc_S C hl (x_cidx l hst D ct (wT ct ad N σ) _ i (nI N) h) hw.1 hw.2.1 hw.2.2 g_T_79 hd_T_checkIndex rfl rfl ⟨(Nat.le_of_ble_eq_true rfl), (Nat.le_of_ble_eq_true rfl)⟩ (Nat.le_of_ble_eq_true rfl) ⟨(Nat.le_of_ble_eq_true rfl), (Nat.le_of_ble_eq_true rfl)⟩ dT_strandOf_6 rfl) C hw (fun E ce q9 w1 H locs hp hw h1 h2 h3 => ?_) (fun v w1 H locs hp hw => ?_)
  · obtain ⟨rfl, rfl⟩ := hp
    exact tr_x hQ C hne hw (Nat.le_of_ble_eq_true rfl) (Nat.le_of_ble_eq_true rfl) ⟨rfl, rfl⟩ h1 h2 h3
  · exact hp.elim
set_option maxHeartbeats 4000000 in
set_option maxRecDepth 100000 in
theorem c_lin (l : Launch) (hst : l.stackTraces = false) (D : va_G) (ct : Ct) (ad : Ad) (N : Nat) (hN : N ≤ 16) (σ : St) (sz : Nat) (q : Nat) (hq : q < 8) (i : Int32) (hi : i = nI q) : Kt l yT_lineOf cT_lineOf 2 (some (.object "ThreadSlots$Line")) (r0 1) 0 0 D ct [.ref (ad 0 0), .int i] sz (wT ct ad N σ) (fun v w => v = some (.ref (ad 3 q)) ∧ w = wT ct ad N σ) (fun E w => False) := by
  refine kt_of hst (by decide) (Nat.le_of_ble_eq_true rfl) (by simp [Value.category]) ?_
  intro p e s m args below meth c A ls C hne hr hw hl Q hQ
  have hx := C.1
  have hb := C.2.1
  subst hi
  refine q_iload_n hx hb hl dT_lineOf_0 rfl ?_
  refine q_aload_n hx hb hl dT_lineOf_1 rfl ?_
  refine tg_T C hw 1 l_T_31 (by decide) rfl dT_lineOf_2 ?_
  refine ta_lenL C hw dT_lineOf_5 ?_
  refine tc_E (tc_S C hl (c_cidx l hst D ct (wT ct ad N σ) _ (nI q) (nI 8) (nI_pos (by omega)) (nI_lt (by omega) (by omega))) hw.1 hw.2.1 hw.2.2 g_T_79 hd_T_checkIndex rfl rfl ⟨(Nat.le_of_ble_eq_true rfl), (Nat.le_of_ble_eq_true rfl)⟩ (Nat.le_of_ble_eq_true rfl) ⟨(Nat.le_of_ble_eq_true rfl), (Nat.le_of_ble_eq_true rfl)⟩ dT_lineOf_6 rfl) C hw (fun E ce q9 w1 H locs hp hw h1 h2 h3 => ?_) (fun v w1 H locs hp hw => ?_)
  · exact hp.elim
  obtain ⟨rfl, rfl⟩ := hp
  dsimp only [Option.toList_some, Option.toList_none, List.cons_append, List.nil_append]
  refine q_aload_n hx hb hl dT_lineOf_9 rfl ?_
  refine tg_T C hw 1 l_T_31 (by decide) rfl dT_lineOf_10 ?_
  refine q_iload_n hx hb hl dT_lineOf_13 rfl ?_
  refine ta_L C hw (by assumption) rfl dT_lineOf_14 ?_
  exact tr_a hQ C hw hr (Nat.le_of_ble_eq_true rfl) (Nat.le_of_ble_eq_true rfl) dT_lineOf_15 ⟨rfl, rfl⟩
set_option maxHeartbeats 4000000 in
set_option maxRecDepth 100000 in
theorem x_lin (l : Launch) (hst : l.stackTraces = false) (D : va_G) (ct : Ct) (ad : Ad) (N : Nat) (hN : N ≤ 16) (σ : St) (sz : Nat) (i : Int32) (h : i < 0 ∨ ¬ i < nI 8) : Kt l yT_lineOf cT_lineOf 2 (some (.object "ThreadSlots$Line")) (r1 7) 1 6 D ct [.ref (ad 0 0), .int i] sz (wT ct ad N σ) (fun v w => False) (fun E w => E = "java/lang/IndexOutOfBoundsException" ∧ w = wT ct ad N σ) := by
  refine kt_of hst (by decide) (Nat.le_of_ble_eq_true rfl) (by simp [Value.category]) ?_
  intro p e s m args below meth c A ls C hne hr hw hl Q hQ
  have hx := C.1
  have hb := C.2.1
  refine q_iload_n hx hb hl dT_lineOf_0 rfl ?_
  refine q_aload_n hx hb hl dT_lineOf_1 rfl ?_
  refine tg_T C hw 1 l_T_31 (by decide) rfl dT_lineOf_2 ?_
  refine ta_lenL C hw dT_lineOf_5 ?_
  refine tc_E (tc_S C hl (x_cidx l hst D ct (wT ct ad N σ) _ i (nI 8) h) hw.1 hw.2.1 hw.2.2 g_T_79 hd_T_checkIndex rfl rfl ⟨(Nat.le_of_ble_eq_true rfl), (Nat.le_of_ble_eq_true rfl)⟩ (Nat.le_of_ble_eq_true rfl) ⟨(Nat.le_of_ble_eq_true rfl), (Nat.le_of_ble_eq_true rfl)⟩ dT_lineOf_6 rfl) C hw (fun E ce q9 w1 H locs hp hw h1 h2 h3 => ?_) (fun v w1 H locs hp hw => ?_)
  · obtain ⟨rfl, rfl⟩ := hp
    exact tr_x hQ C hne hw (Nat.le_of_ble_eq_true rfl) (Nat.le_of_ble_eq_true rfl) ⟨rfl, rfl⟩ h1 h2 h3
  · exact hp.elim
end
section
set_option maxHeartbeats 4000000 in
set_option maxRecDepth 100000 in
theorem c_see (l : Launch) (hst : l.stackTraces = false) (D : va_G) (ct : Ct) (ad : Ad) (N : Nat) (hN : N ≤ 16) (σ : St) (sz : Nat) : Kt l yT_seeWhoCanGo cT_seeWhoCanGo 3 none (r0 1) 0 0 D ct [.ref (ad 0 0)] sz (wT ct ad N σ) (fun v w => v = none ∧ w = wT ct ad N (tf_see N 0 σ)) (fun E w => False) := by
  refine kt_of hst (by decide) (Nat.le_of_ble_eq_true rfl) (by simp [Value.category]) ?_
  intro p e s m args below meth c A ls C hne hr hw hl Q hQ
  have hx := C.1
  have hb := C.2.1
  refine lv_iconst (v := 0) hx hb dT_seeWhoCanGo_0 (by decide) ?_
  refine q_istore_n hx hb hl dT_seeWhoCanGo_1 (by decide) (fun ls hl => ?_)
  have L2 : ∀ (n : Nat) (t : Nat) (τ : St), t + n = N → tf_see n t τ = tf_see N 0 σ → ∀ (H : Heap) (locs : List Loc) (ls : Array Slot), wl D A s (wT ct ad N τ) H locs → lq ls 3 [some (.ref (ad 0 0)), some (.int (nI t)), none] → W p l e (r0 1) s m args below meth c H locs 0 0 Q (F0 m 2 ls []) := by
    intro n
    induction n with
    | zero =>
      intro t τ hn he H locs ls hw hl
      refine q_iload_n hx hb hl dT_seeWhoCanGo_2 rfl ?_
      refine q_aload_n hx hb hl dT_seeWhoCanGo_3 rfl ?_
      refine tg_T C hw 0 l_T_24 (by decide) rfl dT_seeWhoCanGo_4 ?_
      refine ta_lenS C hw dT_seeWhoCanGo_7 ?_
      refine lv_icmp_ge (tgt := 63) hx hb dT_seeWhoCanGo_8 (by decide) (fun c_8 => ?_) (fun q9 => absurd (nI_le (by omega) (by omega)) q9)
      exact tr_v hQ C hw hr (Nat.le_of_ble_eq_true rfl) (Nat.le_of_ble_eq_true rfl) dT_seeWhoCanGo_63 ⟨rfl, by rw [← he]; rfl⟩
    | succ n ih =>
      intro t τ hn he H locs ls hw hl
      have ht : t < N := by omega
      refine q_iload_n hx hb hl dT_seeWhoCanGo_2 rfl ?_
      refine q_aload_n hx hb hl dT_seeWhoCanGo_3 rfl ?_
      refine tg_T C hw 0 l_T_24 (by decide) rfl dT_seeWhoCanGo_4 ?_
      refine ta_lenS C hw dT_seeWhoCanGo_7 ?_
      refine lv_icmp_ge (tgt := 63) hx hb dT_seeWhoCanGo_8 (by decide) (fun q9 => absurd q9 (nI_ge ht (by omega))) (fun c_8 => ?_)
      refine q_aload_n hx hb hl dT_seeWhoCanGo_11 rfl ?_
      refine tg_T C hw 0 l_T_24 (by decide) rfl dT_seeWhoCanGo_12 ?_
      refine q_iload_n hx hb hl dT_seeWhoCanGo_15 rfl ?_
      refine ta_S C hw hN (by assumption) rfl dT_seeWhoCanGo_16 ?_
      refine q_astore_n hx hb hl dT_seeWhoCanGo_17 (by decide) (fun ls hl => ?_)
      refine q_aload_n hx hb hl dT_seeWhoCanGo_18 rfl ?_
      refine tg_S C hw 3 l_T_65 (by decide) (by assumption) rfl dT_seeWhoCanGo_19 ?_
      refine q_aload_n hx hb hl dT_seeWhoCanGo_22 rfl ?_
      refine tg_T C hw 9 l_T_141 (by decide) rfl dT_seeWhoCanGo_23 ?_
      refine lv_icmp_gt (tgt := 34) hx hb dT_seeWhoCanGo_26 (by decide) (fun c_26 => ?_) (fun c_26 => ?_)
      · refine q_aload_n hx hb hl dT_seeWhoCanGo_34 rfl ?_
        refine q_aload_n hx hb hl dT_seeWhoCanGo_35 rfl ?_
        refine tg_S C hw 1 l_T_57 (by decide) (by assumption) rfl dT_seeWhoCanGo_36 ?_
        refine lv_if_eq (tgt := 53) hx hb dT_seeWhoCanGo_39 (by decide) (fun c_39 => ?_) (fun c_39 => ?_)
        · refine lv_iconst (v := 0) hx hb dT_seeWhoCanGo_53 (by decide) ?_
          refine tp_S C hw 8 l_T_165 (by decide) (by assumption) (by decide) dT_seeWhoCanGo_54 (fun H locs hw => ?_)
          refine q_inc hx hb hl dT_seeWhoCanGo_57 rfl (by decide) (fun ls hl => ?_)
          refine lv_goto (tgt := 2) hx hb dT_seeWhoCanGo_60 (by decide) ?_
          exact ih _ _ (by omega) (by rw [← he]; simp only [tf_see, tf_see1, if_pos c_26, if_pos c_39]) _ _ _ hw (hl.drop 2)
        refine q_aload_n hx hb hl dT_seeWhoCanGo_42 rfl ?_
        refine tg_S C hw 3 l_T_65 (by decide) (by assumption) rfl dT_seeWhoCanGo_43 ?_
        refine lv_if_ne (tgt := 53) hx hb dT_seeWhoCanGo_46 (by decide) (fun c_46 => ?_) (fun c_46 => ?_)
        · refine lv_iconst (v := 0) hx hb dT_seeWhoCanGo_53 (by decide) ?_
          refine tp_S C hw 8 l_T_165 (by decide) (by assumption) (by decide) dT_seeWhoCanGo_54 (fun H locs hw => ?_)
          refine q_inc hx hb hl dT_seeWhoCanGo_57 rfl (by decide) (fun ls hl => ?_)
          refine lv_goto (tgt := 2) hx hb dT_seeWhoCanGo_60 (by decide) ?_
          exact ih _ _ (by omega) (by rw [← he]; simp only [tf_see, tf_see1, if_pos c_26, if_neg c_39, if_neg c_46]) _ _ _ hw (hl.drop 2)
        refine lv_iconst (v := 1) hx hb dT_seeWhoCanGo_49 (by decide) ?_
        refine lv_goto (tgt := 54) hx hb dT_seeWhoCanGo_50 (by decide) ?_
        refine tp_S C hw 8 l_T_165 (by decide) (by assumption) (by decide) dT_seeWhoCanGo_54 (fun H locs hw => ?_)
        refine q_inc hx hb hl dT_seeWhoCanGo_57 rfl (by decide) (fun ls hl => ?_)
        refine lv_goto (tgt := 2) hx hb dT_seeWhoCanGo_60 (by decide) ?_
        exact ih _ _ (by omega) (by rw [← he]; simp only [tf_see, tf_see1, if_pos c_26, if_neg c_39, if_pos c_46]) _ _ _ hw (hl.drop 2)
      refine q_aload_n hx hb hl dT_seeWhoCanGo_29 rfl ?_
      refine lv_iconst (v := 0) hx hb dT_seeWhoCanGo_30 (by decide) ?_
      refine tp_S C hw 2 l_T_65 (by decide) (by assumption) (fun q => absurd q (by decide)) dT_seeWhoCanGo_31 (fun H locs hw => ?_)
      refine q_aload_n hx hb hl dT_seeWhoCanGo_34 rfl ?_
      refine q_aload_n hx hb hl dT_seeWhoCanGo_35 rfl ?_
      refine tg_S C hw 1 l_T_57 (by decide) (by assumption) rfl dT_seeWhoCanGo_36 ?_
      refine lv_if_eq (tgt := 53) hx hb dT_seeWhoCanGo_39 (by decide) (fun c_39 => ?_) (fun c_39 => ?_)
      · refine lv_iconst (v := 0) hx hb dT_seeWhoCanGo_53 (by decide) ?_
        refine tp_S C hw 8 l_T_165 (by decide) (by assumption) (by decide) dT_seeWhoCanGo_54 (fun H locs hw => ?_)
        refine q_inc hx hb hl dT_seeWhoCanGo_57 rfl (by decide) (fun ls hl => ?_)
        refine lv_goto (tgt := 2) hx hb dT_seeWhoCanGo_60 (by decide) ?_
        exact ih _ _ (by omega) (by rw [← he]; simp only [tf_see, tf_see1, if_neg c_26, if_pos c_39]) _ _ _ hw (hl.drop 2)
      refine q_aload_n hx hb hl dT_seeWhoCanGo_42 rfl ?_
      refine tg_S C hw 3 l_T_65 (by decide) (by assumption) rfl dT_seeWhoCanGo_43 ?_
      refine lv_if_ne (tgt := 53) hx hb dT_seeWhoCanGo_46 (by decide) (fun c_46 => ?_) (fun c_46 => ?_)
      · refine lv_iconst (v := 0) hx hb dT_seeWhoCanGo_53 (by decide) ?_
        refine tp_S C hw 8 l_T_165 (by decide) (by assumption) (by decide) dT_seeWhoCanGo_54 (fun H locs hw => ?_)
        refine q_inc hx hb hl dT_seeWhoCanGo_57 rfl (by decide) (fun ls hl => ?_)
        refine lv_goto (tgt := 2) hx hb dT_seeWhoCanGo_60 (by decide) ?_
        exact ih _ _ (by omega) (by rw [← he]; simp only [tf_see, tf_see1, if_neg c_26, if_neg c_39, if_neg c_46]) _ _ _ hw (hl.drop 2)
      refine lv_iconst (v := 1) hx hb dT_seeWhoCanGo_49 (by decide) ?_
      refine lv_goto (tgt := 54) hx hb dT_seeWhoCanGo_50 (by decide) ?_
      refine tp_S C hw 8 l_T_165 (by decide) (by assumption) (by decide) dT_seeWhoCanGo_54 (fun H locs hw => ?_)
      refine q_inc hx hb hl dT_seeWhoCanGo_57 rfl (by decide) (fun ls hl => ?_)
      refine lv_goto (tgt := 2) hx hb dT_seeWhoCanGo_60 (by decide) ?_
      exact ih _ _ (by omega) (by rw [← he]; simp only [tf_see, tf_see1, if_neg c_26, if_neg c_39, if_pos c_46]) _ _ _ hw (hl.drop 2)
  exact L2 N 0 σ (by omega) rfl _ _ _ hw hl
set_option maxHeartbeats 4000000 in
set_option maxRecDepth 100000 in
theorem c_over (l : Launch) (hst : l.stackTraces = false) (D : va_G) (ct : Ct) (ad : Ad) (N : Nat) (hN : N ≤ 16) (σ : St) (sz : Nat) : Kt l yT_findOverdue cT_findOverdue 5 (some .int) (r0 1) 0 0 D ct [.ref (ad 0 0)] sz (wT ct ad N σ) (fun v w => v = some (.int (tf_overdue N σ)) ∧ w = wT ct ad N σ) (fun E w => False) := by
  refine kt_of hst (by decide) (Nat.le_of_ble_eq_true rfl) (by simp [Value.category]) ?_
  intro p e s m args below meth c A ls C hne hr hw hl Q hQ
  have hx := C.1
  have hb := C.2.1
  refine q_aload_n hx hb hl dT_findOverdue_0 rfl ?_
  refine tg_T C hw 3 l_T_47 (by decide) rfl dT_findOverdue_1 ?_
  refine lv_if_ne (tgt := 9) hx hb dT_findOverdue_4 (by decide) (fun c_4 => ?_) (fun c_4 => ?_)
  · refine lv_iconst (v := -1) hx hb dT_findOverdue_9 (by decide) ?_
    refine q_istore_n hx hb hl dT_findOverdue_10 (by decide) (fun ls hl => ?_)
    refine q_aload_n hx hb hl dT_findOverdue_11 rfl ?_
    refine tg_T C hw 3 l_T_47 (by decide) rfl dT_findOverdue_12 ?_
    refine lv_iconst (v := 1) hx hb dT_findOverdue_15 (by decide) ?_
    refine lv_isub hx hb dT_findOverdue_16 ?_
    refine q_istore_n hx hb hl dT_findOverdue_17 (by decide) (fun ls hl => ?_)
    refine lv_iconst (v := 0) hx hb dT_findOverdue_18 (by decide) ?_
    refine q_istore_n hx hb hl dT_findOverdue_19 (by decide) (fun ls hl => ?_)
    have L20 : ∀ (n : Nat) (t : Nat) (b k : Int32), t + n = N → tf_over σ n t b k = tf_over σ N 0 (-1) (σ 0 0 1 - 1) → ∀ (H : Heap) (locs : List Loc) (ls : Array Slot), wl D A s (wT ct ad N σ) H locs → lq ls 5 [some (.ref (ad 0 0)), some (.int b), some (.int k), some (.int (nI t)), none] → W p l e (r0 1) s m args below meth c H locs 0 0 Q (F0 m 20 ls []) := by
      intro n
      induction n with
      | zero =>
        intro t b k hn he H locs ls hw hl
        refine q_iload_n hx hb hl dT_findOverdue_20 rfl ?_
        refine q_aload_n hx hb hl dT_findOverdue_21 rfl ?_
        refine tg_T C hw 0 l_T_24 (by decide) rfl dT_findOverdue_22 ?_
        refine ta_lenS C hw dT_findOverdue_25 ?_
        refine lv_icmp_ge (tgt := 68) hx hb dT_findOverdue_26 (by decide) (fun c_26 => ?_) (fun q9 => absurd (nI_le (by omega) (by omega)) q9)
        refine q_iload_n hx hb hl dT_findOverdue_68 rfl ?_
        exact tr_i hQ C hw hr (Nat.le_of_ble_eq_true rfl) (Nat.le_of_ble_eq_true rfl) dT_findOverdue_69 ⟨by rw [tf_overdue, if_neg c_4, ← he]; rfl, rfl⟩
      | succ n ih =>
        intro t b k hn he H locs ls hw hl
        have ht : t < N := by omega
        refine q_iload_n hx hb hl dT_findOverdue_20 rfl ?_
        refine q_aload_n hx hb hl dT_findOverdue_21 rfl ?_
        refine tg_T C hw 0 l_T_24 (by decide) rfl dT_findOverdue_22 ?_
        refine ta_lenS C hw dT_findOverdue_25 ?_
        refine lv_icmp_ge (tgt := 68) hx hb dT_findOverdue_26 (by decide) (fun q9 => absurd q9 (nI_ge ht (by omega))) (fun c_26 => ?_)
        refine q_aload_n hx hb hl dT_findOverdue_29 rfl ?_
        refine tg_T C hw 0 l_T_24 (by decide) rfl dT_findOverdue_30 ?_
        refine q_iload_n hx hb hl dT_findOverdue_33 rfl ?_
        refine ta_S C hw hN (by assumption) rfl dT_findOverdue_34 ?_
        refine q_astore hx hb hl dT_findOverdue_35 (by decide) (fun ls hl => ?_)
        refine q_aload hx hb hl dT_findOverdue_37 rfl ?_
        refine tg_S C hw 9 l_T_165 (by decide) (by assumption) rfl dT_findOverdue_39 ?_
        refine lv_if_eq (tgt := 62) hx hb dT_findOverdue_42 (by decide) (fun c_42 => ?_) (fun c_42 => ?_)
        · refine q_inc hx hb hl dT_findOverdue_62 rfl (by decide) (fun ls hl => ?_)
          refine lv_goto (tgt := 20) hx hb dT_findOverdue_65 (by decide) ?_
          exact ih _ _ _ (by omega) (by rw [← he]; simp [tf_over, c_42]) _ _ _ hw (hl.drop 4)
        refine q_aload hx hb hl dT_findOverdue_45 rfl ?_
        refine tg_S C hw 5 l_T_120 (by decide) (by assumption) rfl dT_findOverdue_47 ?_
        refine q_iload_n hx hb hl dT_findOverdue_50 rfl ?_
        refine lv_icmp_le (tgt := 62) hx hb dT_findOverdue_51 (by decide) (fun c_51 => ?_) (fun c_51 => ?_)
        · refine q_inc hx hb hl dT_findOverdue_62 rfl (by decide) (fun ls hl => ?_)
          refine lv_goto (tgt := 20) hx hb dT_findOverdue_65 (by decide) ?_
          exact ih _ _ _ (by omega) (by rw [← he]; simp [tf_over, c_42, c_51]) _ _ _ hw (hl.drop 4)
        refine q_iload_n hx hb hl dT_findOverdue_54 rfl ?_
        refine q_istore_n hx hb hl dT_findOverdue_55 (by decide) (fun ls hl => ?_)
        refine q_aload hx hb hl dT_findOverdue_56 rfl ?_
        refine tg_S C hw 5 l_T_120 (by decide) (by assumption) rfl dT_findOverdue_58 ?_
        refine q_istore_n hx hb hl dT_findOverdue_61 (by decide) (fun ls hl => ?_)
        refine q_inc hx hb hl dT_findOverdue_62 rfl (by decide) (fun ls hl => ?_)
        refine lv_goto (tgt := 20) hx hb dT_findOverdue_65 (by decide) ?_
        exact ih _ _ _ (by omega) (by rw [← he]; simp [tf_over, c_42, c_51]) _ _ _ hw (hl.drop 4)
    exact L20 N 0 _ _ (by omega) rfl _ _ _ hw hl
  refine lv_iconst (v := -1) hx hb dT_findOverdue_7 (by decide) ?_
  exact tr_i hQ C hw hr (Nat.le_of_ble_eq_true rfl) (Nat.le_of_ble_eq_true rfl) dT_findOverdue_8 ⟨by rw [tf_overdue, if_pos c_4], rfl⟩
set_option maxHeartbeats 4000000 in
set_option maxRecDepth 100000 in
theorem c_top (l : Launch) (hst : l.stackTraces = false) (D : va_G) (ct : Ct) (ad : Ad) (N : Nat) (hN : N ≤ 16) (σ : St) (sz : Nat) : Kt l yT_greatestRank cT_greatestRank 4 (some .int) (r0 1) 0 0 D ct [.ref (ad 0 0)] sz (wT ct ad N σ) (fun v w => v = some (.int (tf_top σ N 0 (-1))) ∧ w = wT ct ad N σ) (fun E w => False) := by
  refine kt_of hst (by decide) (Nat.le_of_ble_eq_true rfl) (by simp [Value.category]) ?_
  intro p e s m args below meth c A ls C hne hr hw hl Q hQ
  have hx := C.1
  have hb := C.2.1
  refine lv_iconst (v := -1) hx hb dT_greatestRank_0 (by decide) ?_
  refine q_istore_n hx hb hl dT_greatestRank_1 (by decide) (fun ls hl => ?_)
  refine lv_iconst (v := 0) hx hb dT_greatestRank_2 (by decide) ?_
  refine q_istore_n hx hb hl dT_greatestRank_3 (by decide) (fun ls hl => ?_)
  have L4 : ∀ (n : Nat) (t : Nat) (k : Int32), t + n = N → tf_top σ n t k = tf_top σ N 0 (-1) → ∀ (H : Heap) (locs : List Loc) (ls : Array Slot), wl D A s (wT ct ad N σ) H locs → lq ls 4 [some (.ref (ad 0 0)), some (.int k), some (.int (nI t)), none] → W p l e (r0 1) s m args below meth c H locs 0 0 Q (F0 m 4 ls []) := by
    intro n
    induction n with
    | zero =>
      intro t k hn he H locs ls hw hl
      refine q_iload_n hx hb hl dT_greatestRank_4 rfl ?_
      refine q_aload_n hx hb hl dT_greatestRank_5 rfl ?_
      refine tg_T C hw 0 l_T_24 (by decide) rfl dT_greatestRank_6 ?_
      refine ta_lenS C hw dT_greatestRank_9 ?_
      refine lv_icmp_ge (tgt := 46) hx hb dT_greatestRank_10 (by decide) (fun c_10 => ?_) (fun q9 => absurd (nI_le (by omega) (by omega)) q9)
      refine q_iload_n hx hb hl dT_greatestRank_46 rfl ?_
      exact tr_i hQ C hw hr (Nat.le_of_ble_eq_true rfl) (Nat.le_of_ble_eq_true rfl) dT_greatestRank_47 ⟨by rw [← he]; rfl, rfl⟩
    | succ n ih =>
      intro t k hn he H locs ls hw hl
      have ht : t < N := by omega
      refine q_iload_n hx hb hl dT_greatestRank_4 rfl ?_
      refine q_aload_n hx hb hl dT_greatestRank_5 rfl ?_
      refine tg_T C hw 0 l_T_24 (by decide) rfl dT_greatestRank_6 ?_
      refine ta_lenS C hw dT_greatestRank_9 ?_
      refine lv_icmp_ge (tgt := 46) hx hb dT_greatestRank_10 (by decide) (fun q9 => absurd q9 (nI_ge ht (by omega))) (fun c_10 => ?_)
      refine q_aload_n hx hb hl dT_greatestRank_13 rfl ?_
      refine tg_T C hw 0 l_T_24 (by decide) rfl dT_greatestRank_14 ?_
      refine q_iload_n hx hb hl dT_greatestRank_17 rfl ?_
      refine ta_S C hw hN (by assumption) rfl dT_greatestRank_18 ?_
      refine q_astore_n hx hb hl dT_greatestRank_19 (by decide) (fun ls hl => ?_)
      refine q_aload_n hx hb hl dT_greatestRank_20 rfl ?_
      refine tg_S C hw 9 l_T_165 (by decide) (by assumption) rfl dT_greatestRank_21 ?_
      refine lv_if_eq (tgt := 40) hx hb dT_greatestRank_24 (by decide) (fun c_24 => ?_) (fun c_24 => ?_)
      · refine q_inc hx hb hl dT_greatestRank_40 rfl (by decide) (fun ls hl => ?_)
        refine lv_goto (tgt := 4) hx hb dT_greatestRank_43 (by decide) ?_
        exact ih _ _ (by omega) (by rw [← he]; simp [tf_top, c_24]) _ _ _ hw (hl.drop 3)
      refine q_aload_n hx hb hl dT_greatestRank_27 rfl ?_
      refine tg_S C hw 2 l_T_61 (by decide) (by assumption) rfl dT_greatestRank_28 ?_
      refine q_iload_n hx hb hl dT_greatestRank_31 rfl ?_
      refine lv_icmp_le (tgt := 40) hx hb dT_greatestRank_32 (by decide) (fun c_32 => ?_) (fun c_32 => ?_)
      · refine q_inc hx hb hl dT_greatestRank_40 rfl (by decide) (fun ls hl => ?_)
        refine lv_goto (tgt := 4) hx hb dT_greatestRank_43 (by decide) ?_
        exact ih _ _ (by omega) (by rw [← he]; simp [tf_top, c_24, c_32]) _ _ _ hw (hl.drop 3)
      refine q_aload_n hx hb hl dT_greatestRank_35 rfl ?_
      refine tg_S C hw 2 l_T_61 (by decide) (by assumption) rfl dT_greatestRank_36 ?_
      refine q_istore_n hx hb hl dT_greatestRank_39 (by decide) (fun ls hl => ?_)
      refine q_inc hx hb hl dT_greatestRank_40 rfl (by decide) (fun ls hl => ?_)
      refine lv_goto (tgt := 4) hx hb dT_greatestRank_43 (by decide) ?_
      exact ih _ _ (by omega) (by rw [← he]; simp [tf_top, c_24, c_32]) _ _ _ hw (hl.drop 3)
  exact L4 N 0 _ (by omega) rfl _ _ _ hw hl
set_option maxHeartbeats 4000000 in
set_option maxRecDepth 100000 in
theorem c_cand (l : Launch) (hst : l.stackTraces = false) (D : va_G) (ct : Ct) (ad : Ad) (N : Nat) (hN : N ≤ 16) (σ : St) (sz : Nat) (t : Nat) (ht : t < N) (top : Int32) : Kt l yT_isCandidate cT_isCandidate 3 (some .boolean) (r0 0) 0 0 D ct [.ref (ad 0 0), .ref (ad 1 t), .int top] sz (wT ct ad N σ) (fun v w => v = some (.int (tf_cand σ t top)) ∧ w = wT ct ad N σ) (fun E w => False) := by
  refine kt_of hst (by decide) (Nat.le_of_ble_eq_true rfl) (by simp [Value.category]) ?_
  intro p e s m args below meth c A ls C hne hr hw hl Q hQ
  have hx := C.1
  have hb := C.2.1
  refine q_aload_n hx hb hl dT_isCandidate_0 rfl ?_
  refine tg_S C hw 9 l_T_165 (by decide) (by assumption) rfl dT_isCandidate_1 ?_
  refine lv_if_eq (tgt := 19) hx hb dT_isCandidate_4 (by decide) (fun c_4 => ?_) (fun c_4 => ?_)
  · refine lv_iconst (v := 0) hx hb dT_isCandidate_19 (by decide) ?_
    exact tr_z hQ C hw hr (Nat.le_of_ble_eq_true rfl) (Nat.le_of_ble_eq_true rfl) dT_isCandidate_20 (by decide) ⟨by simp [tf_cand, c_4], rfl⟩
  refine q_aload_n hx hb hl dT_isCandidate_7 rfl ?_
  refine tg_S C hw 2 l_T_61 (by decide) (by assumption) rfl dT_isCandidate_8 ?_
  refine q_iload_n hx hb hl dT_isCandidate_11 rfl ?_
  refine lv_icmp_ne (tgt := 19) hx hb dT_isCandidate_12 (by decide) (fun c_12 => ?_) (fun c_12 => ?_)
  · refine lv_iconst (v := 0) hx hb dT_isCandidate_19 (by decide) ?_
    exact tr_z hQ C hw hr (Nat.le_of_ble_eq_true rfl) (Nat.le_of_ble_eq_true rfl) dT_isCandidate_20 (by decide) ⟨by simp [tf_cand, c_4, c_12], rfl⟩
  refine lv_iconst (v := 1) hx hb dT_isCandidate_15 (by decide) ?_
  refine lv_goto (tgt := 20) hx hb dT_isCandidate_16 (by decide) ?_
  exact tr_z hQ C hw hr (Nat.le_of_ble_eq_true rfl) (Nat.le_of_ble_eq_true rfl) dT_isCandidate_20 (by decide) ⟨by simp [tf_cand, c_4, c_12], rfl⟩
set_option maxHeartbeats 4000000 in
set_option maxRecDepth 100000 in
theorem c_next (l : Launch) (hst : l.stackTraces = false) (D : va_G) (ct : Ct) (ad : Ad) (N : Nat) (hN : N ≤ 16) (σ : St) (sz : Nat) (top : Int32) : Kt l yT_findNextInTurn cT_findNextInTurn 4 (some .int) (r0 1) 0 0 D ct [.ref (ad 0 0), .int top] sz (wT ct ad N σ) (fun v w => v = some (.int (tf_next σ top N 0 (-1))) ∧ w = wT ct ad N σ) (fun E w => False) := by
  refine kt_of hst (by decide) (Nat.le_of_ble_eq_true rfl) (by simp [Value.category]) ?_
  intro p e s m args below meth c A ls C hne hr hw hl Q hQ
  have hx := C.1
  have hb := C.2.1
  refine lv_iconst (v := -1) hx hb dT_findNextInTurn_0 (by decide) ?_
  refine q_istore_n hx hb hl dT_findNextInTurn_1 (by decide) (fun ls hl => ?_)
  refine lv_iconst (v := 0) hx hb dT_findNextInTurn_2 (by decide) ?_
  refine q_istore_n hx hb hl dT_findNextInTurn_3 (by decide) (fun ls hl => ?_)
  have L4 : ∀ (n : Nat) (t : Nat) (k : Int32), t + n = N → tf_next σ top n t k = tf_next σ top N 0 (-1) → ∀ (H : Heap) (locs : List Loc) (ls : Array Slot), wl D A s (wT ct ad N σ) H locs → lq ls 4 [some (.ref (ad 0 0)), some (.int top), some (.int k), some (.int (nI t))] → W p l e (r0 1) s m args below meth c H locs 0 0 Q (F0 m 4 ls []) := by
    intro n
    induction n with
    | zero =>
      intro t k hn he H locs ls hw hl
      refine q_iload_n hx hb hl dT_findNextInTurn_4 rfl ?_
      refine q_aload_n hx hb hl dT_findNextInTurn_5 rfl ?_
      refine tg_T C hw 0 l_T_24 (by decide) rfl dT_findNextInTurn_6 ?_
      refine ta_lenS C hw dT_findNextInTurn_9 ?_
      refine lv_icmp_ge (tgt := 50) hx hb dT_findNextInTurn_10 (by decide) (fun c_10 => ?_) (fun q9 => absurd (nI_le (by omega) (by omega)) q9)
      refine q_iload_n hx hb hl dT_findNextInTurn_50 rfl ?_
      exact tr_i hQ C hw hr (Nat.le_of_ble_eq_true rfl) (Nat.le_of_ble_eq_true rfl) dT_findNextInTurn_51 ⟨by rw [← he]; rfl, rfl⟩
    | succ n ih =>
      intro t k hn he H locs ls hw hl
      have ht : t < N := by omega
      refine q_iload_n hx hb hl dT_findNextInTurn_4 rfl ?_
      refine q_aload_n hx hb hl dT_findNextInTurn_5 rfl ?_
      refine tg_T C hw 0 l_T_24 (by decide) rfl dT_findNextInTurn_6 ?_
      refine ta_lenS C hw dT_findNextInTurn_9 ?_
      refine lv_icmp_ge (tgt := 50) hx hb dT_findNextInTurn_10 (by decide) (fun q9 => absurd q9 (nI_ge ht (by omega))) (fun c_10 => ?_)
      refine q_aload_n hx hb hl dT_findNextInTurn_13 rfl ?_
      refine q_aload_n hx hb hl dT_findNextInTurn_14 rfl ?_
      refine tg_T C hw 0 l_T_24 (by decide) rfl dT_findNextInTurn_15 ?_
      refine q_iload_n hx hb hl dT_findNextInTurn_18 rfl ?_
      refine ta_S C hw hN (by assumption) rfl dT_findNextInTurn_19 ?_
      refine q_iload_n hx hb hl dT_findNextInTurn_20 rfl ?_
      refine tc_E (tc_V C hl (c_cand l hst D ct ad N hN σ _ t ht top) hw.1 hw.2.1 hw.2.2 g_T_195 (re_T C hw) hv_T_isCandidate rfl rfl ⟨(Nat.le_of_ble_eq_true rfl), (Nat.le_of_ble_eq_true rfl)⟩ (Nat.le_of_ble_eq_true rfl) ⟨(Nat.le_of_ble_eq_true rfl), (Nat.le_of_ble_eq_true rfl)⟩ dT_findNextInTurn_21 rfl) C hw (fun E ce q9 w1 H locs hp hw h1 h2 h3 => ?_) (fun v w1 H locs hp hw => ?_)
      · exact hp.elim
      obtain ⟨rfl, rfl⟩ := hp
      dsimp only [Option.toList_some, Option.toList_none, List.cons_append, List.nil_append]
      refine lv_if_eq (tgt := 44) hx hb dT_findNextInTurn_24 (by decide) (fun c_24 => ?_) (fun c_24 => ?_)
      · refine q_inc hx hb hl dT_findNextInTurn_44 rfl (by decide) (fun ls hl => ?_)
        refine lv_goto (tgt := 4) hx hb dT_findNextInTurn_47 (by decide) ?_
        exact ih _ _ (by omega) (by rw [← he]; simp [tf_next, c_24]) _ _ _ hw hl
      refine q_iload_n hx hb hl dT_findNextInTurn_27 rfl ?_
      refine q_aload_n hx hb hl dT_findNextInTurn_28 rfl ?_
      refine tg_T C hw 6 l_T_9 (by decide) rfl dT_findNextInTurn_29 ?_
      refine lv_icmp_le (tgt := 37) hx hb dT_findNextInTurn_32 (by decide) (fun c_32 => ?_) (fun c_32 => ?_)
      · refine q_iload_n hx hb hl dT_findNextInTurn_37 rfl ?_
        refine lv_iconst (v := -1) hx hb dT_findNextInTurn_38 (by decide) ?_
        refine lv_icmp_ne (tgt := 44) hx hb dT_findNextInTurn_39 (by decide) (fun c_39 => ?_) (fun c_39 => ?_)
        · refine q_inc hx hb hl dT_findNextInTurn_44 rfl (by decide) (fun ls hl => ?_)
          refine lv_goto (tgt := 4) hx hb dT_findNextInTurn_47 (by decide) ?_
          exact ih _ _ (by omega) (by rw [← he]; simp [tf_next, c_24, c_32, c_39]) _ _ _ hw hl
        refine q_iload_n hx hb hl dT_findNextInTurn_42 rfl ?_
        refine q_istore_n hx hb hl dT_findNextInTurn_43 (by decide) (fun ls hl => ?_)
        refine q_inc hx hb hl dT_findNextInTurn_44 rfl (by decide) (fun ls hl => ?_)
        refine lv_goto (tgt := 4) hx hb dT_findNextInTurn_47 (by decide) ?_
        exact ih _ _ (by omega) (by rw [← he]; simp [tf_next, c_24, c_32, c_39]) _ _ _ hw hl
      refine q_iload_n hx hb hl dT_findNextInTurn_35 rfl ?_
      exact tr_i hQ C hw hr (Nat.le_of_ble_eq_true rfl) (Nat.le_of_ble_eq_true rfl) dT_findNextInTurn_36 ⟨by rw [← he]; simp [tf_next, c_24, c_32], rfl⟩
  exact L4 N 0 _ (by omega) rfl _ _ _ hw hl
set_option maxHeartbeats 4000000 in
set_option maxRecDepth 100000 in
theorem c_few (l : Launch) (hst : l.stackTraces = false) (D : va_G) (ct : Ct) (ad : Ad) (N : Nat) (hN : N ≤ 16) (σ : St) (sz : Nat) (top : Int32) : Kt l yT_findFewest cT_findFewest 7 (some .int) (r0 1) 0 0 D ct [.ref (ad 0 0), .int top] sz (wT ct ad N σ) (fun v w => v = some (.int (tf_few σ top N 0 (-1) 0)) ∧ w = wT ct ad N σ) (fun E w => False) := by
  refine kt_of hst (by decide) (Nat.le_of_ble_eq_true rfl) (by simp [Value.category]) ?_
  intro p e s m args below meth c A ls C hne hr hw hl Q hQ
  have hx := C.1
  have hb := C.2.1
  refine lv_iconst (v := -1) hx hb dT_findFewest_0 (by decide) ?_
  refine q_istore_n hx hb hl dT_findFewest_1 (by decide) (fun ls hl => ?_)
  refine lv_iconst (v := 0) hx hb dT_findFewest_2 (by decide) ?_
  refine q_istore_n hx hb hl dT_findFewest_3 (by decide) (fun ls hl => ?_)
  refine lv_iconst (v := 0) hx hb dT_findFewest_4 (by decide) ?_
  refine q_istore hx hb hl dT_findFewest_5 (by decide) (fun ls hl => ?_)
  have L7 : ∀ (n : Nat) (t : Nat) (b k : Int32), t + n = N → tf_few σ top n t b k = tf_few σ top N 0 (-1) 0 → ∀ (H : Heap) (locs : List Loc) (ls : Array Slot), wl D A s (wT ct ad N σ) H locs → lq ls 7 [some (.ref (ad 0 0)), some (.int top), some (.int b), some (.int k), some (.int (nI t)), none, none] → W p l e (r0 1) s m args below meth c H locs 0 0 Q (F0 m 7 ls []) := by
    intro n
    induction n with
    | zero =>
      intro t b k hn he H locs ls hw hl
      refine q_iload hx hb hl dT_findFewest_7 rfl ?_
      refine q_aload_n hx hb hl dT_findFewest_9 rfl ?_
      refine tg_T C hw 0 l_T_24 (by decide) rfl dT_findFewest_10 ?_
      refine ta_lenS C hw dT_findFewest_13 ?_
      refine lv_icmp_ge (tgt := 82) hx hb dT_findFewest_14 (by decide) (fun c_14 => ?_) (fun q9 => absurd (nI_le (by omega) (by omega)) q9)
      refine q_iload_n hx hb hl dT_findFewest_82 rfl ?_
      exact tr_i hQ C hw hr (Nat.le_of_ble_eq_true rfl) (Nat.le_of_ble_eq_true rfl) dT_findFewest_83 ⟨by rw [← he]; rfl, rfl⟩
    | succ n ih =>
      intro t b k hn he H locs ls hw hl
      have ht : t < N := by omega
      refine q_iload hx hb hl dT_findFewest_7 rfl ?_
      refine q_aload_n hx hb hl dT_findFewest_9 rfl ?_
      refine tg_T C hw 0 l_T_24 (by decide) rfl dT_findFewest_10 ?_
      refine ta_lenS C hw dT_findFewest_13 ?_
      refine lv_icmp_ge (tgt := 82) hx hb dT_findFewest_14 (by decide) (fun q9 => absurd q9 (nI_ge ht (by omega))) (fun c_14 => ?_)
      refine q_aload_n hx hb hl dT_findFewest_17 rfl ?_
      refine tg_T C hw 0 l_T_24 (by decide) rfl dT_findFewest_18 ?_
      refine q_iload hx hb hl dT_findFewest_21 rfl ?_
      refine ta_S C hw hN (by assumption) rfl dT_findFewest_23 ?_
      refine q_astore hx hb hl dT_findFewest_24 (by decide) (fun ls hl => ?_)
      refine q_aload_n hx hb hl dT_findFewest_26 rfl ?_
      refine tg_T C hw 2 l_T_44 (by decide) rfl dT_findFewest_27 ?_
      refine lv_iconst (v := 1) hx hb dT_findFewest_30 (by decide) ?_
      refine lv_icmp_ne (tgt := 42) hx hb dT_findFewest_31 (by decide) (fun c_31 => ?_) (fun c_31 => ?_)
      · refine q_aload hx hb hl dT_findFewest_42 rfl ?_
        refine tg_S C hw 4 l_T_68 (by decide) (by assumption) rfl dT_findFewest_44 ?_
        refine q_istore hx hb hl dT_findFewest_47 (by decide) (fun ls hl => ?_)
        refine q_aload_n hx hb hl dT_findFewest_49 rfl ?_
        refine q_aload hx hb hl dT_findFewest_50 rfl ?_
        refine q_iload_n hx hb hl dT_findFewest_52 rfl ?_
        refine tc_E (tc_V C hl (c_cand l hst D ct ad N hN σ _ t ht top) hw.1 hw.2.1 hw.2.2 g_T_195 (re_T C hw) hv_T_isCandidate rfl rfl ⟨(Nat.le_of_ble_eq_true rfl), (Nat.le_of_ble_eq_true rfl)⟩ (Nat.le_of_ble_eq_true rfl) ⟨(Nat.le_of_ble_eq_true rfl), (Nat.le_of_ble_eq_true rfl)⟩ dT_findFewest_53 rfl) C hw (fun E ce q9 w1 H locs hp hw h1 h2 h3 => ?_) (fun v w1 H locs hp hw => ?_)
        · exact hp.elim
        obtain ⟨rfl, rfl⟩ := hp
        dsimp only [Option.toList_some, Option.toList_none, List.cons_append, List.nil_append]
        refine lv_if_eq (tgt := 76) hx hb dT_findFewest_56 (by decide) (fun c_56 => ?_) (fun c_56 => ?_)
        · refine q_inc hx hb hl dT_findFewest_76 rfl (by decide) (fun ls hl => ?_)
          refine lv_goto (tgt := 7) hx hb dT_findFewest_79 (by decide) ?_
          exact ih _ _ _ (by omega) (by rw [← he]; simp [tf_few, tf_has, c_31, c_56]) _ _ _ hw ((hl.drop 5).drop 6)
        refine q_iload_n hx hb hl dT_findFewest_59 rfl ?_
        refine lv_iconst (v := -1) hx hb dT_findFewest_60 (by decide) ?_
        refine lv_icmp_eq (tgt := 70) hx hb dT_findFewest_61 (by decide) (fun c_61 => ?_) (fun c_61 => ?_)
        · refine q_iload hx hb hl dT_findFewest_70 rfl ?_
          refine q_istore_n hx hb hl dT_findFewest_72 (by decide) (fun ls hl => ?_)
          refine q_iload hx hb hl dT_findFewest_73 rfl ?_
          refine q_istore_n hx hb hl dT_findFewest_75 (by decide) (fun ls hl => ?_)
          refine q_inc hx hb hl dT_findFewest_76 rfl (by decide) (fun ls hl => ?_)
          refine lv_goto (tgt := 7) hx hb dT_findFewest_79 (by decide) ?_
          exact ih _ _ _ (by omega) (by rw [← he]; simp [tf_few, tf_has, c_31, c_56, c_61]) _ _ _ hw ((hl.drop 5).drop 6)
        refine q_iload hx hb hl dT_findFewest_64 rfl ?_
        refine q_iload_n hx hb hl dT_findFewest_66 rfl ?_
        refine lv_icmp_ge (tgt := 76) hx hb dT_findFewest_67 (by decide) (fun c_67 => ?_) (fun c_67 => ?_)
        · refine q_inc hx hb hl dT_findFewest_76 rfl (by decide) (fun ls hl => ?_)
          refine lv_goto (tgt := 7) hx hb dT_findFewest_79 (by decide) ?_
          exact ih _ _ _ (by omega) (by rw [← he]; simp [tf_few, tf_has, c_31, c_56, c_61, c_67]) _ _ _ hw ((hl.drop 5).drop 6)
        refine q_iload hx hb hl dT_findFewest_70 rfl ?_
        refine q_istore_n hx hb hl dT_findFewest_72 (by decide) (fun ls hl => ?_)
        refine q_iload hx hb hl dT_findFewest_73 rfl ?_
        refine q_istore_n hx hb hl dT_findFewest_75 (by decide) (fun ls hl => ?_)
        refine q_inc hx hb hl dT_findFewest_76 rfl (by decide) (fun ls hl => ?_)
        refine lv_goto (tgt := 7) hx hb dT_findFewest_79 (by decide) ?_
        exact ih _ _ _ (by omega) (by rw [← he]; simp [tf_few, tf_has, c_31, c_56, c_61, c_67]) _ _ _ hw ((hl.drop 5).drop 6)
      refine q_aload hx hb hl dT_findFewest_34 rfl ?_
      refine tg_S C hw 7 l_T_126 (by decide) (by assumption) rfl dT_findFewest_36 ?_
      refine lv_goto (tgt := 47) hx hb dT_findFewest_39 (by decide) ?_
      refine q_istore hx hb hl dT_findFewest_47 (by decide) (fun ls hl => ?_)
      refine q_aload_n hx hb hl dT_findFewest_49 rfl ?_
      refine q_aload hx hb hl dT_findFewest_50 rfl ?_
      refine q_iload_n hx hb hl dT_findFewest_52 rfl ?_
      refine tc_E (tc_V C hl (c_cand l hst D ct ad N hN σ _ t ht top) hw.1 hw.2.1 hw.2.2 g_T_195 (re_T C hw) hv_T_isCandidate rfl rfl ⟨(Nat.le_of_ble_eq_true rfl), (Nat.le_of_ble_eq_true rfl)⟩ (Nat.le_of_ble_eq_true rfl) ⟨(Nat.le_of_ble_eq_true rfl), (Nat.le_of_ble_eq_true rfl)⟩ dT_findFewest_53 rfl) C hw (fun E ce q9 w1 H locs hp hw h1 h2 h3 => ?_) (fun v w1 H locs hp hw => ?_)
      · exact hp.elim
      obtain ⟨rfl, rfl⟩ := hp
      dsimp only [Option.toList_some, Option.toList_none, List.cons_append, List.nil_append]
      refine lv_if_eq (tgt := 76) hx hb dT_findFewest_56 (by decide) (fun c_56 => ?_) (fun c_56 => ?_)
      · refine q_inc hx hb hl dT_findFewest_76 rfl (by decide) (fun ls hl => ?_)
        refine lv_goto (tgt := 7) hx hb dT_findFewest_79 (by decide) ?_
        exact ih _ _ _ (by omega) (by rw [← he]; simp [tf_few, tf_has, c_31, c_56]) _ _ _ hw ((hl.drop 5).drop 6)
      refine q_iload_n hx hb hl dT_findFewest_59 rfl ?_
      refine lv_iconst (v := -1) hx hb dT_findFewest_60 (by decide) ?_
      refine lv_icmp_eq (tgt := 70) hx hb dT_findFewest_61 (by decide) (fun c_61 => ?_) (fun c_61 => ?_)
      · refine q_iload hx hb hl dT_findFewest_70 rfl ?_
        refine q_istore_n hx hb hl dT_findFewest_72 (by decide) (fun ls hl => ?_)
        refine q_iload hx hb hl dT_findFewest_73 rfl ?_
        refine q_istore_n hx hb hl dT_findFewest_75 (by decide) (fun ls hl => ?_)
        refine q_inc hx hb hl dT_findFewest_76 rfl (by decide) (fun ls hl => ?_)
        refine lv_goto (tgt := 7) hx hb dT_findFewest_79 (by decide) ?_
        exact ih _ _ _ (by omega) (by rw [← he]; simp [tf_few, tf_has, c_31, c_56, c_61]) _ _ _ hw ((hl.drop 5).drop 6)
      refine q_iload hx hb hl dT_findFewest_64 rfl ?_
      refine q_iload_n hx hb hl dT_findFewest_66 rfl ?_
      refine lv_icmp_ge (tgt := 76) hx hb dT_findFewest_67 (by decide) (fun c_67 => ?_) (fun c_67 => ?_)
      · refine q_inc hx hb hl dT_findFewest_76 rfl (by decide) (fun ls hl => ?_)
        refine lv_goto (tgt := 7) hx hb dT_findFewest_79 (by decide) ?_
        exact ih _ _ _ (by omega) (by rw [← he]; simp [tf_few, tf_has, c_31, c_56, c_61, c_67]) _ _ _ hw ((hl.drop 5).drop 6)
      refine q_iload hx hb hl dT_findFewest_70 rfl ?_
      refine q_istore_n hx hb hl dT_findFewest_72 (by decide) (fun ls hl => ?_)
      refine q_iload hx hb hl dT_findFewest_73 rfl ?_
      refine q_istore_n hx hb hl dT_findFewest_75 (by decide) (fun ls hl => ?_)
      refine q_inc hx hb hl dT_findFewest_76 rfl (by decide) (fun ls hl => ?_)
      refine lv_goto (tgt := 7) hx hb dT_findFewest_79 (by decide) ?_
      exact ih _ _ _ (by omega) (by rw [← he]; simp [tf_few, tf_has, c_31, c_56, c_61, c_67]) _ _ _ hw ((hl.drop 5).drop 6)
  exact L7 N 0 _ _ (by omega) rfl _ _ _ hw hl
end
section
set_option maxHeartbeats 4000000 in
set_option maxRecDepth 100000 in
theorem c_seed (l : Launch) (hst : l.stackTraces = false) (D : va_G) (ct : Ct) (ad : Ad) (N : Nat) (hN : N ≤ 16) (σ : St) (sz : Nat) (top : Int32) : Kt l yT_findBySeed cT_findBySeed 5 (some .int) (r0 1) 0 0 D ct [.ref (ad 0 0), .int top] sz (wT ct ad N σ) (fun v w => v = some (.int (tf_seedA N top σ)) ∧ w = wT ct ad N (tf_seedS N top σ)) (fun E w => False) := by
  refine kt_of hst (by decide) (Nat.le_of_ble_eq_true rfl) (by simp [Value.category]) ?_
  intro p e s m args below meth c A ls C hne hr hw hl Q hQ
  have hx := C.1
  have hb := C.2.1
  refine lv_iconst (v := 0) hx hb dT_findBySeed_0 (by decide) ?_
  refine q_istore_n hx hb hl dT_findBySeed_1 (by decide) (fun ls hl => ?_)
  refine lv_iconst (v := 0) hx hb dT_findBySeed_2 (by decide) ?_
  refine q_istore_n hx hb hl dT_findBySeed_3 (by decide) (fun ls hl => ?_)
  have L4 : ∀ (n : Nat) (t : Nat) (k : Int32), t + n = N → tf_cnt σ top n t k = tf_cnt σ top N 0 0 → ∀ (H : Heap) (locs : List Loc) (ls : Array Slot), wl D A s (wT ct ad N σ) H locs → lq ls 5 [some (.ref (ad 0 0)), some (.int top), some (.int k), some (.int (nI t)), none] → W p l e (r0 1) s m args below meth c H locs 0 0 Q (F0 m 4 ls []) := by
    intro n
    induction n with
    | zero =>
      intro t k hn he H locs ls hw hl
      refine q_iload_n hx hb hl dT_findBySeed_4 rfl ?_
      refine q_aload_n hx hb hl dT_findBySeed_5 rfl ?_
      refine tg_T C hw 0 l_T_24 (by decide) rfl dT_findBySeed_6 ?_
      refine ta_lenS C hw dT_findBySeed_9 ?_
      refine lv_icmp_ge (tgt := 36) hx hb dT_findBySeed_10 (by decide) (fun c_10 => ?_) (fun q9 => absurd (nI_le (by omega) (by omega)) q9)
      have he2 : k = tf_cnt σ top N 0 0 := he
      refine q_iload_n hx hb hl dT_findBySeed_36 rfl ?_
      refine lv_if_ne (tgt := 42) hx hb dT_findBySeed_37 (by decide) (fun c_37 => ?_) (fun c_37 => ?_)
      · refine q_aload_n hx hb hl dT_findBySeed_42 rfl ?_
        refine lv_ldc hx hb C.2.2.2.1 (C.2.2.2.2.1 _ k_T_199) dT_findBySeed_43 ?_
        refine q_aload_n hx hb hl dT_findBySeed_45 rfl ?_
        refine tg_T C hw 5 l_T_37 (by decide) rfl dT_findBySeed_46 ?_
        refine lv_imul hx hb dT_findBySeed_49 ?_
        refine lv_sipush (v := 12345) hx hb dT_findBySeed_50 (by decide) ?_
        refine lv_iadd hx hb dT_findBySeed_53 ?_
        refine lv_ldc hx hb C.2.2.2.1 (C.2.2.2.2.1 _ k_T_36) dT_findBySeed_54 ?_
        refine lv_iand hx hb dT_findBySeed_56 ?_
        refine tp_T C hw 3 l_T_37 (by decide) dT_findBySeed_57 (fun H locs hw => ?_)
        refine q_aload_n hx hb hl dT_findBySeed_60 rfl ?_
        refine tg_T C hw 5 l_T_37 (by decide) rfl dT_findBySeed_61 ?_
        refine lv_ldc hx hb C.2.2.2.1 (C.2.2.2.2.1 _ k_T_200) dT_findBySeed_64 ?_
        refine lv_idiv hx hb dT_findBySeed_66 (by decide) ?_
        refine q_iload_n hx hb hl dT_findBySeed_67 rfl ?_
        refine lv_irem hx hb dT_findBySeed_68 (by assumption) ?_
        refine q_istore_n hx hb hl dT_findBySeed_69 (by decide) (fun ls hl => ?_)
        refine lv_iconst (v := 0) hx hb dT_findBySeed_70 (by decide) ?_
        refine q_istore hx hb hl dT_findBySeed_71 (by decide) (fun ls hl => ?_)
        have L73 : ∀ (n : Nat) (t : Nat) (j : Int32), t + n = N → tf_pick (su σ 0 0 3 (tf_x σ)) top n t j = tf_pick (su σ 0 0 3 (tf_x σ)) top N 0 (tf_x σ / 65536 - tf_x σ / 65536 / k * k) → ∀ (H : Heap) (locs : List Loc) (ls : Array Slot), wl D A s (wT ct ad N (su σ 0 0 3 (tf_x σ))) H locs → lq ls 5 [some (.ref (ad 0 0)), some (.int top), some (.int k), some (.int j), some (.int (nI t))] → W p l e (r0 1) s m args below meth c H locs 0 0 Q (F0 m 73 ls []) := by
          intro n
          induction n with
          | zero =>
            intro t j hn he3 H locs ls hw hl
            refine q_iload hx hb hl dT_findBySeed_73 rfl ?_
            refine q_aload_n hx hb hl dT_findBySeed_75 rfl ?_
            refine tg_T C hw 0 l_T_24 (by decide) rfl dT_findBySeed_76 ?_
            refine ta_lenS C hw dT_findBySeed_79 ?_
            refine lv_icmp_ge (tgt := 114) hx hb dT_findBySeed_80 (by decide) (fun c_80 => ?_) (fun q9 => absurd (nI_le (by omega) (by omega)) q9)
            refine lv_iconst (v := -1) hx hb dT_findBySeed_114 (by decide) ?_
            exact tr_i hQ C hw hr (Nat.le_of_ble_eq_true rfl) (Nat.le_of_ble_eq_true rfl) dT_findBySeed_115 ⟨by rw [tf_seedA, ← he2, if_neg c_37, ← he3]; rfl, by rw [tf_seedS, ← he2, if_neg c_37]⟩
          | succ n ih =>
            intro t j hn he3 H locs ls hw hl
            have ht : t < N := by omega
            refine q_iload hx hb hl dT_findBySeed_73 rfl ?_
            refine q_aload_n hx hb hl dT_findBySeed_75 rfl ?_
            refine tg_T C hw 0 l_T_24 (by decide) rfl dT_findBySeed_76 ?_
            refine ta_lenS C hw dT_findBySeed_79 ?_
            refine lv_icmp_ge (tgt := 114) hx hb dT_findBySeed_80 (by decide) (fun q9 => absurd q9 (nI_ge ht (by omega))) (fun c_80 => ?_)
            refine q_aload_n hx hb hl dT_findBySeed_83 rfl ?_
            refine q_aload_n hx hb hl dT_findBySeed_84 rfl ?_
            refine tg_T C hw 0 l_T_24 (by decide) rfl dT_findBySeed_85 ?_
            refine q_iload hx hb hl dT_findBySeed_88 rfl ?_
            refine ta_S C hw hN (by assumption) rfl dT_findBySeed_90 ?_
            refine q_iload_n hx hb hl dT_findBySeed_91 rfl ?_
            refine tc_E (tc_V C hl (c_cand l hst D ct ad N hN (su σ 0 0 3 (tf_x σ)) _ t ht top) hw.1 hw.2.1 hw.2.2 g_T_195 (re_T C hw) hv_T_isCandidate rfl rfl ⟨(Nat.le_of_ble_eq_true rfl), (Nat.le_of_ble_eq_true rfl)⟩ (Nat.le_of_ble_eq_true rfl) ⟨(Nat.le_of_ble_eq_true rfl), (Nat.le_of_ble_eq_true rfl)⟩ dT_findBySeed_92 rfl) C hw (fun E ce q9 w1 H locs hp hw h1 h2 h3 => ?_) (fun v w1 H locs hp hw => ?_)
            · exact hp.elim
            obtain ⟨rfl, rfl⟩ := hp
            dsimp only [Option.toList_some, Option.toList_none, List.cons_append, List.nil_append]
            refine lv_if_eq (tgt := 108) hx hb dT_findBySeed_95 (by decide) (fun c_95 => ?_) (fun c_95 => ?_)
            · refine q_inc hx hb hl dT_findBySeed_108 rfl (by decide) (fun ls hl => ?_)
              refine lv_goto (tgt := 73) hx hb dT_findBySeed_111 (by decide) ?_
              exact ih _ _ (by omega) (by rw [← he3]; simp [tf_pick, c_95]) _ _ _ hw hl
            refine q_iload_n hx hb hl dT_findBySeed_98 rfl ?_
            refine lv_if_ne (tgt := 105) hx hb dT_findBySeed_99 (by decide) (fun c_99 => ?_) (fun c_99 => ?_)
            · refine q_iinc hx hb hl dT_findBySeed_105 rfl rfl (by decide) (fun ls hl => ?_)
              refine q_inc hx hb hl dT_findBySeed_108 rfl (by decide) (fun ls hl => ?_)
              refine lv_goto (tgt := 73) hx hb dT_findBySeed_111 (by decide) ?_
              exact ih _ _ (by omega) (by rw [← he3]; simp [tf_pick, c_95, c_99]) _ _ _ hw hl
            refine q_iload hx hb hl dT_findBySeed_102 rfl ?_
            exact tr_i hQ C hw hr (Nat.le_of_ble_eq_true rfl) (Nat.le_of_ble_eq_true rfl) dT_findBySeed_104 ⟨by rw [tf_seedA, ← he2, if_neg c_37, ← he3]; simp [tf_pick, c_95, c_99], by rw [tf_seedS, ← he2, if_neg c_37]⟩
        exact L73 N 0 _ (by omega) rfl _ _ _ hw hl
      refine lv_iconst (v := -1) hx hb dT_findBySeed_40 (by decide) ?_
      exact tr_i hQ C hw hr (Nat.le_of_ble_eq_true rfl) (Nat.le_of_ble_eq_true rfl) dT_findBySeed_41 ⟨by rw [tf_seedA, ← he2, if_pos c_37], by rw [tf_seedS, ← he2, if_pos c_37]⟩
    | succ n ih =>
      intro t k hn he H locs ls hw hl
      have ht : t < N := by omega
      refine q_iload_n hx hb hl dT_findBySeed_4 rfl ?_
      refine q_aload_n hx hb hl dT_findBySeed_5 rfl ?_
      refine tg_T C hw 0 l_T_24 (by decide) rfl dT_findBySeed_6 ?_
      refine ta_lenS C hw dT_findBySeed_9 ?_
      refine lv_icmp_ge (tgt := 36) hx hb dT_findBySeed_10 (by decide) (fun q9 => absurd q9 (nI_ge ht (by omega))) (fun c_10 => ?_)
      refine q_aload_n hx hb hl dT_findBySeed_13 rfl ?_
      refine q_aload_n hx hb hl dT_findBySeed_14 rfl ?_
      refine tg_T C hw 0 l_T_24 (by decide) rfl dT_findBySeed_15 ?_
      refine q_iload_n hx hb hl dT_findBySeed_18 rfl ?_
      refine ta_S C hw hN (by assumption) rfl dT_findBySeed_19 ?_
      refine q_iload_n hx hb hl dT_findBySeed_20 rfl ?_
      refine tc_E (tc_V C hl (c_cand l hst D ct ad N hN σ _ t ht top) hw.1 hw.2.1 hw.2.2 g_T_195 (re_T C hw) hv_T_isCandidate rfl rfl ⟨(Nat.le_of_ble_eq_true rfl), (Nat.le_of_ble_eq_true rfl)⟩ (Nat.le_of_ble_eq_true rfl) ⟨(Nat.le_of_ble_eq_true rfl), (Nat.le_of_ble_eq_true rfl)⟩ dT_findBySeed_21 rfl) C hw (fun E ce q9 w1 H locs hp hw h1 h2 h3 => ?_) (fun v w1 H locs hp hw => ?_)
      · exact hp.elim
      obtain ⟨rfl, rfl⟩ := hp
      dsimp only [Option.toList_some, Option.toList_none, List.cons_append, List.nil_append]
      refine lv_if_eq (tgt := 30) hx hb dT_findBySeed_24 (by decide) (fun c_24 => ?_) (fun c_24 => ?_)
      · refine q_inc hx hb hl dT_findBySeed_30 rfl (by decide) (fun ls hl => ?_)
        refine lv_goto (tgt := 4) hx hb dT_findBySeed_33 (by decide) ?_
        exact ih _ _ (by omega) (by rw [← he]; simp [tf_cnt, c_24]) _ _ _ hw hl
      refine q_iinc hx hb hl dT_findBySeed_27 rfl rfl (by decide) (fun ls hl => ?_)
      refine q_inc hx hb hl dT_findBySeed_30 rfl (by decide) (fun ls hl => ?_)
      refine lv_goto (tgt := 4) hx hb dT_findBySeed_33 (by decide) ?_
      exact ih _ _ (by omega) (by rw [← he]; simp [tf_cnt, c_24]) _ _ _ hw hl
  exact L4 N 0 _ (by omega) rfl _ _ _ hw hl
set_option maxHeartbeats 4000000 in
set_option maxRecDepth 100000 in
theorem c_ch (l : Launch) (hst : l.stackTraces = false) (D : va_G) (ct : Ct) (ad : Ad) (N : Nat) (hN : N ≤ 16) (σ : St) (sz : Nat) : Kt l yT_choose cT_choose 3 (some .int) (r0 2) 0 0 D ct [.ref (ad 0 0)] sz (wT ct ad N σ) (fun v w => v = some (.int (tf_chA N σ)) ∧ w = wT ct ad N (tf_chS N σ)) (fun E w => False) := by
  refine kt_of hst (by decide) (Nat.le_of_ble_eq_true rfl) (by simp [Value.category]) ?_
  intro p e s m args below meth c A ls C hne hr hw hl Q hQ
  have hx := C.1
  have hb := C.2.1
  refine q_aload_n hx hb hl dT_choose_0 rfl ?_
  refine tc_E (tc_V C hl (c_over l hst D ct ad N hN σ _) hw.1 hw.2.1 hw.2.2 g_T_180 (re_T C hw) hv_T_findOverdue rfl rfl ⟨(Nat.le_of_ble_eq_true rfl), (Nat.le_of_ble_eq_true rfl)⟩ (Nat.le_of_ble_eq_true rfl) ⟨(Nat.le_of_ble_eq_true rfl), (Nat.le_of_ble_eq_true rfl)⟩ dT_choose_1 rfl) C hw (fun E ce q9 w1 H locs hp hw h1 h2 h3 => ?_) (fun v w1 H locs hp hw => ?_)
  · exact hp.elim
  obtain ⟨rfl, rfl⟩ := hp
  dsimp only [Option.toList_some, Option.toList_none, List.cons_append, List.nil_append]
  refine q_istore_n hx hb hl dT_choose_4 (by decide) (fun ls hl => ?_)
  refine q_iload_n hx hb hl dT_choose_5 rfl ?_
  refine lv_iconst (v := -1) hx hb dT_choose_6 (by decide) ?_
  refine lv_icmp_eq (tgt := 12) hx hb dT_choose_7 (by decide) (fun c_7 => ?_) (fun c_7 => ?_)
  · refine q_aload_n hx hb hl dT_choose_12 rfl ?_
    refine tc_E (tc_V C hl (c_top l hst D ct ad N hN σ _) hw.1 hw.2.1 hw.2.2 g_T_183 (re_T C hw) hv_T_greatestRank rfl rfl ⟨(Nat.le_of_ble_eq_true rfl), (Nat.le_of_ble_eq_true rfl)⟩ (Nat.le_of_ble_eq_true rfl) ⟨(Nat.le_of_ble_eq_true rfl), (Nat.le_of_ble_eq_true rfl)⟩ dT_choose_13 rfl) C hw (fun E ce q9 w1 H locs hp hw h1 h2 h3 => ?_) (fun v w1 H locs hp hw => ?_)
    · exact hp.elim
    obtain ⟨rfl, rfl⟩ := hp
    dsimp only [Option.toList_some, Option.toList_none, List.cons_append, List.nil_append]
    refine q_istore_n hx hb hl dT_choose_16 (by decide) (fun ls hl => ?_)
    refine q_iload_n hx hb hl dT_choose_17 rfl ?_
    refine lv_iconst (v := -1) hx hb dT_choose_18 (by decide) ?_
    refine lv_icmp_ne (tgt := 24) hx hb dT_choose_19 (by decide) (fun c_19 => ?_) (fun c_19 => ?_)
    · refine q_aload_n hx hb hl dT_choose_24 rfl ?_
      refine tg_T C hw 2 l_T_44 (by decide) rfl dT_choose_25 ?_
      rcases sw3 (σ 0 0 0) with h | h | h | h
      · refine lv_tableIn (tgt := 56) hx hb dT_choose_28 (by rw [h]; decide) (by rw [h]; decide) (by rw [h]; rfl) (by decide) ?_
        refine q_aload_n hx hb hl dT_choose_56 rfl ?_
        refine q_iload_n hx hb hl dT_choose_57 rfl ?_
        refine tc_E (tc_V C hl (c_few l hst D ct ad N hN σ _ (tf_top σ N 0 (-1))) hw.1 hw.2.1 hw.2.2 g_T_186 (re_T C hw) hv_T_findFewest rfl rfl ⟨(Nat.le_of_ble_eq_true rfl), (Nat.le_of_ble_eq_true rfl)⟩ (Nat.le_of_ble_eq_true rfl) ⟨(Nat.le_of_ble_eq_true rfl), (Nat.le_of_ble_eq_true rfl)⟩ dT_choose_58 rfl) C hw (fun E ce q9 w1 H locs hp hw h1 h2 h3 => ?_) (fun v w1 H locs hp hw => ?_)
        · exact hp.elim
        obtain ⟨rfl, rfl⟩ := hp
        dsimp only [Option.toList_some, Option.toList_none, List.cons_append, List.nil_append]
        exact tr_i hQ C hw hr (Nat.le_of_ble_eq_true rfl) (Nat.le_of_ble_eq_true rfl) dT_choose_61 ⟨by simp [tf_chA, h, c_7, c_19], by simp [tf_chS, h, c_7, c_19]⟩
      · refine lv_tableIn (tgt := 56) hx hb dT_choose_28 (by rw [h]; decide) (by rw [h]; decide) (by rw [h]; rfl) (by decide) ?_
        refine q_aload_n hx hb hl dT_choose_56 rfl ?_
        refine q_iload_n hx hb hl dT_choose_57 rfl ?_
        refine tc_E (tc_V C hl (c_few l hst D ct ad N hN σ _ (tf_top σ N 0 (-1))) hw.1 hw.2.1 hw.2.2 g_T_186 (re_T C hw) hv_T_findFewest rfl rfl ⟨(Nat.le_of_ble_eq_true rfl), (Nat.le_of_ble_eq_true rfl)⟩ (Nat.le_of_ble_eq_true rfl) ⟨(Nat.le_of_ble_eq_true rfl), (Nat.le_of_ble_eq_true rfl)⟩ dT_choose_58 rfl) C hw (fun E ce q9 w1 H locs hp hw h1 h2 h3 => ?_) (fun v w1 H locs hp hw => ?_)
        · exact hp.elim
        obtain ⟨rfl, rfl⟩ := hp
        dsimp only [Option.toList_some, Option.toList_none, List.cons_append, List.nil_append]
        exact tr_i hQ C hw hr (Nat.le_of_ble_eq_true rfl) (Nat.le_of_ble_eq_true rfl) dT_choose_61 ⟨by simp [tf_chA, h, c_7, c_19], by simp [tf_chS, h, c_7, c_19]⟩
      · refine lv_tableIn (tgt := 62) hx hb dT_choose_28 (by rw [h]; decide) (by rw [h]; decide) (by rw [h]; rfl) (by decide) ?_
        refine q_aload_n hx hb hl dT_choose_62 rfl ?_
        refine q_iload_n hx hb hl dT_choose_63 rfl ?_
        refine tc_E (tc_V C hl (c_seed l hst D ct ad N hN σ _ (tf_top σ N 0 (-1))) hw.1 hw.2.1 hw.2.2 g_T_189 (re_T C hw) hv_T_findBySeed rfl rfl ⟨(Nat.le_of_ble_eq_true rfl), (Nat.le_of_ble_eq_true rfl)⟩ (Nat.le_of_ble_eq_true rfl) ⟨(Nat.le_of_ble_eq_true rfl), (Nat.le_of_ble_eq_true rfl)⟩ dT_choose_64 rfl) C hw (fun E ce q9 w1 H locs hp hw h1 h2 h3 => ?_) (fun v w1 H locs hp hw => ?_)
        · exact hp.elim
        obtain ⟨rfl, rfl⟩ := hp
        dsimp only [Option.toList_some, Option.toList_none, List.cons_append, List.nil_append]
        exact tr_i hQ C hw hr (Nat.le_of_ble_eq_true rfl) (Nat.le_of_ble_eq_true rfl) dT_choose_67 ⟨by simp [tf_chA, h, c_7, c_19], by simp [tf_chS, h, c_7, c_19]⟩
      · refine lv_tableOut (tgt := 68) hx hb dT_choose_28 h.2 (by decide) ?_
        refine q_aload_n hx hb hl dT_choose_68 rfl ?_
        refine q_iload_n hx hb hl dT_choose_69 rfl ?_
        refine tc_E (tc_V C hl (c_next l hst D ct ad N hN σ _ (tf_top σ N 0 (-1))) hw.1 hw.2.1 hw.2.2 g_T_192 (re_T C hw) hv_T_findNextInTurn rfl rfl ⟨(Nat.le_of_ble_eq_true rfl), (Nat.le_of_ble_eq_true rfl)⟩ (Nat.le_of_ble_eq_true rfl) ⟨(Nat.le_of_ble_eq_true rfl), (Nat.le_of_ble_eq_true rfl)⟩ dT_choose_70 rfl) C hw (fun E ce q9 w1 H locs hp hw h1 h2 h3 => ?_) (fun v w1 H locs hp hw => ?_)
        · exact hp.elim
        obtain ⟨rfl, rfl⟩ := hp
        dsimp only [Option.toList_some, Option.toList_none, List.cons_append, List.nil_append]
        exact tr_i hQ C hw hr (Nat.le_of_ble_eq_true rfl) (Nat.le_of_ble_eq_true rfl) dT_choose_73 ⟨by simp [tf_chA, h.1, c_7, c_19], by simp [tf_chS, h.1, c_7, c_19]⟩
    refine lv_iconst (v := -1) hx hb dT_choose_22 (by decide) ?_
    exact tr_i hQ C hw hr (Nat.le_of_ble_eq_true rfl) (Nat.le_of_ble_eq_true rfl) dT_choose_23 ⟨by simp [tf_chA, c_7, c_19], by simp [tf_chS, c_7, c_19]⟩
  refine q_iload_n hx hb hl dT_choose_10 rfl ?_
  exact tr_i hQ C hw hr (Nat.le_of_ble_eq_true rfl) (Nat.le_of_ble_eq_true rfl) dT_choose_11 ⟨by simp [tf_chA, c_7], by simp [tf_chS, c_7]⟩
end
section
set_option maxHeartbeats 4000000 in
set_option maxRecDepth 100000 in
theorem c_beg (l : Launch) (hst : l.stackTraces = false) (D : va_G) (ct : Ct) (ad : Ad) (N : Nat) (hN : N ≤ 16) (σ : St) (sz : Nat) (t : Nat) (ht : t < N) (i : Int32) (hi : i = nI t) : Kt l yT_beginChangeTo cT_beginChangeTo 2 none (r0 0) 0 0 D ct [.ref (ad 0 0), .int i] sz (wT ct ad N σ) (fun v w => v = none ∧ w = wT ct ad N (tf_begin σ t)) (fun E w => False) := by
  refine kt_of hst (by decide) (Nat.le_of_ble_eq_true rfl) (by simp [Value.category]) ?_
  intro p e s m args below meth c A ls C hne hr hw hl Q hQ
  have hx := C.1
  have hb := C.2.1
  subst hi
  refine q_aload_n hx hb hl dT_beginChangeTo_0 rfl ?_
  refine q_iload_n hx hb hl dT_beginChangeTo_1 rfl ?_
  refine tp_T C hw 5 l_T_13 (by decide) dT_beginChangeTo_2 (fun H locs hw => ?_)
  refine q_aload_n hx hb hl dT_beginChangeTo_5 rfl ?_
  refine q_aload_n hx hb hl dT_beginChangeTo_6 rfl ?_
  refine tg_T C hw 4 l_T_50 (by decide) rfl dT_beginChangeTo_7 ?_
  refine lv_iconst (v := 1) hx hb dT_beginChangeTo_10 (by decide) ?_
  refine lv_isub hx hb dT_beginChangeTo_11 ?_
  refine tp_T C hw 6 l_T_168 (by decide) dT_beginChangeTo_12 (fun H locs hw => ?_)
  refine q_aload_n hx hb hl dT_beginChangeTo_15 rfl ?_
  refine tg_T C hw 0 l_T_24 (by decide) rfl dT_beginChangeTo_16 ?_
  refine q_iload_n hx hb hl dT_beginChangeTo_19 rfl ?_
  refine ta_S C hw hN (by assumption) rfl dT_beginChangeTo_20 ?_
  refine lv_dup hx hb dT_beginChangeTo_21 rfl ?_
  refine tg_S C hw 8 l_T_129 (by decide) (by assumption) rfl dT_beginChangeTo_22 ?_
  refine lv_iconst (v := 1) hx hb dT_beginChangeTo_25 (by decide) ?_
  refine lv_iadd hx hb dT_beginChangeTo_26 ?_
  refine tp_S C hw 7 l_T_129 (by decide) (by assumption) (fun q => absurd q (by decide)) dT_beginChangeTo_27 (fun H locs hw => ?_)
  refine q_aload_n hx hb hl dT_beginChangeTo_30 rfl ?_
  refine lv_dup hx hb dT_beginChangeTo_31 rfl ?_
  refine tg_T C hw 12 l_T_147 (by decide) rfl dT_beginChangeTo_32 ?_
  refine lv_iconst (v := 1) hx hb dT_beginChangeTo_35 (by decide) ?_
  refine lv_iadd hx hb dT_beginChangeTo_36 ?_
  refine tp_T C hw 10 l_T_147 (by decide) dT_beginChangeTo_37 (fun H locs hw => ?_)
  exact tr_v hQ C hw hr (Nat.le_of_ble_eq_true rfl) (Nat.le_of_ble_eq_true rfl) dT_beginChangeTo_40 ⟨rfl, by simp [tf_begin, su_n1, su_n3]⟩
set_option maxHeartbeats 4000000 in
set_option maxRecDepth 100000 in
theorem c_let (l : Launch) (hst : l.stackTraces = false) (D : va_G) (ct : Ct) (ad : Ad) (N : Nat) (hN : N ≤ 16) (σ : St) (sz : Nat) (t : Nat) (ht : t < N) (i : Int32) (hi : i = nI t) : Kt l yT_letGo cT_letGo 3 none (r0 0) 0 0 D ct [.ref (ad 0 0), .int i] sz (wT ct ad N σ) (fun v w => v = none ∧ w = wT ct ad N (tf_let σ t)) (fun E w => False) := by
  refine kt_of hst (by decide) (Nat.le_of_ble_eq_true rfl) (by simp [Value.category]) ?_
  intro p e s m args below meth c A ls C hne hr hw hl Q hQ
  have hx := C.1
  have hb := C.2.1
  subst hi
  refine q_aload_n hx hb hl dT_letGo_0 rfl ?_
  refine tg_T C hw 0 l_T_24 (by decide) rfl dT_letGo_1 ?_
  refine q_iload_n hx hb hl dT_letGo_4 rfl ?_
  refine ta_S C hw hN (by assumption) rfl dT_letGo_5 ?_
  refine q_astore_n hx hb hl dT_letGo_6 (by decide) (fun ls hl => ?_)
  refine q_aload_n hx hb hl dT_letGo_7 rfl ?_
  refine lv_iconst (v := 0) hx hb dT_letGo_8 (by decide) ?_
  refine tp_S C hw 4 l_T_120 (by decide) (by assumption) (fun q => absurd q (by decide)) dT_letGo_9 (fun H locs hw => ?_)
  refine q_aload_n hx hb hl dT_letGo_12 rfl ?_
  refine lv_dup hx hb dT_letGo_13 rfl ?_
  refine tg_S C hw 7 l_T_126 (by decide) (by assumption) rfl dT_letGo_14 ?_
  refine lv_iconst (v := 1) hx hb dT_letGo_17 (by decide) ?_
  refine lv_iadd hx hb dT_letGo_18 ?_
  refine tp_S C hw 6 l_T_126 (by decide) (by assumption) (fun q => absurd q (by decide)) dT_letGo_19 (fun H locs hw => ?_)
  refine q_aload_n hx hb hl dT_letGo_22 rfl ?_
  refine lv_dup hx hb dT_letGo_23 rfl ?_
  refine tg_T C hw 10 l_T_137 (by decide) rfl dT_letGo_24 ?_
  refine lv_iconst (v := 1) hx hb dT_letGo_27 (by decide) ?_
  refine lv_iadd hx hb dT_letGo_28 ?_
  refine tp_T C hw 8 l_T_137 (by decide) dT_letGo_29 (fun H locs hw => ?_)
  refine q_aload_n hx hb hl dT_letGo_32 rfl ?_
  refine q_iload_n hx hb hl dT_letGo_33 rfl ?_
  refine tp_T C hw 4 l_T_9 (by decide) dT_letGo_34 (fun H locs hw => ?_)
  refine q_aload_n hx hb hl dT_letGo_37 rfl ?_
  refine lv_iconst (v := -1) hx hb dT_letGo_38 (by decide) ?_
  refine tp_T C hw 5 l_T_13 (by decide) dT_letGo_39 (fun H locs hw => ?_)
  exact tr_v hQ C hw hr (Nat.le_of_ble_eq_true rfl) (Nat.le_of_ble_eq_true rfl) dT_letGo_42 ⟨rfl, by simp [tf_let, su_n1, su_n3]⟩
set_option maxHeartbeats 4000000 in
set_option maxRecDepth 100000 in
theorem c_wait (l : Launch) (hst : l.stackTraces = false) (D : va_G) (ct : Ct) (ad : Ad) (N : Nat) (hN : N ≤ 16) (σ : St) (sz : Nat) (g : Int32) : Kt l yT_letOthersWait cT_letOthersWait 4 none (r0 1) 0 0 D ct [.ref (ad 0 0), .int g] sz (wT ct ad N σ) (fun v w => v = none ∧ w = wT ct ad N (tf_wt g N 0 σ)) (fun E w => False) := by
  refine kt_of hst (by decide) (Nat.le_of_ble_eq_true rfl) (by simp [Value.category]) ?_
  intro p e s m args below meth c A ls C hne hr hw hl Q hQ
  have hx := C.1
  have hb := C.2.1
  refine lv_iconst (v := 0) hx hb dT_letOthersWait_0 (by decide) ?_
  refine q_istore_n hx hb hl dT_letOthersWait_1 (by decide) (fun ls hl => ?_)
  have L2 : ∀ (n : Nat) (t : Nat) (τ : St), t + n = N → tf_wt g n t τ = tf_wt g N 0 σ → ∀ (H : Heap) (locs : List Loc) (ls : Array Slot), wl D A s (wT ct ad N τ) H locs → lq ls 4 [some (.ref (ad 0 0)), some (.int g), some (.int (nI t)), none] → W p l e (r0 1) s m args below meth c H locs 0 0 Q (F0 m 2 ls []) := by
    intro n
    induction n with
    | zero =>
      intro t τ hn he H locs ls hw hl
      refine q_iload_n hx hb hl dT_letOthersWait_2 rfl ?_
      refine q_aload_n hx hb hl dT_letOthersWait_3 rfl ?_
      refine tg_T C hw 0 l_T_24 (by decide) rfl dT_letOthersWait_4 ?_
      refine ta_lenS C hw dT_letOthersWait_7 ?_
      refine lv_icmp_ge (tgt := 61) hx hb dT_letOthersWait_8 (by decide) (fun c_8 => ?_) (fun q9 => absurd (nI_le (by omega) (by omega)) q9)
      exact tr_v hQ C hw hr (Nat.le_of_ble_eq_true rfl) (Nat.le_of_ble_eq_true rfl) dT_letOthersWait_61 ⟨rfl, by rw [← he]; rfl⟩
    | succ n ih =>
      intro t τ hn he H locs ls hw hl
      have ht : t < N := by omega
      refine q_iload_n hx hb hl dT_letOthersWait_2 rfl ?_
      refine q_aload_n hx hb hl dT_letOthersWait_3 rfl ?_
      refine tg_T C hw 0 l_T_24 (by decide) rfl dT_letOthersWait_4 ?_
      refine ta_lenS C hw dT_letOthersWait_7 ?_
      refine lv_icmp_ge (tgt := 61) hx hb dT_letOthersWait_8 (by decide) (fun q9 => absurd q9 (nI_ge ht (by omega))) (fun c_8 => ?_)
      refine q_aload_n hx hb hl dT_letOthersWait_11 rfl ?_
      refine tg_T C hw 0 l_T_24 (by decide) rfl dT_letOthersWait_12 ?_
      refine q_iload_n hx hb hl dT_letOthersWait_15 rfl ?_
      refine ta_S C hw hN (by assumption) rfl dT_letOthersWait_16 ?_
      refine q_astore_n hx hb hl dT_letOthersWait_17 (by decide) (fun ls hl => ?_)
      refine q_aload_n hx hb hl dT_letOthersWait_18 rfl ?_
      refine tg_S C hw 9 l_T_165 (by decide) (by assumption) rfl dT_letOthersWait_19 ?_
      refine lv_if_eq (tgt := 55) hx hb dT_letOthersWait_22 (by decide) (fun c_22 => ?_) (fun c_22 => ?_)
      · refine q_inc hx hb hl dT_letOthersWait_55 rfl (by decide) (fun ls hl => ?_)
        refine lv_goto (tgt := 2) hx hb dT_letOthersWait_58 (by decide) ?_
        exact ih _ _ (by omega) (by rw [← he]; simp [tf_wt, tf_wt1, c_22]) _ _ _ hw (hl.drop 3)
      refine q_iload_n hx hb hl dT_letOthersWait_25 rfl ?_
      refine q_iload_n hx hb hl dT_letOthersWait_26 rfl ?_
      refine lv_icmp_eq (tgt := 55) hx hb dT_letOthersWait_27 (by decide) (fun c_27 => ?_) (fun c_27 => ?_)
      · refine q_inc hx hb hl dT_letOthersWait_55 rfl (by decide) (fun ls hl => ?_)
        refine lv_goto (tgt := 2) hx hb dT_letOthersWait_58 (by decide) ?_
        exact ih _ _ (by omega) (by rw [← he]; simp [tf_wt, tf_wt1, c_22, c_27]) _ _ _ hw (hl.drop 3)
      refine q_aload_n hx hb hl dT_letOthersWait_30 rfl ?_
      refine lv_dup hx hb dT_letOthersWait_31 rfl ?_
      refine tg_S C hw 5 l_T_120 (by decide) (by assumption) rfl dT_letOthersWait_32 ?_
      refine lv_iconst (v := 1) hx hb dT_letOthersWait_35 (by decide) ?_
      refine lv_iadd hx hb dT_letOthersWait_36 ?_
      refine tp_S C hw 4 l_T_120 (by decide) (by assumption) (fun q => absurd q (by decide)) dT_letOthersWait_37 (fun H locs hw => ?_)
      refine q_aload_n hx hb hl dT_letOthersWait_40 rfl ?_
      refine q_aload_n hx hb hl dT_letOthersWait_41 rfl ?_
      refine tg_S C hw 6 l_T_123 (by decide) (by assumption) rfl dT_letOthersWait_42 ?_
      refine q_aload_n hx hb hl dT_letOthersWait_45 rfl ?_
      refine tg_S C hw 5 l_T_120 (by decide) (by assumption) rfl dT_letOthersWait_46 ?_
      refine va_mmax hx hb (C.2.2.1.trans hl.1.symm) C.2.2.2.1 (C.2.2.2.2.1 _ mx_1) (C.2.2.2.2.1 _ mx_2) (C.2.2.2.2.1 _ mx_3) (C.2.2.2.2.1 _ mx_4) (Nat.le_of_ble_eq_true rfl) (Nat.le_of_ble_eq_true rfl) (Nat.le_of_ble_eq_true rfl) (Nat.le_of_ble_eq_true rfl) dT_letOthersWait_49 ?_
      refine tp_S C hw 5 l_T_123 (by decide) (by assumption) (fun q => absurd q (by decide)) dT_letOthersWait_52 (fun H locs hw => ?_)
      refine q_inc hx hb hl dT_letOthersWait_55 rfl (by decide) (fun ls hl => ?_)
      refine lv_goto (tgt := 2) hx hb dT_letOthersWait_58 (by decide) ?_
      exact ih _ _ (by omega) (by rw [← he]; simp [tf_wt, tf_wt1, c_22, c_27]) _ _ _ hw (hl.drop 3)
  exact L2 N 0 σ (by omega) rfl _ _ _ hw hl
set_option maxHeartbeats 4000000 in
set_option maxRecDepth 100000 in
theorem c_goer (l : Launch) (hst : l.stackTraces = false) (D : va_G) (ct : Ct) (ad : Ad) (N : Nat) (hN : N ≤ 16) (σ : St) (sz : Nat) (h5 : ix N (σ 0 0 5)) : Kt l yT_findGoer cT_findGoer 2 (some .int) (r0 3) 0 0 D ct [.ref (ad 0 0)] sz (wT ct ad N σ) (fun v w => v = some (.int (tf_goA N σ)) ∧ w = wT ct ad N (tf_goS N σ)) (fun E w => False) := by
  refine kt_of hst (by decide) (Nat.le_of_ble_eq_true rfl) (by simp [Value.category]) ?_
  intro p e s m args below meth c A ls C hne hr hw hl Q hQ
  have hx := C.1
  have hb := C.2.1
  refine q_aload_n hx hb hl dT_findGoer_0 rfl ?_
  refine tg_T C hw 8 l_T_168 (by decide) rfl dT_findGoer_1 ?_
  refine lv_if_le (tgt := 29) hx hb dT_findGoer_4 (by decide) (fun c_4 => ?_) (fun c_4 => ?_)
  · refine q_aload_n hx hb hl dT_findGoer_29 rfl ?_
    refine tg_T C hw 7 l_T_13 (by decide) rfl dT_findGoer_30 ?_
    refine lv_iconst (v := -1) hx hb dT_findGoer_33 (by decide) ?_
    refine lv_icmp_eq (tgt := 57) hx hb dT_findGoer_34 (by decide) (fun c_34 => ?_) (fun c_34 => ?_)
    · refine q_aload_n hx hb hl dT_findGoer_57 rfl ?_
      refine tc_E (tc_V C hl (c_ch l hst D ct ad N hN σ _) hw.1 hw.2.1 hw.2.2 g_T_171 (re_T C hw) hv_T_choose rfl rfl ⟨(Nat.le_of_ble_eq_true rfl), (Nat.le_of_ble_eq_true rfl)⟩ (Nat.le_of_ble_eq_true rfl) ⟨(Nat.le_of_ble_eq_true rfl), (Nat.le_of_ble_eq_true rfl)⟩ dT_findGoer_58 rfl) C hw (fun E ce q9 w1 H locs hp hw h1 h2 h3 => ?_) (fun v w1 H locs hp hw => ?_)
      · exact hp.elim
      obtain ⟨rfl, rfl⟩ := hp
      dsimp only [Option.toList_some, Option.toList_none, List.cons_append, List.nil_append]
      refine q_istore_n hx hb hl dT_findGoer_61 (by decide) (fun ls hl => ?_)
      refine q_iload_n hx hb hl dT_findGoer_62 rfl ?_
      refine lv_iconst (v := -1) hx hb dT_findGoer_63 (by decide) ?_
      refine lv_icmp_ne (tgt := 79) hx hb dT_findGoer_64 (by decide) (fun c_64 => ?_) (fun c_64 => ?_)
      · refine q_iload_n hx hb hl dT_findGoer_79 rfl ?_
        refine q_aload_n hx hb hl dT_findGoer_80 rfl ?_
        refine tg_T C hw 6 l_T_9 (by decide) rfl dT_findGoer_81 ?_
        refine lv_icmp_eq (tgt := 102) hx hb dT_findGoer_84 (by decide) (fun c_84 => ?_) (fun c_84 => ?_)
        · refine q_iload_n hx hb hl dT_findGoer_102 rfl ?_
          exact tr_i hQ C hw hr (Nat.le_of_ble_eq_true rfl) (Nat.le_of_ble_eq_true rfl) dT_findGoer_103 ⟨by simp only [tf_goA, tf_tailA, if_pos c_4, if_pos c_34, if_neg c_64, if_pos c_84], by simp only [tf_goS, tf_tailS, if_pos c_4, if_pos c_34, if_neg c_64, if_pos c_84]⟩
        refine q_aload_n hx hb hl dT_findGoer_87 rfl ?_
        refine tg_T C hw 6 l_T_9 (by decide) rfl dT_findGoer_88 ?_
        refine lv_iconst (v := -1) hx hb dT_findGoer_91 (by decide) ?_
        refine lv_icmp_eq (tgt := 102) hx hb dT_findGoer_92 (by decide) (fun c_92 => ?_) (fun c_92 => ?_)
        · refine q_iload_n hx hb hl dT_findGoer_102 rfl ?_
          exact tr_i hQ C hw hr (Nat.le_of_ble_eq_true rfl) (Nat.le_of_ble_eq_true rfl) dT_findGoer_103 ⟨by simp only [tf_goA, tf_tailA, if_pos c_4, if_pos c_34, if_neg c_64, if_neg c_84, if_pos c_92], by simp only [tf_goS, tf_tailS, if_pos c_4, if_pos c_34, if_neg c_64, if_neg c_84, if_pos c_92]⟩
        refine q_aload_n hx hb hl dT_findGoer_95 rfl ?_
        refine tg_T C hw 4 l_T_50 (by decide) rfl dT_findGoer_96 ?_
        refine lv_if_ne (tgt := 104) hx hb dT_findGoer_99 (by decide) (fun c_99 => ?_) (fun c_99 => ?_)
        · obtain ⟨h8, h9⟩ := ix_cl hN (tf_chA_ix N σ) c_64
          refine q_aload_n hx hb hl dT_findGoer_104 rfl ?_
          refine q_iload_n hx hb hl dT_findGoer_105 rfl ?_
          refine tc_E (tc_V C hl (c_beg l hst D ct ad N hN (tf_chS N σ) _ _ h8 _ h9) hw.1 hw.2.1 hw.2.2 g_T_174 (re_T C hw) hv_T_beginChangeTo rfl rfl ⟨(Nat.le_of_ble_eq_true rfl), (Nat.le_of_ble_eq_true rfl)⟩ (Nat.le_of_ble_eq_true rfl) ⟨(Nat.le_of_ble_eq_true rfl), (Nat.le_of_ble_eq_true rfl)⟩ dT_findGoer_106 rfl) C hw (fun E ce q9 w1 H locs hp hw h1 h2 h3 => ?_) (fun v w1 H locs hp hw => ?_)
          · exact hp.elim
          obtain ⟨rfl, rfl⟩ := hp
          dsimp only [Option.toList_some, Option.toList_none, List.cons_append, List.nil_append]
          refine lv_iconst (v := -1) hx hb dT_findGoer_109 (by decide) ?_
          exact tr_i hQ C hw hr (Nat.le_of_ble_eq_true rfl) (Nat.le_of_ble_eq_true rfl) dT_findGoer_110 ⟨by simp only [tf_goA, tf_tailA, if_pos c_4, if_pos c_34, if_neg c_64, if_neg c_84, if_neg c_92, if_neg c_99], by simp only [tf_goS, tf_tailS, if_pos c_4, if_pos c_34, if_neg c_64, if_neg c_84, if_neg c_92, if_neg c_99]⟩
        refine q_iload_n hx hb hl dT_findGoer_102 rfl ?_
        exact tr_i hQ C hw hr (Nat.le_of_ble_eq_true rfl) (Nat.le_of_ble_eq_true rfl) dT_findGoer_103 ⟨by simp only [tf_goA, tf_tailA, if_pos c_4, if_pos c_34, if_neg c_64, if_neg c_84, if_neg c_92, if_pos c_99], by simp only [tf_goS, tf_tailS, if_pos c_4, if_pos c_34, if_neg c_64, if_neg c_84, if_neg c_92, if_pos c_99]⟩
      refine q_aload_n hx hb hl dT_findGoer_67 rfl ?_
      refine lv_dup hx hb dT_findGoer_68 rfl ?_
      refine tg_T C hw 11 l_T_144 (by decide) rfl dT_findGoer_69 ?_
      refine lv_iconst (v := 1) hx hb dT_findGoer_72 (by decide) ?_
      refine lv_iadd hx hb dT_findGoer_73 ?_
      refine tp_T C hw 9 l_T_144 (by decide) dT_findGoer_74 (fun H locs hw => ?_)
      refine lv_iconst (v := -1) hx hb dT_findGoer_77 (by decide) ?_
      exact tr_i hQ C hw hr (Nat.le_of_ble_eq_true rfl) (Nat.le_of_ble_eq_true rfl) dT_findGoer_78 ⟨by simp only [tf_goA, tf_tailA, if_pos c_4, if_pos c_34, if_pos c_64], by simp only [tf_goS, tf_tailS, if_pos c_4, if_pos c_34, if_pos c_64]⟩
    obtain ⟨h6, h7⟩ := ix_cl hN h5 c_34
    refine q_aload_n hx hb hl dT_findGoer_37 rfl ?_
    refine tg_T C hw 0 l_T_24 (by decide) rfl dT_findGoer_38 ?_
    refine q_aload_n hx hb hl dT_findGoer_41 rfl ?_
    refine tg_T C hw 7 l_T_13 (by decide) rfl dT_findGoer_42 ?_
    refine ta_S C hw hN h6 h7 dT_findGoer_45 ?_
    refine tg_S C hw 9 l_T_165 (by decide) (by assumption) rfl dT_findGoer_46 ?_
    refine lv_if_eq (tgt := 57) hx hb dT_findGoer_49 (by decide) (fun c_49 => ?_) (fun c_49 => ?_)
    · refine q_aload_n hx hb hl dT_findGoer_57 rfl ?_
      refine tc_E (tc_V C hl (c_ch l hst D ct ad N hN σ _) hw.1 hw.2.1 hw.2.2 g_T_171 (re_T C hw) hv_T_choose rfl rfl ⟨(Nat.le_of_ble_eq_true rfl), (Nat.le_of_ble_eq_true rfl)⟩ (Nat.le_of_ble_eq_true rfl) ⟨(Nat.le_of_ble_eq_true rfl), (Nat.le_of_ble_eq_true rfl)⟩ dT_findGoer_58 rfl) C hw (fun E ce q9 w1 H locs hp hw h1 h2 h3 => ?_) (fun v w1 H locs hp hw => ?_)
      · exact hp.elim
      obtain ⟨rfl, rfl⟩ := hp
      dsimp only [Option.toList_some, Option.toList_none, List.cons_append, List.nil_append]
      refine q_istore_n hx hb hl dT_findGoer_61 (by decide) (fun ls hl => ?_)
      refine q_iload_n hx hb hl dT_findGoer_62 rfl ?_
      refine lv_iconst (v := -1) hx hb dT_findGoer_63 (by decide) ?_
      refine lv_icmp_ne (tgt := 79) hx hb dT_findGoer_64 (by decide) (fun c_64 => ?_) (fun c_64 => ?_)
      · refine q_iload_n hx hb hl dT_findGoer_79 rfl ?_
        refine q_aload_n hx hb hl dT_findGoer_80 rfl ?_
        refine tg_T C hw 6 l_T_9 (by decide) rfl dT_findGoer_81 ?_
        refine lv_icmp_eq (tgt := 102) hx hb dT_findGoer_84 (by decide) (fun c_84 => ?_) (fun c_84 => ?_)
        · refine q_iload_n hx hb hl dT_findGoer_102 rfl ?_
          exact tr_i hQ C hw hr (Nat.le_of_ble_eq_true rfl) (Nat.le_of_ble_eq_true rfl) dT_findGoer_103 ⟨by simp only [tf_goA, tf_tailA, if_pos c_4, if_neg c_34, if_pos c_49, if_neg c_64, if_pos c_84], by simp only [tf_goS, tf_tailS, if_pos c_4, if_neg c_34, if_pos c_49, if_neg c_64, if_pos c_84]⟩
        refine q_aload_n hx hb hl dT_findGoer_87 rfl ?_
        refine tg_T C hw 6 l_T_9 (by decide) rfl dT_findGoer_88 ?_
        refine lv_iconst (v := -1) hx hb dT_findGoer_91 (by decide) ?_
        refine lv_icmp_eq (tgt := 102) hx hb dT_findGoer_92 (by decide) (fun c_92 => ?_) (fun c_92 => ?_)
        · refine q_iload_n hx hb hl dT_findGoer_102 rfl ?_
          exact tr_i hQ C hw hr (Nat.le_of_ble_eq_true rfl) (Nat.le_of_ble_eq_true rfl) dT_findGoer_103 ⟨by simp only [tf_goA, tf_tailA, if_pos c_4, if_neg c_34, if_pos c_49, if_neg c_64, if_neg c_84, if_pos c_92], by simp only [tf_goS, tf_tailS, if_pos c_4, if_neg c_34, if_pos c_49, if_neg c_64, if_neg c_84, if_pos c_92]⟩
        refine q_aload_n hx hb hl dT_findGoer_95 rfl ?_
        refine tg_T C hw 4 l_T_50 (by decide) rfl dT_findGoer_96 ?_
        refine lv_if_ne (tgt := 104) hx hb dT_findGoer_99 (by decide) (fun c_99 => ?_) (fun c_99 => ?_)
        · obtain ⟨h8, h9⟩ := ix_cl hN (tf_chA_ix N σ) c_64
          refine q_aload_n hx hb hl dT_findGoer_104 rfl ?_
          refine q_iload_n hx hb hl dT_findGoer_105 rfl ?_
          refine tc_E (tc_V C hl (c_beg l hst D ct ad N hN (tf_chS N σ) _ _ h8 _ h9) hw.1 hw.2.1 hw.2.2 g_T_174 (re_T C hw) hv_T_beginChangeTo rfl rfl ⟨(Nat.le_of_ble_eq_true rfl), (Nat.le_of_ble_eq_true rfl)⟩ (Nat.le_of_ble_eq_true rfl) ⟨(Nat.le_of_ble_eq_true rfl), (Nat.le_of_ble_eq_true rfl)⟩ dT_findGoer_106 rfl) C hw (fun E ce q9 w1 H locs hp hw h1 h2 h3 => ?_) (fun v w1 H locs hp hw => ?_)
          · exact hp.elim
          obtain ⟨rfl, rfl⟩ := hp
          dsimp only [Option.toList_some, Option.toList_none, List.cons_append, List.nil_append]
          refine lv_iconst (v := -1) hx hb dT_findGoer_109 (by decide) ?_
          exact tr_i hQ C hw hr (Nat.le_of_ble_eq_true rfl) (Nat.le_of_ble_eq_true rfl) dT_findGoer_110 ⟨by simp only [tf_goA, tf_tailA, if_pos c_4, if_neg c_34, if_pos c_49, if_neg c_64, if_neg c_84, if_neg c_92, if_neg c_99], by simp only [tf_goS, tf_tailS, if_pos c_4, if_neg c_34, if_pos c_49, if_neg c_64, if_neg c_84, if_neg c_92, if_neg c_99]⟩
        refine q_iload_n hx hb hl dT_findGoer_102 rfl ?_
        exact tr_i hQ C hw hr (Nat.le_of_ble_eq_true rfl) (Nat.le_of_ble_eq_true rfl) dT_findGoer_103 ⟨by simp only [tf_goA, tf_tailA, if_pos c_4, if_neg c_34, if_pos c_49, if_neg c_64, if_neg c_84, if_neg c_92, if_pos c_99], by simp only [tf_goS, tf_tailS, if_pos c_4, if_neg c_34, if_pos c_49, if_neg c_64, if_neg c_84, if_neg c_92, if_pos c_99]⟩
      refine q_aload_n hx hb hl dT_findGoer_67 rfl ?_
      refine lv_dup hx hb dT_findGoer_68 rfl ?_
      refine tg_T C hw 11 l_T_144 (by decide) rfl dT_findGoer_69 ?_
      refine lv_iconst (v := 1) hx hb dT_findGoer_72 (by decide) ?_
      refine lv_iadd hx hb dT_findGoer_73 ?_
      refine tp_T C hw 9 l_T_144 (by decide) dT_findGoer_74 (fun H locs hw => ?_)
      refine lv_iconst (v := -1) hx hb dT_findGoer_77 (by decide) ?_
      exact tr_i hQ C hw hr (Nat.le_of_ble_eq_true rfl) (Nat.le_of_ble_eq_true rfl) dT_findGoer_78 ⟨by simp only [tf_goA, tf_tailA, if_pos c_4, if_neg c_34, if_pos c_49, if_pos c_64], by simp only [tf_goS, tf_tailS, if_pos c_4, if_neg c_34, if_pos c_49, if_pos c_64]⟩
    refine q_aload_n hx hb hl dT_findGoer_52 rfl ?_
    refine tg_T C hw 7 l_T_13 (by decide) rfl dT_findGoer_53 ?_
    exact tr_i hQ C hw hr (Nat.le_of_ble_eq_true rfl) (Nat.le_of_ble_eq_true rfl) dT_findGoer_56 ⟨by simp only [tf_goA, if_pos c_4, if_neg c_34, if_neg c_49], by simp only [tf_goS, if_pos c_4, if_neg c_34, if_neg c_49]⟩
  refine q_aload_n hx hb hl dT_findGoer_7 rfl ?_
  refine lv_dup hx hb dT_findGoer_8 rfl ?_
  refine tg_T C hw 8 l_T_168 (by decide) rfl dT_findGoer_9 ?_
  refine lv_iconst (v := 1) hx hb dT_findGoer_12 (by decide) ?_
  refine lv_isub hx hb dT_findGoer_13 ?_
  refine tp_T C hw 6 l_T_168 (by decide) dT_findGoer_14 (fun H locs hw => ?_)
  refine q_aload_n hx hb hl dT_findGoer_17 rfl ?_
  refine lv_dup hx hb dT_findGoer_18 rfl ?_
  refine tg_T C hw 12 l_T_147 (by decide) rfl dT_findGoer_19 ?_
  refine lv_iconst (v := 1) hx hb dT_findGoer_22 (by decide) ?_
  refine lv_iadd hx hb dT_findGoer_23 ?_
  refine tp_T C hw 10 l_T_147 (by decide) dT_findGoer_24 (fun H locs hw => ?_)
  refine lv_iconst (v := -1) hx hb dT_findGoer_27 (by decide) ?_
  exact tr_i hQ C hw hr (Nat.le_of_ble_eq_true rfl) (Nat.le_of_ble_eq_true rfl) dT_findGoer_28 ⟨by simp only [tf_goA, if_neg c_4], by simp only [tf_goS, if_neg c_4]⟩
set_option maxHeartbeats 4000000 in
set_option maxRecDepth 100000 in
theorem c_play (l : Launch) (hst : l.stackTraces = false) (D : va_G) (ct : Ct) (ad : Ad) (N : Nat) (hN : N ≤ 16) (σ : St) (sz : Nat) (h5 : ix N (σ 0 0 5)) : Kt l yT_playCycle cT_playCycle 2 (some .int) (r0 4) 0 0 D ct [.ref (ad 0 0)] sz (wT ct ad N σ) (fun v w => v = some (.int (tf_plA N σ)) ∧ w = wT ct ad N (tf_plS N σ)) (fun E w => False) := by
  refine kt_of hst (by decide) (Nat.le_of_ble_eq_true rfl) (by simp [Value.category]) ?_
  intro p e s m args below meth c A ls C hne hr hw hl Q hQ
  have hx := C.1
  have hb := C.2.1
  refine q_aload_n hx hb hl dT_playCycle_0 rfl ?_
  refine lv_dup hx hb dT_playCycle_1 rfl ?_
  refine tg_T C hw 9 l_T_141 (by decide) rfl dT_playCycle_2 ?_
  refine lv_iconst (v := 1) hx hb dT_playCycle_5 (by decide) ?_
  refine lv_iadd hx hb dT_playCycle_6 ?_
  refine tp_T C hw 7 l_T_141 (by decide) dT_playCycle_7 (fun H locs hw => ?_)
  refine q_aload_n hx hb hl dT_playCycle_10 rfl ?_
  refine tc_E (tc_V C hl (c_see l hst D ct ad N hN (su σ 0 0 7 (σ 0 0 7 + 1)) _) hw.1 hw.2.1 hw.2.2 g_T_153 (re_T C hw) hv_T_seeWhoCanGo rfl rfl ⟨(Nat.le_of_ble_eq_true rfl), (Nat.le_of_ble_eq_true rfl)⟩ (Nat.le_of_ble_eq_true rfl) ⟨(Nat.le_of_ble_eq_true rfl), (Nat.le_of_ble_eq_true rfl)⟩ dT_playCycle_11 rfl) C hw (fun E ce q9 w1 H locs hp hw h1 h2 h3 => ?_) (fun v w1 H locs hp hw => ?_)
  · exact hp.elim
  obtain ⟨rfl, rfl⟩ := hp
  dsimp only [Option.toList_some, Option.toList_none, List.cons_append, List.nil_append]
  refine q_aload_n hx hb hl dT_playCycle_14 rfl ?_
  refine tc_E (tc_V C hl (c_goer l hst D ct ad N hN (tf_p1 N σ) _ (p1_5 h5)) hw.1 hw.2.1 hw.2.2 g_T_156 (re_T C hw) hv_T_findGoer rfl rfl ⟨(Nat.le_of_ble_eq_true rfl), (Nat.le_of_ble_eq_true rfl)⟩ (Nat.le_of_ble_eq_true rfl) ⟨(Nat.le_of_ble_eq_true rfl), (Nat.le_of_ble_eq_true rfl)⟩ dT_playCycle_15 rfl) C hw (fun E ce q9 w1 H locs hp hw h1 h2 h3 => ?_) (fun v w1 H locs hp hw => ?_)
  · exact hp.elim
  obtain ⟨rfl, rfl⟩ := hp
  dsimp only [Option.toList_some, Option.toList_none, List.cons_append, List.nil_append]
  refine q_istore_n hx hb hl dT_playCycle_18 (by decide) (fun ls hl => ?_)
  refine q_aload_n hx hb hl dT_playCycle_19 rfl ?_
  refine q_iload_n hx hb hl dT_playCycle_20 rfl ?_
  refine tc_E (tc_V C hl (c_wait l hst D ct ad N hN (tf_goS N (tf_p1 N σ)) _ (tf_plA N σ)) hw.1 hw.2.1 hw.2.2 g_T_159 (re_T C hw) hv_T_letOthersWait rfl rfl ⟨(Nat.le_of_ble_eq_true rfl), (Nat.le_of_ble_eq_true rfl)⟩ (Nat.le_of_ble_eq_true rfl) ⟨(Nat.le_of_ble_eq_true rfl), (Nat.le_of_ble_eq_true rfl)⟩ dT_playCycle_21 rfl) C hw (fun E ce q9 w1 H locs hp hw h1 h2 h3 => ?_) (fun v w1 H locs hp hw => ?_)
  · exact hp.elim
  obtain ⟨rfl, rfl⟩ := hp
  dsimp only [Option.toList_some, Option.toList_none, List.cons_append, List.nil_append]
  refine q_iload_n hx hb hl dT_playCycle_24 rfl ?_
  refine lv_iconst (v := -1) hx hb dT_playCycle_25 (by decide) ?_
  refine lv_icmp_eq (tgt := 34) hx hb dT_playCycle_26 (by decide) (fun c_26 => ?_) (fun c_26 => ?_)
  · refine q_iload_n hx hb hl dT_playCycle_34 rfl ?_
    exact tr_i hQ C hw hr (Nat.le_of_ble_eq_true rfl) (Nat.le_of_ble_eq_true rfl) dT_playCycle_35 ⟨rfl, by simp [tf_plS, tf_plA, c_26]⟩
  obtain ⟨h8, h9⟩ := ix_cl hN (tf_goA_ix N (tf_p1 N σ) (p1_5 h5)) c_26
  refine q_aload_n hx hb hl dT_playCycle_29 rfl ?_
  refine q_iload_n hx hb hl dT_playCycle_30 rfl ?_
  refine tc_E (tc_V C hl (c_let l hst D ct ad N hN _ _ _ h8 _ h9) hw.1 hw.2.1 hw.2.2 g_T_162 (re_T C hw) hv_T_letGo rfl rfl ⟨(Nat.le_of_ble_eq_true rfl), (Nat.le_of_ble_eq_true rfl)⟩ (Nat.le_of_ble_eq_true rfl) ⟨(Nat.le_of_ble_eq_true rfl), (Nat.le_of_ble_eq_true rfl)⟩ dT_playCycle_31 rfl) C hw (fun E ce q9 w1 H locs hp hw h1 h2 h3 => ?_) (fun v w1 H locs hp hw => ?_)
  · exact hp.elim
  obtain ⟨rfl, rfl⟩ := hp
  dsimp only [Option.toList_some, Option.toList_none, List.cons_append, List.nil_append]
  refine q_iload_n hx hb hl dT_playCycle_34 rfl ?_
  exact tr_i hQ C hw hr (Nat.le_of_ble_eq_true rfl) (Nat.le_of_ble_eq_true rfl) dT_playCycle_35 ⟨rfl, by simp [tf_plS, tf_plA, c_26]⟩
set_option maxHeartbeats 4000000 in
set_option maxRecDepth 100000 in
theorem c_cyc (l : Launch) (hst : l.stackTraces = false) (D : va_G) (ct : Ct) (ad : Ad) (N : Nat) (hN : N ≤ 16) (σ : St) (sz : Nat) (h5 : ix N (σ 0 0 5)) : Kt l yT_cycle cT_cycle 1 (some .int) (r0 5) 0 0 D ct [.ref (ad 0 0)] sz (wT ct ad N σ) (fun v w => v = some (.int (tf_plA N σ)) ∧ w = wT ct ad N (tf_plS N σ)) (fun E w => False) := by
  refine kt_of hst (by decide) (Nat.le_of_ble_eq_true rfl) (by simp [Value.category]) ?_
  intro p e s m args below meth c A ls C hne hr hw hl Q hQ
  have hx := C.1
  have hb := C.2.1
  refine q_aload_n hx hb hl dT_cycle_0 rfl ?_
  refine tc_E (tc_V C hl (c_play l hst D ct ad N hN σ _ h5) hw.1 hw.2.1 hw.2.2 g_T_71 (re_T C hw) hv_T_playCycle rfl rfl ⟨(Nat.le_of_ble_eq_true rfl), (Nat.le_of_ble_eq_true rfl)⟩ (Nat.le_of_ble_eq_true rfl) ⟨(Nat.le_of_ble_eq_true rfl), (Nat.le_of_ble_eq_true rfl)⟩ dT_cycle_1 rfl) C hw (fun E ce q9 w1 H locs hp hw h1 h2 h3 => ?_) (fun v w1 H locs hp hw => ?_)
  · exact hp.elim
  obtain ⟨rfl, rfl⟩ := hp
  dsimp only [Option.toList_some, Option.toList_none, List.cons_append, List.nil_append]
  exact tr_i hQ C hw hr (Nat.le_of_ble_eq_true rfl) (Nat.le_of_ble_eq_true rfl) dT_cycle_4 ⟨rfl, rfl⟩
end
section
set_option maxHeartbeats 4000000 in
set_option maxRecDepth 100000 in
theorem c_run (l : Launch) (hst : l.stackTraces = false) (D : va_G) (ct : Ct) (ad : Ad) (N : Nat) (hN : N ≤ 16) (σ : St) (sz : Nat) (h5 : ix N (σ 0 0 5)) (x : Int32) : Kt l yT_run cT_run 4 (some .int) (r1 8) 1 6 D ct [.ref (ad 0 0), .int x] sz (wT ct ad N σ) (fun v w => ∃ k : Nat, (1 ≤ k ∧ k ≤ 2000) ∧ x = nI k ∧ v = some (.int (tf_rn N k σ 0).1) ∧ w = wT ct ad N ((tf_rn N k σ 0).2)) (fun E w => (x < 1 ∨ ¬ x ≤ 2000) ∧ E = "java/lang/IllegalArgumentException" ∧ w = wT ct ad N σ) := by
  refine kt_of hst (by decide) (Nat.le_of_ble_eq_true rfl) (by simp [Value.category]) ?_
  intro p e s m args below meth c A ls C hne hr hw hl Q hQ
  have hx := C.1
  have hb := C.2.1
  rcases argn x 1 2000 (by decide) (by decide) with ⟨k, hk, rfl⟩ | h
  · refine q_iload_n hx hb hl dT_run_0 rfl ?_
    refine lv_iconst (v := 1) hx hb dT_run_1 (by decide) ?_
    refine lv_sipush (v := 2000) hx hb dT_run_2 (by decide) ?_
    refine tc_E (tc_S C hl (c_carg l hst D ct (wT ct ad N σ) _ (nI k) 1 2000 (nI_nlt (a := k) (b := 1) hk.1 (by omega)) (nI_le (b := 2000) hk.2 (by omega))) hw.1 hw.2.1 hw.2.2 g_T_40 hd_T_checkArgument rfl rfl ⟨(Nat.le_of_ble_eq_true rfl), (Nat.le_of_ble_eq_true rfl)⟩ (Nat.le_of_ble_eq_true rfl) ⟨(Nat.le_of_ble_eq_true rfl), (Nat.le_of_ble_eq_true rfl)⟩ dT_run_5 rfl) C hw (fun E ce q9 w1 H locs hp hw h1 h2 h3 => ?_) (fun v w1 H locs hp hw => ?_)
    · exact hp.elim
    obtain ⟨rfl, rfl⟩ := hp
    dsimp only [Option.toList_some, Option.toList_none, List.cons_append, List.nil_append]
    refine lv_iconst (v := 0) hx hb dT_run_8 (by decide) ?_
    refine q_istore_n hx hb hl dT_run_9 (by decide) (fun ls hl => ?_)
    refine lv_iconst (v := 0) hx hb dT_run_10 (by decide) ?_
    refine q_istore_n hx hb hl dT_run_11 (by decide) (fun ls hl => ?_)
    have L12 : ∀ (n : Nat) (t : Nat) (τ : St) (g : Int32), t + n = k → tf_rn N n τ g = tf_rn N k σ 0 → ix N (τ 0 0 5) → ∀ (H : Heap) (locs : List Loc) (ls : Array Slot), wl D A s (wT ct ad N τ) H locs → lq ls 4 [some (.ref (ad 0 0)), some (.int (nI k)), some (.int g), some (.int (nI t))] → W p l e (r1 8) s m args below meth c H locs 0 0 Q (F0 m 12 ls []) := by
      intro n
      induction n with
      | zero =>
        intro t τ g hn he h5 H locs ls hw hl
        refine q_iload_n hx hb hl dT_run_12 rfl ?_
        refine q_iload_n hx hb hl dT_run_13 rfl ?_
        refine lv_icmp_ge (tgt := 34) hx hb dT_run_14 (by decide) (fun c_14 => ?_) (fun q9 => absurd (nI_le (by omega) (by omega)) q9)
        refine q_iload_n hx hb hl dT_run_34 rfl ?_
        exact tr_i hQ C hw hr (Nat.le_of_ble_eq_true rfl) (Nat.le_of_ble_eq_true rfl) dT_run_35 ⟨k, hk, rfl, by rw [← he]; rfl, by rw [← he]; rfl⟩
      | succ n ih =>
        intro t τ g hn he h5 H locs ls hw hl
        refine q_iload_n hx hb hl dT_run_12 rfl ?_
        refine q_iload_n hx hb hl dT_run_13 rfl ?_
        refine lv_icmp_ge (tgt := 34) hx hb dT_run_14 (by decide) (fun q9 => absurd q9 (nI_ge (by omega) (by omega))) (fun c_14 => ?_)
        refine q_aload_n hx hb hl dT_run_17 rfl ?_
        refine tc_E (tc_V C hl (c_play l hst D ct ad N hN τ _ h5) hw.1 hw.2.1 hw.2.2 g_T_71 (re_T C hw) hv_T_playCycle rfl rfl ⟨(Nat.le_of_ble_eq_true rfl), (Nat.le_of_ble_eq_true rfl)⟩ (Nat.le_of_ble_eq_true rfl) ⟨(Nat.le_of_ble_eq_true rfl), (Nat.le_of_ble_eq_true rfl)⟩ dT_run_18 rfl) C hw (fun E ce q9 w1 H locs hp hw h1 h2 h3 => ?_) (fun v w1 H locs hp hw => ?_)
        · exact hp.elim
        obtain ⟨rfl, rfl⟩ := hp
        dsimp only [Option.toList_some, Option.toList_none, List.cons_append, List.nil_append]
        refine lv_iconst (v := -1) hx hb dT_run_21 (by decide) ?_
        refine lv_icmp_eq (tgt := 28) hx hb dT_run_22 (by decide) (fun c_22 => ?_) (fun c_22 => ?_)
        · refine q_inc hx hb hl dT_run_28 rfl (by decide) (fun ls hl => ?_)
          refine lv_goto (tgt := 12) hx hb dT_run_31 (by decide) ?_
          exact ih _ _ _ (by omega) (by rw [← he]; simp [tf_rn, c_22]) (pl_5 hN h5) _ _ _ hw hl
        refine q_inc1 hx hb hl dT_run_25 rfl (by decide) (fun ls hl => ?_)
        refine q_inc hx hb hl dT_run_28 rfl (by decide) (fun ls hl => ?_)
        refine lv_goto (tgt := 12) hx hb dT_run_31 (by decide) ?_
        exact ih _ _ _ (by omega) (by rw [← he]; simp [tf_rn, c_22]) (pl_5 hN h5) _ _ _ hw hl
    exact L12 k 0 σ 0 (by omega) rfl h5 _ _ _ hw hl
  · refine q_iload_n hx hb hl dT_run_0 rfl ?_
    refine lv_iconst (v := 1) hx hb dT_run_1 (by decide) ?_
    refine lv_sipush (v := 2000) hx hb dT_run_2 (by decide) ?_
    refine tc_E (tc_S C hl (x_carg l hst D ct (wT ct ad N σ) _ x 1 2000 h) hw.1 hw.2.1 hw.2.2 g_T_40 hd_T_checkArgument rfl rfl ⟨(Nat.le_of_ble_eq_true rfl), (Nat.le_of_ble_eq_true rfl)⟩ (Nat.le_of_ble_eq_true rfl) ⟨(Nat.le_of_ble_eq_true rfl), (Nat.le_of_ble_eq_true rfl)⟩ dT_run_5 rfl) C hw (fun E ce q9 w1 H locs hp hw h1 h2 h3 => ?_) (fun v w1 H locs hp hw => ?_)
    · obtain ⟨rfl, rfl⟩ := hp
      exact tr_x hQ C hne hw (Nat.le_of_ble_eq_true rfl) (Nat.le_of_ble_eq_true rfl) ⟨h, rfl, rfl⟩ h1 h2 h3
    · exact hp.elim
set_option maxHeartbeats 4000000 in
set_option maxRecDepth 100000 in
theorem c_all (l : Launch) (hst : l.stackTraces = false) (D : va_G) (ct : Ct) (ad : Ad) (N : Nat) (hN : N ≤ 16) (σ : St) (sz : Nat) : Kt l yT_entriesInAll cT_entriesInAll 3 (some .int) (r0 1) 0 0 D ct [.ref (ad 0 0)] sz (wT ct ad N σ) (fun v w => v = some (.int (tf_sum σ 8 0 0)) ∧ w = wT ct ad N σ) (fun E w => False) := by
  refine kt_of hst (by decide) (Nat.le_of_ble_eq_true rfl) (by simp [Value.category]) ?_
  intro p e s m args below meth c A ls C hne hr hw hl Q hQ
  have hx := C.1
  have hb := C.2.1
  refine lv_iconst (v := 0) hx hb dT_entriesInAll_0 (by decide) ?_
  refine q_istore_n hx hb hl dT_entriesInAll_1 (by decide) (fun ls hl => ?_)
  refine lv_iconst (v := 0) hx hb dT_entriesInAll_2 (by decide) ?_
  refine q_istore_n hx hb hl dT_entriesInAll_3 (by decide) (fun ls hl => ?_)
  have L4 : ∀ (n : Nat) (q : Nat) (k : Int32), q + n = 8 → tf_sum σ n q k = tf_sum σ 8 0 0 → ∀ (H : Heap) (locs : List Loc) (ls : Array Slot), wl D A s (wT ct ad N σ) H locs → lq ls 3 [some (.ref (ad 0 0)), some (.int k), some (.int (nI q))] → W p l e (r0 1) s m args below meth c H locs 0 0 Q (F0 m 4 ls []) := by
    intro n
    induction n with
    | zero =>
      intro q k hn he H locs ls hw hl
      refine q_iload_n hx hb hl dT_entriesInAll_4 rfl ?_
      refine q_aload_n hx hb hl dT_entriesInAll_5 rfl ?_
      refine tg_T C hw 1 l_T_31 (by decide) rfl dT_entriesInAll_6 ?_
      refine ta_lenL C hw dT_entriesInAll_9 ?_
      refine lv_icmp_ge (tgt := 31) hx hb dT_entriesInAll_10 (by decide) (fun c_10 => ?_) (fun q9 => absurd (nI_le (by omega) (by omega)) q9)
      refine q_iload_n hx hb hl dT_entriesInAll_31 rfl ?_
      exact tr_i hQ C hw hr (Nat.le_of_ble_eq_true rfl) (Nat.le_of_ble_eq_true rfl) dT_entriesInAll_32 ⟨by rw [← he]; rfl, rfl⟩
    | succ n ih =>
      intro q k hn he H locs ls hw hl
      have hq : q < 8 := by omega
      refine q_iload_n hx hb hl dT_entriesInAll_4 rfl ?_
      refine q_aload_n hx hb hl dT_entriesInAll_5 rfl ?_
      refine tg_T C hw 1 l_T_31 (by decide) rfl dT_entriesInAll_6 ?_
      refine ta_lenL C hw dT_entriesInAll_9 ?_
      refine lv_icmp_ge (tgt := 31) hx hb dT_entriesInAll_10 (by decide) (fun q9 => absurd q9 (nI_ge hq (by omega))) (fun c_10 => ?_)
      refine q_iload_n hx hb hl dT_entriesInAll_13 rfl ?_
      refine q_aload_n hx hb hl dT_entriesInAll_14 rfl ?_
      refine tg_T C hw 1 l_T_31 (by decide) rfl dT_entriesInAll_15 ?_
      refine q_iload_n hx hb hl dT_entriesInAll_18 rfl ?_
      refine ta_L C hw (by assumption) rfl dT_entriesInAll_19 ?_
      refine tg_LN C hw 3 l_T_91 (by decide) (by assumption) rfl dT_entriesInAll_20 ?_
      refine lv_iadd hx hb dT_entriesInAll_23 ?_
      refine q_istore_n hx hb hl dT_entriesInAll_24 (by decide) (fun ls hl => ?_)
      refine q_inc hx hb hl dT_entriesInAll_25 rfl (by decide) (fun ls hl => ?_)
      refine lv_goto (tgt := 4) hx hb dT_entriesInAll_28 (by decide) ?_
      exact ih _ _ (by omega) (by rw [← he]; rfl) _ _ _ hw hl
  exact L4 8 0 _ (by omega) rfl _ _ _ hw hl
end
section
set_option maxHeartbeats 4000000 in
set_option maxRecDepth 100000 in
theorem c_ent (l : Launch) (hst : l.stackTraces = false) (D : va_G) (ct : Ct) (ad : Ad) (N : Nat) (hN : N ≤ 16) (σ : St) (sz : Nat) (q : Nat) (hq : q < 8) (K : Nat) (hK : K ≤ 32) (hs : σ 3 q 0 = nI K) (th : Int32) : Kt l yL_entriesOf cL_entriesOf 4 (some .int) (r0 0) 0 0 D ct [.ref (ad 3 q), .int th] sz (wT ct ad N σ) (fun v w => v = some (.int (tf_ent σ q th K 0 0)) ∧ w = wT ct ad N σ) (fun E w => False) := by
  refine kt_of hst (by decide) (Nat.le_of_ble_eq_true rfl) (by simp [Value.category]) ?_
  intro p e s m args below meth c A ls C hne hr hw hl Q hQ
  have hx := C.1
  have hb := C.2.1
  refine lv_iconst (v := 0) hx hb dL_entriesOf_0 (by decide) ?_
  refine q_istore_n hx hb hl dL_entriesOf_1 (by decide) (fun ls hl => ?_)
  refine lv_iconst (v := 0) hx hb dL_entriesOf_2 (by decide) ?_
  refine q_istore_n hx hb hl dL_entriesOf_3 (by decide) (fun ls hl => ?_)
  have L4 : ∀ (n : Nat) (k : Nat) (h : Int32), k + n = K → tf_ent σ q th n k h = tf_ent σ q th K 0 0 → ∀ (H : Heap) (locs : List Loc) (ls : Array Slot), wl D A s (wT ct ad N σ) H locs → lq ls 4 [some (.ref (ad 3 q)), some (.int th), some (.int h), some (.int (nI k))] → W p l e (r0 0) s m args below meth c H locs 0 0 Q (F0 m 4 ls []) := by
    intro n
    induction n with
    | zero =>
      intro k h hn he H locs ls hw hl
      refine q_iload_n hx hb hl dL_entriesOf_4 rfl ?_
      refine q_aload_n hx hb hl dL_entriesOf_5 rfl ?_
      refine tg_L C hw 3 l_L_21 (by decide) (by assumption) rfl dL_entriesOf_6 ?_
      refine lv_icmp_ge (tgt := 31) hx hb dL_entriesOf_9 (by decide) (fun c_9 => ?_) (fun q9 => absurd (show σ 3 q 0 ≤ nI k by rw [hs]; exact nI_le (by omega) (by omega)) q9)
      refine q_iload_n hx hb hl dL_entriesOf_31 rfl ?_
      exact tr_i hQ C hw hr (Nat.le_of_ble_eq_true rfl) (Nat.le_of_ble_eq_true rfl) dL_entriesOf_32 ⟨by rw [← he]; rfl, rfl⟩
    | succ n ih =>
      intro k h hn he H locs ls hw hl
      have hk : k < 32 := by omega
      refine q_iload_n hx hb hl dL_entriesOf_4 rfl ?_
      refine q_aload_n hx hb hl dL_entriesOf_5 rfl ?_
      refine tg_L C hw 3 l_L_21 (by decide) (by assumption) rfl dL_entriesOf_6 ?_
      refine lv_icmp_ge (tgt := 31) hx hb dL_entriesOf_9 (by decide) (fun q9 => absurd q9 (show ¬ σ 3 q 0 ≤ nI k by rw [hs]; exact nI_ge (by omega) (by omega))) (fun c_9 => ?_)
      refine q_aload_n hx hb hl dL_entriesOf_12 rfl ?_
      refine tg_L C hw 0 l_L_9 (by decide) (by assumption) rfl dL_entriesOf_13 ?_
      refine q_iload_n hx hb hl dL_entriesOf_16 rfl ?_
      refine ta_g4 C hw (by assumption) (by assumption) rfl dL_entriesOf_17 ?_
      refine q_iload_n hx hb hl dL_entriesOf_18 rfl ?_
      refine lv_icmp_ne (tgt := 25) hx hb dL_entriesOf_19 (by decide) (fun c_19 => ?_) (fun c_19 => ?_)
      · refine q_inc hx hb hl dL_entriesOf_25 rfl (by decide) (fun ls hl => ?_)
        refine lv_goto (tgt := 4) hx hb dL_entriesOf_28 (by decide) ?_
        exact ih _ _ (by omega) (by rw [← he]; simp [tf_ent, c_19]) _ _ _ hw hl
      refine q_inc1 hx hb hl dL_entriesOf_22 rfl (by decide) (fun ls hl => ?_)
      refine q_inc hx hb hl dL_entriesOf_25 rfl (by decide) (fun ls hl => ?_)
      refine lv_goto (tgt := 4) hx hb dL_entriesOf_28 (by decide) ?_
      exact ih _ _ (by omega) (by rw [← he]; simp [tf_ent, c_19]) _ _ _ hw hl
  exact L4 K 0 _ (by omega) rfl _ _ _ hw hl
set_option maxHeartbeats 4000000 in
set_option maxRecDepth 100000 in
theorem c_fst (l : Launch) (hst : l.stackTraces = false) (D : va_G) (ct : Ct) (ad : Ad) (N : Nat) (hN : N ≤ 16) (σ : St) (sz : Nat) (q : Nat) (hq : q < 8) (K : Nat) (hK : K ≤ 32) (hs : σ 3 q 0 = nI K) (th : Int32) : Kt l yL_firstOf cL_firstOf 3 (some .int) (r0 0) 0 0 D ct [.ref (ad 3 q), .int th] sz (wT ct ad N σ) (fun v w => v = some (.int (tf_fst σ q th K 0)) ∧ w = wT ct ad N σ) (fun E w => False) := by
  refine kt_of hst (by decide) (Nat.le_of_ble_eq_true rfl) (by simp [Value.category]) ?_
  intro p e s m args below meth c A ls C hne hr hw hl Q hQ
  have hx := C.1
  have hb := C.2.1
  refine lv_iconst (v := 0) hx hb dL_firstOf_0 (by decide) ?_
  refine q_istore_n hx hb hl dL_firstOf_1 (by decide) (fun ls hl => ?_)
  have L2 : ∀ (n : Nat) (k : Nat), k + n = K → tf_fst σ q th n k = tf_fst σ q th K 0 → ∀ (H : Heap) (locs : List Loc) (ls : Array Slot), wl D A s (wT ct ad N σ) H locs → lq ls 3 [some (.ref (ad 3 q)), some (.int th), some (.int (nI k))] → W p l e (r0 0) s m args below meth c H locs 0 0 Q (F0 m 2 ls []) := by
    intro n
    induction n with
    | zero =>
      intro k hn he H locs ls hw hl
      refine q_iload_n hx hb hl dL_firstOf_2 rfl ?_
      refine q_aload_n hx hb hl dL_firstOf_3 rfl ?_
      refine tg_L C hw 3 l_L_21 (by decide) (by assumption) rfl dL_firstOf_4 ?_
      refine lv_icmp_ge (tgt := 33) hx hb dL_firstOf_7 (by decide) (fun c_7 => ?_) (fun q9 => absurd (show σ 3 q 0 ≤ nI k by rw [hs]; exact nI_le (by omega) (by omega)) q9)
      refine lv_iconst (v := -1) hx hb dL_firstOf_33 (by decide) ?_
      exact tr_i hQ C hw hr (Nat.le_of_ble_eq_true rfl) (Nat.le_of_ble_eq_true rfl) dL_firstOf_34 ⟨by rw [← he]; rfl, rfl⟩
    | succ n ih =>
      intro k hn he H locs ls hw hl
      have hk : k < 32 := by omega
      refine q_iload_n hx hb hl dL_firstOf_2 rfl ?_
      refine q_aload_n hx hb hl dL_firstOf_3 rfl ?_
      refine tg_L C hw 3 l_L_21 (by decide) (by assumption) rfl dL_firstOf_4 ?_
      refine lv_icmp_ge (tgt := 33) hx hb dL_firstOf_7 (by decide) (fun q9 => absurd q9 (show ¬ σ 3 q 0 ≤ nI k by rw [hs]; exact nI_ge (by omega) (by omega))) (fun c_7 => ?_)
      refine q_iload_n hx hb hl dL_firstOf_10 rfl ?_
      refine lv_iconst (v := -1) hx hb dL_firstOf_11 (by decide) ?_
      refine lv_icmp_eq (tgt := 25) hx hb dL_firstOf_12 (by decide) (fun c_12 => ?_) (fun c_12 => ?_)
      · refine q_iload_n hx hb hl dL_firstOf_25 rfl ?_
        exact tr_i hQ C hw hr (Nat.le_of_ble_eq_true rfl) (Nat.le_of_ble_eq_true rfl) dL_firstOf_26 ⟨by rw [← he]; simp [tf_fst, c_12], rfl⟩
      refine q_aload_n hx hb hl dL_firstOf_15 rfl ?_
      refine tg_L C hw 0 l_L_9 (by decide) (by assumption) rfl dL_firstOf_16 ?_
      refine q_iload_n hx hb hl dL_firstOf_19 rfl ?_
      refine ta_g4 C hw (by assumption) (by assumption) rfl dL_firstOf_20 ?_
      refine q_iload_n hx hb hl dL_firstOf_21 rfl ?_
      refine lv_icmp_ne (tgt := 27) hx hb dL_firstOf_22 (by decide) (fun c_22 => ?_) (fun c_22 => ?_)
      · refine q_inc hx hb hl dL_firstOf_27 rfl (by decide) (fun ls hl => ?_)
        refine lv_goto (tgt := 2) hx hb dL_firstOf_30 (by decide) ?_
        exact ih _ (by omega) (by rw [← he]; simp [tf_fst, c_12, c_22]) _ _ _ hw hl
      refine q_iload_n hx hb hl dL_firstOf_25 rfl ?_
      exact tr_i hQ C hw hr (Nat.le_of_ble_eq_true rfl) (Nat.le_of_ble_eq_true rfl) dL_firstOf_26 ⟨by rw [← he]; simp [tf_fst, c_12, c_22], rfl⟩
  exact L2 K 0 (by omega) rfl _ _ _ hw hl
set_option maxHeartbeats 4000000 in
set_option maxRecDepth 100000 in
theorem c_app (l : Launch) (hst : l.stackTraces = false) (D : va_G) (ct : Ct) (ad : Ad) (N : Nat) (hN : N ≤ 16) (σ : St) (sz : Nat) (q : Nat) (hq : q < 8) (K : Nat) (hK : K ≤ 32) (hs : σ 3 q 0 = nI K) (hK2 : K < 32) (th v0 : Int32) : Kt l yL_append cL_append 3 none (r0 0) 0 0 D ct [.ref (ad 3 q), .int th, .int v0] sz (wT ct ad N σ) (fun v w => v = none ∧ w = wT ct ad N (tf_app σ q K th v0)) (fun E w => False) := by
  refine kt_of hst (by decide) (Nat.le_of_ble_eq_true rfl) (by simp [Value.category]) ?_
  intro p e s m args below meth c A ls C hne hr hw hl Q hQ
  have hx := C.1
  have hb := C.2.1
  refine q_aload_n hx hb hl dL_append_0 rfl ?_
  refine tg_L C hw 3 l_L_21 (by decide) (by assumption) rfl dL_append_1 ?_
  refine lv_bipush (v := 32) hx hb dL_append_4 (by decide) ?_
  refine lv_icmp_ge (tgt := 39) hx hb dL_append_6 (by decide) (fun q9 => absurd q9 (show ¬ nI 32 ≤ σ 3 q 0 by rw [hs]; exact nI_ge hK2 (by omega))) (fun c_6 => ?_)
  refine q_aload_n hx hb hl dL_append_9 rfl ?_
  refine tg_L C hw 0 l_L_9 (by decide) (by assumption) rfl dL_append_10 ?_
  refine q_aload_n hx hb hl dL_append_13 rfl ?_
  refine tg_L C hw 3 l_L_21 (by decide) (by assumption) rfl dL_append_14 ?_
  refine q_iload_n hx hb hl dL_append_17 rfl ?_
  refine ta_p4 C hw (by assumption) hK2 hs dL_append_18 (fun H locs hw => ?_)
  refine q_aload_n hx hb hl dL_append_19 rfl ?_
  refine tg_L C hw 1 l_L_15 (by decide) (by assumption) rfl dL_append_20 ?_
  refine q_aload_n hx hb hl dL_append_23 rfl ?_
  refine tg_L C hw 3 l_L_21 (by decide) (by assumption) rfl dL_append_24 ?_
  refine q_iload_n hx hb hl dL_append_27 rfl ?_
  refine ta_p5 C hw (by assumption) hK2 ((su_n1 (by decide)).trans hs) dL_append_28 (fun H locs hw => ?_)
  refine q_aload_n hx hb hl dL_append_29 rfl ?_
  refine lv_dup hx hb dL_append_30 rfl ?_
  refine tg_L C hw 3 l_L_21 (by decide) (by assumption) rfl dL_append_31 ?_
  refine lv_iconst (v := 1) hx hb dL_append_34 (by decide) ?_
  refine lv_iadd hx hb dL_append_35 ?_
  refine tp_L C hw l_L_21 (by assumption) dL_append_36 (fun H locs hw => ?_)
  exact tr_v hQ C hw hr (Nat.le_of_ble_eq_true rfl) (Nat.le_of_ble_eq_true rfl) dL_append_39 ⟨rfl, by simp [tf_app, su_n1, hs, nI_1]⟩
set_option maxHeartbeats 4000000 in
set_option maxRecDepth 100000 in
theorem c_cls (l : Launch) (hst : l.stackTraces = false) (D : va_G) (ct : Ct) (ad : Ad) (N : Nat) (hN : N ≤ 16) (σ : St) (sz : Nat) (q : Nat) (hq : q < 8) (K : Nat) (hK : K ≤ 32) (hs : σ 3 q 0 = nI K) (g : Nat) (hg : g < K) (i : Int32) (hi : i = nI g) : Kt l yL_close cL_close 3 none (r0 0) 0 0 D ct [.ref (ad 3 q), .int i] sz (wT ct ad N σ) (fun v w => v = none ∧ w = wT ct ad N (su (tf_cl q (K - 1 - g) g σ) 3 q 0 (nI (K - 1)))) (fun E w => False) := by
  refine kt_of hst (by decide) (Nat.le_of_ble_eq_true rfl) (by simp [Value.category]) ?_
  intro p e s m args below meth c A ls C hne hr hw hl Q hQ
  have hx := C.1
  have hb := C.2.1
  subst hi
  refine q_iload_n hx hb hl dL_close_0 rfl ?_
  refine q_istore_n hx hb hl dL_close_1 (by decide) (fun ls hl => ?_)
  have L2 : ∀ (n : Nat) (k : Nat) (τ : St), k + n = K - 1 → tf_cl q n k τ = tf_cl q (K - 1 - g) g σ → τ 3 q 0 = nI K → ∀ (H : Heap) (locs : List Loc) (ls : Array Slot), wl D A s (wT ct ad N τ) H locs → lq ls 3 [some (.ref (ad 3 q)), some (.int (nI g)), some (.int (nI k))] → W p l e (r0 0) s m args below meth c H locs 0 0 Q (F0 m 2 ls []) := by
    intro n
    induction n with
    | zero =>
      intro k τ hn he hs H locs ls hw hl
      have hs1 : τ 3 q 0 - 1 = nI (K - 1) := by rw [hs, ← nI_pred (K - 1), show K - 1 + 1 = K by omega]
      refine q_iload_n hx hb hl dL_close_2 rfl ?_
      refine q_aload_n hx hb hl dL_close_3 rfl ?_
      refine tg_L C hw 3 l_L_21 (by decide) (by assumption) rfl dL_close_4 ?_
      refine lv_iconst (v := 1) hx hb dL_close_7 (by decide) ?_
      refine lv_isub hx hb dL_close_8 ?_
      refine lv_icmp_ge (tgt := 46) hx hb dL_close_9 (by decide) (fun c_9 => ?_) (fun q9 => absurd (show τ 3 q 0 - 1 ≤ nI k by rw [hs1]; exact nI_le (by omega) (by omega)) q9)
      refine q_aload_n hx hb hl dL_close_46 rfl ?_
      refine lv_dup hx hb dL_close_47 rfl ?_
      refine tg_L C hw 3 l_L_21 (by decide) (by assumption) rfl dL_close_48 ?_
      refine lv_iconst (v := 1) hx hb dL_close_51 (by decide) ?_
      refine lv_isub hx hb dL_close_52 ?_
      refine tp_L C hw l_L_21 (by assumption) dL_close_53 (fun H locs hw => ?_)
      exact tr_v hQ C hw hr (Nat.le_of_ble_eq_true rfl) (Nat.le_of_ble_eq_true rfl) dL_close_56 ⟨rfl, by rw [hs1, ← he]; rfl⟩
    | succ n ih =>
      intro k τ hn he hs H locs ls hw hl
      have hs1 : τ 3 q 0 - 1 = nI (K - 1) := by rw [hs, ← nI_pred (K - 1), show K - 1 + 1 = K by omega]
      have hk : k < 32 := by omega
      refine q_iload_n hx hb hl dL_close_2 rfl ?_
      refine q_aload_n hx hb hl dL_close_3 rfl ?_
      refine tg_L C hw 3 l_L_21 (by decide) (by assumption) rfl dL_close_4 ?_
      refine lv_iconst (v := 1) hx hb dL_close_7 (by decide) ?_
      refine lv_isub hx hb dL_close_8 ?_
      refine lv_icmp_ge (tgt := 46) hx hb dL_close_9 (by decide) (fun q9 => absurd q9 (show ¬ τ 3 q 0 - 1 ≤ nI k by rw [hs1]; exact nI_ge (by omega) (by omega))) (fun c_9 => ?_)
      refine q_aload_n hx hb hl dL_close_12 rfl ?_
      refine tg_L C hw 0 l_L_9 (by decide) (by assumption) rfl dL_close_13 ?_
      refine q_iload_n hx hb hl dL_close_16 rfl ?_
      refine q_aload_n hx hb hl dL_close_17 rfl ?_
      refine tg_L C hw 0 l_L_9 (by decide) (by assumption) rfl dL_close_18 ?_
      refine q_iload_n hx hb hl dL_close_21 rfl ?_
      refine lv_iconst (v := 1) hx hb dL_close_22 (by decide) ?_
      refine lv_iadd hx hb dL_close_23 ?_
      refine ta_g4 C hw (by assumption) (k := k + 1) (by omega) (nI_1 k) dL_close_24 ?_
      refine ta_p4 C hw (by assumption) (by assumption) rfl dL_close_25 (fun H locs hw => ?_)
      refine q_aload_n hx hb hl dL_close_26 rfl ?_
      refine tg_L C hw 1 l_L_15 (by decide) (by assumption) rfl dL_close_27 ?_
      refine q_iload_n hx hb hl dL_close_30 rfl ?_
      refine q_aload_n hx hb hl dL_close_31 rfl ?_
      refine tg_L C hw 1 l_L_15 (by decide) (by assumption) rfl dL_close_32 ?_
      refine q_iload_n hx hb hl dL_close_35 rfl ?_
      refine lv_iconst (v := 1) hx hb dL_close_36 (by decide) ?_
      refine lv_iadd hx hb dL_close_37 ?_
      refine ta_g5 C hw (by assumption) (k := k + 1) (by omega) (nI_1 k) dL_close_38 ?_
      refine ta_p5 C hw (by assumption) (by assumption) rfl dL_close_39 (fun H locs hw => ?_)
      refine q_inc hx hb hl dL_close_40 rfl (by decide) (fun ls hl => ?_)
      refine lv_goto (tgt := 2) hx hb dL_close_43 (by decide) ?_
      exact ih _ _ (by omega) (by rw [← he]; rfl) (by rw [su_n1 (by decide), su_n1 (by decide)]; exact hs) _ _ _ hw hl
  exact L2 (K - 1 - g) g σ (by omega) rfl hs _ _ _ hw hl
set_option maxHeartbeats 4000000 in
set_option maxRecDepth 100000 in
theorem c_gcd (l : Launch) (hst : l.stackTraces = false) (D : va_G) (ct : Ct) (w0 : va_W) (sz : Nat) (x y : Int32) : Kt l yT_greatestDivisor cT_greatestDivisor 6 (some .int) (r0 0) 0 0 D ct [.int x, .int y] sz (w0) (fun v w => v = some (.int (tf_gcd 64 x y)) ∧ w = w0) (fun E w => False) := by
  refine kt_of hst (by decide) (Nat.le_of_ble_eq_true rfl) (by simp [Value.category]) ?_
  intro p e s m args below meth c A ls C hne hr hw hl Q hQ
  have hx := C.1
  have hb := C.2.1
  refine q_iload_n hx hb hl dT_greatestDivisor_0 rfl ?_
  refine q_istore_n hx hb hl dT_greatestDivisor_1 (by decide) (fun ls hl => ?_)
  refine q_iload_n hx hb hl dT_greatestDivisor_2 rfl ?_
  refine q_istore_n hx hb hl dT_greatestDivisor_3 (by decide) (fun ls hl => ?_)
  refine lv_iconst (v := 0) hx hb dT_greatestDivisor_4 (by decide) ?_
  refine q_istore hx hb hl dT_greatestDivisor_5 (by decide) (fun ls hl => ?_)
  have L7 : ∀ (n : Nat) (i : Nat) (a b : Int32), i + n = 64 → tf_gcd n a b = tf_gcd 64 x y → ∀ (H : Heap) (locs : List Loc) (ls : Array Slot), wl D A s (w0) H locs → lq ls 6 [some (.int x), some (.int y), some (.int a), some (.int b), some (.int (nI i)), none] → W p l e (r0 0) s m args below meth c H locs 0 0 Q (F0 m 7 ls []) := by
    intro n
    induction n with
    | zero =>
      intro i a b hn he H locs ls hw hl
      refine q_iload hx hb hl dT_greatestDivisor_7 rfl ?_
      refine lv_bipush (v := 64) hx hb dT_greatestDivisor_9 (by decide) ?_
      refine lv_icmp_ge (tgt := 34) hx hb dT_greatestDivisor_11 (by decide) (fun c_11 => ?_) (fun q9 => absurd (show nI 64 ≤ nI i from nI_le (by omega) (by omega)) q9)
      refine q_iload_n hx hb hl dT_greatestDivisor_34 rfl ?_
      exact tr_i hQ C hw hr (Nat.le_of_ble_eq_true rfl) (Nat.le_of_ble_eq_true rfl) dT_greatestDivisor_35 ⟨by rw [← he]; rfl, rfl⟩
    | succ n ih =>
      intro i a b hn he H locs ls hw hl
      refine q_iload hx hb hl dT_greatestDivisor_7 rfl ?_
      refine lv_bipush (v := 64) hx hb dT_greatestDivisor_9 (by decide) ?_
      refine lv_icmp_ge (tgt := 34) hx hb dT_greatestDivisor_11 (by decide) (fun q9 => absurd q9 (show ¬ nI 64 ≤ nI i from nI_ge (by omega) (by omega))) (fun c_11 => ?_)
      refine q_iload_n hx hb hl dT_greatestDivisor_14 rfl ?_
      refine lv_if_eq (tgt := 34) hx hb dT_greatestDivisor_15 (by decide) (fun c_15 => ?_) (fun c_15 => ?_)
      · refine q_iload_n hx hb hl dT_greatestDivisor_34 rfl ?_
        exact tr_i hQ C hw hr (Nat.le_of_ble_eq_true rfl) (Nat.le_of_ble_eq_true rfl) dT_greatestDivisor_35 ⟨by rw [← he]; simp [tf_gcd, c_15], rfl⟩
      refine q_iload_n hx hb hl dT_greatestDivisor_18 rfl ?_
      refine q_iload_n hx hb hl dT_greatestDivisor_19 rfl ?_
      refine lv_irem hx hb dT_greatestDivisor_20 c_15 ?_
      refine q_istore hx hb hl dT_greatestDivisor_21 (by decide) (fun ls hl => ?_)
      refine q_iload_n hx hb hl dT_greatestDivisor_23 rfl ?_
      refine q_istore_n hx hb hl dT_greatestDivisor_24 (by decide) (fun ls hl => ?_)
      refine q_iload hx hb hl dT_greatestDivisor_25 rfl ?_
      refine q_istore_n hx hb hl dT_greatestDivisor_27 (by decide) (fun ls hl => ?_)
      refine q_inc hx hb hl dT_greatestDivisor_28 rfl (by decide) (fun ls hl => ?_)
      refine lv_goto (tgt := 7) hx hb dT_greatestDivisor_31 (by decide) ?_
      exact ih _ _ _ (by omega) (by rw [← he]; simp [tf_gcd, c_15]) _ _ _ hw (hl.drop 5)
  exact L7 64 0 _ _ (by omega) rfl _ _ _ hw hl
end
section
set_option maxHeartbeats 4000000 in
set_option maxRecDepth 100000 in
theorem c_rule (l : Launch) (hst : l.stackTraces = false) (D : va_G) (ct : Ct) (ad : Ad) (N : Nat) (hN : N ≤ 16) (σ : St) (sz : Nat) (x : Int32) : Kt l yT_rule cT_rule 3 (some .int) (r1 8) 1 6 D ct [.ref (ad 0 0), .int x] sz (wT ct ad N σ) (fun v w => (¬ x < 0 ∧ x ≤ 3) ∧ v = some (.int (σ 0 0 0)) ∧ w = wT ct ad N (su σ 0 0 0 x)) (fun E w => (x < 0 ∨ ¬ x ≤ 3) ∧ E = "java/lang/IllegalArgumentException" ∧ w = wT ct ad N σ) := by
  refine kt_of hst (by decide) (Nat.le_of_ble_eq_true rfl) (by simp [Value.category]) ?_
  intro p e s m args below meth c A ls C hne hr hw hl Q hQ
  have hx := C.1
  have hb := C.2.1
  rcases argc x 0 3 with h | h
  · refine q_iload_n hx hb hl dT_rule_0 rfl ?_
    refine lv_iconst (v := 0) hx hb dT_rule_1 (by decide) ?_
    refine lv_iconst (v := 3) hx hb dT_rule_2 (by decide) ?_
    refine tc_E (tc_S C hl (c_carg l hst D ct (wT ct ad N σ) _ x 0 3 h.1 h.2) hw.1 hw.2.1 hw.2.2 g_T_40 hd_T_checkArgument rfl rfl ⟨(Nat.le_of_ble_eq_true rfl), (Nat.le_of_ble_eq_true rfl)⟩ (Nat.le_of_ble_eq_true rfl) ⟨(Nat.le_of_ble_eq_true rfl), (Nat.le_of_ble_eq_true rfl)⟩ dT_rule_3 rfl) C hw (fun E ce q9 w1 H locs hp hw h1 h2 h3 => ?_) (fun v w1 H locs hp hw => ?_)
    · exact hp.elim
    obtain ⟨rfl, rfl⟩ := hp
    dsimp only [Option.toList_some, Option.toList_none, List.cons_append, List.nil_append]
    refine q_aload_n hx hb hl dT_rule_6 rfl ?_
    refine tg_T C hw 2 l_T_44 (by decide) rfl dT_rule_7 ?_
    refine q_istore_n hx hb hl dT_rule_10 (by decide) (fun ls hl => ?_)
    refine q_aload_n hx hb hl dT_rule_11 rfl ?_
    refine q_iload_n hx hb hl dT_rule_12 rfl ?_
    refine tp_T C hw 0 l_T_44 (by decide) dT_rule_13 (fun H locs hw => ?_)
    refine q_iload_n hx hb hl dT_rule_16 rfl ?_
    exact tr_i hQ C hw hr (Nat.le_of_ble_eq_true rfl) (Nat.le_of_ble_eq_true rfl) dT_rule_17 ⟨h, rfl, rfl⟩
  · refine q_iload_n hx hb hl dT_rule_0 rfl ?_
    refine lv_iconst (v := 0) hx hb dT_rule_1 (by decide) ?_
    refine lv_iconst (v := 3) hx hb dT_rule_2 (by decide) ?_
    refine tc_E (tc_S C hl (x_carg l hst D ct (wT ct ad N σ) _ x 0 3 h) hw.1 hw.2.1 hw.2.2 g_T_40 hd_T_checkArgument rfl rfl ⟨(Nat.le_of_ble_eq_true rfl), (Nat.le_of_ble_eq_true rfl)⟩ (Nat.le_of_ble_eq_true rfl) ⟨(Nat.le_of_ble_eq_true rfl), (Nat.le_of_ble_eq_true rfl)⟩ dT_rule_3 rfl) C hw (fun E ce q9 w1 H locs hp hw h1 h2 h3 => ?_) (fun v w1 H locs hp hw => ?_)
    · obtain ⟨rfl, rfl⟩ := hp
      exact tr_x hQ C hne hw (Nat.le_of_ble_eq_true rfl) (Nat.le_of_ble_eq_true rfl) ⟨h, rfl, rfl⟩ h1 h2 h3
    · exact hp.elim
set_option maxHeartbeats 4000000 in
set_option maxRecDepth 100000 in
theorem c_bound (l : Launch) (hst : l.stackTraces = false) (D : va_G) (ct : Ct) (ad : Ad) (N : Nat) (hN : N ≤ 16) (σ : St) (sz : Nat) (x : Int32) : Kt l yT_bound cT_bound 3 (some .int) (r1 8) 1 6 D ct [.ref (ad 0 0), .int x] sz (wT ct ad N σ) (fun v w => (¬ x < 0 ∧ x ≤ 1000) ∧ v = some (.int (σ 0 0 1)) ∧ w = wT ct ad N (su σ 0 0 1 x)) (fun E w => (x < 0 ∨ ¬ x ≤ 1000) ∧ E = "java/lang/IllegalArgumentException" ∧ w = wT ct ad N σ) := by
  refine kt_of hst (by decide) (Nat.le_of_ble_eq_true rfl) (by simp [Value.category]) ?_
  intro p e s m args below meth c A ls C hne hr hw hl Q hQ
  have hx := C.1
  have hb := C.2.1
  rcases argc x 0 1000 with h | h
  · refine q_iload_n hx hb hl dT_bound_0 rfl ?_
    refine lv_iconst (v := 0) hx hb dT_bound_1 (by decide) ?_
    refine lv_sipush (v := 1000) hx hb dT_bound_2 (by decide) ?_
    refine tc_E (tc_S C hl (c_carg l hst D ct (wT ct ad N σ) _ x 0 1000 h.1 h.2) hw.1 hw.2.1 hw.2.2 g_T_40 hd_T_checkArgument rfl rfl ⟨(Nat.le_of_ble_eq_true rfl), (Nat.le_of_ble_eq_true rfl)⟩ (Nat.le_of_ble_eq_true rfl) ⟨(Nat.le_of_ble_eq_true rfl), (Nat.le_of_ble_eq_true rfl)⟩ dT_bound_5 rfl) C hw (fun E ce q9 w1 H locs hp hw h1 h2 h3 => ?_) (fun v w1 H locs hp hw => ?_)
    · exact hp.elim
    obtain ⟨rfl, rfl⟩ := hp
    dsimp only [Option.toList_some, Option.toList_none, List.cons_append, List.nil_append]
    refine q_aload_n hx hb hl dT_bound_8 rfl ?_
    refine tg_T C hw 3 l_T_47 (by decide) rfl dT_bound_9 ?_
    refine q_istore_n hx hb hl dT_bound_12 (by decide) (fun ls hl => ?_)
    refine q_aload_n hx hb hl dT_bound_13 rfl ?_
    refine q_iload_n hx hb hl dT_bound_14 rfl ?_
    refine tp_T C hw 1 l_T_47 (by decide) dT_bound_15 (fun H locs hw => ?_)
    refine q_iload_n hx hb hl dT_bound_18 rfl ?_
    exact tr_i hQ C hw hr (Nat.le_of_ble_eq_true rfl) (Nat.le_of_ble_eq_true rfl) dT_bound_19 ⟨h, rfl, rfl⟩
  · refine q_iload_n hx hb hl dT_bound_0 rfl ?_
    refine lv_iconst (v := 0) hx hb dT_bound_1 (by decide) ?_
    refine lv_sipush (v := 1000) hx hb dT_bound_2 (by decide) ?_
    refine tc_E (tc_S C hl (x_carg l hst D ct (wT ct ad N σ) _ x 0 1000 h) hw.1 hw.2.1 hw.2.2 g_T_40 hd_T_checkArgument rfl rfl ⟨(Nat.le_of_ble_eq_true rfl), (Nat.le_of_ble_eq_true rfl)⟩ (Nat.le_of_ble_eq_true rfl) ⟨(Nat.le_of_ble_eq_true rfl), (Nat.le_of_ble_eq_true rfl)⟩ dT_bound_5 rfl) C hw (fun E ce q9 w1 H locs hp hw h1 h2 h3 => ?_) (fun v w1 H locs hp hw => ?_)
    · obtain ⟨rfl, rfl⟩ := hp
      exact tr_x hQ C hne hw (Nat.le_of_ble_eq_true rfl) (Nat.le_of_ble_eq_true rfl) ⟨h, rfl, rfl⟩ h1 h2 h3
    · exact hp.elim
set_option maxHeartbeats 4000000 in
set_option maxRecDepth 100000 in
theorem c_cost (l : Launch) (hst : l.stackTraces = false) (D : va_G) (ct : Ct) (ad : Ad) (N : Nat) (hN : N ≤ 16) (σ : St) (sz : Nat) (x : Int32) : Kt l yT_cost cT_cost 3 (some .int) (r1 8) 1 6 D ct [.ref (ad 0 0), .int x] sz (wT ct ad N σ) (fun v w => (¬ x < 0 ∧ x ≤ 20) ∧ v = some (.int (σ 0 0 2)) ∧ w = wT ct ad N (su σ 0 0 2 x)) (fun E w => (x < 0 ∨ ¬ x ≤ 20) ∧ E = "java/lang/IllegalArgumentException" ∧ w = wT ct ad N σ) := by
  refine kt_of hst (by decide) (Nat.le_of_ble_eq_true rfl) (by simp [Value.category]) ?_
  intro p e s m args below meth c A ls C hne hr hw hl Q hQ
  have hx := C.1
  have hb := C.2.1
  rcases argc x 0 20 with h | h
  · refine q_iload_n hx hb hl dT_cost_0 rfl ?_
    refine lv_iconst (v := 0) hx hb dT_cost_1 (by decide) ?_
    refine lv_bipush (v := 20) hx hb dT_cost_2 (by decide) ?_
    refine tc_E (tc_S C hl (c_carg l hst D ct (wT ct ad N σ) _ x 0 20 h.1 h.2) hw.1 hw.2.1 hw.2.2 g_T_40 hd_T_checkArgument rfl rfl ⟨(Nat.le_of_ble_eq_true rfl), (Nat.le_of_ble_eq_true rfl)⟩ (Nat.le_of_ble_eq_true rfl) ⟨(Nat.le_of_ble_eq_true rfl), (Nat.le_of_ble_eq_true rfl)⟩ dT_cost_4 rfl) C hw (fun E ce q9 w1 H locs hp hw h1 h2 h3 => ?_) (fun v w1 H locs hp hw => ?_)
    · exact hp.elim
    obtain ⟨rfl, rfl⟩ := hp
    dsimp only [Option.toList_some, Option.toList_none, List.cons_append, List.nil_append]
    refine q_aload_n hx hb hl dT_cost_7 rfl ?_
    refine tg_T C hw 4 l_T_50 (by decide) rfl dT_cost_8 ?_
    refine q_istore_n hx hb hl dT_cost_11 (by decide) (fun ls hl => ?_)
    refine q_aload_n hx hb hl dT_cost_12 rfl ?_
    refine q_iload_n hx hb hl dT_cost_13 rfl ?_
    refine tp_T C hw 2 l_T_50 (by decide) dT_cost_14 (fun H locs hw => ?_)
    refine q_iload_n hx hb hl dT_cost_17 rfl ?_
    exact tr_i hQ C hw hr (Nat.le_of_ble_eq_true rfl) (Nat.le_of_ble_eq_true rfl) dT_cost_18 ⟨h, rfl, rfl⟩
  · refine q_iload_n hx hb hl dT_cost_0 rfl ?_
    refine lv_iconst (v := 0) hx hb dT_cost_1 (by decide) ?_
    refine lv_bipush (v := 20) hx hb dT_cost_2 (by decide) ?_
    refine tc_E (tc_S C hl (x_carg l hst D ct (wT ct ad N σ) _ x 0 20 h) hw.1 hw.2.1 hw.2.2 g_T_40 hd_T_checkArgument rfl rfl ⟨(Nat.le_of_ble_eq_true rfl), (Nat.le_of_ble_eq_true rfl)⟩ (Nat.le_of_ble_eq_true rfl) ⟨(Nat.le_of_ble_eq_true rfl), (Nat.le_of_ble_eq_true rfl)⟩ dT_cost_4 rfl) C hw (fun E ce q9 w1 H locs hp hw h1 h2 h3 => ?_) (fun v w1 H locs hp hw => ?_)
    · obtain ⟨rfl, rfl⟩ := hp
      exact tr_x hQ C hne hw (Nat.le_of_ble_eq_true rfl) (Nat.le_of_ble_eq_true rfl) ⟨h, rfl, rfl⟩ h1 h2 h3
    · exact hp.elim
set_option maxHeartbeats 4000000 in
set_option maxRecDepth 100000 in
theorem c_ready (l : Launch) (hst : l.stackTraces = false) (D : va_G) (ct : Ct) (ad : Ad) (N : Nat) (hN : N ≤ 16) (σ : St) (sz : Nat) (hbo : ∀ t, t < N → σ 1 t 0 = 0 ∨ σ 1 t 0 = 1) (p0 p1 : Int32) (hz : p1 = 0 ∨ p1 = 1) : Kt l yT_ready cT_ready 5 (some .boolean) (r1 8) 1 6 D ct [.ref (ad 0 0), .int p0, .int p1] sz (wT ct ad N σ) (fun v w => ∃ t, t < N ∧ p0 = nI t ∧ v = some (.int (σ 1 t 0)) ∧ w = wT ct ad N (su σ 1 t 0 p1)) (fun E w => (p0 < 0 ∨ ¬ p0 < nI N) ∧ E = "java/lang/IndexOutOfBoundsException" ∧ w = wT ct ad N σ) := by
  refine kt_of hst (by decide) (Nat.le_of_ble_eq_true rfl) (by simp [Value.category]) ?_
  intro p e s m args below meth c A ls C hne hr hw hl Q hQ
  have hx := C.1
  have hb := C.2.1
  rcases ixc p0 N (by omega) with ⟨t, ht, rfl⟩ | h
  · refine q_aload_n hx hb hl dT_ready_0 rfl ?_
    refine q_iload_n hx hb hl dT_ready_1 rfl ?_
    refine tc_E (tc_V C hl (c_str l hst D ct ad N hN σ _ t ht _ rfl) hw.1 hw.2.1 hw.2.2 g_T_53 (re_T C hw) hv_T_strandOf rfl rfl ⟨(Nat.le_of_ble_eq_true rfl), (Nat.le_of_ble_eq_true rfl)⟩ (Nat.le_of_ble_eq_true rfl) ⟨(Nat.le_of_ble_eq_true rfl), (Nat.le_of_ble_eq_true rfl)⟩ dT_ready_2 rfl) C hw (fun E ce q9 w1 H locs hp hw h1 h2 h3 => ?_) (fun v w1 H locs hp hw => ?_)
    · exact hp.elim
    obtain ⟨rfl, rfl⟩ := hp
    dsimp only [Option.toList_some, Option.toList_none, List.cons_append, List.nil_append]
    refine q_astore_n hx hb hl dT_ready_5 (by decide) (fun ls hl => ?_)
    refine q_aload_n hx hb hl dT_ready_6 rfl ?_
    refine tg_S C hw 1 l_T_57 (by decide) (by assumption) rfl dT_ready_7 ?_
    refine q_istore hx hb hl dT_ready_10 (by decide) (fun ls hl => ?_)
    refine q_aload_n hx hb hl dT_ready_12 rfl ?_
    refine q_iload_n hx hb hl dT_ready_13 rfl ?_
    refine tp_S C hw 0 l_T_57 (by decide) (by assumption) (fun _ => hz) dT_ready_14 (fun H locs hw => ?_)
    refine q_iload hx hb hl dT_ready_17 rfl ?_
    exact tr_z hQ C hw hr (Nat.le_of_ble_eq_true rfl) (Nat.le_of_ble_eq_true rfl) dT_ready_19 (hbo t ht) ⟨t, ht, rfl, rfl, rfl⟩
  · refine q_aload_n hx hb hl dT_ready_0 rfl ?_
    refine q_iload_n hx hb hl dT_ready_1 rfl ?_
    refine tc_E (tc_V C hl (x_str l hst D ct ad N hN σ _ p0 h) hw.1 hw.2.1 hw.2.2 g_T_53 (re_T C hw) hv_T_strandOf rfl rfl ⟨(Nat.le_of_ble_eq_true rfl), (Nat.le_of_ble_eq_true rfl)⟩ (Nat.le_of_ble_eq_true rfl) ⟨(Nat.le_of_ble_eq_true rfl), (Nat.le_of_ble_eq_true rfl)⟩ dT_ready_2 rfl) C hw (fun E ce q9 w1 H locs hp hw h1 h2 h3 => ?_) (fun v w1 H locs hp hw => ?_)
    · obtain ⟨rfl, rfl⟩ := hp
      exact tr_x hQ C hne hw (Nat.le_of_ble_eq_true rfl) (Nat.le_of_ble_eq_true rfl) ⟨h, rfl, rfl⟩ h1 h2 h3
    · exact hp.elim
set_option maxHeartbeats 4000000 in
set_option maxRecDepth 100000 in
theorem c_rank (l : Launch) (hst : l.stackTraces = false) (D : va_G) (ct : Ct) (ad : Ad) (N : Nat) (hN : N ≤ 16) (σ : St) (sz : Nat) (p0 p1 : Int32) : Kt l yT_rank cT_rank 5 (some .int) (r1 8) 1 6 D ct [.ref (ad 0 0), .int p0, .int p1] sz (wT ct ad N σ) (fun v w => ∃ t, t < N ∧ p0 = nI t ∧ (¬ p1 < 0 ∧ p1 ≤ 15) ∧ v = some (.int (σ 1 t 1)) ∧ w = wT ct ad N (su σ 1 t 1 p1)) (fun E w => ((p0 < 0 ∨ ¬ p0 < nI N) ∧ E = "java/lang/IndexOutOfBoundsException" ∨ (∃ t, t < N ∧ p0 = nI t) ∧ (p1 < 0 ∨ ¬ p1 ≤ 15) ∧ E = "java/lang/IllegalArgumentException") ∧ w = wT ct ad N σ) := by
  refine kt_of hst (by decide) (Nat.le_of_ble_eq_true rfl) (by simp [Value.category]) ?_
  intro p e s m args below meth c A ls C hne hr hw hl Q hQ
  have hx := C.1
  have hb := C.2.1
  rcases ixc p0 N (by omega) with ⟨t, ht, rfl⟩ | h
  · rcases argc p1 0 15 with g | g
    · refine q_aload_n hx hb hl dT_rank_0 rfl ?_
      refine q_iload_n hx hb hl dT_rank_1 rfl ?_
      refine tc_E (tc_V C hl (c_str l hst D ct ad N hN σ _ t ht _ rfl) hw.1 hw.2.1 hw.2.2 g_T_53 (re_T C hw) hv_T_strandOf rfl rfl ⟨(Nat.le_of_ble_eq_true rfl), (Nat.le_of_ble_eq_true rfl)⟩ (Nat.le_of_ble_eq_true rfl) ⟨(Nat.le_of_ble_eq_true rfl), (Nat.le_of_ble_eq_true rfl)⟩ dT_rank_2 rfl) C hw (fun E ce q9 w1 H locs hp hw h1 h2 h3 => ?_) (fun v w1 H locs hp hw => ?_)
      · exact hp.elim
      obtain ⟨rfl, rfl⟩ := hp
      dsimp only [Option.toList_some, Option.toList_none, List.cons_append, List.nil_append]
      refine q_astore_n hx hb hl dT_rank_5 (by decide) (fun ls hl => ?_)
      refine q_iload_n hx hb hl dT_rank_6 rfl ?_
      refine lv_iconst (v := 0) hx hb dT_rank_7 (by decide) ?_
      refine lv_bipush (v := 15) hx hb dT_rank_8 (by decide) ?_
      refine tc_E (tc_S C hl (c_carg l hst D ct (wT ct ad N σ) _ p1 0 15 g.1 g.2) hw.1 hw.2.1 hw.2.2 g_T_40 hd_T_checkArgument rfl rfl ⟨(Nat.le_of_ble_eq_true rfl), (Nat.le_of_ble_eq_true rfl)⟩ (Nat.le_of_ble_eq_true rfl) ⟨(Nat.le_of_ble_eq_true rfl), (Nat.le_of_ble_eq_true rfl)⟩ dT_rank_10 rfl) C hw (fun E ce q9 w1 H locs hp hw h1 h2 h3 => ?_) (fun v w1 H locs hp hw => ?_)
      · exact hp.elim
      obtain ⟨rfl, rfl⟩ := hp
      dsimp only [Option.toList_some, Option.toList_none, List.cons_append, List.nil_append]
      refine q_aload_n hx hb hl dT_rank_13 rfl ?_
      refine tg_S C hw 2 l_T_61 (by decide) (by assumption) rfl dT_rank_14 ?_
      refine q_istore hx hb hl dT_rank_17 (by decide) (fun ls hl => ?_)
      refine q_aload_n hx hb hl dT_rank_19 rfl ?_
      refine q_iload_n hx hb hl dT_rank_20 rfl ?_
      refine tp_S C hw 1 l_T_61 (by decide) (by assumption) (fun q => absurd q (by decide)) dT_rank_21 (fun H locs hw => ?_)
      refine q_iload hx hb hl dT_rank_24 rfl ?_
      exact tr_i hQ C hw hr (Nat.le_of_ble_eq_true rfl) (Nat.le_of_ble_eq_true rfl) dT_rank_26 ⟨t, ht, rfl, g, rfl, rfl⟩
    · refine q_aload_n hx hb hl dT_rank_0 rfl ?_
      refine q_iload_n hx hb hl dT_rank_1 rfl ?_
      refine tc_E (tc_V C hl (c_str l hst D ct ad N hN σ _ t ht _ rfl) hw.1 hw.2.1 hw.2.2 g_T_53 (re_T C hw) hv_T_strandOf rfl rfl ⟨(Nat.le_of_ble_eq_true rfl), (Nat.le_of_ble_eq_true rfl)⟩ (Nat.le_of_ble_eq_true rfl) ⟨(Nat.le_of_ble_eq_true rfl), (Nat.le_of_ble_eq_true rfl)⟩ dT_rank_2 rfl) C hw (fun E ce q9 w1 H locs hp hw h1 h2 h3 => ?_) (fun v w1 H locs hp hw => ?_)
      · exact hp.elim
      obtain ⟨rfl, rfl⟩ := hp
      dsimp only [Option.toList_some, Option.toList_none, List.cons_append, List.nil_append]
      refine q_astore_n hx hb hl dT_rank_5 (by decide) (fun ls hl => ?_)
      refine q_iload_n hx hb hl dT_rank_6 rfl ?_
      refine lv_iconst (v := 0) hx hb dT_rank_7 (by decide) ?_
      refine lv_bipush (v := 15) hx hb dT_rank_8 (by decide) ?_
      refine tc_E (tc_S C hl (x_carg l hst D ct (wT ct ad N σ) _ p1 0 15 g) hw.1 hw.2.1 hw.2.2 g_T_40 hd_T_checkArgument rfl rfl ⟨(Nat.le_of_ble_eq_true rfl), (Nat.le_of_ble_eq_true rfl)⟩ (Nat.le_of_ble_eq_true rfl) ⟨(Nat.le_of_ble_eq_true rfl), (Nat.le_of_ble_eq_true rfl)⟩ dT_rank_10 rfl) C hw (fun E ce q9 w1 H locs hp hw h1 h2 h3 => ?_) (fun v w1 H locs hp hw => ?_)
      · obtain ⟨rfl, rfl⟩ := hp
        exact tr_x hQ C hne hw (Nat.le_of_ble_eq_true rfl) (Nat.le_of_ble_eq_true rfl) ⟨Or.inr ⟨⟨t, ht, rfl⟩, g, rfl⟩, rfl⟩ h1 h2 h3
      · exact hp.elim
  · refine q_aload_n hx hb hl dT_rank_0 rfl ?_
    refine q_iload_n hx hb hl dT_rank_1 rfl ?_
    refine tc_E (tc_V C hl (x_str l hst D ct ad N hN σ _ p0 h) hw.1 hw.2.1 hw.2.2 g_T_53 (re_T C hw) hv_T_strandOf rfl rfl ⟨(Nat.le_of_ble_eq_true rfl), (Nat.le_of_ble_eq_true rfl)⟩ (Nat.le_of_ble_eq_true rfl) ⟨(Nat.le_of_ble_eq_true rfl), (Nat.le_of_ble_eq_true rfl)⟩ dT_rank_2 rfl) C hw (fun E ce q9 w1 H locs hp hw h1 h2 h3 => ?_) (fun v w1 H locs hp hw => ?_)
    · obtain ⟨rfl, rfl⟩ := hp
      exact tr_x hQ C hne hw (Nat.le_of_ble_eq_true rfl) (Nat.le_of_ble_eq_true rfl) ⟨Or.inl ⟨h, rfl⟩, rfl⟩ h1 h2 h3
    · exact hp.elim
set_option maxHeartbeats 4000000 in
set_option maxRecDepth 100000 in
theorem c_sleep (l : Launch) (hst : l.stackTraces = false) (D : va_G) (ct : Ct) (ad : Ad) (N : Nat) (hN : N ≤ 16) (σ : St) (sz : Nat) (p0 p1 : Int32) : Kt l yT_sleep cT_sleep 5 (some .int) (r1 8) 1 6 D ct [.ref (ad 0 0), .int p0, .int p1] sz (wT ct ad N σ) (fun v w => ∃ t, t < N ∧ p0 = nI t ∧ (¬ p1 < 0 ∧ p1 ≤ 1000000) ∧ v = some (.int (σ 1 t 2)) ∧ w = wT ct ad N (su σ 1 t 2 p1)) (fun E w => ((p0 < 0 ∨ ¬ p0 < nI N) ∧ E = "java/lang/IndexOutOfBoundsException" ∨ (∃ t, t < N ∧ p0 = nI t) ∧ (p1 < 0 ∨ ¬ p1 ≤ 1000000) ∧ E = "java/lang/IllegalArgumentException") ∧ w = wT ct ad N σ) := by
  refine kt_of hst (by decide) (Nat.le_of_ble_eq_true rfl) (by simp [Value.category]) ?_
  intro p e s m args below meth c A ls C hne hr hw hl Q hQ
  have hx := C.1
  have hb := C.2.1
  rcases ixc p0 N (by omega) with ⟨t, ht, rfl⟩ | h
  · rcases argc p1 0 1000000 with g | g
    · refine q_aload_n hx hb hl dT_sleep_0 rfl ?_
      refine q_iload_n hx hb hl dT_sleep_1 rfl ?_
      refine tc_E (tc_V C hl (c_str l hst D ct ad N hN σ _ t ht _ rfl) hw.1 hw.2.1 hw.2.2 g_T_53 (re_T C hw) hv_T_strandOf rfl rfl ⟨(Nat.le_of_ble_eq_true rfl), (Nat.le_of_ble_eq_true rfl)⟩ (Nat.le_of_ble_eq_true rfl) ⟨(Nat.le_of_ble_eq_true rfl), (Nat.le_of_ble_eq_true rfl)⟩ dT_sleep_2 rfl) C hw (fun E ce q9 w1 H locs hp hw h1 h2 h3 => ?_) (fun v w1 H locs hp hw => ?_)
      · exact hp.elim
      obtain ⟨rfl, rfl⟩ := hp
      dsimp only [Option.toList_some, Option.toList_none, List.cons_append, List.nil_append]
      refine q_astore_n hx hb hl dT_sleep_5 (by decide) (fun ls hl => ?_)
      refine q_iload_n hx hb hl dT_sleep_6 rfl ?_
      refine lv_iconst (v := 0) hx hb dT_sleep_7 (by decide) ?_
      refine lv_ldc hx hb C.2.2.2.1 (C.2.2.2.2.1 _ k_T_64) dT_sleep_8 ?_
      refine tc_E (tc_S C hl (c_carg l hst D ct (wT ct ad N σ) _ p1 0 1000000 g.1 g.2) hw.1 hw.2.1 hw.2.2 g_T_40 hd_T_checkArgument rfl rfl ⟨(Nat.le_of_ble_eq_true rfl), (Nat.le_of_ble_eq_true rfl)⟩ (Nat.le_of_ble_eq_true rfl) ⟨(Nat.le_of_ble_eq_true rfl), (Nat.le_of_ble_eq_true rfl)⟩ dT_sleep_10 rfl) C hw (fun E ce q9 w1 H locs hp hw h1 h2 h3 => ?_) (fun v w1 H locs hp hw => ?_)
      · exact hp.elim
      obtain ⟨rfl, rfl⟩ := hp
      dsimp only [Option.toList_some, Option.toList_none, List.cons_append, List.nil_append]
      refine q_aload_n hx hb hl dT_sleep_13 rfl ?_
      refine tg_S C hw 3 l_T_65 (by decide) (by assumption) rfl dT_sleep_14 ?_
      refine q_istore hx hb hl dT_sleep_17 (by decide) (fun ls hl => ?_)
      refine q_aload_n hx hb hl dT_sleep_19 rfl ?_
      refine q_iload_n hx hb hl dT_sleep_20 rfl ?_
      refine tp_S C hw 2 l_T_65 (by decide) (by assumption) (fun q => absurd q (by decide)) dT_sleep_21 (fun H locs hw => ?_)
      refine q_iload hx hb hl dT_sleep_24 rfl ?_
      exact tr_i hQ C hw hr (Nat.le_of_ble_eq_true rfl) (Nat.le_of_ble_eq_true rfl) dT_sleep_26 ⟨t, ht, rfl, g, rfl, rfl⟩
    · refine q_aload_n hx hb hl dT_sleep_0 rfl ?_
      refine q_iload_n hx hb hl dT_sleep_1 rfl ?_
      refine tc_E (tc_V C hl (c_str l hst D ct ad N hN σ _ t ht _ rfl) hw.1 hw.2.1 hw.2.2 g_T_53 (re_T C hw) hv_T_strandOf rfl rfl ⟨(Nat.le_of_ble_eq_true rfl), (Nat.le_of_ble_eq_true rfl)⟩ (Nat.le_of_ble_eq_true rfl) ⟨(Nat.le_of_ble_eq_true rfl), (Nat.le_of_ble_eq_true rfl)⟩ dT_sleep_2 rfl) C hw (fun E ce q9 w1 H locs hp hw h1 h2 h3 => ?_) (fun v w1 H locs hp hw => ?_)
      · exact hp.elim
      obtain ⟨rfl, rfl⟩ := hp
      dsimp only [Option.toList_some, Option.toList_none, List.cons_append, List.nil_append]
      refine q_astore_n hx hb hl dT_sleep_5 (by decide) (fun ls hl => ?_)
      refine q_iload_n hx hb hl dT_sleep_6 rfl ?_
      refine lv_iconst (v := 0) hx hb dT_sleep_7 (by decide) ?_
      refine lv_ldc hx hb C.2.2.2.1 (C.2.2.2.2.1 _ k_T_64) dT_sleep_8 ?_
      refine tc_E (tc_S C hl (x_carg l hst D ct (wT ct ad N σ) _ p1 0 1000000 g) hw.1 hw.2.1 hw.2.2 g_T_40 hd_T_checkArgument rfl rfl ⟨(Nat.le_of_ble_eq_true rfl), (Nat.le_of_ble_eq_true rfl)⟩ (Nat.le_of_ble_eq_true rfl) ⟨(Nat.le_of_ble_eq_true rfl), (Nat.le_of_ble_eq_true rfl)⟩ dT_sleep_10 rfl) C hw (fun E ce q9 w1 H locs hp hw h1 h2 h3 => ?_) (fun v w1 H locs hp hw => ?_)
      · obtain ⟨rfl, rfl⟩ := hp
        exact tr_x hQ C hne hw (Nat.le_of_ble_eq_true rfl) (Nat.le_of_ble_eq_true rfl) ⟨Or.inr ⟨⟨t, ht, rfl⟩, g, rfl⟩, rfl⟩ h1 h2 h3
      · exact hp.elim
  · refine q_aload_n hx hb hl dT_sleep_0 rfl ?_
    refine q_iload_n hx hb hl dT_sleep_1 rfl ?_
    refine tc_E (tc_V C hl (x_str l hst D ct ad N hN σ _ p0 h) hw.1 hw.2.1 hw.2.2 g_T_53 (re_T C hw) hv_T_strandOf rfl rfl ⟨(Nat.le_of_ble_eq_true rfl), (Nat.le_of_ble_eq_true rfl)⟩ (Nat.le_of_ble_eq_true rfl) ⟨(Nat.le_of_ble_eq_true rfl), (Nat.le_of_ble_eq_true rfl)⟩ dT_sleep_2 rfl) C hw (fun E ce q9 w1 H locs hp hw h1 h2 h3 => ?_) (fun v w1 H locs hp hw => ?_)
    · obtain ⟨rfl, rfl⟩ := hp
      exact tr_x hQ C hne hw (Nat.le_of_ble_eq_true rfl) (Nat.le_of_ble_eq_true rfl) ⟨Or.inl ⟨h, rfl⟩, rfl⟩ h1 h2 h3
    · exact hp.elim
set_option maxHeartbeats 4000000 in
set_option maxRecDepth 100000 in
theorem c_miss (l : Launch) (hst : l.stackTraces = false) (D : va_G) (ct : Ct) (ad : Ad) (N : Nat) (hN : N ≤ 16) (σ : St) (sz : Nat) (p0 : Int32) : Kt l yT_miss cT_miss 3 (some .int) (r1 8) 1 6 D ct [.ref (ad 0 0), .int p0] sz (wT ct ad N σ) (fun v w => ∃ t, t < N ∧ p0 = nI t ∧ v = some (.int (σ 1 t 3 + 1)) ∧ w = wT ct ad N (su σ 1 t 3 (σ 1 t 3 + 1))) (fun E w => (p0 < 0 ∨ ¬ p0 < nI N) ∧ E = "java/lang/IndexOutOfBoundsException" ∧ w = wT ct ad N σ) := by
  refine kt_of hst (by decide) (Nat.le_of_ble_eq_true rfl) (by simp [Value.category]) ?_
  intro p e s m args below meth c A ls C hne hr hw hl Q hQ
  have hx := C.1
  have hb := C.2.1
  rcases ixc p0 N (by omega) with ⟨t, ht, rfl⟩ | h
  · refine q_aload_n hx hb hl dT_miss_0 rfl ?_
    refine q_iload_n hx hb hl dT_miss_1 rfl ?_
    refine tc_E (tc_V C hl (c_str l hst D ct ad N hN σ _ t ht _ rfl) hw.1 hw.2.1 hw.2.2 g_T_53 (re_T C hw) hv_T_strandOf rfl rfl ⟨(Nat.le_of_ble_eq_true rfl), (Nat.le_of_ble_eq_true rfl)⟩ (Nat.le_of_ble_eq_true rfl) ⟨(Nat.le_of_ble_eq_true rfl), (Nat.le_of_ble_eq_true rfl)⟩ dT_miss_2 rfl) C hw (fun E ce q9 w1 H locs hp hw h1 h2 h3 => ?_) (fun v w1 H locs hp hw => ?_)
    · exact hp.elim
    obtain ⟨rfl, rfl⟩ := hp
    dsimp only [Option.toList_some, Option.toList_none, List.cons_append, List.nil_append]
    refine q_astore_n hx hb hl dT_miss_5 (by decide) (fun ls hl => ?_)
    refine q_aload_n hx hb hl dT_miss_6 rfl ?_
    refine lv_dup hx hb dT_miss_7 rfl ?_
    refine tg_S C hw 4 l_T_68 (by decide) (by assumption) rfl dT_miss_8 ?_
    refine lv_iconst (v := 1) hx hb dT_miss_11 (by decide) ?_
    refine lv_iadd hx hb dT_miss_12 ?_
    refine tp_S C hw 3 l_T_68 (by decide) (by assumption) (fun q => absurd q (by decide)) dT_miss_13 (fun H locs hw => ?_)
    refine q_aload_n hx hb hl dT_miss_16 rfl ?_
    refine tg_S C hw 4 l_T_68 (by decide) (by assumption) rfl dT_miss_17 ?_
    exact tr_i hQ C hw hr (Nat.le_of_ble_eq_true rfl) (Nat.le_of_ble_eq_true rfl) dT_miss_20 ⟨t, ht, rfl, by rw [su_eq], rfl⟩
  · refine q_aload_n hx hb hl dT_miss_0 rfl ?_
    refine q_iload_n hx hb hl dT_miss_1 rfl ?_
    refine tc_E (tc_V C hl (x_str l hst D ct ad N hN σ _ p0 h) hw.1 hw.2.1 hw.2.2 g_T_53 (re_T C hw) hv_T_strandOf rfl rfl ⟨(Nat.le_of_ble_eq_true rfl), (Nat.le_of_ble_eq_true rfl)⟩ (Nat.le_of_ble_eq_true rfl) ⟨(Nat.le_of_ble_eq_true rfl), (Nat.le_of_ble_eq_true rfl)⟩ dT_miss_2 rfl) C hw (fun E ce q9 w1 H locs hp hw h1 h2 h3 => ?_) (fun v w1 H locs hp hw => ?_)
    · obtain ⟨rfl, rfl⟩ := hp
      exact tr_x hQ C hne hw (Nat.le_of_ble_eq_true rfl) (Nat.le_of_ble_eq_true rfl) ⟨h, rfl, rfl⟩ h1 h2 h3
    · exact hp.elim
set_option maxHeartbeats 4000000 in
set_option maxRecDepth 100000 in
theorem c_reg (l : Launch) (hst : l.stackTraces = false) (D : va_G) (ct : Ct) (ad : Ad) (N : Nat) (hN : N ≤ 16) (σ : St) (sz : Nat) (p0 p1 : Int32) : Kt l yT_register cT_register 4 (some .int) (r1 8) 1 6 D ct [.ref (ad 0 0), .int p0, .int p1] sz (wT ct ad N σ) (fun v w => ∃ t, t < N ∧ p0 = nI t ∧ (∃ k, k < 16 ∧ p1 = nI k ∧ v = some (.int (σ 2 t k))) ∧ w = wT ct ad N σ) (fun E w => ((p0 < 0 ∨ ¬ p0 < nI N) ∨ (∃ t, t < N ∧ p0 = nI t) ∧ (p1 < 0 ∨ ¬ p1 < nI 16)) ∧ E = "java/lang/IndexOutOfBoundsException" ∧ w = wT ct ad N σ) := by
  refine kt_of hst (by decide) (Nat.le_of_ble_eq_true rfl) (by simp [Value.category]) ?_
  intro p e s m args below meth c A ls C hne hr hw hl Q hQ
  have hx := C.1
  have hb := C.2.1
  rcases ixc p0 N (by omega) with ⟨t, ht, rfl⟩ | h
  · rcases ixc p1 16 (by omega) with ⟨k, hk, rfl⟩ | g
    · refine q_aload_n hx hb hl dT_register_0 rfl ?_
      refine q_iload_n hx hb hl dT_register_1 rfl ?_
      refine tc_E (tc_V C hl (c_str l hst D ct ad N hN σ _ t ht _ rfl) hw.1 hw.2.1 hw.2.2 g_T_53 (re_T C hw) hv_T_strandOf rfl rfl ⟨(Nat.le_of_ble_eq_true rfl), (Nat.le_of_ble_eq_true rfl)⟩ (Nat.le_of_ble_eq_true rfl) ⟨(Nat.le_of_ble_eq_true rfl), (Nat.le_of_ble_eq_true rfl)⟩ dT_register_2 rfl) C hw (fun E ce q9 w1 H locs hp hw h1 h2 h3 => ?_) (fun v w1 H locs hp hw => ?_)
      · exact hp.elim
      obtain ⟨rfl, rfl⟩ := hp
      dsimp only [Option.toList_some, Option.toList_none, List.cons_append, List.nil_append]
      refine q_astore_n hx hb hl dT_register_5 (by decide) (fun ls hl => ?_)
      refine q_iload_n hx hb hl dT_register_6 rfl ?_
      refine lv_bipush (v := 16) hx hb dT_register_7 (by decide) ?_
      refine tc_E (tc_S C hl (c_cidx l hst D ct (wT ct ad N σ) _ (nI k) (nI 16) (nI_pos (by omega)) (nI_lt (by omega) (by omega))) hw.1 hw.2.1 hw.2.2 g_T_79 hd_T_checkIndex rfl rfl ⟨(Nat.le_of_ble_eq_true rfl), (Nat.le_of_ble_eq_true rfl)⟩ (Nat.le_of_ble_eq_true rfl) ⟨(Nat.le_of_ble_eq_true rfl), (Nat.le_of_ble_eq_true rfl)⟩ dT_register_9 rfl) C hw (fun E ce q9 w1 H locs hp hw h1 h2 h3 => ?_) (fun v w1 H locs hp hw => ?_)
      · exact hp.elim
      obtain ⟨rfl, rfl⟩ := hp
      dsimp only [Option.toList_some, Option.toList_none, List.cons_append, List.nil_append]
      refine q_aload_n hx hb hl dT_register_12 rfl ?_
      refine tg_S C hw 0 l_T_117 (by decide) (by assumption) rfl dT_register_13 ?_
      refine q_iload_n hx hb hl dT_register_16 rfl ?_
      refine ta_g2 C hw (by assumption) (by assumption) rfl dT_register_17 ?_
      exact tr_i hQ C hw hr (Nat.le_of_ble_eq_true rfl) (Nat.le_of_ble_eq_true rfl) dT_register_18 ⟨t, ht, rfl, ⟨k, hk, rfl, rfl⟩, rfl⟩
    · refine q_aload_n hx hb hl dT_register_0 rfl ?_
      refine q_iload_n hx hb hl dT_register_1 rfl ?_
      refine tc_E (tc_V C hl (c_str l hst D ct ad N hN σ _ t ht _ rfl) hw.1 hw.2.1 hw.2.2 g_T_53 (re_T C hw) hv_T_strandOf rfl rfl ⟨(Nat.le_of_ble_eq_true rfl), (Nat.le_of_ble_eq_true rfl)⟩ (Nat.le_of_ble_eq_true rfl) ⟨(Nat.le_of_ble_eq_true rfl), (Nat.le_of_ble_eq_true rfl)⟩ dT_register_2 rfl) C hw (fun E ce q9 w1 H locs hp hw h1 h2 h3 => ?_) (fun v w1 H locs hp hw => ?_)
      · exact hp.elim
      obtain ⟨rfl, rfl⟩ := hp
      dsimp only [Option.toList_some, Option.toList_none, List.cons_append, List.nil_append]
      refine q_astore_n hx hb hl dT_register_5 (by decide) (fun ls hl => ?_)
      refine q_iload_n hx hb hl dT_register_6 rfl ?_
      refine lv_bipush (v := 16) hx hb dT_register_7 (by decide) ?_
      refine tc_E (tc_S C hl (x_cidx l hst D ct (wT ct ad N σ) _ p1 (nI 16) g) hw.1 hw.2.1 hw.2.2 g_T_79 hd_T_checkIndex rfl rfl ⟨(Nat.le_of_ble_eq_true rfl), (Nat.le_of_ble_eq_true rfl)⟩ (Nat.le_of_ble_eq_true rfl) ⟨(Nat.le_of_ble_eq_true rfl), (Nat.le_of_ble_eq_true rfl)⟩ dT_register_9 rfl) C hw (fun E ce q9 w1 H locs hp hw h1 h2 h3 => ?_) (fun v w1 H locs hp hw => ?_)
      · obtain ⟨rfl, rfl⟩ := hp
        exact tr_x hQ C hne hw (Nat.le_of_ble_eq_true rfl) (Nat.le_of_ble_eq_true rfl) ⟨Or.inr ⟨⟨t, ht, rfl⟩, g⟩, rfl, rfl⟩ h1 h2 h3
      · exact hp.elim
  · refine q_aload_n hx hb hl dT_register_0 rfl ?_
    refine q_iload_n hx hb hl dT_register_1 rfl ?_
    refine tc_E (tc_V C hl (x_str l hst D ct ad N hN σ _ p0 h) hw.1 hw.2.1 hw.2.2 g_T_53 (re_T C hw) hv_T_strandOf rfl rfl ⟨(Nat.le_of_ble_eq_true rfl), (Nat.le_of_ble_eq_true rfl)⟩ (Nat.le_of_ble_eq_true rfl) ⟨(Nat.le_of_ble_eq_true rfl), (Nat.le_of_ble_eq_true rfl)⟩ dT_register_2 rfl) C hw (fun E ce q9 w1 H locs hp hw h1 h2 h3 => ?_) (fun v w1 H locs hp hw => ?_)
    · obtain ⟨rfl, rfl⟩ := hp
      exact tr_x hQ C hne hw (Nat.le_of_ble_eq_true rfl) (Nat.le_of_ble_eq_true rfl) ⟨Or.inl h, rfl, rfl⟩ h1 h2 h3
    · exact hp.elim
end
section
set_option maxHeartbeats 4000000 in
set_option maxRecDepth 100000 in
theorem c_part (l : Launch) (hst : l.stackTraces = false) (D : va_G) (ct : Ct) (ad : Ad) (N : Nat) (hN : N ≤ 16) (σ : St) (sz : Nat) (p0 p1 p2 : Int32) : Kt l yT_part cT_part 6 (some .int) (r1 8) 1 6 D ct [.ref (ad 0 0), .int p0, .int p1, .int p2] sz (wT ct ad N σ) (fun v w => ∃ q t, q < 8 ∧ p0 = nI q ∧ t < N ∧ p1 = nI t ∧ (¬ p2 < 0 ∧ p2 ≤ 32) ∧ v = some (.int (σ 6 q t)) ∧ w = wT ct ad N (su σ 6 q t p2)) (fun E w => (((p0 < 0 ∨ ¬ p0 < nI 8) ∨ (∃ q, q < 8 ∧ p0 = nI q) ∧ (p1 < 0 ∨ ¬ p1 < nI N)) ∧ E = "java/lang/IndexOutOfBoundsException" ∨ ((∃ q, q < 8 ∧ p0 = nI q) ∧ (∃ t, t < N ∧ p1 = nI t)) ∧ (p2 < 0 ∨ ¬ p2 ≤ 32) ∧ E = "java/lang/IllegalArgumentException") ∧ w = wT ct ad N σ) := by
  refine kt_of hst (by decide) (Nat.le_of_ble_eq_true rfl) (by simp [Value.category]) ?_
  intro p e s m args below meth c A ls C hne hr hw hl Q hQ
  have hx := C.1
  have hb := C.2.1
  rcases ixc p0 8 (by omega) with ⟨q, hq, rfl⟩ | h
  · rcases ixc p1 N (by omega) with ⟨t, ht, rfl⟩ | h
    · rcases argc p2 0 32 with g | g
      · refine q_aload_n hx hb hl dT_part_0 rfl ?_
        refine q_iload_n hx hb hl dT_part_1 rfl ?_
        refine tc_E (tc_V C hl (c_lin l hst D ct ad N hN σ _ q hq _ rfl) hw.1 hw.2.1 hw.2.2 g_T_75 (re_T C hw) hv_T_lineOf rfl rfl ⟨(Nat.le_of_ble_eq_true rfl), (Nat.le_of_ble_eq_true rfl)⟩ (Nat.le_of_ble_eq_true rfl) ⟨(Nat.le_of_ble_eq_true rfl), (Nat.le_of_ble_eq_true rfl)⟩ dT_part_2 rfl) C hw (fun E ce q9 w1 H locs hp hw h1 h2 h3 => ?_) (fun v w1 H locs hp hw => ?_)
        · exact hp.elim
        obtain ⟨rfl, rfl⟩ := hp
        dsimp only [Option.toList_some, Option.toList_none, List.cons_append, List.nil_append]
        refine q_astore hx hb hl dT_part_5 (by decide) (fun ls hl => ?_)
        refine q_iload_n hx hb hl dT_part_7 rfl ?_
        refine q_aload_n hx hb hl dT_part_8 rfl ?_
        refine tg_T C hw 0 l_T_24 (by decide) rfl dT_part_9 ?_
        refine ta_lenS C hw dT_part_12 ?_
        refine tc_E (tc_S C hl (c_cidx l hst D ct (wT ct ad N σ) _ (nI t) (nI N) (nI_pos (by omega)) (nI_lt (by omega) (by omega))) hw.1 hw.2.1 hw.2.2 g_T_79 hd_T_checkIndex rfl rfl ⟨(Nat.le_of_ble_eq_true rfl), (Nat.le_of_ble_eq_true rfl)⟩ (Nat.le_of_ble_eq_true rfl) ⟨(Nat.le_of_ble_eq_true rfl), (Nat.le_of_ble_eq_true rfl)⟩ dT_part_13 rfl) C hw (fun E ce q9 w1 H locs hp hw h1 h2 h3 => ?_) (fun v w1 H locs hp hw => ?_)
        · exact hp.elim
        obtain ⟨rfl, rfl⟩ := hp
        dsimp only [Option.toList_some, Option.toList_none, List.cons_append, List.nil_append]
        refine q_iload_n hx hb hl dT_part_16 rfl ?_
        refine lv_iconst (v := 0) hx hb dT_part_17 (by decide) ?_
        refine lv_bipush (v := 32) hx hb dT_part_18 (by decide) ?_
        refine tc_E (tc_S C hl (c_carg l hst D ct (wT ct ad N σ) _ p2 0 32 g.1 g.2) hw.1 hw.2.1 hw.2.2 g_T_40 hd_T_checkArgument rfl rfl ⟨(Nat.le_of_ble_eq_true rfl), (Nat.le_of_ble_eq_true rfl)⟩ (Nat.le_of_ble_eq_true rfl) ⟨(Nat.le_of_ble_eq_true rfl), (Nat.le_of_ble_eq_true rfl)⟩ dT_part_20 rfl) C hw (fun E ce q9 w1 H locs hp hw h1 h2 h3 => ?_) (fun v w1 H locs hp hw => ?_)
        · exact hp.elim
        obtain ⟨rfl, rfl⟩ := hp
        dsimp only [Option.toList_some, Option.toList_none, List.cons_append, List.nil_append]
        have ht16 : t < 16 := by omega
        refine q_aload hx hb hl dT_part_23 rfl ?_
        refine tg_LN C hw 2 l_T_83 (by decide) (by assumption) rfl dT_part_25 ?_
        refine q_iload_n hx hb hl dT_part_28 rfl ?_
        refine ta_g6 C hw (by assumption) (by assumption) rfl dT_part_29 ?_
        refine q_istore hx hb hl dT_part_30 (by decide) (fun ls hl => ?_)
        refine q_aload hx hb hl dT_part_32 rfl ?_
        refine tg_LN C hw 2 l_T_83 (by decide) (by assumption) rfl dT_part_34 ?_
        refine q_iload_n hx hb hl dT_part_37 rfl ?_
        refine q_iload_n hx hb hl dT_part_38 rfl ?_
        refine ta_p6 C hw (by assumption) (by assumption) rfl dT_part_39 (fun H locs hw => ?_)
        refine q_iload hx hb hl dT_part_40 rfl ?_
        exact tr_i hQ C hw hr (Nat.le_of_ble_eq_true rfl) (Nat.le_of_ble_eq_true rfl) dT_part_42 ⟨q, t, hq, rfl, ht, rfl, g, rfl, rfl⟩
      · refine q_aload_n hx hb hl dT_part_0 rfl ?_
        refine q_iload_n hx hb hl dT_part_1 rfl ?_
        refine tc_E (tc_V C hl (c_lin l hst D ct ad N hN σ _ q hq _ rfl) hw.1 hw.2.1 hw.2.2 g_T_75 (re_T C hw) hv_T_lineOf rfl rfl ⟨(Nat.le_of_ble_eq_true rfl), (Nat.le_of_ble_eq_true rfl)⟩ (Nat.le_of_ble_eq_true rfl) ⟨(Nat.le_of_ble_eq_true rfl), (Nat.le_of_ble_eq_true rfl)⟩ dT_part_2 rfl) C hw (fun E ce q9 w1 H locs hp hw h1 h2 h3 => ?_) (fun v w1 H locs hp hw => ?_)
        · exact hp.elim
        obtain ⟨rfl, rfl⟩ := hp
        dsimp only [Option.toList_some, Option.toList_none, List.cons_append, List.nil_append]
        refine q_astore hx hb hl dT_part_5 (by decide) (fun ls hl => ?_)
        refine q_iload_n hx hb hl dT_part_7 rfl ?_
        refine q_aload_n hx hb hl dT_part_8 rfl ?_
        refine tg_T C hw 0 l_T_24 (by decide) rfl dT_part_9 ?_
        refine ta_lenS C hw dT_part_12 ?_
        refine tc_E (tc_S C hl (c_cidx l hst D ct (wT ct ad N σ) _ (nI t) (nI N) (nI_pos (by omega)) (nI_lt (by omega) (by omega))) hw.1 hw.2.1 hw.2.2 g_T_79 hd_T_checkIndex rfl rfl ⟨(Nat.le_of_ble_eq_true rfl), (Nat.le_of_ble_eq_true rfl)⟩ (Nat.le_of_ble_eq_true rfl) ⟨(Nat.le_of_ble_eq_true rfl), (Nat.le_of_ble_eq_true rfl)⟩ dT_part_13 rfl) C hw (fun E ce q9 w1 H locs hp hw h1 h2 h3 => ?_) (fun v w1 H locs hp hw => ?_)
        · exact hp.elim
        obtain ⟨rfl, rfl⟩ := hp
        dsimp only [Option.toList_some, Option.toList_none, List.cons_append, List.nil_append]
        refine q_iload_n hx hb hl dT_part_16 rfl ?_
        refine lv_iconst (v := 0) hx hb dT_part_17 (by decide) ?_
        refine lv_bipush (v := 32) hx hb dT_part_18 (by decide) ?_
        refine tc_E (tc_S C hl (x_carg l hst D ct (wT ct ad N σ) _ p2 0 32 g) hw.1 hw.2.1 hw.2.2 g_T_40 hd_T_checkArgument rfl rfl ⟨(Nat.le_of_ble_eq_true rfl), (Nat.le_of_ble_eq_true rfl)⟩ (Nat.le_of_ble_eq_true rfl) ⟨(Nat.le_of_ble_eq_true rfl), (Nat.le_of_ble_eq_true rfl)⟩ dT_part_20 rfl) C hw (fun E ce q9 w1 H locs hp hw h1 h2 h3 => ?_) (fun v w1 H locs hp hw => ?_)
        · obtain ⟨rfl, rfl⟩ := hp
          exact tr_x hQ C hne hw (Nat.le_of_ble_eq_true rfl) (Nat.le_of_ble_eq_true rfl) ⟨Or.inr ⟨⟨⟨q, hq, rfl⟩, ⟨t, ht, rfl⟩⟩, g, rfl⟩, rfl⟩ h1 h2 h3
        · exact hp.elim
    · refine q_aload_n hx hb hl dT_part_0 rfl ?_
      refine q_iload_n hx hb hl dT_part_1 rfl ?_
      refine tc_E (tc_V C hl (c_lin l hst D ct ad N hN σ _ q hq _ rfl) hw.1 hw.2.1 hw.2.2 g_T_75 (re_T C hw) hv_T_lineOf rfl rfl ⟨(Nat.le_of_ble_eq_true rfl), (Nat.le_of_ble_eq_true rfl)⟩ (Nat.le_of_ble_eq_true rfl) ⟨(Nat.le_of_ble_eq_true rfl), (Nat.le_of_ble_eq_true rfl)⟩ dT_part_2 rfl) C hw (fun E ce q9 w1 H locs hp hw h1 h2 h3 => ?_) (fun v w1 H locs hp hw => ?_)
      · exact hp.elim
      obtain ⟨rfl, rfl⟩ := hp
      dsimp only [Option.toList_some, Option.toList_none, List.cons_append, List.nil_append]
      refine q_astore hx hb hl dT_part_5 (by decide) (fun ls hl => ?_)
      refine q_iload_n hx hb hl dT_part_7 rfl ?_
      refine q_aload_n hx hb hl dT_part_8 rfl ?_
      refine tg_T C hw 0 l_T_24 (by decide) rfl dT_part_9 ?_
      refine ta_lenS C hw dT_part_12 ?_
      refine tc_E (tc_S C hl (x_cidx l hst D ct (wT ct ad N σ) _ p1 (nI N) h) hw.1 hw.2.1 hw.2.2 g_T_79 hd_T_checkIndex rfl rfl ⟨(Nat.le_of_ble_eq_true rfl), (Nat.le_of_ble_eq_true rfl)⟩ (Nat.le_of_ble_eq_true rfl) ⟨(Nat.le_of_ble_eq_true rfl), (Nat.le_of_ble_eq_true rfl)⟩ dT_part_13 rfl) C hw (fun E ce q9 w1 H locs hp hw h1 h2 h3 => ?_) (fun v w1 H locs hp hw => ?_)
      · obtain ⟨rfl, rfl⟩ := hp
        exact tr_x hQ C hne hw (Nat.le_of_ble_eq_true rfl) (Nat.le_of_ble_eq_true rfl) ⟨Or.inl ⟨Or.inr ⟨⟨q, hq, rfl⟩, h⟩, rfl⟩, rfl⟩ h1 h2 h3
      · exact hp.elim
  · refine q_aload_n hx hb hl dT_part_0 rfl ?_
    refine q_iload_n hx hb hl dT_part_1 rfl ?_
    refine tc_E (tc_V C hl (x_lin l hst D ct ad N hN σ _ p0 h) hw.1 hw.2.1 hw.2.2 g_T_75 (re_T C hw) hv_T_lineOf rfl rfl ⟨(Nat.le_of_ble_eq_true rfl), (Nat.le_of_ble_eq_true rfl)⟩ (Nat.le_of_ble_eq_true rfl) ⟨(Nat.le_of_ble_eq_true rfl), (Nat.le_of_ble_eq_true rfl)⟩ dT_part_2 rfl) C hw (fun E ce q9 w1 H locs hp hw h1 h2 h3 => ?_) (fun v w1 H locs hp hw => ?_)
    · obtain ⟨rfl, rfl⟩ := hp
      exact tr_x hQ C hne hw (Nat.le_of_ble_eq_true rfl) (Nat.le_of_ble_eq_true rfl) ⟨Or.inl ⟨Or.inl h, rfl⟩, rfl⟩ h1 h2 h3
    · exact hp.elim
set_option maxHeartbeats 4000000 in
set_option maxRecDepth 100000 in
theorem c_put (l : Launch) (hst : l.stackTraces = false) (D : va_G) (ct : Ct) (ad : Ad) (N : Nat) (hN : N ≤ 16) (σ : St) (sz : Nat) (hsz : ∀ q, q < 8 → ∃ K, K ≤ 32 ∧ σ 3 q 0 = nI K) (p0 p1 p2 : Int32) : Kt l yT_put cT_put 6 (some .int) (r1 8) 1 6 D ct [.ref (ad 0 0), .int p0, .int p1, .int p2] sz (wT ct ad N σ) (fun v w => ∃ q t K, q < 8 ∧ p0 = nI q ∧ t < N ∧ p1 = nI t ∧ K ≤ 32 ∧ σ 3 q 0 = nI K ∧ v = some (.int (tf_putA σ q t K)) ∧ w = wT ct ad N (tf_putS σ q t K p2)) (fun E w => ((p0 < 0 ∨ ¬ p0 < nI 8) ∨ (∃ q, q < 8 ∧ p0 = nI q) ∧ (p1 < 0 ∨ ¬ p1 < nI N)) ∧ E = "java/lang/IndexOutOfBoundsException" ∧ w = wT ct ad N σ) := by
  refine kt_of hst (by decide) (Nat.le_of_ble_eq_true rfl) (by simp [Value.category]) ?_
  intro p e s m args below meth c A ls C hne hr hw hl Q hQ
  have hx := C.1
  have hb := C.2.1
  rcases ixc p0 8 (by omega) with ⟨q, hq, rfl⟩ | h
  · rcases ixc p1 N (by omega) with ⟨t, ht, rfl⟩ | h
    · refine q_aload_n hx hb hl dT_put_0 rfl ?_
      refine q_iload_n hx hb hl dT_put_1 rfl ?_
      refine tc_E (tc_V C hl (c_lin l hst D ct ad N hN σ _ q hq _ rfl) hw.1 hw.2.1 hw.2.2 g_T_75 (re_T C hw) hv_T_lineOf rfl rfl ⟨(Nat.le_of_ble_eq_true rfl), (Nat.le_of_ble_eq_true rfl)⟩ (Nat.le_of_ble_eq_true rfl) ⟨(Nat.le_of_ble_eq_true rfl), (Nat.le_of_ble_eq_true rfl)⟩ dT_put_2 rfl) C hw (fun E ce q9 w1 H locs hp hw h1 h2 h3 => ?_) (fun v w1 H locs hp hw => ?_)
      · exact hp.elim
      obtain ⟨rfl, rfl⟩ := hp
      dsimp only [Option.toList_some, Option.toList_none, List.cons_append, List.nil_append]
      refine q_astore hx hb hl dT_put_5 (by decide) (fun ls hl => ?_)
      refine q_iload_n hx hb hl dT_put_7 rfl ?_
      refine q_aload_n hx hb hl dT_put_8 rfl ?_
      refine tg_T C hw 0 l_T_24 (by decide) rfl dT_put_9 ?_
      refine ta_lenS C hw dT_put_12 ?_
      refine tc_E (tc_S C hl (c_cidx l hst D ct (wT ct ad N σ) _ (nI t) (nI N) (nI_pos (by omega)) (nI_lt (by omega) (by omega))) hw.1 hw.2.1 hw.2.2 g_T_79 hd_T_checkIndex rfl rfl ⟨(Nat.le_of_ble_eq_true rfl), (Nat.le_of_ble_eq_true rfl)⟩ (Nat.le_of_ble_eq_true rfl) ⟨(Nat.le_of_ble_eq_true rfl), (Nat.le_of_ble_eq_true rfl)⟩ dT_put_13 rfl) C hw (fun E ce q9 w1 H locs hp hw h1 h2 h3 => ?_) (fun v w1 H locs hp hw => ?_)
      · exact hp.elim
      obtain ⟨rfl, rfl⟩ := hp
      dsimp only [Option.toList_some, Option.toList_none, List.cons_append, List.nil_append]
      obtain ⟨K, hK, hs⟩ := hsz q hq
      have ht16 : t < 16 := by omega
      refine q_aload hx hb hl dT_put_16 rfl ?_
      refine q_iload_n hx hb hl dT_put_18 rfl ?_
      refine tc_E (tc_N C hl (c_ent l hst D ct ad N hN σ _ q hq K hK hs (nI t)) hw.1 hw.2.1 hw.2.2 g_T_87 gn_T_87 gw_T_87 (re_L C hw hq) hd_L_entriesOf rfl rfl ⟨(Nat.le_of_ble_eq_true rfl), (Nat.le_of_ble_eq_true rfl)⟩ (Nat.le_of_ble_eq_true rfl) ⟨(Nat.le_of_ble_eq_true rfl), (Nat.le_of_ble_eq_true rfl)⟩ dT_put_19 rfl) C hw (fun E ce q9 w1 H locs hp hw h1 h2 h3 => ?_) (fun v w1 H locs hp hw => ?_)
      · exact hp.elim
      obtain ⟨rfl, rfl⟩ := hp
      dsimp only [Option.toList_some, Option.toList_none, List.cons_append, List.nil_append]
      refine q_istore hx hb hl dT_put_22 (by decide) (fun ls hl => ?_)
      refine q_iload hx hb hl dT_put_24 rfl ?_
      refine q_aload hx hb hl dT_put_26 rfl ?_
      refine tg_LN C hw 2 l_T_83 (by decide) (by assumption) rfl dT_put_28 ?_
      refine q_iload_n hx hb hl dT_put_31 rfl ?_
      refine ta_g6 C hw (by assumption) (by assumption) rfl dT_put_32 ?_
      refine lv_icmp_ge (tgt := 46) hx hb dT_put_33 (by decide) (fun c_33 => ?_) (fun c_33 => ?_)
      · refine lv_iconst (v := -1) hx hb dT_put_46 (by decide) ?_
        exact tr_i hQ C hw hr (Nat.le_of_ble_eq_true rfl) (Nat.le_of_ble_eq_true rfl) dT_put_47 ⟨q, t, K, hq, rfl, ht, rfl, hK, hs, by simp only [tf_putA, if_pos c_33], by simp only [tf_putS, if_pos c_33]⟩
      refine q_aload hx hb hl dT_put_36 rfl ?_
      refine tg_LN C hw 3 l_T_91 (by decide) (by assumption) rfl dT_put_38 ?_
      refine lv_bipush (v := 32) hx hb dT_put_41 (by decide) ?_
      refine lv_icmp_lt (tgt := 48) hx hb dT_put_43 (by decide) (fun c_43 => ?_) (fun c_43 => ?_)
      · have hK2 : K < 32 := by rw [hs] at c_43; exact (nI_ltI (a := K) (b := 32) (by omega) (by omega)).mp c_43
        refine q_aload hx hb hl dT_put_48 rfl ?_
        refine q_iload_n hx hb hl dT_put_50 rfl ?_
        refine q_iload_n hx hb hl dT_put_51 rfl ?_
        refine tc_E (tc_N C hl (c_app l hst D ct ad N hN σ _ q hq K hK hs hK2 (nI t) p2) hw.1 hw.2.1 hw.2.2 g_T_94 gn_T_94 gw_T_94 (re_L C hw hq) hd_L_append rfl rfl ⟨(Nat.le_of_ble_eq_true rfl), (Nat.le_of_ble_eq_true rfl)⟩ (Nat.le_of_ble_eq_true rfl) ⟨(Nat.le_of_ble_eq_true rfl), (Nat.le_of_ble_eq_true rfl)⟩ dT_put_52 rfl) C hw (fun E ce q9 w1 H locs hp hw h1 h2 h3 => ?_) (fun v w1 H locs hp hw => ?_)
        · exact hp.elim
        obtain ⟨rfl, rfl⟩ := hp
        dsimp only [Option.toList_some, Option.toList_none, List.cons_append, List.nil_append]
        refine q_iload hx hb hl dT_put_55 rfl ?_
        refine lv_iconst (v := 1) hx hb dT_put_57 (by decide) ?_
        refine lv_iadd hx hb dT_put_58 ?_
        exact tr_i hQ C hw hr (Nat.le_of_ble_eq_true rfl) (Nat.le_of_ble_eq_true rfl) dT_put_59 ⟨q, t, K, hq, rfl, ht, rfl, hK, hs, by simp only [tf_putA, if_neg c_33, if_pos c_43], by simp only [tf_putS, if_neg c_33, if_pos c_43]⟩
      refine lv_iconst (v := -1) hx hb dT_put_46 (by decide) ?_
      exact tr_i hQ C hw hr (Nat.le_of_ble_eq_true rfl) (Nat.le_of_ble_eq_true rfl) dT_put_47 ⟨q, t, K, hq, rfl, ht, rfl, hK, hs, by simp only [tf_putA, if_neg c_33, if_neg c_43], by simp only [tf_putS, if_neg c_33, if_neg c_43]⟩
    · refine q_aload_n hx hb hl dT_put_0 rfl ?_
      refine q_iload_n hx hb hl dT_put_1 rfl ?_
      refine tc_E (tc_V C hl (c_lin l hst D ct ad N hN σ _ q hq _ rfl) hw.1 hw.2.1 hw.2.2 g_T_75 (re_T C hw) hv_T_lineOf rfl rfl ⟨(Nat.le_of_ble_eq_true rfl), (Nat.le_of_ble_eq_true rfl)⟩ (Nat.le_of_ble_eq_true rfl) ⟨(Nat.le_of_ble_eq_true rfl), (Nat.le_of_ble_eq_true rfl)⟩ dT_put_2 rfl) C hw (fun E ce q9 w1 H locs hp hw h1 h2 h3 => ?_) (fun v w1 H locs hp hw => ?_)
      · exact hp.elim
      obtain ⟨rfl, rfl⟩ := hp
      dsimp only [Option.toList_some, Option.toList_none, List.cons_append, List.nil_append]
      refine q_astore hx hb hl dT_put_5 (by decide) (fun ls hl => ?_)
      refine q_iload_n hx hb hl dT_put_7 rfl ?_
      refine q_aload_n hx hb hl dT_put_8 rfl ?_
      refine tg_T C hw 0 l_T_24 (by decide) rfl dT_put_9 ?_
      refine ta_lenS C hw dT_put_12 ?_
      refine tc_E (tc_S C hl (x_cidx l hst D ct (wT ct ad N σ) _ p1 (nI N) h) hw.1 hw.2.1 hw.2.2 g_T_79 hd_T_checkIndex rfl rfl ⟨(Nat.le_of_ble_eq_true rfl), (Nat.le_of_ble_eq_true rfl)⟩ (Nat.le_of_ble_eq_true rfl) ⟨(Nat.le_of_ble_eq_true rfl), (Nat.le_of_ble_eq_true rfl)⟩ dT_put_13 rfl) C hw (fun E ce q9 w1 H locs hp hw h1 h2 h3 => ?_) (fun v w1 H locs hp hw => ?_)
      · obtain ⟨rfl, rfl⟩ := hp
        exact tr_x hQ C hne hw (Nat.le_of_ble_eq_true rfl) (Nat.le_of_ble_eq_true rfl) ⟨Or.inr ⟨⟨q, hq, rfl⟩, h⟩, rfl, rfl⟩ h1 h2 h3
      · exact hp.elim
  · refine q_aload_n hx hb hl dT_put_0 rfl ?_
    refine q_iload_n hx hb hl dT_put_1 rfl ?_
    refine tc_E (tc_V C hl (x_lin l hst D ct ad N hN σ _ p0 h) hw.1 hw.2.1 hw.2.2 g_T_75 (re_T C hw) hv_T_lineOf rfl rfl ⟨(Nat.le_of_ble_eq_true rfl), (Nat.le_of_ble_eq_true rfl)⟩ (Nat.le_of_ble_eq_true rfl) ⟨(Nat.le_of_ble_eq_true rfl), (Nat.le_of_ble_eq_true rfl)⟩ dT_put_2 rfl) C hw (fun E ce q9 w1 H locs hp hw h1 h2 h3 => ?_) (fun v w1 H locs hp hw => ?_)
    · obtain ⟨rfl, rfl⟩ := hp
      exact tr_x hQ C hne hw (Nat.le_of_ble_eq_true rfl) (Nat.le_of_ble_eq_true rfl) ⟨Or.inl h, rfl, rfl⟩ h1 h2 h3
    · exact hp.elim
set_option maxHeartbeats 4000000 in
set_option maxRecDepth 100000 in
theorem c_take (l : Launch) (hst : l.stackTraces = false) (D : va_G) (ct : Ct) (ad : Ad) (N : Nat) (hN : N ≤ 16) (σ : St) (sz : Nat) (hsz : ∀ q, q < 8 → ∃ K, K ≤ 32 ∧ σ 3 q 0 = nI K) (p0 p1 : Int32) : Kt l yT_take cT_take 6 (some .int) (r1 8) 1 6 D ct [.ref (ad 0 0), .int p0, .int p1] sz (wT ct ad N σ) (fun v w => ∃ q K j, q < 8 ∧ p0 = nI q ∧ K ≤ 32 ∧ σ 3 q 0 = nI K ∧ j < K ∧ tf_fst σ q p1 K 0 = nI j ∧ (p1 = -1 ∨ (∃ t, t < N ∧ p1 = nI t)) ∧ v = some (.int (σ 5 q j)) ∧ w = wT ct ad N (su (tf_cl q (K - 1 - j) j σ) 3 q 0 (nI (K - 1)))) (fun E w => (((p0 < 0 ∨ ¬ p0 < nI 8) ∨ (∃ q, q < 8 ∧ p0 = nI q) ∧ (p1 < 0 ∨ ¬ p1 < nI N) ∧ ¬ p1 = -1) ∧ E = "java/lang/IndexOutOfBoundsException" ∨ (∃ q K, q < 8 ∧ p0 = nI q ∧ K ≤ 32 ∧ σ 3 q 0 = nI K ∧ (p1 = -1 ∨ (∃ t, t < N ∧ p1 = nI t)) ∧ (tf_fst σ q p1 K 0 < 0 ∨ ¬ tf_fst σ q p1 K 0 < σ 3 q 0)) ∧ E = "java/lang/IllegalStateException") ∧ w = wT ct ad N σ) := by
  refine kt_of hst (by decide) (Nat.le_of_ble_eq_true rfl) (by simp [Value.category]) ?_
  intro p e s m args below meth c A ls C hne hr hw hl Q hQ
  have hx := C.1
  have hb := C.2.1
  rcases ixc p0 8 (by omega) with ⟨q, hq, rfl⟩ | h
  · obtain ⟨K, hK, hs⟩ := hsz q hq
    rcases takec p1 N (by omega) with rfl | ⟨t, ht, rfl⟩ | ⟨h, h9⟩
    · refine q_aload_n hx hb hl dT_take_0 rfl ?_
      refine q_iload_n hx hb hl dT_take_1 rfl ?_
      refine tc_E (tc_V C hl (c_lin l hst D ct ad N hN σ _ q hq _ rfl) hw.1 hw.2.1 hw.2.2 g_T_75 (re_T C hw) hv_T_lineOf rfl rfl ⟨(Nat.le_of_ble_eq_true rfl), (Nat.le_of_ble_eq_true rfl)⟩ (Nat.le_of_ble_eq_true rfl) ⟨(Nat.le_of_ble_eq_true rfl), (Nat.le_of_ble_eq_true rfl)⟩ dT_take_2 rfl) C hw (fun E ce q9 w1 H locs hp hw h1 h2 h3 => ?_) (fun v w1 H locs hp hw => ?_)
      · exact hp.elim
      obtain ⟨rfl, rfl⟩ := hp
      dsimp only [Option.toList_some, Option.toList_none, List.cons_append, List.nil_append]
      refine q_astore_n hx hb hl dT_take_5 (by decide) (fun ls hl => ?_)
      refine q_iload_n hx hb hl dT_take_6 rfl ?_
      refine lv_iconst (v := -1) hx hb dT_take_7 (by decide) ?_
      refine lv_icmp_eq (tgt := 20) hx hb dT_take_8 (by decide) (fun c_8 => ?_) (fun q9 => absurd rfl q9)
      refine q_aload_n hx hb hl dT_take_20 rfl ?_
      refine q_iload_n hx hb hl dT_take_21 rfl ?_
      refine tc_E (tc_N C hl (c_fst l hst D ct ad N hN σ _ q hq K hK hs (-1)) hw.1 hw.2.1 hw.2.2 g_T_97 gn_T_97 gw_T_97 (re_L C hw hq) hd_L_firstOf rfl rfl ⟨(Nat.le_of_ble_eq_true rfl), (Nat.le_of_ble_eq_true rfl)⟩ (Nat.le_of_ble_eq_true rfl) ⟨(Nat.le_of_ble_eq_true rfl), (Nat.le_of_ble_eq_true rfl)⟩ dT_take_22 rfl) C hw (fun E ce q9 w1 H locs hp hw h1 h2 h3 => ?_) (fun v w1 H locs hp hw => ?_)
      · exact hp.elim
      obtain ⟨rfl, rfl⟩ := hp
      dsimp only [Option.toList_some, Option.toList_none, List.cons_append, List.nil_append]
      refine q_istore hx hb hl dT_take_25 (by decide) (fun ls hl => ?_)
      refine q_iload hx hb hl dT_take_27 rfl ?_
      refine lv_if_lt (tgt := 41) hx hb dT_take_29 (by decide) (fun c_29 => ?_) (fun c_29 => ?_)
      · exact tt_S (cls := "java/lang/IllegalStateException") hQ C hne hw hl x_T_entry ⟨dT_take_41, dT_take_44, dT_take_45, dT_take_47, dT_take_50⟩ ⟨(Nat.le_of_ble_eq_true rfl), (Nat.le_of_ble_eq_true rfl), (Nat.le_of_ble_eq_true rfl), (Nat.le_of_ble_eq_true rfl), (Nat.le_of_ble_eq_true rfl), (Nat.le_of_ble_eq_true rfl)⟩ ⟨Or.inr ⟨⟨q, K, hq, rfl, hK, hs, Or.inl rfl, by first | exact Or.inl c_29 | exact Or.inr c_38⟩, rfl⟩, rfl⟩
      refine q_iload hx hb hl dT_take_32 rfl ?_
      refine q_aload_n hx hb hl dT_take_34 rfl ?_
      refine tg_LN C hw 3 l_T_91 (by decide) (by assumption) rfl dT_take_35 ?_
      refine lv_icmp_lt (tgt := 51) hx hb dT_take_38 (by decide) (fun c_38 => ?_) (fun c_38 => ?_)
      · obtain ⟨j, hj, hje⟩ := ix_of c_29 (by rw [hs] at c_38; exact c_38) (by omega)
        refine q_aload_n hx hb hl dT_take_51 rfl ?_
        refine tg_LN C hw 1 l_T_107 (by decide) (by assumption) rfl dT_take_52 ?_
        refine q_iload hx hb hl dT_take_55 rfl ?_
        refine ta_g5 C hw (by assumption) (k := j) (by omega) hje dT_take_57 ?_
        refine q_istore hx hb hl dT_take_58 (by decide) (fun ls hl => ?_)
        refine q_aload_n hx hb hl dT_take_60 rfl ?_
        refine q_iload hx hb hl dT_take_61 rfl ?_
        refine tc_E (tc_N C hl (c_cls l hst D ct ad N hN σ _ q hq K hK hs j hj _ hje) hw.1 hw.2.1 hw.2.2 g_T_110 gn_T_110 gw_T_110 (re_L C hw hq) hd_L_close rfl rfl ⟨(Nat.le_of_ble_eq_true rfl), (Nat.le_of_ble_eq_true rfl)⟩ (Nat.le_of_ble_eq_true rfl) ⟨(Nat.le_of_ble_eq_true rfl), (Nat.le_of_ble_eq_true rfl)⟩ dT_take_63 rfl) C hw (fun E ce q9 w1 H locs hp hw h1 h2 h3 => ?_) (fun v w1 H locs hp hw => ?_)
        · exact hp.elim
        obtain ⟨rfl, rfl⟩ := hp
        dsimp only [Option.toList_some, Option.toList_none, List.cons_append, List.nil_append]
        refine q_iload hx hb hl dT_take_66 rfl ?_
        exact tr_i hQ C hw hr (Nat.le_of_ble_eq_true rfl) (Nat.le_of_ble_eq_true rfl) dT_take_68 ⟨q, K, j, hq, rfl, hK, hs, hj, hje, by first | exact Or.inl rfl | exact Or.inr ⟨t, ht, rfl⟩, rfl, rfl⟩
      exact tt_S (cls := "java/lang/IllegalStateException") hQ C hne hw hl x_T_entry ⟨dT_take_41, dT_take_44, dT_take_45, dT_take_47, dT_take_50⟩ ⟨(Nat.le_of_ble_eq_true rfl), (Nat.le_of_ble_eq_true rfl), (Nat.le_of_ble_eq_true rfl), (Nat.le_of_ble_eq_true rfl), (Nat.le_of_ble_eq_true rfl), (Nat.le_of_ble_eq_true rfl)⟩ ⟨Or.inr ⟨⟨q, K, hq, rfl, hK, hs, Or.inl rfl, by first | exact Or.inl c_29 | exact Or.inr c_38⟩, rfl⟩, rfl⟩
    · refine q_aload_n hx hb hl dT_take_0 rfl ?_
      refine q_iload_n hx hb hl dT_take_1 rfl ?_
      refine tc_E (tc_V C hl (c_lin l hst D ct ad N hN σ _ q hq _ rfl) hw.1 hw.2.1 hw.2.2 g_T_75 (re_T C hw) hv_T_lineOf rfl rfl ⟨(Nat.le_of_ble_eq_true rfl), (Nat.le_of_ble_eq_true rfl)⟩ (Nat.le_of_ble_eq_true rfl) ⟨(Nat.le_of_ble_eq_true rfl), (Nat.le_of_ble_eq_true rfl)⟩ dT_take_2 rfl) C hw (fun E ce q9 w1 H locs hp hw h1 h2 h3 => ?_) (fun v w1 H locs hp hw => ?_)
      · exact hp.elim
      obtain ⟨rfl, rfl⟩ := hp
      dsimp only [Option.toList_some, Option.toList_none, List.cons_append, List.nil_append]
      refine q_astore_n hx hb hl dT_take_5 (by decide) (fun ls hl => ?_)
      refine q_iload_n hx hb hl dT_take_6 rfl ?_
      refine lv_iconst (v := -1) hx hb dT_take_7 (by decide) ?_
      refine lv_icmp_eq (tgt := 20) hx hb dT_take_8 (by decide) (fun q9 => absurd q9 (nI_m1 (by omega))) (fun c_8 => ?_)
      refine q_iload_n hx hb hl dT_take_11 rfl ?_
      refine q_aload_n hx hb hl dT_take_12 rfl ?_
      refine tg_T C hw 0 l_T_24 (by decide) rfl dT_take_13 ?_
      refine ta_lenS C hw dT_take_16 ?_
      refine tc_E (tc_S C hl (c_cidx l hst D ct (wT ct ad N σ) _ (nI t) (nI N) (nI_pos (by omega)) (nI_lt (by omega) (by omega))) hw.1 hw.2.1 hw.2.2 g_T_79 hd_T_checkIndex rfl rfl ⟨(Nat.le_of_ble_eq_true rfl), (Nat.le_of_ble_eq_true rfl)⟩ (Nat.le_of_ble_eq_true rfl) ⟨(Nat.le_of_ble_eq_true rfl), (Nat.le_of_ble_eq_true rfl)⟩ dT_take_17 rfl) C hw (fun E ce q9 w1 H locs hp hw h1 h2 h3 => ?_) (fun v w1 H locs hp hw => ?_)
      · exact hp.elim
      obtain ⟨rfl, rfl⟩ := hp
      dsimp only [Option.toList_some, Option.toList_none, List.cons_append, List.nil_append]
      refine q_aload_n hx hb hl dT_take_20 rfl ?_
      refine q_iload_n hx hb hl dT_take_21 rfl ?_
      refine tc_E (tc_N C hl (c_fst l hst D ct ad N hN σ _ q hq K hK hs (nI t)) hw.1 hw.2.1 hw.2.2 g_T_97 gn_T_97 gw_T_97 (re_L C hw hq) hd_L_firstOf rfl rfl ⟨(Nat.le_of_ble_eq_true rfl), (Nat.le_of_ble_eq_true rfl)⟩ (Nat.le_of_ble_eq_true rfl) ⟨(Nat.le_of_ble_eq_true rfl), (Nat.le_of_ble_eq_true rfl)⟩ dT_take_22 rfl) C hw (fun E ce q9 w1 H locs hp hw h1 h2 h3 => ?_) (fun v w1 H locs hp hw => ?_)
      · exact hp.elim
      obtain ⟨rfl, rfl⟩ := hp
      dsimp only [Option.toList_some, Option.toList_none, List.cons_append, List.nil_append]
      refine q_istore hx hb hl dT_take_25 (by decide) (fun ls hl => ?_)
      refine q_iload hx hb hl dT_take_27 rfl ?_
      refine lv_if_lt (tgt := 41) hx hb dT_take_29 (by decide) (fun c_29 => ?_) (fun c_29 => ?_)
      · exact tt_S (cls := "java/lang/IllegalStateException") hQ C hne hw hl x_T_entry ⟨dT_take_41, dT_take_44, dT_take_45, dT_take_47, dT_take_50⟩ ⟨(Nat.le_of_ble_eq_true rfl), (Nat.le_of_ble_eq_true rfl), (Nat.le_of_ble_eq_true rfl), (Nat.le_of_ble_eq_true rfl), (Nat.le_of_ble_eq_true rfl), (Nat.le_of_ble_eq_true rfl)⟩ ⟨Or.inr ⟨⟨q, K, hq, rfl, hK, hs, Or.inr ⟨t, ht, rfl⟩, by first | exact Or.inl c_29 | exact Or.inr c_38⟩, rfl⟩, rfl⟩
      refine q_iload hx hb hl dT_take_32 rfl ?_
      refine q_aload_n hx hb hl dT_take_34 rfl ?_
      refine tg_LN C hw 3 l_T_91 (by decide) (by assumption) rfl dT_take_35 ?_
      refine lv_icmp_lt (tgt := 51) hx hb dT_take_38 (by decide) (fun c_38 => ?_) (fun c_38 => ?_)
      · obtain ⟨j, hj, hje⟩ := ix_of c_29 (by rw [hs] at c_38; exact c_38) (by omega)
        refine q_aload_n hx hb hl dT_take_51 rfl ?_
        refine tg_LN C hw 1 l_T_107 (by decide) (by assumption) rfl dT_take_52 ?_
        refine q_iload hx hb hl dT_take_55 rfl ?_
        refine ta_g5 C hw (by assumption) (k := j) (by omega) hje dT_take_57 ?_
        refine q_istore hx hb hl dT_take_58 (by decide) (fun ls hl => ?_)
        refine q_aload_n hx hb hl dT_take_60 rfl ?_
        refine q_iload hx hb hl dT_take_61 rfl ?_
        refine tc_E (tc_N C hl (c_cls l hst D ct ad N hN σ _ q hq K hK hs j hj _ hje) hw.1 hw.2.1 hw.2.2 g_T_110 gn_T_110 gw_T_110 (re_L C hw hq) hd_L_close rfl rfl ⟨(Nat.le_of_ble_eq_true rfl), (Nat.le_of_ble_eq_true rfl)⟩ (Nat.le_of_ble_eq_true rfl) ⟨(Nat.le_of_ble_eq_true rfl), (Nat.le_of_ble_eq_true rfl)⟩ dT_take_63 rfl) C hw (fun E ce q9 w1 H locs hp hw h1 h2 h3 => ?_) (fun v w1 H locs hp hw => ?_)
        · exact hp.elim
        obtain ⟨rfl, rfl⟩ := hp
        dsimp only [Option.toList_some, Option.toList_none, List.cons_append, List.nil_append]
        refine q_iload hx hb hl dT_take_66 rfl ?_
        exact tr_i hQ C hw hr (Nat.le_of_ble_eq_true rfl) (Nat.le_of_ble_eq_true rfl) dT_take_68 ⟨q, K, j, hq, rfl, hK, hs, hj, hje, by first | exact Or.inl rfl | exact Or.inr ⟨t, ht, rfl⟩, rfl, rfl⟩
      exact tt_S (cls := "java/lang/IllegalStateException") hQ C hne hw hl x_T_entry ⟨dT_take_41, dT_take_44, dT_take_45, dT_take_47, dT_take_50⟩ ⟨(Nat.le_of_ble_eq_true rfl), (Nat.le_of_ble_eq_true rfl), (Nat.le_of_ble_eq_true rfl), (Nat.le_of_ble_eq_true rfl), (Nat.le_of_ble_eq_true rfl), (Nat.le_of_ble_eq_true rfl)⟩ ⟨Or.inr ⟨⟨q, K, hq, rfl, hK, hs, Or.inr ⟨t, ht, rfl⟩, by first | exact Or.inl c_29 | exact Or.inr c_38⟩, rfl⟩, rfl⟩
    · refine q_aload_n hx hb hl dT_take_0 rfl ?_
      refine q_iload_n hx hb hl dT_take_1 rfl ?_
      refine tc_E (tc_V C hl (c_lin l hst D ct ad N hN σ _ q hq _ rfl) hw.1 hw.2.1 hw.2.2 g_T_75 (re_T C hw) hv_T_lineOf rfl rfl ⟨(Nat.le_of_ble_eq_true rfl), (Nat.le_of_ble_eq_true rfl)⟩ (Nat.le_of_ble_eq_true rfl) ⟨(Nat.le_of_ble_eq_true rfl), (Nat.le_of_ble_eq_true rfl)⟩ dT_take_2 rfl) C hw (fun E ce q9 w1 H locs hp hw h1 h2 h3 => ?_) (fun v w1 H locs hp hw => ?_)
      · exact hp.elim
      obtain ⟨rfl, rfl⟩ := hp
      dsimp only [Option.toList_some, Option.toList_none, List.cons_append, List.nil_append]
      refine q_astore_n hx hb hl dT_take_5 (by decide) (fun ls hl => ?_)
      refine q_iload_n hx hb hl dT_take_6 rfl ?_
      refine lv_iconst (v := -1) hx hb dT_take_7 (by decide) ?_
      refine lv_icmp_eq (tgt := 20) hx hb dT_take_8 (by decide) (fun q9 => absurd q9 h9) (fun c_8 => ?_)
      refine q_iload_n hx hb hl dT_take_11 rfl ?_
      refine q_aload_n hx hb hl dT_take_12 rfl ?_
      refine tg_T C hw 0 l_T_24 (by decide) rfl dT_take_13 ?_
      refine ta_lenS C hw dT_take_16 ?_
      refine tc_E (tc_S C hl (x_cidx l hst D ct (wT ct ad N σ) _ p1 (nI N) h) hw.1 hw.2.1 hw.2.2 g_T_79 hd_T_checkIndex rfl rfl ⟨(Nat.le_of_ble_eq_true rfl), (Nat.le_of_ble_eq_true rfl)⟩ (Nat.le_of_ble_eq_true rfl) ⟨(Nat.le_of_ble_eq_true rfl), (Nat.le_of_ble_eq_true rfl)⟩ dT_take_17 rfl) C hw (fun E ce q9 w1 H locs hp hw h1 h2 h3 => ?_) (fun v w1 H locs hp hw => ?_)
      · obtain ⟨rfl, rfl⟩ := hp
        exact tr_x hQ C hne hw (Nat.le_of_ble_eq_true rfl) (Nat.le_of_ble_eq_true rfl) ⟨Or.inl ⟨Or.inr ⟨⟨q, hq, rfl⟩, h, h9⟩, rfl⟩, rfl⟩ h1 h2 h3
      · exact hp.elim
  · refine q_aload_n hx hb hl dT_take_0 rfl ?_
    refine q_iload_n hx hb hl dT_take_1 rfl ?_
    refine tc_E (tc_V C hl (x_lin l hst D ct ad N hN σ _ p0 h) hw.1 hw.2.1 hw.2.2 g_T_75 (re_T C hw) hv_T_lineOf rfl rfl ⟨(Nat.le_of_ble_eq_true rfl), (Nat.le_of_ble_eq_true rfl)⟩ (Nat.le_of_ble_eq_true rfl) ⟨(Nat.le_of_ble_eq_true rfl), (Nat.le_of_ble_eq_true rfl)⟩ dT_take_2 rfl) C hw (fun E ce q9 w1 H locs hp hw h1 h2 h3 => ?_) (fun v w1 H locs hp hw => ?_)
    · obtain ⟨rfl, rfl⟩ := hp
      exact tr_x hQ C hne hw (Nat.le_of_ble_eq_true rfl) (Nat.le_of_ble_eq_true rfl) ⟨Or.inl ⟨Or.inl h, rfl⟩, rfl⟩ h1 h2 h3
    · exact hp.elim
set_option maxHeartbeats 4000000 in
set_option maxRecDepth 100000 in
theorem c_entry (l : Launch) (hst : l.stackTraces = false) (D : va_G) (ct : Ct) (ad : Ad) (N : Nat) (hN : N ≤ 16) (σ : St) (sz : Nat) (hsz : ∀ q, q < 8 → ∃ K, K ≤ 32 ∧ σ 3 q 0 = nI K) (p0 p1 p2 : Int32) : Kt l yT_entry cT_entry 5 (some .int) (r1 8) 1 6 D ct [.ref (ad 0 0), .int p0, .int p1, .int p2] sz (wT ct ad N σ) (fun v w => ∃ q K j u, q < 8 ∧ p0 = nI q ∧ K ≤ 32 ∧ σ 3 q 0 = nI K ∧ j < K ∧ p1 = nI j ∧ u < 2 ∧ p2 = nI u ∧ v = some (.int (if nI u = 0 then σ 4 q j else σ 5 q j)) ∧ w = wT ct ad N σ) (fun E w => ((p0 < 0 ∨ ¬ p0 < nI 8) ∨ ∃ q K, q < 8 ∧ p0 = nI q ∧ K ≤ 32 ∧ σ 3 q 0 = nI K ∧ ((p1 < 0 ∨ ¬ p1 < nI K) ∨ (∃ j, j < K ∧ p1 = nI j) ∧ (p2 < 0 ∨ ¬ p2 < nI 2))) ∧ E = "java/lang/IndexOutOfBoundsException" ∧ w = wT ct ad N σ) := by
  refine kt_of hst (by decide) (Nat.le_of_ble_eq_true rfl) (by simp [Value.category]) ?_
  intro p e s m args below meth c A ls C hne hr hw hl Q hQ
  have hx := C.1
  have hb := C.2.1
  rcases ixc p0 8 (by omega) with ⟨q, hq, rfl⟩ | h
  · obtain ⟨K, hK, hs⟩ := hsz q hq
    rcases ixc p1 K (by omega) with ⟨j, hj, rfl⟩ | h
    · have hj32 : j < 32 := by omega
      rcases ixc p2 2 (by omega) with ⟨u, hu, rfl⟩ | g
      · refine q_aload_n hx hb hl dT_entry_0 rfl ?_
        refine q_iload_n hx hb hl dT_entry_1 rfl ?_
        refine tc_E (tc_V C hl (c_lin l hst D ct ad N hN σ _ q hq _ rfl) hw.1 hw.2.1 hw.2.2 g_T_75 (re_T C hw) hv_T_lineOf rfl rfl ⟨(Nat.le_of_ble_eq_true rfl), (Nat.le_of_ble_eq_true rfl)⟩ (Nat.le_of_ble_eq_true rfl) ⟨(Nat.le_of_ble_eq_true rfl), (Nat.le_of_ble_eq_true rfl)⟩ dT_entry_2 rfl) C hw (fun E ce q9 w1 H locs hp hw h1 h2 h3 => ?_) (fun v w1 H locs hp hw => ?_)
        · exact hp.elim
        obtain ⟨rfl, rfl⟩ := hp
        dsimp only [Option.toList_some, Option.toList_none, List.cons_append, List.nil_append]
        refine q_astore hx hb hl dT_entry_5 (by decide) (fun ls hl => ?_)
        refine q_iload_n hx hb hl dT_entry_7 rfl ?_
        refine q_aload hx hb hl dT_entry_8 rfl ?_
        refine tg_LN C hw 3 l_T_91 (by decide) (by assumption) rfl dT_entry_10 ?_
        refine tc_E (tc_S C hl (c_cidx l hst D ct (wT ct ad N σ) _ (nI j) (σ 3 q 0) (nI_pos (by omega)) (by rw [hs]; exact nI_lt hj (by omega))) hw.1 hw.2.1 hw.2.2 g_T_79 hd_T_checkIndex rfl rfl ⟨(Nat.le_of_ble_eq_true rfl), (Nat.le_of_ble_eq_true rfl)⟩ (Nat.le_of_ble_eq_true rfl) ⟨(Nat.le_of_ble_eq_true rfl), (Nat.le_of_ble_eq_true rfl)⟩ dT_entry_13 rfl) C hw (fun E ce q9 w1 H locs hp hw h1 h2 h3 => ?_) (fun v w1 H locs hp hw => ?_)
        · exact hp.elim
        obtain ⟨rfl, rfl⟩ := hp
        dsimp only [Option.toList_some, Option.toList_none, List.cons_append, List.nil_append]
        refine q_iload_n hx hb hl dT_entry_16 rfl ?_
        refine lv_iconst (v := 2) hx hb dT_entry_17 (by decide) ?_
        refine tc_E (tc_S C hl (c_cidx l hst D ct (wT ct ad N σ) _ (nI u) (nI 2) (nI_pos (by omega)) (nI_lt (by omega) (by omega))) hw.1 hw.2.1 hw.2.2 g_T_79 hd_T_checkIndex rfl rfl ⟨(Nat.le_of_ble_eq_true rfl), (Nat.le_of_ble_eq_true rfl)⟩ (Nat.le_of_ble_eq_true rfl) ⟨(Nat.le_of_ble_eq_true rfl), (Nat.le_of_ble_eq_true rfl)⟩ dT_entry_18 rfl) C hw (fun E ce q9 w1 H locs hp hw h1 h2 h3 => ?_) (fun v w1 H locs hp hw => ?_)
        · exact hp.elim
        obtain ⟨rfl, rfl⟩ := hp
        dsimp only [Option.toList_some, Option.toList_none, List.cons_append, List.nil_append]
        refine q_iload_n hx hb hl dT_entry_21 rfl ?_
        refine lv_if_ne (tgt := 35) hx hb dT_entry_22 (by decide) (fun c_22 => ?_) (fun c_22 => ?_)
        · refine q_aload hx hb hl dT_entry_35 rfl ?_
          refine tg_LN C hw 1 l_T_107 (by decide) (by assumption) rfl dT_entry_37 ?_
          refine q_iload_n hx hb hl dT_entry_40 rfl ?_
          refine ta_g5 C hw (by assumption) (by assumption) rfl dT_entry_41 ?_
          exact tr_i hQ C hw hr (Nat.le_of_ble_eq_true rfl) (Nat.le_of_ble_eq_true rfl) dT_entry_42 ⟨q, K, j, u, hq, rfl, hK, hs, hj, rfl, hu, rfl, by simp only [if_neg c_22], rfl⟩
        refine q_aload hx hb hl dT_entry_25 rfl ?_
        refine tg_LN C hw 0 l_T_114 (by decide) (by assumption) rfl dT_entry_27 ?_
        refine q_iload_n hx hb hl dT_entry_30 rfl ?_
        refine ta_g4 C hw (by assumption) (by assumption) rfl dT_entry_31 ?_
        refine lv_goto (tgt := 42) hx hb dT_entry_32 (by decide) ?_
        exact tr_i hQ C hw hr (Nat.le_of_ble_eq_true rfl) (Nat.le_of_ble_eq_true rfl) dT_entry_42 ⟨q, K, j, u, hq, rfl, hK, hs, hj, rfl, hu, rfl, by simp only [if_pos c_22], rfl⟩
      · refine q_aload_n hx hb hl dT_entry_0 rfl ?_
        refine q_iload_n hx hb hl dT_entry_1 rfl ?_
        refine tc_E (tc_V C hl (c_lin l hst D ct ad N hN σ _ q hq _ rfl) hw.1 hw.2.1 hw.2.2 g_T_75 (re_T C hw) hv_T_lineOf rfl rfl ⟨(Nat.le_of_ble_eq_true rfl), (Nat.le_of_ble_eq_true rfl)⟩ (Nat.le_of_ble_eq_true rfl) ⟨(Nat.le_of_ble_eq_true rfl), (Nat.le_of_ble_eq_true rfl)⟩ dT_entry_2 rfl) C hw (fun E ce q9 w1 H locs hp hw h1 h2 h3 => ?_) (fun v w1 H locs hp hw => ?_)
        · exact hp.elim
        obtain ⟨rfl, rfl⟩ := hp
        dsimp only [Option.toList_some, Option.toList_none, List.cons_append, List.nil_append]
        refine q_astore hx hb hl dT_entry_5 (by decide) (fun ls hl => ?_)
        refine q_iload_n hx hb hl dT_entry_7 rfl ?_
        refine q_aload hx hb hl dT_entry_8 rfl ?_
        refine tg_LN C hw 3 l_T_91 (by decide) (by assumption) rfl dT_entry_10 ?_
        refine tc_E (tc_S C hl (c_cidx l hst D ct (wT ct ad N σ) _ (nI j) (σ 3 q 0) (nI_pos (by omega)) (by rw [hs]; exact nI_lt hj (by omega))) hw.1 hw.2.1 hw.2.2 g_T_79 hd_T_checkIndex rfl rfl ⟨(Nat.le_of_ble_eq_true rfl), (Nat.le_of_ble_eq_true rfl)⟩ (Nat.le_of_ble_eq_true rfl) ⟨(Nat.le_of_ble_eq_true rfl), (Nat.le_of_ble_eq_true rfl)⟩ dT_entry_13 rfl) C hw (fun E ce q9 w1 H locs hp hw h1 h2 h3 => ?_) (fun v w1 H locs hp hw => ?_)
        · exact hp.elim
        obtain ⟨rfl, rfl⟩ := hp
        dsimp only [Option.toList_some, Option.toList_none, List.cons_append, List.nil_append]
        refine q_iload_n hx hb hl dT_entry_16 rfl ?_
        refine lv_iconst (v := 2) hx hb dT_entry_17 (by decide) ?_
        refine tc_E (tc_S C hl (x_cidx l hst D ct (wT ct ad N σ) _ p2 (nI 2) g) hw.1 hw.2.1 hw.2.2 g_T_79 hd_T_checkIndex rfl rfl ⟨(Nat.le_of_ble_eq_true rfl), (Nat.le_of_ble_eq_true rfl)⟩ (Nat.le_of_ble_eq_true rfl) ⟨(Nat.le_of_ble_eq_true rfl), (Nat.le_of_ble_eq_true rfl)⟩ dT_entry_18 rfl) C hw (fun E ce q9 w1 H locs hp hw h1 h2 h3 => ?_) (fun v w1 H locs hp hw => ?_)
        · obtain ⟨rfl, rfl⟩ := hp
          exact tr_x hQ C hne hw (Nat.le_of_ble_eq_true rfl) (Nat.le_of_ble_eq_true rfl) ⟨Or.inr ⟨q, K, hq, rfl, hK, hs, Or.inr ⟨⟨j, hj, rfl⟩, g⟩⟩, rfl, rfl⟩ h1 h2 h3
        · exact hp.elim
    · refine q_aload_n hx hb hl dT_entry_0 rfl ?_
      refine q_iload_n hx hb hl dT_entry_1 rfl ?_
      refine tc_E (tc_V C hl (c_lin l hst D ct ad N hN σ _ q hq _ rfl) hw.1 hw.2.1 hw.2.2 g_T_75 (re_T C hw) hv_T_lineOf rfl rfl ⟨(Nat.le_of_ble_eq_true rfl), (Nat.le_of_ble_eq_true rfl)⟩ (Nat.le_of_ble_eq_true rfl) ⟨(Nat.le_of_ble_eq_true rfl), (Nat.le_of_ble_eq_true rfl)⟩ dT_entry_2 rfl) C hw (fun E ce q9 w1 H locs hp hw h1 h2 h3 => ?_) (fun v w1 H locs hp hw => ?_)
      · exact hp.elim
      obtain ⟨rfl, rfl⟩ := hp
      dsimp only [Option.toList_some, Option.toList_none, List.cons_append, List.nil_append]
      refine q_astore hx hb hl dT_entry_5 (by decide) (fun ls hl => ?_)
      refine q_iload_n hx hb hl dT_entry_7 rfl ?_
      refine q_aload hx hb hl dT_entry_8 rfl ?_
      refine tg_LN C hw 3 l_T_91 (by decide) (by assumption) rfl dT_entry_10 ?_
      refine tc_E (tc_S C hl (x_cidx l hst D ct (wT ct ad N σ) _ p1 (σ 3 q 0) (by rw [hs]; exact h)) hw.1 hw.2.1 hw.2.2 g_T_79 hd_T_checkIndex rfl rfl ⟨(Nat.le_of_ble_eq_true rfl), (Nat.le_of_ble_eq_true rfl)⟩ (Nat.le_of_ble_eq_true rfl) ⟨(Nat.le_of_ble_eq_true rfl), (Nat.le_of_ble_eq_true rfl)⟩ dT_entry_13 rfl) C hw (fun E ce q9 w1 H locs hp hw h1 h2 h3 => ?_) (fun v w1 H locs hp hw => ?_)
      · obtain ⟨rfl, rfl⟩ := hp
        exact tr_x hQ C hne hw (Nat.le_of_ble_eq_true rfl) (Nat.le_of_ble_eq_true rfl) ⟨Or.inr ⟨q, K, hq, rfl, hK, hs, Or.inl h⟩, rfl, rfl⟩ h1 h2 h3
      · exact hp.elim
  · refine q_aload_n hx hb hl dT_entry_0 rfl ?_
    refine q_iload_n hx hb hl dT_entry_1 rfl ?_
    refine tc_E (tc_V C hl (x_lin l hst D ct ad N hN σ _ p0 h) hw.1 hw.2.1 hw.2.2 g_T_75 (re_T C hw) hv_T_lineOf rfl rfl ⟨(Nat.le_of_ble_eq_true rfl), (Nat.le_of_ble_eq_true rfl)⟩ (Nat.le_of_ble_eq_true rfl) ⟨(Nat.le_of_ble_eq_true rfl), (Nat.le_of_ble_eq_true rfl)⟩ dT_entry_2 rfl) C hw (fun E ce q9 w1 H locs hp hw h1 h2 h3 => ?_) (fun v w1 H locs hp hw => ?_)
    · obtain ⟨rfl, rfl⟩ := hp
      exact tr_x hQ C hne hw (Nat.le_of_ble_eq_true rfl) (Nat.le_of_ble_eq_true rfl) ⟨Or.inl h, rfl, rfl⟩ h1 h2 h3
    · exact hp.elim
set_option maxHeartbeats 4000000 in
set_option maxRecDepth 100000 in
theorem c_set (l : Launch) (hst : l.stackTraces = false) (D : va_G) (ct : Ct) (ad : Ad) (N : Nat) (hN : N ≤ 16) (σ : St) (sz : Nat) (h4 : ix N (σ 0 0 4)) (hcore : tf_core σ < N) (p0 p1 : Int32) : Kt l yT_set cT_set 5 (some .int) (r1 8) 1 6 D ct [.ref (ad 0 0), .int p0, .int p1] sz (wT ct ad N σ) (fun v w => ∃ k, k < 16 ∧ p0 = nI k ∧ v = some (.int (σ 2 (tf_core σ) k)) ∧ w = wT ct ad N (su σ 2 (tf_core σ) k p1)) (fun E w => (p0 < 0 ∨ ¬ p0 < nI 16) ∧ E = "java/lang/IndexOutOfBoundsException" ∧ w = wT ct ad N σ) := by
  refine kt_of hst (by decide) (Nat.le_of_ble_eq_true rfl) (by simp [Value.category]) ?_
  intro p e s m args below meth c A ls C hne hr hw hl Q hQ
  have hx := C.1
  have hb := C.2.1
  rcases ixc p0 16 (by omega) with ⟨k, hk, rfl⟩ | h
  · refine q_iload_n hx hb hl dT_set_0 rfl ?_
    refine lv_bipush (v := 16) hx hb dT_set_1 (by decide) ?_
    refine tc_E (tc_S C hl (c_cidx l hst D ct (wT ct ad N σ) _ (nI k) (nI 16) (nI_pos (by omega)) (nI_lt (by omega) (by omega))) hw.1 hw.2.1 hw.2.2 g_T_79 hd_T_checkIndex rfl rfl ⟨(Nat.le_of_ble_eq_true rfl), (Nat.le_of_ble_eq_true rfl)⟩ (Nat.le_of_ble_eq_true rfl) ⟨(Nat.le_of_ble_eq_true rfl), (Nat.le_of_ble_eq_true rfl)⟩ dT_set_3 rfl) C hw (fun E ce q9 w1 H locs hp hw h1 h2 h3 => ?_) (fun v w1 H locs hp hw => ?_)
    · exact hp.elim
    obtain ⟨rfl, rfl⟩ := hp
    dsimp only [Option.toList_some, Option.toList_none, List.cons_append, List.nil_append]
    refine q_aload_n hx hb hl dT_set_6 rfl ?_
    refine q_aload_n hx hb hl dT_set_7 rfl ?_
    refine tg_T C hw 6 l_T_9 (by decide) rfl dT_set_8 ?_
    refine lv_iconst (v := -1) hx hb dT_set_11 (by decide) ?_
    refine lv_icmp_ne (tgt := 19) hx hb dT_set_12 (by decide) (fun c_12 => ?_) (fun c_12 => ?_)
    · refine q_aload_n hx hb hl dT_set_19 rfl ?_
      refine tg_T C hw 6 l_T_9 (by decide) rfl dT_set_20 ?_
      refine tc_E (tc_V C hl (c_str l hst D ct ad N hN σ _ (tf_core σ) hcore _ (by simp only [tf_core, if_neg c_12]; first | rfl | exact (ix_cl hN h4 c_12).2)) hw.1 hw.2.1 hw.2.2 g_T_53 (re_T C hw) hv_T_strandOf rfl rfl ⟨(Nat.le_of_ble_eq_true rfl), (Nat.le_of_ble_eq_true rfl)⟩ (Nat.le_of_ble_eq_true rfl) ⟨(Nat.le_of_ble_eq_true rfl), (Nat.le_of_ble_eq_true rfl)⟩ dT_set_23 rfl) C hw (fun E ce q9 w1 H locs hp hw h1 h2 h3 => ?_) (fun v w1 H locs hp hw => ?_)
      · exact hp.elim
      obtain ⟨rfl, rfl⟩ := hp
      dsimp only [Option.toList_some, Option.toList_none, List.cons_append, List.nil_append]
      refine q_astore_n hx hb hl dT_set_26 (by decide) (fun ls hl => ?_)
      refine q_aload_n hx hb hl dT_set_27 rfl ?_
      refine tg_S C hw 0 l_T_117 (by decide) (by assumption) rfl dT_set_28 ?_
      refine q_iload_n hx hb hl dT_set_31 rfl ?_
      refine ta_g2 C hw (by assumption) (by assumption) rfl dT_set_32 ?_
      refine q_istore hx hb hl dT_set_33 (by decide) (fun ls hl => ?_)
      refine q_aload_n hx hb hl dT_set_35 rfl ?_
      refine tg_S C hw 0 l_T_117 (by decide) (by assumption) rfl dT_set_36 ?_
      refine q_iload_n hx hb hl dT_set_39 rfl ?_
      refine q_iload_n hx hb hl dT_set_40 rfl ?_
      refine ta_p2 C hw (by assumption) (by assumption) rfl dT_set_41 (fun H locs hw => ?_)
      refine q_iload hx hb hl dT_set_42 rfl ?_
      exact tr_i hQ C hw hr (Nat.le_of_ble_eq_true rfl) (Nat.le_of_ble_eq_true rfl) dT_set_44 ⟨k, hk, rfl, rfl, rfl⟩
    refine lv_iconst (v := 0) hx hb dT_set_15 (by decide) ?_
    refine lv_goto (tgt := 23) hx hb dT_set_16 (by decide) ?_
    refine tc_E (tc_V C hl (c_str l hst D ct ad N hN σ _ (tf_core σ) hcore _ (by simp only [tf_core, if_pos c_12]; first | rfl | exact (ix_cl hN h4 c_12).2)) hw.1 hw.2.1 hw.2.2 g_T_53 (re_T C hw) hv_T_strandOf rfl rfl ⟨(Nat.le_of_ble_eq_true rfl), (Nat.le_of_ble_eq_true rfl)⟩ (Nat.le_of_ble_eq_true rfl) ⟨(Nat.le_of_ble_eq_true rfl), (Nat.le_of_ble_eq_true rfl)⟩ dT_set_23 rfl) C hw (fun E ce q9 w1 H locs hp hw h1 h2 h3 => ?_) (fun v w1 H locs hp hw => ?_)
    · exact hp.elim
    obtain ⟨rfl, rfl⟩ := hp
    dsimp only [Option.toList_some, Option.toList_none, List.cons_append, List.nil_append]
    refine q_astore_n hx hb hl dT_set_26 (by decide) (fun ls hl => ?_)
    refine q_aload_n hx hb hl dT_set_27 rfl ?_
    refine tg_S C hw 0 l_T_117 (by decide) (by assumption) rfl dT_set_28 ?_
    refine q_iload_n hx hb hl dT_set_31 rfl ?_
    refine ta_g2 C hw (by assumption) (by assumption) rfl dT_set_32 ?_
    refine q_istore hx hb hl dT_set_33 (by decide) (fun ls hl => ?_)
    refine q_aload_n hx hb hl dT_set_35 rfl ?_
    refine tg_S C hw 0 l_T_117 (by decide) (by assumption) rfl dT_set_36 ?_
    refine q_iload_n hx hb hl dT_set_39 rfl ?_
    refine q_iload_n hx hb hl dT_set_40 rfl ?_
    refine ta_p2 C hw (by assumption) (by assumption) rfl dT_set_41 (fun H locs hw => ?_)
    refine q_iload hx hb hl dT_set_42 rfl ?_
    exact tr_i hQ C hw hr (Nat.le_of_ble_eq_true rfl) (Nat.le_of_ble_eq_true rfl) dT_set_44 ⟨k, hk, rfl, rfl, rfl⟩
  · refine q_iload_n hx hb hl dT_set_0 rfl ?_
    refine lv_bipush (v := 16) hx hb dT_set_1 (by decide) ?_
    refine tc_E (tc_S C hl (x_cidx l hst D ct (wT ct ad N σ) _ p0 (nI 16) h) hw.1 hw.2.1 hw.2.2 g_T_79 hd_T_checkIndex rfl rfl ⟨(Nat.le_of_ble_eq_true rfl), (Nat.le_of_ble_eq_true rfl)⟩ (Nat.le_of_ble_eq_true rfl) ⟨(Nat.le_of_ble_eq_true rfl), (Nat.le_of_ble_eq_true rfl)⟩ dT_set_3 rfl) C hw (fun E ce q9 w1 H locs hp hw h1 h2 h3 => ?_) (fun v w1 H locs hp hw => ?_)
    · obtain ⟨rfl, rfl⟩ := hp
      exact tr_x hQ C hne hw (Nat.le_of_ble_eq_true rfl) (Nat.le_of_ble_eq_true rfl) ⟨h, rfl, rfl⟩ h1 h2 h3
    · exact hp.elim
set_option maxHeartbeats 4000000 in
set_option maxRecDepth 100000 in
theorem c_thr (l : Launch) (hst : l.stackTraces = false) (D : va_G) (ct : Ct) (ad : Ad) (N : Nat) (hN : N ≤ 16) (σ : St) (sz : Nat) (p0 p1 : Int32) : Kt l yT_thread cT_thread 4 (some .int) (r1 8) 1 6 D ct [.ref (ad 0 0), .int p0, .int p1] sz (wT ct ad N σ) (fun v w => ∃ t, t < N ∧ p0 = nI t ∧ (∃ j, j < 6 ∧ p1 = nI j ∧ v = some (.int (σ 1 t (tf_col j)))) ∧ w = wT ct ad N σ) (fun E w => ((p0 < 0 ∨ ¬ p0 < nI N) ∨ (∃ t, t < N ∧ p0 = nI t) ∧ (p1.toInt < 0 ∨ 5 < p1.toInt)) ∧ E = "java/lang/IndexOutOfBoundsException" ∧ w = wT ct ad N σ) := by
  refine kt_of hst (by decide) (Nat.le_of_ble_eq_true rfl) (by simp [Value.category]) ?_
  intro p e s m args below meth c A ls C hne hr hw hl Q hQ
  have hx := C.1
  have hb := C.2.1
  rcases ixc p0 N (by omega) with ⟨t, ht, rfl⟩ | h
  · rcases sw6 p1 with rfl | rfl | rfl | rfl | rfl | rfl | g
    · refine q_aload_n hx hb hl dT_thread_0 rfl ?_
      refine q_iload_n hx hb hl dT_thread_1 rfl ?_
      refine tc_E (tc_V C hl (c_str l hst D ct ad N hN σ _ t ht _ rfl) hw.1 hw.2.1 hw.2.2 g_T_53 (re_T C hw) hv_T_strandOf rfl rfl ⟨(Nat.le_of_ble_eq_true rfl), (Nat.le_of_ble_eq_true rfl)⟩ (Nat.le_of_ble_eq_true rfl) ⟨(Nat.le_of_ble_eq_true rfl), (Nat.le_of_ble_eq_true rfl)⟩ dT_thread_2 rfl) C hw (fun E ce q9 w1 H locs hp hw h1 h2 h3 => ?_) (fun v w1 H locs hp hw => ?_)
      · exact hp.elim
      obtain ⟨rfl, rfl⟩ := hp
      dsimp only [Option.toList_some, Option.toList_none, List.cons_append, List.nil_append]
      refine q_astore_n hx hb hl dT_thread_5 (by decide) (fun ls hl => ?_)
      refine q_iload_n hx hb hl dT_thread_6 rfl ?_
      refine lv_tableIn (tgt := 44) hx hb dT_thread_7 (by decide) (by decide) rfl (by decide) ?_
      refine q_aload_n hx hb hl dT_thread_44 rfl ?_
      refine tg_S C hw 5 l_T_120 (by decide) (by assumption) rfl dT_thread_45 ?_
      exact tr_i hQ C hw hr (Nat.le_of_ble_eq_true rfl) (Nat.le_of_ble_eq_true rfl) dT_thread_48 ⟨t, ht, rfl, ⟨0, by decide, rfl, rfl⟩, rfl⟩
    · refine q_aload_n hx hb hl dT_thread_0 rfl ?_
      refine q_iload_n hx hb hl dT_thread_1 rfl ?_
      refine tc_E (tc_V C hl (c_str l hst D ct ad N hN σ _ t ht _ rfl) hw.1 hw.2.1 hw.2.2 g_T_53 (re_T C hw) hv_T_strandOf rfl rfl ⟨(Nat.le_of_ble_eq_true rfl), (Nat.le_of_ble_eq_true rfl)⟩ (Nat.le_of_ble_eq_true rfl) ⟨(Nat.le_of_ble_eq_true rfl), (Nat.le_of_ble_eq_true rfl)⟩ dT_thread_2 rfl) C hw (fun E ce q9 w1 H locs hp hw h1 h2 h3 => ?_) (fun v w1 H locs hp hw => ?_)
      · exact hp.elim
      obtain ⟨rfl, rfl⟩ := hp
      dsimp only [Option.toList_some, Option.toList_none, List.cons_append, List.nil_append]
      refine q_astore_n hx hb hl dT_thread_5 (by decide) (fun ls hl => ?_)
      refine q_iload_n hx hb hl dT_thread_6 rfl ?_
      refine lv_tableIn (tgt := 49) hx hb dT_thread_7 (by decide) (by decide) rfl (by decide) ?_
      refine q_aload_n hx hb hl dT_thread_49 rfl ?_
      refine tg_S C hw 6 l_T_123 (by decide) (by assumption) rfl dT_thread_50 ?_
      exact tr_i hQ C hw hr (Nat.le_of_ble_eq_true rfl) (Nat.le_of_ble_eq_true rfl) dT_thread_53 ⟨t, ht, rfl, ⟨1, by decide, rfl, rfl⟩, rfl⟩
    · refine q_aload_n hx hb hl dT_thread_0 rfl ?_
      refine q_iload_n hx hb hl dT_thread_1 rfl ?_
      refine tc_E (tc_V C hl (c_str l hst D ct ad N hN σ _ t ht _ rfl) hw.1 hw.2.1 hw.2.2 g_T_53 (re_T C hw) hv_T_strandOf rfl rfl ⟨(Nat.le_of_ble_eq_true rfl), (Nat.le_of_ble_eq_true rfl)⟩ (Nat.le_of_ble_eq_true rfl) ⟨(Nat.le_of_ble_eq_true rfl), (Nat.le_of_ble_eq_true rfl)⟩ dT_thread_2 rfl) C hw (fun E ce q9 w1 H locs hp hw h1 h2 h3 => ?_) (fun v w1 H locs hp hw => ?_)
      · exact hp.elim
      obtain ⟨rfl, rfl⟩ := hp
      dsimp only [Option.toList_some, Option.toList_none, List.cons_append, List.nil_append]
      refine q_astore_n hx hb hl dT_thread_5 (by decide) (fun ls hl => ?_)
      refine q_iload_n hx hb hl dT_thread_6 rfl ?_
      refine lv_tableIn (tgt := 54) hx hb dT_thread_7 (by decide) (by decide) rfl (by decide) ?_
      refine q_aload_n hx hb hl dT_thread_54 rfl ?_
      refine tg_S C hw 7 l_T_126 (by decide) (by assumption) rfl dT_thread_55 ?_
      exact tr_i hQ C hw hr (Nat.le_of_ble_eq_true rfl) (Nat.le_of_ble_eq_true rfl) dT_thread_58 ⟨t, ht, rfl, ⟨2, by decide, rfl, rfl⟩, rfl⟩
    · refine q_aload_n hx hb hl dT_thread_0 rfl ?_
      refine q_iload_n hx hb hl dT_thread_1 rfl ?_
      refine tc_E (tc_V C hl (c_str l hst D ct ad N hN σ _ t ht _ rfl) hw.1 hw.2.1 hw.2.2 g_T_53 (re_T C hw) hv_T_strandOf rfl rfl ⟨(Nat.le_of_ble_eq_true rfl), (Nat.le_of_ble_eq_true rfl)⟩ (Nat.le_of_ble_eq_true rfl) ⟨(Nat.le_of_ble_eq_true rfl), (Nat.le_of_ble_eq_true rfl)⟩ dT_thread_2 rfl) C hw (fun E ce q9 w1 H locs hp hw h1 h2 h3 => ?_) (fun v w1 H locs hp hw => ?_)
      · exact hp.elim
      obtain ⟨rfl, rfl⟩ := hp
      dsimp only [Option.toList_some, Option.toList_none, List.cons_append, List.nil_append]
      refine q_astore_n hx hb hl dT_thread_5 (by decide) (fun ls hl => ?_)
      refine q_iload_n hx hb hl dT_thread_6 rfl ?_
      refine lv_tableIn (tgt := 59) hx hb dT_thread_7 (by decide) (by decide) rfl (by decide) ?_
      refine q_aload_n hx hb hl dT_thread_59 rfl ?_
      refine tg_S C hw 4 l_T_68 (by decide) (by assumption) rfl dT_thread_60 ?_
      exact tr_i hQ C hw hr (Nat.le_of_ble_eq_true rfl) (Nat.le_of_ble_eq_true rfl) dT_thread_63 ⟨t, ht, rfl, ⟨3, by decide, rfl, rfl⟩, rfl⟩
    · refine q_aload_n hx hb hl dT_thread_0 rfl ?_
      refine q_iload_n hx hb hl dT_thread_1 rfl ?_
      refine tc_E (tc_V C hl (c_str l hst D ct ad N hN σ _ t ht _ rfl) hw.1 hw.2.1 hw.2.2 g_T_53 (re_T C hw) hv_T_strandOf rfl rfl ⟨(Nat.le_of_ble_eq_true rfl), (Nat.le_of_ble_eq_true rfl)⟩ (Nat.le_of_ble_eq_true rfl) ⟨(Nat.le_of_ble_eq_true rfl), (Nat.le_of_ble_eq_true rfl)⟩ dT_thread_2 rfl) C hw (fun E ce q9 w1 H locs hp hw h1 h2 h3 => ?_) (fun v w1 H locs hp hw => ?_)
      · exact hp.elim
      obtain ⟨rfl, rfl⟩ := hp
      dsimp only [Option.toList_some, Option.toList_none, List.cons_append, List.nil_append]
      refine q_astore_n hx hb hl dT_thread_5 (by decide) (fun ls hl => ?_)
      refine q_iload_n hx hb hl dT_thread_6 rfl ?_
      refine lv_tableIn (tgt := 64) hx hb dT_thread_7 (by decide) (by decide) rfl (by decide) ?_
      refine q_aload_n hx hb hl dT_thread_64 rfl ?_
      refine tg_S C hw 3 l_T_65 (by decide) (by assumption) rfl dT_thread_65 ?_
      exact tr_i hQ C hw hr (Nat.le_of_ble_eq_true rfl) (Nat.le_of_ble_eq_true rfl) dT_thread_68 ⟨t, ht, rfl, ⟨4, by decide, rfl, rfl⟩, rfl⟩
    · refine q_aload_n hx hb hl dT_thread_0 rfl ?_
      refine q_iload_n hx hb hl dT_thread_1 rfl ?_
      refine tc_E (tc_V C hl (c_str l hst D ct ad N hN σ _ t ht _ rfl) hw.1 hw.2.1 hw.2.2 g_T_53 (re_T C hw) hv_T_strandOf rfl rfl ⟨(Nat.le_of_ble_eq_true rfl), (Nat.le_of_ble_eq_true rfl)⟩ (Nat.le_of_ble_eq_true rfl) ⟨(Nat.le_of_ble_eq_true rfl), (Nat.le_of_ble_eq_true rfl)⟩ dT_thread_2 rfl) C hw (fun E ce q9 w1 H locs hp hw h1 h2 h3 => ?_) (fun v w1 H locs hp hw => ?_)
      · exact hp.elim
      obtain ⟨rfl, rfl⟩ := hp
      dsimp only [Option.toList_some, Option.toList_none, List.cons_append, List.nil_append]
      refine q_astore_n hx hb hl dT_thread_5 (by decide) (fun ls hl => ?_)
      refine q_iload_n hx hb hl dT_thread_6 rfl ?_
      refine lv_tableIn (tgt := 69) hx hb dT_thread_7 (by decide) (by decide) rfl (by decide) ?_
      refine q_aload_n hx hb hl dT_thread_69 rfl ?_
      refine tg_S C hw 8 l_T_129 (by decide) (by assumption) rfl dT_thread_70 ?_
      exact tr_i hQ C hw hr (Nat.le_of_ble_eq_true rfl) (Nat.le_of_ble_eq_true rfl) dT_thread_73 ⟨t, ht, rfl, ⟨5, by decide, rfl, rfl⟩, rfl⟩
    · refine q_aload_n hx hb hl dT_thread_0 rfl ?_
      refine q_iload_n hx hb hl dT_thread_1 rfl ?_
      refine tc_E (tc_V C hl (c_str l hst D ct ad N hN σ _ t ht _ rfl) hw.1 hw.2.1 hw.2.2 g_T_53 (re_T C hw) hv_T_strandOf rfl rfl ⟨(Nat.le_of_ble_eq_true rfl), (Nat.le_of_ble_eq_true rfl)⟩ (Nat.le_of_ble_eq_true rfl) ⟨(Nat.le_of_ble_eq_true rfl), (Nat.le_of_ble_eq_true rfl)⟩ dT_thread_2 rfl) C hw (fun E ce q9 w1 H locs hp hw h1 h2 h3 => ?_) (fun v w1 H locs hp hw => ?_)
      · exact hp.elim
      obtain ⟨rfl, rfl⟩ := hp
      dsimp only [Option.toList_some, Option.toList_none, List.cons_append, List.nil_append]
      refine q_astore_n hx hb hl dT_thread_5 (by decide) (fun ls hl => ?_)
      refine q_iload_n hx hb hl dT_thread_6 rfl ?_
      refine lv_tableOut (tgt := 74) hx hb dT_thread_7 g (by decide) ?_
      exact tt_S (cls := "java/lang/IndexOutOfBoundsException") hQ C hne hw hl x_T_what ⟨dT_thread_74, dT_thread_77, dT_thread_78, dT_thread_80, dT_thread_83⟩ ⟨(Nat.le_of_ble_eq_true rfl), (Nat.le_of_ble_eq_true rfl), (Nat.le_of_ble_eq_true rfl), (Nat.le_of_ble_eq_true rfl), (Nat.le_of_ble_eq_true rfl), (Nat.le_of_ble_eq_true rfl)⟩ ⟨Or.inr ⟨⟨t, ht, rfl⟩, g⟩, rfl, rfl⟩
  · refine q_aload_n hx hb hl dT_thread_0 rfl ?_
    refine q_iload_n hx hb hl dT_thread_1 rfl ?_
    refine tc_E (tc_V C hl (x_str l hst D ct ad N hN σ _ p0 h) hw.1 hw.2.1 hw.2.2 g_T_53 (re_T C hw) hv_T_strandOf rfl rfl ⟨(Nat.le_of_ble_eq_true rfl), (Nat.le_of_ble_eq_true rfl)⟩ (Nat.le_of_ble_eq_true rfl) ⟨(Nat.le_of_ble_eq_true rfl), (Nat.le_of_ble_eq_true rfl)⟩ dT_thread_2 rfl) C hw (fun E ce q9 w1 H locs hp hw h1 h2 h3 => ?_) (fun v w1 H locs hp hw => ?_)
    · obtain ⟨rfl, rfl⟩ := hp
      exact tr_x hQ C hne hw (Nat.le_of_ble_eq_true rfl) (Nat.le_of_ble_eq_true rfl) ⟨Or.inl h, rfl, rfl⟩ h1 h2 h3
    · exact hp.elim
set_option maxHeartbeats 4000000 in
set_option maxRecDepth 100000 in
theorem c_shr (l : Launch) (hst : l.stackTraces = false) (D : va_G) (ct : Ct) (ad : Ad) (N : Nat) (hN : N ≤ 16) (σ : St) (sz : Nat) (p0 p1 : Int32) : Kt l yT_share cT_share 5 (some .int) (r1 8) 1 6 D ct [.ref (ad 0 0), .int p0, .int p1] sz (wT ct ad N σ) (fun v w => ∃ t, t < N ∧ p0 = nI t ∧ (∃ u, u < 2 ∧ p1 = nI u ∧ v = some (.int (tf_shA σ t (nI u)))) ∧ w = wT ct ad N σ) (fun E w => ((p0 < 0 ∨ ¬ p0 < nI N) ∨ (∃ t, t < N ∧ p0 = nI t) ∧ (p1 < 0 ∨ ¬ p1 < nI 2)) ∧ E = "java/lang/IndexOutOfBoundsException" ∧ w = wT ct ad N σ) := by
  refine kt_of hst (by decide) (Nat.le_of_ble_eq_true rfl) (by simp [Value.category]) ?_
  intro p e s m args below meth c A ls C hne hr hw hl Q hQ
  have hx := C.1
  have hb := C.2.1
  rcases ixc p0 N (by omega) with ⟨t, ht, rfl⟩ | h
  · rcases ixc p1 2 (by omega) with ⟨u, hu, rfl⟩ | g
    · refine q_aload_n hx hb hl dT_share_0 rfl ?_
      refine q_iload_n hx hb hl dT_share_1 rfl ?_
      refine tc_E (tc_V C hl (c_str l hst D ct ad N hN σ _ t ht _ rfl) hw.1 hw.2.1 hw.2.2 g_T_53 (re_T C hw) hv_T_strandOf rfl rfl ⟨(Nat.le_of_ble_eq_true rfl), (Nat.le_of_ble_eq_true rfl)⟩ (Nat.le_of_ble_eq_true rfl) ⟨(Nat.le_of_ble_eq_true rfl), (Nat.le_of_ble_eq_true rfl)⟩ dT_share_2 rfl) C hw (fun E ce q9 w1 H locs hp hw h1 h2 h3 => ?_) (fun v w1 H locs hp hw => ?_)
      · exact hp.elim
      obtain ⟨rfl, rfl⟩ := hp
      dsimp only [Option.toList_some, Option.toList_none, List.cons_append, List.nil_append]
      refine q_astore_n hx hb hl dT_share_5 (by decide) (fun ls hl => ?_)
      refine q_iload_n hx hb hl dT_share_6 rfl ?_
      refine lv_iconst (v := 2) hx hb dT_share_7 (by decide) ?_
      refine tc_E (tc_S C hl (c_cidx l hst D ct (wT ct ad N σ) _ (nI u) (nI 2) (nI_pos (by omega)) (nI_lt (by omega) (by omega))) hw.1 hw.2.1 hw.2.2 g_T_79 hd_T_checkIndex rfl rfl ⟨(Nat.le_of_ble_eq_true rfl), (Nat.le_of_ble_eq_true rfl)⟩ (Nat.le_of_ble_eq_true rfl) ⟨(Nat.le_of_ble_eq_true rfl), (Nat.le_of_ble_eq_true rfl)⟩ dT_share_8 rfl) C hw (fun E ce q9 w1 H locs hp hw h1 h2 h3 => ?_) (fun v w1 H locs hp hw => ?_)
      · exact hp.elim
      obtain ⟨rfl, rfl⟩ := hp
      dsimp only [Option.toList_some, Option.toList_none, List.cons_append, List.nil_append]
      refine q_aload_n hx hb hl dT_share_11 rfl ?_
      refine tg_S C hw 7 l_T_126 (by decide) (by assumption) rfl dT_share_12 ?_
      refine q_aload_n hx hb hl dT_share_15 rfl ?_
      refine tg_T C hw 10 l_T_137 (by decide) rfl dT_share_16 ?_
      refine tc_E (tc_S C hl (c_gcd l hst D ct (wT ct ad N σ) _ (σ 1 t 6) (σ 0 0 8)) hw.1 hw.2.1 hw.2.2 g_T_138 hd_T_greatestDivisor rfl rfl ⟨(Nat.le_of_ble_eq_true rfl), (Nat.le_of_ble_eq_true rfl)⟩ (Nat.le_of_ble_eq_true rfl) ⟨(Nat.le_of_ble_eq_true rfl), (Nat.le_of_ble_eq_true rfl)⟩ dT_share_19 rfl) C hw (fun E ce q9 w1 H locs hp hw h1 h2 h3 => ?_) (fun v w1 H locs hp hw => ?_)
      · exact hp.elim
      obtain ⟨rfl, rfl⟩ := hp
      dsimp only [Option.toList_some, Option.toList_none, List.cons_append, List.nil_append]
      refine q_istore hx hb hl dT_share_22 (by decide) (fun ls hl => ?_)
      refine q_iload hx hb hl dT_share_24 rfl ?_
      refine lv_if_ne (tgt := 39) hx hb dT_share_26 (by decide) (fun c_26 => ?_) (fun c_26 => ?_)
      · refine q_iload_n hx hb hl dT_share_39 rfl ?_
        refine lv_if_ne (tgt := 50) hx hb dT_share_40 (by decide) (fun c_40 => ?_) (fun c_40 => ?_)
        · refine q_aload_n hx hb hl dT_share_50 rfl ?_
          refine tg_T C hw 10 l_T_137 (by decide) rfl dT_share_51 ?_
          refine q_iload hx hb hl dT_share_54 rfl ?_
          refine lv_idiv hx hb dT_share_56 c_26 ?_
          exact tr_i hQ C hw hr (Nat.le_of_ble_eq_true rfl) (Nat.le_of_ble_eq_true rfl) dT_share_57 ⟨t, ht, rfl, ⟨u, hu, rfl, by simp only [tf_shA, if_neg c_26, if_neg c_40]⟩, rfl⟩
        refine q_aload_n hx hb hl dT_share_43 rfl ?_
        refine tg_S C hw 7 l_T_126 (by decide) (by assumption) rfl dT_share_44 ?_
        refine lv_goto (tgt := 54) hx hb dT_share_47 (by decide) ?_
        refine q_iload hx hb hl dT_share_54 rfl ?_
        refine lv_idiv hx hb dT_share_56 c_26 ?_
        exact tr_i hQ C hw hr (Nat.le_of_ble_eq_true rfl) (Nat.le_of_ble_eq_true rfl) dT_share_57 ⟨t, ht, rfl, ⟨u, hu, rfl, by simp only [tf_shA, if_neg c_26, if_pos c_40]⟩, rfl⟩
      refine q_iload_n hx hb hl dT_share_29 rfl ?_
      refine lv_if_ne (tgt := 37) hx hb dT_share_30 (by decide) (fun c_30 => ?_) (fun c_30 => ?_)
      · refine lv_iconst (v := 1) hx hb dT_share_37 (by decide) ?_
        exact tr_i hQ C hw hr (Nat.le_of_ble_eq_true rfl) (Nat.le_of_ble_eq_true rfl) dT_share_38 ⟨t, ht, rfl, ⟨u, hu, rfl, by simp only [tf_shA, if_pos c_26, if_neg c_30]⟩, rfl⟩
      refine lv_iconst (v := 0) hx hb dT_share_33 (by decide) ?_
      refine lv_goto (tgt := 38) hx hb dT_share_34 (by decide) ?_
      exact tr_i hQ C hw hr (Nat.le_of_ble_eq_true rfl) (Nat.le_of_ble_eq_true rfl) dT_share_38 ⟨t, ht, rfl, ⟨u, hu, rfl, by simp only [tf_shA, if_pos c_26, if_pos c_30]⟩, rfl⟩
    · refine q_aload_n hx hb hl dT_share_0 rfl ?_
      refine q_iload_n hx hb hl dT_share_1 rfl ?_
      refine tc_E (tc_V C hl (c_str l hst D ct ad N hN σ _ t ht _ rfl) hw.1 hw.2.1 hw.2.2 g_T_53 (re_T C hw) hv_T_strandOf rfl rfl ⟨(Nat.le_of_ble_eq_true rfl), (Nat.le_of_ble_eq_true rfl)⟩ (Nat.le_of_ble_eq_true rfl) ⟨(Nat.le_of_ble_eq_true rfl), (Nat.le_of_ble_eq_true rfl)⟩ dT_share_2 rfl) C hw (fun E ce q9 w1 H locs hp hw h1 h2 h3 => ?_) (fun v w1 H locs hp hw => ?_)
      · exact hp.elim
      obtain ⟨rfl, rfl⟩ := hp
      dsimp only [Option.toList_some, Option.toList_none, List.cons_append, List.nil_append]
      refine q_astore_n hx hb hl dT_share_5 (by decide) (fun ls hl => ?_)
      refine q_iload_n hx hb hl dT_share_6 rfl ?_
      refine lv_iconst (v := 2) hx hb dT_share_7 (by decide) ?_
      refine tc_E (tc_S C hl (x_cidx l hst D ct (wT ct ad N σ) _ p1 (nI 2) g) hw.1 hw.2.1 hw.2.2 g_T_79 hd_T_checkIndex rfl rfl ⟨(Nat.le_of_ble_eq_true rfl), (Nat.le_of_ble_eq_true rfl)⟩ (Nat.le_of_ble_eq_true rfl) ⟨(Nat.le_of_ble_eq_true rfl), (Nat.le_of_ble_eq_true rfl)⟩ dT_share_8 rfl) C hw (fun E ce q9 w1 H locs hp hw h1 h2 h3 => ?_) (fun v w1 H locs hp hw => ?_)
      · obtain ⟨rfl, rfl⟩ := hp
        exact tr_x hQ C hne hw (Nat.le_of_ble_eq_true rfl) (Nat.le_of_ble_eq_true rfl) ⟨Or.inr ⟨⟨t, ht, rfl⟩, g⟩, rfl, rfl⟩ h1 h2 h3
      · exact hp.elim
  · refine q_aload_n hx hb hl dT_share_0 rfl ?_
    refine q_iload_n hx hb hl dT_share_1 rfl ?_
    refine tc_E (tc_V C hl (x_str l hst D ct ad N hN σ _ p0 h) hw.1 hw.2.1 hw.2.2 g_T_53 (re_T C hw) hv_T_strandOf rfl rfl ⟨(Nat.le_of_ble_eq_true rfl), (Nat.le_of_ble_eq_true rfl)⟩ (Nat.le_of_ble_eq_true rfl) ⟨(Nat.le_of_ble_eq_true rfl), (Nat.le_of_ble_eq_true rfl)⟩ dT_share_2 rfl) C hw (fun E ce q9 w1 H locs hp hw h1 h2 h3 => ?_) (fun v w1 H locs hp hw => ?_)
    · obtain ⟨rfl, rfl⟩ := hp
      exact tr_x hQ C hne hw (Nat.le_of_ble_eq_true rfl) (Nat.le_of_ble_eq_true rfl) ⟨Or.inl h, rfl, rfl⟩ h1 h2 h3
    · exact hp.elim
set_option maxHeartbeats 4000000 in
set_option maxRecDepth 100000 in
theorem c_cnt (l : Launch) (hst : l.stackTraces = false) (D : va_G) (ct : Ct) (ad : Ad) (N : Nat) (hN : N ≤ 16) (σ : St) (sz : Nat) (p0 : Int32) : Kt l yT_count cT_count 2 (some .int) (r0 2) 0 0 D ct [.ref (ad 0 0), .int p0] sz (wT ct ad N σ) (fun v w => v = some (.int (tf_cntA N σ p0)) ∧ w = wT ct ad N σ) (fun E w => False) := by
  refine kt_of hst (by decide) (Nat.le_of_ble_eq_true rfl) (by simp [Value.category]) ?_
  intro p e s m args below meth c A ls C hne hr hw hl Q hQ
  have hx := C.1
  have hb := C.2.1
  rcases sw8 p0 with rfl | rfl | rfl | rfl | rfl | rfl | rfl | rfl | ⟨g, g9⟩
  · refine q_iload_n hx hb hl dT_count_0 rfl ?_
    refine lv_tableIn (tgt := 48) hx hb dT_count_1 (by decide) (by decide) rfl (by decide) ?_
    refine q_aload_n hx hb hl dT_count_48 rfl ?_
    refine tg_T C hw 9 l_T_141 (by decide) rfl dT_count_49 ?_
    exact tr_i hQ C hw hr (Nat.le_of_ble_eq_true rfl) (Nat.le_of_ble_eq_true rfl) dT_count_52 ⟨rfl, rfl⟩
  · refine q_iload_n hx hb hl dT_count_0 rfl ?_
    refine lv_tableIn (tgt := 53) hx hb dT_count_1 (by decide) (by decide) rfl (by decide) ?_
    refine q_aload_n hx hb hl dT_count_53 rfl ?_
    refine tg_T C hw 10 l_T_137 (by decide) rfl dT_count_54 ?_
    exact tr_i hQ C hw hr (Nat.le_of_ble_eq_true rfl) (Nat.le_of_ble_eq_true rfl) dT_count_57 ⟨rfl, rfl⟩
  · refine q_iload_n hx hb hl dT_count_0 rfl ?_
    refine lv_tableIn (tgt := 58) hx hb dT_count_1 (by decide) (by decide) rfl (by decide) ?_
    refine q_aload_n hx hb hl dT_count_58 rfl ?_
    refine tg_T C hw 11 l_T_144 (by decide) rfl dT_count_59 ?_
    exact tr_i hQ C hw hr (Nat.le_of_ble_eq_true rfl) (Nat.le_of_ble_eq_true rfl) dT_count_62 ⟨rfl, rfl⟩
  · refine q_iload_n hx hb hl dT_count_0 rfl ?_
    refine lv_tableIn (tgt := 63) hx hb dT_count_1 (by decide) (by decide) rfl (by decide) ?_
    refine q_aload_n hx hb hl dT_count_63 rfl ?_
    refine tg_T C hw 12 l_T_147 (by decide) rfl dT_count_64 ?_
    exact tr_i hQ C hw hr (Nat.le_of_ble_eq_true rfl) (Nat.le_of_ble_eq_true rfl) dT_count_67 ⟨rfl, rfl⟩
  · refine q_iload_n hx hb hl dT_count_0 rfl ?_
    refine lv_tableIn (tgt := 68) hx hb dT_count_1 (by decide) (by decide) rfl (by decide) ?_
    refine q_aload_n hx hb hl dT_count_68 rfl ?_
    refine tg_T C hw 0 l_T_24 (by decide) rfl dT_count_69 ?_
    refine ta_lenS C hw dT_count_72 ?_
    exact tr_i hQ C hw hr (Nat.le_of_ble_eq_true rfl) (Nat.le_of_ble_eq_true rfl) dT_count_73 ⟨rfl, rfl⟩
  · refine q_iload_n hx hb hl dT_count_0 rfl ?_
    refine lv_tableIn (tgt := 74) hx hb dT_count_1 (by decide) (by decide) rfl (by decide) ?_
    refine q_aload_n hx hb hl dT_count_74 rfl ?_
    refine tg_T C hw 6 l_T_9 (by decide) rfl dT_count_75 ?_
    exact tr_i hQ C hw hr (Nat.le_of_ble_eq_true rfl) (Nat.le_of_ble_eq_true rfl) dT_count_78 ⟨rfl, rfl⟩
  · refine q_iload_n hx hb hl dT_count_0 rfl ?_
    refine lv_tableIn (tgt := 79) hx hb dT_count_1 (by decide) (by decide) rfl (by decide) ?_
    refine q_aload_n hx hb hl dT_count_79 rfl ?_
    refine tg_T C hw 7 l_T_13 (by decide) rfl dT_count_80 ?_
    exact tr_i hQ C hw hr (Nat.le_of_ble_eq_true rfl) (Nat.le_of_ble_eq_true rfl) dT_count_83 ⟨rfl, rfl⟩
  · refine q_iload_n hx hb hl dT_count_0 rfl ?_
    refine lv_tableIn (tgt := 84) hx hb dT_count_1 (by decide) (by decide) rfl (by decide) ?_
    refine q_aload_n hx hb hl dT_count_84 rfl ?_
    refine tc_E (tc_V C hl (c_all l hst D ct ad N hN σ _) hw.1 hw.2.1 hw.2.2 g_T_150 (re_T C hw) hv_T_entriesInAll rfl rfl ⟨(Nat.le_of_ble_eq_true rfl), (Nat.le_of_ble_eq_true rfl)⟩ (Nat.le_of_ble_eq_true rfl) ⟨(Nat.le_of_ble_eq_true rfl), (Nat.le_of_ble_eq_true rfl)⟩ dT_count_85 rfl) C hw (fun E ce q9 w1 H locs hp hw h1 h2 h3 => ?_) (fun v w1 H locs hp hw => ?_)
    · exact hp.elim
    obtain ⟨rfl, rfl⟩ := hp
    dsimp only [Option.toList_some, Option.toList_none, List.cons_append, List.nil_append]
    exact tr_i hQ C hw hr (Nat.le_of_ble_eq_true rfl) (Nat.le_of_ble_eq_true rfl) dT_count_88 ⟨rfl, rfl⟩
  · refine q_iload_n hx hb hl dT_count_0 rfl ?_
    refine lv_tableOut (tgt := 89) hx hb dT_count_1 g9 (by decide) ?_
    refine lv_iconst (v := -1) hx hb dT_count_89 (by decide) ?_
    exact tr_i hQ C hw hr (Nat.le_of_ble_eq_true rfl) (Nat.le_of_ble_eq_true rfl) dT_count_90 ⟨by rw [tf_cntA, if_neg g.1, if_neg g.2.1, if_neg g.2.2.1, if_neg g.2.2.2.1, if_neg g.2.2.2.2.1, if_neg g.2.2.2.2.2.1, if_neg g.2.2.2.2.2.2.1, if_neg g.2.2.2.2.2.2.2], rfl⟩
end
section
abbrev cM_init : ByteArray := prog_5_method_1_code
def yM_init : MethodName := ⟨"ThreadSlotsModel", "<init>", "(II)V"⟩
theorem dM_init_0 : decode cM_init 0 = .ok (.aload_n 0, 1) := by decide +kernel
theorem dM_init_1 : decode cM_init 1 = .ok (.invokespecial 1, 3) := by decide +kernel
theorem dM_init_4 : decode cM_init 4 = .ok (.aload_n 0, 1) := by decide +kernel
theorem dM_init_5 : decode cM_init 5 = .ok (.iconst (-1), 1) := by decide +kernel
theorem dM_init_6 : decode cM_init 6 = .ok (.putfield 7, 3) := by decide +kernel
theorem dM_init_9 : decode cM_init 9 = .ok (.aload_n 0, 1) := by decide +kernel
theorem dM_init_10 : decode cM_init 10 = .ok (.iconst (-1), 1) := by decide +kernel
theorem dM_init_11 : decode cM_init 11 = .ok (.putfield 13, 3) := by decide +kernel
theorem dM_init_14 : decode cM_init 14 = .ok (.aload_n 0, 1) := by decide +kernel
theorem dM_init_15 : decode cM_init 15 = .ok (.bipush 16, 2) := by decide +kernel
theorem dM_init_17 : decode cM_init 17 = .ok (.newarray .boolean, 2) := by decide +kernel
theorem dM_init_19 : decode cM_init 19 = .ok (.putfield 16, 3) := by decide +kernel
theorem dM_init_22 : decode cM_init 22 = .ok (.aload_n 0, 1) := by decide +kernel
theorem dM_init_23 : decode cM_init 23 = .ok (.bipush 16, 2) := by decide +kernel
theorem dM_init_25 : decode cM_init 25 = .ok (.newarray .int, 2) := by decide +kernel
theorem dM_init_27 : decode cM_init 27 = .ok (.putfield 20, 3) := by decide +kernel
theorem dM_init_30 : decode cM_init 30 = .ok (.aload_n 0, 1) := by decide +kernel
theorem dM_init_31 : decode cM_init 31 = .ok (.bipush 16, 2) := by decide +kernel
theorem dM_init_33 : decode cM_init 33 = .ok (.newarray .int, 2) := by decide +kernel
theorem dM_init_35 : decode cM_init 35 = .ok (.putfield 24, 3) := by decide +kernel
theorem dM_init_38 : decode cM_init 38 = .ok (.aload_n 0, 1) := by decide +kernel
theorem dM_init_39 : decode cM_init 39 = .ok (.bipush 16, 2) := by decide +kernel
theorem dM_init_41 : decode cM_init 41 = .ok (.newarray .int, 2) := by decide +kernel
theorem dM_init_43 : decode cM_init 43 = .ok (.putfield 27, 3) := by decide +kernel
theorem dM_init_46 : decode cM_init 46 = .ok (.aload_n 0, 1) := by decide +kernel
theorem dM_init_47 : decode cM_init 47 = .ok (.bipush 16, 2) := by decide +kernel
theorem dM_init_49 : decode cM_init 49 = .ok (.newarray .int, 2) := by decide +kernel
theorem dM_init_51 : decode cM_init 51 = .ok (.putfield 30, 3) := by decide +kernel
theorem dM_init_54 : decode cM_init 54 = .ok (.aload_n 0, 1) := by decide +kernel
theorem dM_init_55 : decode cM_init 55 = .ok (.bipush 16, 2) := by decide +kernel
theorem dM_init_57 : decode cM_init 57 = .ok (.newarray .int, 2) := by decide +kernel
theorem dM_init_59 : decode cM_init 59 = .ok (.putfield 33, 3) := by decide +kernel
theorem dM_init_62 : decode cM_init 62 = .ok (.aload_n 0, 1) := by decide +kernel
theorem dM_init_63 : decode cM_init 63 = .ok (.bipush 16, 2) := by decide +kernel
theorem dM_init_65 : decode cM_init 65 = .ok (.newarray .int, 2) := by decide +kernel
theorem dM_init_67 : decode cM_init 67 = .ok (.putfield 36, 3) := by decide +kernel
theorem dM_init_70 : decode cM_init 70 = .ok (.aload_n 0, 1) := by decide +kernel
theorem dM_init_71 : decode cM_init 71 = .ok (.bipush 16, 2) := by decide +kernel
theorem dM_init_73 : decode cM_init 73 = .ok (.newarray .int, 2) := by decide +kernel
theorem dM_init_75 : decode cM_init 75 = .ok (.putfield 39, 3) := by decide +kernel
theorem dM_init_78 : decode cM_init 78 = .ok (.aload_n 0, 1) := by decide +kernel
theorem dM_init_79 : decode cM_init 79 = .ok (.sipush 256, 3) := by decide +kernel
theorem dM_init_82 : decode cM_init 82 = .ok (.newarray .int, 2) := by decide +kernel
theorem dM_init_84 : decode cM_init 84 = .ok (.putfield 42, 3) := by decide +kernel
theorem dM_init_87 : decode cM_init 87 = .ok (.aload_n 0, 1) := by decide +kernel
theorem dM_init_88 : decode cM_init 88 = .ok (.bipush 8, 2) := by decide +kernel
theorem dM_init_90 : decode cM_init 90 = .ok (.newarray .int, 2) := by decide +kernel
theorem dM_init_92 : decode cM_init 92 = .ok (.putfield 45, 3) := by decide +kernel
theorem dM_init_95 : decode cM_init 95 = .ok (.aload_n 0, 1) := by decide +kernel
theorem dM_init_96 : decode cM_init 96 = .ok (.sipush 256, 3) := by decide +kernel
theorem dM_init_99 : decode cM_init 99 = .ok (.newarray .int, 2) := by decide +kernel
theorem dM_init_101 : decode cM_init 101 = .ok (.putfield 48, 3) := by decide +kernel
theorem dM_init_104 : decode cM_init 104 = .ok (.aload_n 0, 1) := by decide +kernel
theorem dM_init_105 : decode cM_init 105 = .ok (.sipush 256, 3) := by decide +kernel
theorem dM_init_108 : decode cM_init 108 = .ok (.newarray .int, 2) := by decide +kernel
theorem dM_init_110 : decode cM_init 110 = .ok (.putfield 51, 3) := by decide +kernel
theorem dM_init_113 : decode cM_init 113 = .ok (.aload_n 0, 1) := by decide +kernel
theorem dM_init_114 : decode cM_init 114 = .ok (.sipush 128, 3) := by decide +kernel
theorem dM_init_117 : decode cM_init 117 = .ok (.newarray .int, 2) := by decide +kernel
theorem dM_init_119 : decode cM_init 119 = .ok (.putfield 54, 3) := by decide +kernel
theorem dM_init_122 : decode cM_init 122 = .ok (.aload_n 0, 1) := by decide +kernel
theorem dM_init_123 : decode cM_init 123 = .ok (.iconst 1, 1) := by decide +kernel
theorem dM_init_124 : decode cM_init 124 = .ok (.iload_n 1, 1) := by decide +kernel
theorem dM_init_125 : decode cM_init 125 = .ok (.iconst 1, 1) := by decide +kernel
theorem dM_init_126 : decode cM_init 126 = .ok (.isub, 1) := by decide +kernel
theorem dM_init_127 : decode cM_init 127 = .ok (.bipush 16, 2) := by decide +kernel
theorem dM_init_129 : decode cM_init 129 = .ok (.irem, 1) := by decide +kernel
theorem dM_init_130 : decode cM_init 130 = .ok (.bipush 16, 2) := by decide +kernel
theorem dM_init_132 : decode cM_init 132 = .ok (.iadd, 1) := by decide +kernel
theorem dM_init_133 : decode cM_init 133 = .ok (.bipush 16, 2) := by decide +kernel
theorem dM_init_135 : decode cM_init 135 = .ok (.irem, 1) := by decide +kernel
theorem dM_init_136 : decode cM_init 136 = .ok (.iadd, 1) := by decide +kernel
theorem dM_init_137 : decode cM_init 137 = .ok (.putfield 57, 3) := by decide +kernel
theorem dM_init_140 : decode cM_init 140 = .ok (.aload_n 0, 1) := by decide +kernel
theorem dM_init_141 : decode cM_init 141 = .ok (.iload_n 2, 1) := by decide +kernel
theorem dM_init_142 : decode cM_init 142 = .ok (.ldc 60, 2) := by decide +kernel
theorem dM_init_144 : decode cM_init 144 = .ok (.iand, 1) := by decide +kernel
theorem dM_init_145 : decode cM_init 145 = .ok (.putfield 61, 3) := by decide +kernel
theorem dM_init_148 : decode cM_init 148 = .ok (.iconst 0, 1) := by decide +kernel
theorem dM_init_149 : decode cM_init 149 = .ok (.istore_n 3, 1) := by decide +kernel
theorem dM_init_150 : decode cM_init 150 = .ok (.iload_n 3, 1) := by decide +kernel
theorem dM_init_151 : decode cM_init 151 = .ok (.sipush 128, 3) := by decide +kernel
theorem dM_init_154 : decode cM_init 154 = .ok (.if_icmp .ge 17, 3) := by decide +kernel
theorem dM_init_157 : decode cM_init 157 = .ok (.aload_n 0, 1) := by decide +kernel
theorem dM_init_158 : decode cM_init 158 = .ok (.getfield 54, 3) := by decide +kernel
theorem dM_init_161 : decode cM_init 161 = .ok (.iload_n 3, 1) := by decide +kernel
theorem dM_init_162 : decode cM_init 162 = .ok (.bipush 32, 2) := by decide +kernel
theorem dM_init_164 : decode cM_init 164 = .ok (.iastore, 1) := by decide +kernel
theorem dM_init_165 : decode cM_init 165 = .ok (.iinc 3 1, 3) := by decide +kernel
theorem dM_init_168 : decode cM_init 168 = .ok (.goto (-18), 3) := by decide +kernel
theorem dM_init_171 : decode cM_init 171 = .ok (.return_, 1) := by decide +kernel
abbrev cM_thrown : ByteArray := prog_5_method_2_code
def yM_thrown : MethodName := ⟨"ThreadSlotsModel", "thrown", "()I"⟩
theorem dM_thrown_0 : decode cM_thrown 0 = .ok (.aload_n 0, 1) := by decide +kernel
theorem dM_thrown_1 : decode cM_thrown 1 = .ok (.getfield 64, 3) := by decide +kernel
theorem dM_thrown_4 : decode cM_thrown 4 = .ok (.ireturn, 1) := by decide +kernel
abbrev cM_fail : ByteArray := prog_5_method_3_code
def yM_fail : MethodName := ⟨"ThreadSlotsModel", "fail", "(I)I"⟩
theorem dM_fail_0 : decode cM_fail 0 = .ok (.aload_n 0, 1) := by decide +kernel
theorem dM_fail_1 : decode cM_fail 1 = .ok (.iload_n 1, 1) := by decide +kernel
theorem dM_fail_2 : decode cM_fail 2 = .ok (.putfield 64, 3) := by decide +kernel
theorem dM_fail_5 : decode cM_fail 5 = .ok (.iconst 0, 1) := by decide +kernel
theorem dM_fail_6 : decode cM_fail 6 = .ok (.ireturn, 1) := by decide +kernel
abbrev cM_within : ByteArray := prog_5_method_4_code
def yM_within : MethodName := ⟨"ThreadSlotsModel", "within", "(III)Z"⟩
theorem dM_within_0 : decode cM_within 0 = .ok (.iload_n 0, 1) := by decide +kernel
theorem dM_within_1 : decode cM_within 1 = .ok (.iload_n 1, 1) := by decide +kernel
theorem dM_within_2 : decode cM_within 2 = .ok (.if_icmp .lt 12, 3) := by decide +kernel
theorem dM_within_5 : decode cM_within 5 = .ok (.iload_n 0, 1) := by decide +kernel
theorem dM_within_6 : decode cM_within 6 = .ok (.iload_n 2, 1) := by decide +kernel
theorem dM_within_7 : decode cM_within 7 = .ok (.if_icmp .gt 7, 3) := by decide +kernel
theorem dM_within_10 : decode cM_within 10 = .ok (.iconst 1, 1) := by decide +kernel
theorem dM_within_11 : decode cM_within 11 = .ok (.goto 4, 3) := by decide +kernel
theorem dM_within_14 : decode cM_within 14 = .ok (.iconst 0, 1) := by decide +kernel
theorem dM_within_15 : decode cM_within 15 = .ok (.ireturn, 1) := by decide +kernel
abbrev cM_isThread : ByteArray := prog_5_method_5_code
def yM_isThread : MethodName := ⟨"ThreadSlotsModel", "isThread", "(I)Z"⟩
theorem dM_isThread_0 : decode cM_isThread 0 = .ok (.aload_n 0, 1) := by decide +kernel
theorem dM_isThread_1 : decode cM_isThread 1 = .ok (.iload_n 1, 1) := by decide +kernel
theorem dM_isThread_2 : decode cM_isThread 2 = .ok (.iconst 0, 1) := by decide +kernel
theorem dM_isThread_3 : decode cM_isThread 3 = .ok (.aload_n 0, 1) := by decide +kernel
theorem dM_isThread_4 : decode cM_isThread 4 = .ok (.getfield 57, 3) := by decide +kernel
theorem dM_isThread_7 : decode cM_isThread 7 = .ok (.iconst 1, 1) := by decide +kernel
theorem dM_isThread_8 : decode cM_isThread 8 = .ok (.isub, 1) := by decide +kernel
theorem dM_isThread_9 : decode cM_isThread 9 = .ok (.invokestatic 67, 3) := by decide +kernel
theorem dM_isThread_12 : decode cM_isThread 12 = .ok (.ifCond .eq 7, 3) := by decide +kernel
theorem dM_isThread_15 : decode cM_isThread 15 = .ok (.iconst 0, 1) := by decide +kernel
theorem dM_isThread_16 : decode cM_isThread 16 = .ok (.goto 4, 3) := by decide +kernel
theorem dM_isThread_19 : decode cM_isThread 19 = .ok (.iconst 1, 1) := by decide +kernel
theorem dM_isThread_20 : decode cM_isThread 20 = .ok (.putfield 64, 3) := by decide +kernel
theorem dM_isThread_23 : decode cM_isThread 23 = .ok (.aload_n 0, 1) := by decide +kernel
theorem dM_isThread_24 : decode cM_isThread 24 = .ok (.getfield 64, 3) := by decide +kernel
theorem dM_isThread_27 : decode cM_isThread 27 = .ok (.ifCond .ne 7, 3) := by decide +kernel
theorem dM_isThread_30 : decode cM_isThread 30 = .ok (.iconst 1, 1) := by decide +kernel
theorem dM_isThread_31 : decode cM_isThread 31 = .ok (.goto 4, 3) := by decide +kernel
theorem dM_isThread_34 : decode cM_isThread 34 = .ok (.iconst 0, 1) := by decide +kernel
theorem dM_isThread_35 : decode cM_isThread 35 = .ok (.ireturn, 1) := by decide +kernel
abbrev cM_rule : ByteArray := prog_5_method_6_code
def yM_rule : MethodName := ⟨"ThreadSlotsModel", "rule", "(I)I"⟩
theorem dM_rule_0 : decode cM_rule 0 = .ok (.aload_n 0, 1) := by decide +kernel
theorem dM_rule_1 : decode cM_rule 1 = .ok (.iconst 0, 1) := by decide +kernel
theorem dM_rule_2 : decode cM_rule 2 = .ok (.putfield 64, 3) := by decide +kernel
theorem dM_rule_5 : decode cM_rule 5 = .ok (.iload_n 1, 1) := by decide +kernel
theorem dM_rule_6 : decode cM_rule 6 = .ok (.iconst 0, 1) := by decide +kernel
theorem dM_rule_7 : decode cM_rule 7 = .ok (.iconst 3, 1) := by decide +kernel
theorem dM_rule_8 : decode cM_rule 8 = .ok (.invokestatic 67, 3) := by decide +kernel
theorem dM_rule_11 : decode cM_rule 11 = .ok (.ifCond .ne 9, 3) := by decide +kernel
theorem dM_rule_14 : decode cM_rule 14 = .ok (.aload_n 0, 1) := by decide +kernel
theorem dM_rule_15 : decode cM_rule 15 = .ok (.iconst 1, 1) := by decide +kernel
theorem dM_rule_16 : decode cM_rule 16 = .ok (.invokevirtual 71, 3) := by decide +kernel
theorem dM_rule_19 : decode cM_rule 19 = .ok (.ireturn, 1) := by decide +kernel
theorem dM_rule_20 : decode cM_rule 20 = .ok (.aload_n 0, 1) := by decide +kernel
theorem dM_rule_21 : decode cM_rule 21 = .ok (.getfield 75, 3) := by decide +kernel
theorem dM_rule_24 : decode cM_rule 24 = .ok (.istore_n 2, 1) := by decide +kernel
theorem dM_rule_25 : decode cM_rule 25 = .ok (.aload_n 0, 1) := by decide +kernel
theorem dM_rule_26 : decode cM_rule 26 = .ok (.iload_n 1, 1) := by decide +kernel
theorem dM_rule_27 : decode cM_rule 27 = .ok (.putfield 75, 3) := by decide +kernel
theorem dM_rule_30 : decode cM_rule 30 = .ok (.iload_n 2, 1) := by decide +kernel
theorem dM_rule_31 : decode cM_rule 31 = .ok (.ireturn, 1) := by decide +kernel
abbrev cM_bound : ByteArray := prog_5_method_7_code
def yM_bound : MethodName := ⟨"ThreadSlotsModel", "bound", "(I)I"⟩
theorem dM_bound_0 : decode cM_bound 0 = .ok (.aload_n 0, 1) := by decide +kernel
theorem dM_bound_1 : decode cM_bound 1 = .ok (.iconst 0, 1) := by decide +kernel
theorem dM_bound_2 : decode cM_bound 2 = .ok (.putfield 64, 3) := by decide +kernel
theorem dM_bound_5 : decode cM_bound 5 = .ok (.iload_n 1, 1) := by decide +kernel
theorem dM_bound_6 : decode cM_bound 6 = .ok (.iconst 0, 1) := by decide +kernel
theorem dM_bound_7 : decode cM_bound 7 = .ok (.sipush 1000, 3) := by decide +kernel
theorem dM_bound_10 : decode cM_bound 10 = .ok (.invokestatic 67, 3) := by decide +kernel
theorem dM_bound_13 : decode cM_bound 13 = .ok (.ifCond .ne 9, 3) := by decide +kernel
theorem dM_bound_16 : decode cM_bound 16 = .ok (.aload_n 0, 1) := by decide +kernel
theorem dM_bound_17 : decode cM_bound 17 = .ok (.iconst 1, 1) := by decide +kernel
theorem dM_bound_18 : decode cM_bound 18 = .ok (.invokevirtual 71, 3) := by decide +kernel
theorem dM_bound_21 : decode cM_bound 21 = .ok (.ireturn, 1) := by decide +kernel
theorem dM_bound_22 : decode cM_bound 22 = .ok (.aload_n 0, 1) := by decide +kernel
theorem dM_bound_23 : decode cM_bound 23 = .ok (.getfield 78, 3) := by decide +kernel
theorem dM_bound_26 : decode cM_bound 26 = .ok (.istore_n 2, 1) := by decide +kernel
theorem dM_bound_27 : decode cM_bound 27 = .ok (.aload_n 0, 1) := by decide +kernel
theorem dM_bound_28 : decode cM_bound 28 = .ok (.iload_n 1, 1) := by decide +kernel
theorem dM_bound_29 : decode cM_bound 29 = .ok (.putfield 78, 3) := by decide +kernel
theorem dM_bound_32 : decode cM_bound 32 = .ok (.iload_n 2, 1) := by decide +kernel
theorem dM_bound_33 : decode cM_bound 33 = .ok (.ireturn, 1) := by decide +kernel
abbrev cM_cost : ByteArray := prog_5_method_8_code
def yM_cost : MethodName := ⟨"ThreadSlotsModel", "cost", "(I)I"⟩
theorem dM_cost_0 : decode cM_cost 0 = .ok (.aload_n 0, 1) := by decide +kernel
theorem dM_cost_1 : decode cM_cost 1 = .ok (.iconst 0, 1) := by decide +kernel
theorem dM_cost_2 : decode cM_cost 2 = .ok (.putfield 64, 3) := by decide +kernel
theorem dM_cost_5 : decode cM_cost 5 = .ok (.iload_n 1, 1) := by decide +kernel
theorem dM_cost_6 : decode cM_cost 6 = .ok (.iconst 0, 1) := by decide +kernel
theorem dM_cost_7 : decode cM_cost 7 = .ok (.bipush 20, 2) := by decide +kernel
theorem dM_cost_9 : decode cM_cost 9 = .ok (.invokestatic 67, 3) := by decide +kernel
theorem dM_cost_12 : decode cM_cost 12 = .ok (.ifCond .ne 9, 3) := by decide +kernel
theorem dM_cost_15 : decode cM_cost 15 = .ok (.aload_n 0, 1) := by decide +kernel
theorem dM_cost_16 : decode cM_cost 16 = .ok (.iconst 1, 1) := by decide +kernel
theorem dM_cost_17 : decode cM_cost 17 = .ok (.invokevirtual 71, 3) := by decide +kernel
theorem dM_cost_20 : decode cM_cost 20 = .ok (.ireturn, 1) := by decide +kernel
theorem dM_cost_21 : decode cM_cost 21 = .ok (.aload_n 0, 1) := by decide +kernel
theorem dM_cost_22 : decode cM_cost 22 = .ok (.getfield 81, 3) := by decide +kernel
theorem dM_cost_25 : decode cM_cost 25 = .ok (.istore_n 2, 1) := by decide +kernel
theorem dM_cost_26 : decode cM_cost 26 = .ok (.aload_n 0, 1) := by decide +kernel
theorem dM_cost_27 : decode cM_cost 27 = .ok (.iload_n 1, 1) := by decide +kernel
theorem dM_cost_28 : decode cM_cost 28 = .ok (.putfield 81, 3) := by decide +kernel
theorem dM_cost_31 : decode cM_cost 31 = .ok (.iload_n 2, 1) := by decide +kernel
theorem dM_cost_32 : decode cM_cost 32 = .ok (.ireturn, 1) := by decide +kernel
abbrev cM_ready : ByteArray := prog_5_method_9_code
def yM_ready : MethodName := ⟨"ThreadSlotsModel", "ready", "(IZ)Z"⟩
theorem dM_ready_0 : decode cM_ready 0 = .ok (.aload_n 0, 1) := by decide +kernel
theorem dM_ready_1 : decode cM_ready 1 = .ok (.iload_n 1, 1) := by decide +kernel
theorem dM_ready_2 : decode cM_ready 2 = .ok (.invokevirtual 84, 3) := by decide +kernel
theorem dM_ready_5 : decode cM_ready 5 = .ok (.ifCond .ne 5, 3) := by decide +kernel
theorem dM_ready_8 : decode cM_ready 8 = .ok (.iconst 0, 1) := by decide +kernel
theorem dM_ready_9 : decode cM_ready 9 = .ok (.ireturn, 1) := by decide +kernel
theorem dM_ready_10 : decode cM_ready 10 = .ok (.aload_n 0, 1) := by decide +kernel
theorem dM_ready_11 : decode cM_ready 11 = .ok (.getfield 16, 3) := by decide +kernel
theorem dM_ready_14 : decode cM_ready 14 = .ok (.iload_n 1, 1) := by decide +kernel
theorem dM_ready_15 : decode cM_ready 15 = .ok (.baload, 1) := by decide +kernel
theorem dM_ready_16 : decode cM_ready 16 = .ok (.istore_n 3, 1) := by decide +kernel
theorem dM_ready_17 : decode cM_ready 17 = .ok (.aload_n 0, 1) := by decide +kernel
theorem dM_ready_18 : decode cM_ready 18 = .ok (.getfield 16, 3) := by decide +kernel
theorem dM_ready_21 : decode cM_ready 21 = .ok (.iload_n 1, 1) := by decide +kernel
theorem dM_ready_22 : decode cM_ready 22 = .ok (.iload_n 2, 1) := by decide +kernel
theorem dM_ready_23 : decode cM_ready 23 = .ok (.bastore, 1) := by decide +kernel
theorem dM_ready_24 : decode cM_ready 24 = .ok (.iload_n 3, 1) := by decide +kernel
theorem dM_ready_25 : decode cM_ready 25 = .ok (.ireturn, 1) := by decide +kernel
abbrev cM_rank : ByteArray := prog_5_method_10_code
def yM_rank : MethodName := ⟨"ThreadSlotsModel", "rank", "(II)I"⟩
theorem dM_rank_0 : decode cM_rank 0 = .ok (.aload_n 0, 1) := by decide +kernel
theorem dM_rank_1 : decode cM_rank 1 = .ok (.iload_n 1, 1) := by decide +kernel
theorem dM_rank_2 : decode cM_rank 2 = .ok (.invokevirtual 84, 3) := by decide +kernel
theorem dM_rank_5 : decode cM_rank 5 = .ok (.ifCond .ne 5, 3) := by decide +kernel
theorem dM_rank_8 : decode cM_rank 8 = .ok (.iconst 0, 1) := by decide +kernel
theorem dM_rank_9 : decode cM_rank 9 = .ok (.ireturn, 1) := by decide +kernel
theorem dM_rank_10 : decode cM_rank 10 = .ok (.iload_n 2, 1) := by decide +kernel
theorem dM_rank_11 : decode cM_rank 11 = .ok (.iconst 0, 1) := by decide +kernel
theorem dM_rank_12 : decode cM_rank 12 = .ok (.bipush 15, 2) := by decide +kernel
theorem dM_rank_14 : decode cM_rank 14 = .ok (.invokestatic 67, 3) := by decide +kernel
theorem dM_rank_17 : decode cM_rank 17 = .ok (.ifCond .ne 9, 3) := by decide +kernel
theorem dM_rank_20 : decode cM_rank 20 = .ok (.aload_n 0, 1) := by decide +kernel
theorem dM_rank_21 : decode cM_rank 21 = .ok (.iconst 2, 1) := by decide +kernel
theorem dM_rank_22 : decode cM_rank 22 = .ok (.invokevirtual 71, 3) := by decide +kernel
theorem dM_rank_25 : decode cM_rank 25 = .ok (.ireturn, 1) := by decide +kernel
theorem dM_rank_26 : decode cM_rank 26 = .ok (.aload_n 0, 1) := by decide +kernel
theorem dM_rank_27 : decode cM_rank 27 = .ok (.getfield 20, 3) := by decide +kernel
theorem dM_rank_30 : decode cM_rank 30 = .ok (.iload_n 1, 1) := by decide +kernel
theorem dM_rank_31 : decode cM_rank 31 = .ok (.iaload, 1) := by decide +kernel
theorem dM_rank_32 : decode cM_rank 32 = .ok (.istore_n 3, 1) := by decide +kernel
theorem dM_rank_33 : decode cM_rank 33 = .ok (.aload_n 0, 1) := by decide +kernel
theorem dM_rank_34 : decode cM_rank 34 = .ok (.getfield 20, 3) := by decide +kernel
theorem dM_rank_37 : decode cM_rank 37 = .ok (.iload_n 1, 1) := by decide +kernel
theorem dM_rank_38 : decode cM_rank 38 = .ok (.iload_n 2, 1) := by decide +kernel
theorem dM_rank_39 : decode cM_rank 39 = .ok (.iastore, 1) := by decide +kernel
theorem dM_rank_40 : decode cM_rank 40 = .ok (.iload_n 3, 1) := by decide +kernel
theorem dM_rank_41 : decode cM_rank 41 = .ok (.ireturn, 1) := by decide +kernel
abbrev cM_sleep : ByteArray := prog_5_method_11_code
def yM_sleep : MethodName := ⟨"ThreadSlotsModel", "sleep", "(II)I"⟩
theorem dM_sleep_0 : decode cM_sleep 0 = .ok (.aload_n 0, 1) := by decide +kernel
theorem dM_sleep_1 : decode cM_sleep 1 = .ok (.iload_n 1, 1) := by decide +kernel
theorem dM_sleep_2 : decode cM_sleep 2 = .ok (.invokevirtual 84, 3) := by decide +kernel
theorem dM_sleep_5 : decode cM_sleep 5 = .ok (.ifCond .ne 5, 3) := by decide +kernel
theorem dM_sleep_8 : decode cM_sleep 8 = .ok (.iconst 0, 1) := by decide +kernel
theorem dM_sleep_9 : decode cM_sleep 9 = .ok (.ireturn, 1) := by decide +kernel
theorem dM_sleep_10 : decode cM_sleep 10 = .ok (.iload_n 2, 1) := by decide +kernel
theorem dM_sleep_11 : decode cM_sleep 11 = .ok (.iconst 0, 1) := by decide +kernel
theorem dM_sleep_12 : decode cM_sleep 12 = .ok (.ldc 88, 2) := by decide +kernel
theorem dM_sleep_14 : decode cM_sleep 14 = .ok (.invokestatic 67, 3) := by decide +kernel
theorem dM_sleep_17 : decode cM_sleep 17 = .ok (.ifCond .ne 9, 3) := by decide +kernel
theorem dM_sleep_20 : decode cM_sleep 20 = .ok (.aload_n 0, 1) := by decide +kernel
theorem dM_sleep_21 : decode cM_sleep 21 = .ok (.iconst 2, 1) := by decide +kernel
theorem dM_sleep_22 : decode cM_sleep 22 = .ok (.invokevirtual 71, 3) := by decide +kernel
theorem dM_sleep_25 : decode cM_sleep 25 = .ok (.ireturn, 1) := by decide +kernel
theorem dM_sleep_26 : decode cM_sleep 26 = .ok (.aload_n 0, 1) := by decide +kernel
theorem dM_sleep_27 : decode cM_sleep 27 = .ok (.getfield 24, 3) := by decide +kernel
theorem dM_sleep_30 : decode cM_sleep 30 = .ok (.iload_n 1, 1) := by decide +kernel
theorem dM_sleep_31 : decode cM_sleep 31 = .ok (.iaload, 1) := by decide +kernel
theorem dM_sleep_32 : decode cM_sleep 32 = .ok (.istore_n 3, 1) := by decide +kernel
theorem dM_sleep_33 : decode cM_sleep 33 = .ok (.aload_n 0, 1) := by decide +kernel
theorem dM_sleep_34 : decode cM_sleep 34 = .ok (.getfield 24, 3) := by decide +kernel
theorem dM_sleep_37 : decode cM_sleep 37 = .ok (.iload_n 1, 1) := by decide +kernel
theorem dM_sleep_38 : decode cM_sleep 38 = .ok (.iload_n 2, 1) := by decide +kernel
theorem dM_sleep_39 : decode cM_sleep 39 = .ok (.iastore, 1) := by decide +kernel
theorem dM_sleep_40 : decode cM_sleep 40 = .ok (.iload_n 3, 1) := by decide +kernel
theorem dM_sleep_41 : decode cM_sleep 41 = .ok (.ireturn, 1) := by decide +kernel
abbrev cM_miss : ByteArray := prog_5_method_12_code
def yM_miss : MethodName := ⟨"ThreadSlotsModel", "miss", "(I)I"⟩
theorem dM_miss_0 : decode cM_miss 0 = .ok (.aload_n 0, 1) := by decide +kernel
theorem dM_miss_1 : decode cM_miss 1 = .ok (.iload_n 1, 1) := by decide +kernel
theorem dM_miss_2 : decode cM_miss 2 = .ok (.invokevirtual 84, 3) := by decide +kernel
theorem dM_miss_5 : decode cM_miss 5 = .ok (.ifCond .ne 5, 3) := by decide +kernel
theorem dM_miss_8 : decode cM_miss 8 = .ok (.iconst 0, 1) := by decide +kernel
theorem dM_miss_9 : decode cM_miss 9 = .ok (.ireturn, 1) := by decide +kernel
theorem dM_miss_10 : decode cM_miss 10 = .ok (.aload_n 0, 1) := by decide +kernel
theorem dM_miss_11 : decode cM_miss 11 = .ok (.getfield 27, 3) := by decide +kernel
theorem dM_miss_14 : decode cM_miss 14 = .ok (.iload_n 1, 1) := by decide +kernel
theorem dM_miss_15 : decode cM_miss 15 = .ok (.dup2, 1) := by decide +kernel
theorem dM_miss_16 : decode cM_miss 16 = .ok (.iaload, 1) := by decide +kernel
theorem dM_miss_17 : decode cM_miss 17 = .ok (.iconst 1, 1) := by decide +kernel
theorem dM_miss_18 : decode cM_miss 18 = .ok (.iadd, 1) := by decide +kernel
theorem dM_miss_19 : decode cM_miss 19 = .ok (.iastore, 1) := by decide +kernel
theorem dM_miss_20 : decode cM_miss 20 = .ok (.aload_n 0, 1) := by decide +kernel
theorem dM_miss_21 : decode cM_miss 21 = .ok (.getfield 27, 3) := by decide +kernel
theorem dM_miss_24 : decode cM_miss 24 = .ok (.iload_n 1, 1) := by decide +kernel
theorem dM_miss_25 : decode cM_miss 25 = .ok (.iaload, 1) := by decide +kernel
theorem dM_miss_26 : decode cM_miss 26 = .ok (.ireturn, 1) := by decide +kernel
abbrev cM_canGo : ByteArray := prog_5_method_13_code
def yM_canGo : MethodName := ⟨"ThreadSlotsModel", "canGo", "(I)Z"⟩
theorem dM_canGo_0 : decode cM_canGo 0 = .ok (.aload_n 0, 1) := by decide +kernel
theorem dM_canGo_1 : decode cM_canGo 1 = .ok (.getfield 16, 3) := by decide +kernel
theorem dM_canGo_4 : decode cM_canGo 4 = .ok (.iload_n 1, 1) := by decide +kernel
theorem dM_canGo_5 : decode cM_canGo 5 = .ok (.baload, 1) := by decide +kernel
theorem dM_canGo_6 : decode cM_canGo 6 = .ok (.ifCond .eq 16, 3) := by decide +kernel
theorem dM_canGo_9 : decode cM_canGo 9 = .ok (.aload_n 0, 1) := by decide +kernel
theorem dM_canGo_10 : decode cM_canGo 10 = .ok (.getfield 24, 3) := by decide +kernel
theorem dM_canGo_13 : decode cM_canGo 13 = .ok (.iload_n 1, 1) := by decide +kernel
theorem dM_canGo_14 : decode cM_canGo 14 = .ok (.iaload, 1) := by decide +kernel
theorem dM_canGo_15 : decode cM_canGo 15 = .ok (.ifCond .ne 7, 3) := by decide +kernel
theorem dM_canGo_18 : decode cM_canGo 18 = .ok (.iconst 1, 1) := by decide +kernel
theorem dM_canGo_19 : decode cM_canGo 19 = .ok (.goto 4, 3) := by decide +kernel
theorem dM_canGo_22 : decode cM_canGo 22 = .ok (.iconst 0, 1) := by decide +kernel
theorem dM_canGo_23 : decode cM_canGo 23 = .ok (.ireturn, 1) := by decide +kernel
abbrev cM_overdue : ByteArray := prog_5_method_14_code
def yM_overdue : MethodName := ⟨"ThreadSlotsModel", "overdue", "()I"⟩
theorem dM_overdue_0 : decode cM_overdue 0 = .ok (.iconst (-1), 1) := by decide +kernel
theorem dM_overdue_1 : decode cM_overdue 1 = .ok (.istore_n 1, 1) := by decide +kernel
theorem dM_overdue_2 : decode cM_overdue 2 = .ok (.iconst 0, 1) := by decide +kernel
theorem dM_overdue_3 : decode cM_overdue 3 = .ok (.istore_n 2, 1) := by decide +kernel
theorem dM_overdue_4 : decode cM_overdue 4 = .ok (.iload_n 2, 1) := by decide +kernel
theorem dM_overdue_5 : decode cM_overdue 5 = .ok (.aload_n 0, 1) := by decide +kernel
theorem dM_overdue_6 : decode cM_overdue 6 = .ok (.getfield 57, 3) := by decide +kernel
theorem dM_overdue_9 : decode cM_overdue 9 = .ok (.if_icmp .ge 38, 3) := by decide +kernel
theorem dM_overdue_12 : decode cM_overdue 12 = .ok (.aload_n 0, 1) := by decide +kernel
theorem dM_overdue_13 : decode cM_overdue 13 = .ok (.iload_n 2, 1) := by decide +kernel
theorem dM_overdue_14 : decode cM_overdue 14 = .ok (.invokevirtual 89, 3) := by decide +kernel
theorem dM_overdue_17 : decode cM_overdue 17 = .ok (.ifCond .eq 24, 3) := by decide +kernel
theorem dM_overdue_20 : decode cM_overdue 20 = .ok (.iload_n 1, 1) := by decide +kernel
theorem dM_overdue_21 : decode cM_overdue 21 = .ok (.ifCond .lt 18, 3) := by decide +kernel
theorem dM_overdue_24 : decode cM_overdue 24 = .ok (.aload_n 0, 1) := by decide +kernel
theorem dM_overdue_25 : decode cM_overdue 25 = .ok (.getfield 30, 3) := by decide +kernel
theorem dM_overdue_28 : decode cM_overdue 28 = .ok (.iload_n 2, 1) := by decide +kernel
theorem dM_overdue_29 : decode cM_overdue 29 = .ok (.iaload, 1) := by decide +kernel
theorem dM_overdue_30 : decode cM_overdue 30 = .ok (.aload_n 0, 1) := by decide +kernel
theorem dM_overdue_31 : decode cM_overdue 31 = .ok (.getfield 30, 3) := by decide +kernel
theorem dM_overdue_34 : decode cM_overdue 34 = .ok (.iload_n 1, 1) := by decide +kernel
theorem dM_overdue_35 : decode cM_overdue 35 = .ok (.iaload, 1) := by decide +kernel
theorem dM_overdue_36 : decode cM_overdue 36 = .ok (.if_icmp .le 5, 3) := by decide +kernel
theorem dM_overdue_39 : decode cM_overdue 39 = .ok (.iload_n 2, 1) := by decide +kernel
theorem dM_overdue_40 : decode cM_overdue 40 = .ok (.istore_n 1, 1) := by decide +kernel
theorem dM_overdue_41 : decode cM_overdue 41 = .ok (.iinc 2 1, 3) := by decide +kernel
theorem dM_overdue_44 : decode cM_overdue 44 = .ok (.goto (-40), 3) := by decide +kernel
theorem dM_overdue_47 : decode cM_overdue 47 = .ok (.aload_n 0, 1) := by decide +kernel
theorem dM_overdue_48 : decode cM_overdue 48 = .ok (.getfield 78, 3) := by decide +kernel
theorem dM_overdue_51 : decode cM_overdue 51 = .ok (.ifCond .le 24, 3) := by decide +kernel
theorem dM_overdue_54 : decode cM_overdue 54 = .ok (.iload_n 1, 1) := by decide +kernel
theorem dM_overdue_55 : decode cM_overdue 55 = .ok (.ifCond .lt 20, 3) := by decide +kernel
theorem dM_overdue_58 : decode cM_overdue 58 = .ok (.aload_n 0, 1) := by decide +kernel
theorem dM_overdue_59 : decode cM_overdue 59 = .ok (.getfield 30, 3) := by decide +kernel
theorem dM_overdue_62 : decode cM_overdue 62 = .ok (.iload_n 1, 1) := by decide +kernel
theorem dM_overdue_63 : decode cM_overdue 63 = .ok (.iaload, 1) := by decide +kernel
theorem dM_overdue_64 : decode cM_overdue 64 = .ok (.aload_n 0, 1) := by decide +kernel
theorem dM_overdue_65 : decode cM_overdue 65 = .ok (.getfield 78, 3) := by decide +kernel
theorem dM_overdue_68 : decode cM_overdue 68 = .ok (.if_icmp .lt 7, 3) := by decide +kernel
theorem dM_overdue_71 : decode cM_overdue 71 = .ok (.iload_n 1, 1) := by decide +kernel
theorem dM_overdue_72 : decode cM_overdue 72 = .ok (.goto 4, 3) := by decide +kernel
theorem dM_overdue_75 : decode cM_overdue 75 = .ok (.iconst (-1), 1) := by decide +kernel
theorem dM_overdue_76 : decode cM_overdue 76 = .ok (.ireturn, 1) := by decide +kernel
abbrev cM_topRank : ByteArray := prog_5_method_15_code
def yM_topRank : MethodName := ⟨"ThreadSlotsModel", "topRank", "()I"⟩
theorem dM_topRank_0 : decode cM_topRank 0 = .ok (.iconst (-1), 1) := by decide +kernel
theorem dM_topRank_1 : decode cM_topRank 1 = .ok (.istore_n 1, 1) := by decide +kernel
theorem dM_topRank_2 : decode cM_topRank 2 = .ok (.iconst 0, 1) := by decide +kernel
theorem dM_topRank_3 : decode cM_topRank 3 = .ok (.istore_n 2, 1) := by decide +kernel
theorem dM_topRank_4 : decode cM_topRank 4 = .ok (.iload_n 2, 1) := by decide +kernel
theorem dM_topRank_5 : decode cM_topRank 5 = .ok (.aload_n 0, 1) := by decide +kernel
theorem dM_topRank_6 : decode cM_topRank 6 = .ok (.getfield 57, 3) := by decide +kernel
theorem dM_topRank_9 : decode cM_topRank 9 = .ok (.if_icmp .ge 38, 3) := by decide +kernel
theorem dM_topRank_12 : decode cM_topRank 12 = .ok (.aload_n 0, 1) := by decide +kernel
theorem dM_topRank_13 : decode cM_topRank 13 = .ok (.iload_n 2, 1) := by decide +kernel
theorem dM_topRank_14 : decode cM_topRank 14 = .ok (.invokevirtual 89, 3) := by decide +kernel
theorem dM_topRank_17 : decode cM_topRank 17 = .ok (.ifCond .eq 22, 3) := by decide +kernel
theorem dM_topRank_20 : decode cM_topRank 20 = .ok (.aload_n 0, 1) := by decide +kernel
theorem dM_topRank_21 : decode cM_topRank 21 = .ok (.getfield 20, 3) := by decide +kernel
theorem dM_topRank_24 : decode cM_topRank 24 = .ok (.iload_n 2, 1) := by decide +kernel
theorem dM_topRank_25 : decode cM_topRank 25 = .ok (.iaload, 1) := by decide +kernel
theorem dM_topRank_26 : decode cM_topRank 26 = .ok (.iload_n 1, 1) := by decide +kernel
theorem dM_topRank_27 : decode cM_topRank 27 = .ok (.if_icmp .le 12, 3) := by decide +kernel
theorem dM_topRank_30 : decode cM_topRank 30 = .ok (.aload_n 0, 1) := by decide +kernel
theorem dM_topRank_31 : decode cM_topRank 31 = .ok (.getfield 20, 3) := by decide +kernel
theorem dM_topRank_34 : decode cM_topRank 34 = .ok (.iload_n 2, 1) := by decide +kernel
theorem dM_topRank_35 : decode cM_topRank 35 = .ok (.iaload, 1) := by decide +kernel
theorem dM_topRank_36 : decode cM_topRank 36 = .ok (.goto 4, 3) := by decide +kernel
theorem dM_topRank_39 : decode cM_topRank 39 = .ok (.iload_n 1, 1) := by decide +kernel
theorem dM_topRank_40 : decode cM_topRank 40 = .ok (.istore_n 1, 1) := by decide +kernel
theorem dM_topRank_41 : decode cM_topRank 41 = .ok (.iinc 2 1, 3) := by decide +kernel
theorem dM_topRank_44 : decode cM_topRank 44 = .ok (.goto (-40), 3) := by decide +kernel
theorem dM_topRank_47 : decode cM_topRank 47 = .ok (.iload_n 1, 1) := by decide +kernel
theorem dM_topRank_48 : decode cM_topRank 48 = .ok (.ireturn, 1) := by decide +kernel
abbrev cM_turn : ByteArray := prog_5_method_16_code
def yM_turn : MethodName := ⟨"ThreadSlotsModel", "turn", "(I)I"⟩
theorem dM_turn_0 : decode cM_turn 0 = .ok (.iconst 1, 1) := by decide +kernel
theorem dM_turn_1 : decode cM_turn 1 = .ok (.istore_n 2, 1) := by decide +kernel
theorem dM_turn_2 : decode cM_turn 2 = .ok (.iload_n 2, 1) := by decide +kernel
theorem dM_turn_3 : decode cM_turn 3 = .ok (.aload_n 0, 1) := by decide +kernel
theorem dM_turn_4 : decode cM_turn 4 = .ok (.getfield 57, 3) := by decide +kernel
theorem dM_turn_7 : decode cM_turn 7 = .ok (.if_icmp .gt 41, 3) := by decide +kernel
theorem dM_turn_10 : decode cM_turn 10 = .ok (.aload_n 0, 1) := by decide +kernel
theorem dM_turn_11 : decode cM_turn 11 = .ok (.getfield 7, 3) := by decide +kernel
theorem dM_turn_14 : decode cM_turn 14 = .ok (.iload_n 2, 1) := by decide +kernel
theorem dM_turn_15 : decode cM_turn 15 = .ok (.iadd, 1) := by decide +kernel
theorem dM_turn_16 : decode cM_turn 16 = .ok (.aload_n 0, 1) := by decide +kernel
theorem dM_turn_17 : decode cM_turn 17 = .ok (.getfield 57, 3) := by decide +kernel
theorem dM_turn_20 : decode cM_turn 20 = .ok (.irem, 1) := by decide +kernel
theorem dM_turn_21 : decode cM_turn 21 = .ok (.istore_n 3, 1) := by decide +kernel
theorem dM_turn_22 : decode cM_turn 22 = .ok (.aload_n 0, 1) := by decide +kernel
theorem dM_turn_23 : decode cM_turn 23 = .ok (.iload_n 3, 1) := by decide +kernel
theorem dM_turn_24 : decode cM_turn 24 = .ok (.invokevirtual 89, 3) := by decide +kernel
theorem dM_turn_27 : decode cM_turn 27 = .ok (.ifCond .eq 15, 3) := by decide +kernel
theorem dM_turn_30 : decode cM_turn 30 = .ok (.aload_n 0, 1) := by decide +kernel
theorem dM_turn_31 : decode cM_turn 31 = .ok (.getfield 20, 3) := by decide +kernel
theorem dM_turn_34 : decode cM_turn 34 = .ok (.iload_n 3, 1) := by decide +kernel
theorem dM_turn_35 : decode cM_turn 35 = .ok (.iaload, 1) := by decide +kernel
theorem dM_turn_36 : decode cM_turn 36 = .ok (.iload_n 1, 1) := by decide +kernel
theorem dM_turn_37 : decode cM_turn 37 = .ok (.if_icmp .ne 5, 3) := by decide +kernel
theorem dM_turn_40 : decode cM_turn 40 = .ok (.iload_n 3, 1) := by decide +kernel
theorem dM_turn_41 : decode cM_turn 41 = .ok (.ireturn, 1) := by decide +kernel
theorem dM_turn_42 : decode cM_turn 42 = .ok (.iinc 2 1, 3) := by decide +kernel
theorem dM_turn_45 : decode cM_turn 45 = .ok (.goto (-43), 3) := by decide +kernel
theorem dM_turn_48 : decode cM_turn 48 = .ok (.iconst (-1), 1) := by decide +kernel
theorem dM_turn_49 : decode cM_turn 49 = .ok (.ireturn, 1) := by decide +kernel
abbrev cM_fewest : ByteArray := prog_5_method_17_code
def yM_fewest : MethodName := ⟨"ThreadSlotsModel", "fewest", "(IZ)I"⟩
theorem dM_fewest_0 : decode cM_fewest 0 = .ok (.iconst (-1), 1) := by decide +kernel
theorem dM_fewest_1 : decode cM_fewest 1 = .ok (.istore_n 3, 1) := by decide +kernel
theorem dM_fewest_2 : decode cM_fewest 2 = .ok (.aload_n 0, 1) := by decide +kernel
theorem dM_fewest_3 : decode cM_fewest 3 = .ok (.getfield 57, 3) := by decide +kernel
theorem dM_fewest_6 : decode cM_fewest 6 = .ok (.iconst 1, 1) := by decide +kernel
theorem dM_fewest_7 : decode cM_fewest 7 = .ok (.isub, 1) := by decide +kernel
theorem dM_fewest_8 : decode cM_fewest 8 = .ok (.istore 4, 2) := by decide +kernel
theorem dM_fewest_10 : decode cM_fewest 10 = .ok (.iload 4, 2) := by decide +kernel
theorem dM_fewest_12 : decode cM_fewest 12 = .ok (.ifCond .lt 92, 3) := by decide +kernel
theorem dM_fewest_15 : decode cM_fewest 15 = .ok (.iload_n 2, 1) := by decide +kernel
theorem dM_fewest_16 : decode cM_fewest 16 = .ok (.ifCond .eq 13, 3) := by decide +kernel
theorem dM_fewest_19 : decode cM_fewest 19 = .ok (.aload_n 0, 1) := by decide +kernel
theorem dM_fewest_20 : decode cM_fewest 20 = .ok (.getfield 27, 3) := by decide +kernel
theorem dM_fewest_23 : decode cM_fewest 23 = .ok (.iload 4, 2) := by decide +kernel
theorem dM_fewest_25 : decode cM_fewest 25 = .ok (.iaload, 1) := by decide +kernel
theorem dM_fewest_26 : decode cM_fewest 26 = .ok (.goto 10, 3) := by decide +kernel
theorem dM_fewest_29 : decode cM_fewest 29 = .ok (.aload_n 0, 1) := by decide +kernel
theorem dM_fewest_30 : decode cM_fewest 30 = .ok (.getfield 36, 3) := by decide +kernel
theorem dM_fewest_33 : decode cM_fewest 33 = .ok (.iload 4, 2) := by decide +kernel
theorem dM_fewest_35 : decode cM_fewest 35 = .ok (.iaload, 1) := by decide +kernel
theorem dM_fewest_36 : decode cM_fewest 36 = .ok (.istore 5, 2) := by decide +kernel
theorem dM_fewest_38 : decode cM_fewest 38 = .ok (.iload_n 3, 1) := by decide +kernel
theorem dM_fewest_39 : decode cM_fewest 39 = .ok (.ifCond .ge 8, 3) := by decide +kernel
theorem dM_fewest_42 : decode cM_fewest 42 = .ok (.iload 5, 2) := by decide +kernel
theorem dM_fewest_44 : decode cM_fewest 44 = .ok (.goto 22, 3) := by decide +kernel
theorem dM_fewest_47 : decode cM_fewest 47 = .ok (.iload_n 2, 1) := by decide +kernel
theorem dM_fewest_48 : decode cM_fewest 48 = .ok (.ifCond .eq 12, 3) := by decide +kernel
theorem dM_fewest_51 : decode cM_fewest 51 = .ok (.aload_n 0, 1) := by decide +kernel
theorem dM_fewest_52 : decode cM_fewest 52 = .ok (.getfield 27, 3) := by decide +kernel
theorem dM_fewest_55 : decode cM_fewest 55 = .ok (.iload_n 3, 1) := by decide +kernel
theorem dM_fewest_56 : decode cM_fewest 56 = .ok (.iaload, 1) := by decide +kernel
theorem dM_fewest_57 : decode cM_fewest 57 = .ok (.goto 9, 3) := by decide +kernel
theorem dM_fewest_60 : decode cM_fewest 60 = .ok (.aload_n 0, 1) := by decide +kernel
theorem dM_fewest_61 : decode cM_fewest 61 = .ok (.getfield 36, 3) := by decide +kernel
theorem dM_fewest_64 : decode cM_fewest 64 = .ok (.iload_n 3, 1) := by decide +kernel
theorem dM_fewest_65 : decode cM_fewest 65 = .ok (.iaload, 1) := by decide +kernel
theorem dM_fewest_66 : decode cM_fewest 66 = .ok (.istore 6, 2) := by decide +kernel
theorem dM_fewest_68 : decode cM_fewest 68 = .ok (.aload_n 0, 1) := by decide +kernel
theorem dM_fewest_69 : decode cM_fewest 69 = .ok (.iload 4, 2) := by decide +kernel
theorem dM_fewest_71 : decode cM_fewest 71 = .ok (.invokevirtual 89, 3) := by decide +kernel
theorem dM_fewest_74 : decode cM_fewest 74 = .ok (.ifCond .eq 24, 3) := by decide +kernel
theorem dM_fewest_77 : decode cM_fewest 77 = .ok (.aload_n 0, 1) := by decide +kernel
theorem dM_fewest_78 : decode cM_fewest 78 = .ok (.getfield 20, 3) := by decide +kernel
theorem dM_fewest_81 : decode cM_fewest 81 = .ok (.iload 4, 2) := by decide +kernel
theorem dM_fewest_83 : decode cM_fewest 83 = .ok (.iaload, 1) := by decide +kernel
theorem dM_fewest_84 : decode cM_fewest 84 = .ok (.iload_n 1, 1) := by decide +kernel
theorem dM_fewest_85 : decode cM_fewest 85 = .ok (.if_icmp .ne 13, 3) := by decide +kernel
theorem dM_fewest_88 : decode cM_fewest 88 = .ok (.iload 5, 2) := by decide +kernel
theorem dM_fewest_90 : decode cM_fewest 90 = .ok (.iload 6, 2) := by decide +kernel
theorem dM_fewest_92 : decode cM_fewest 92 = .ok (.if_icmp .gt 6, 3) := by decide +kernel
theorem dM_fewest_95 : decode cM_fewest 95 = .ok (.iload 4, 2) := by decide +kernel
theorem dM_fewest_97 : decode cM_fewest 97 = .ok (.istore_n 3, 1) := by decide +kernel
theorem dM_fewest_98 : decode cM_fewest 98 = .ok (.iinc 4 (-1), 3) := by decide +kernel
theorem dM_fewest_101 : decode cM_fewest 101 = .ok (.goto (-91), 3) := by decide +kernel
theorem dM_fewest_104 : decode cM_fewest 104 = .ok (.iload_n 3, 1) := by decide +kernel
theorem dM_fewest_105 : decode cM_fewest 105 = .ok (.ireturn, 1) := by decide +kernel
abbrev cM_drawn : ByteArray := prog_5_method_18_code
def yM_drawn : MethodName := ⟨"ThreadSlotsModel", "drawn", "(I)I"⟩
theorem dM_drawn_0 : decode cM_drawn 0 = .ok (.iconst 0, 1) := by decide +kernel
theorem dM_drawn_1 : decode cM_drawn 1 = .ok (.istore_n 2, 1) := by decide +kernel
theorem dM_drawn_2 : decode cM_drawn 2 = .ok (.iconst 0, 1) := by decide +kernel
theorem dM_drawn_3 : decode cM_drawn 3 = .ok (.istore_n 3, 1) := by decide +kernel
theorem dM_drawn_4 : decode cM_drawn 4 = .ok (.iload_n 3, 1) := by decide +kernel
theorem dM_drawn_5 : decode cM_drawn 5 = .ok (.aload_n 0, 1) := by decide +kernel
theorem dM_drawn_6 : decode cM_drawn 6 = .ok (.getfield 57, 3) := by decide +kernel
theorem dM_drawn_9 : decode cM_drawn 9 = .ok (.if_icmp .ge 35, 3) := by decide +kernel
theorem dM_drawn_12 : decode cM_drawn 12 = .ok (.iload_n 2, 1) := by decide +kernel
theorem dM_drawn_13 : decode cM_drawn 13 = .ok (.aload_n 0, 1) := by decide +kernel
theorem dM_drawn_14 : decode cM_drawn 14 = .ok (.iload_n 3, 1) := by decide +kernel
theorem dM_drawn_15 : decode cM_drawn 15 = .ok (.invokevirtual 89, 3) := by decide +kernel
theorem dM_drawn_18 : decode cM_drawn 18 = .ok (.ifCond .eq 17, 3) := by decide +kernel
theorem dM_drawn_21 : decode cM_drawn 21 = .ok (.aload_n 0, 1) := by decide +kernel
theorem dM_drawn_22 : decode cM_drawn 22 = .ok (.getfield 20, 3) := by decide +kernel
theorem dM_drawn_25 : decode cM_drawn 25 = .ok (.iload_n 3, 1) := by decide +kernel
theorem dM_drawn_26 : decode cM_drawn 26 = .ok (.iaload, 1) := by decide +kernel
theorem dM_drawn_27 : decode cM_drawn 27 = .ok (.iload_n 1, 1) := by decide +kernel
theorem dM_drawn_28 : decode cM_drawn 28 = .ok (.if_icmp .ne 7, 3) := by decide +kernel
theorem dM_drawn_31 : decode cM_drawn 31 = .ok (.iconst 1, 1) := by decide +kernel
theorem dM_drawn_32 : decode cM_drawn 32 = .ok (.goto 4, 3) := by decide +kernel
theorem dM_drawn_35 : decode cM_drawn 35 = .ok (.iconst 0, 1) := by decide +kernel
theorem dM_drawn_36 : decode cM_drawn 36 = .ok (.iadd, 1) := by decide +kernel
theorem dM_drawn_37 : decode cM_drawn 37 = .ok (.istore_n 2, 1) := by decide +kernel
theorem dM_drawn_38 : decode cM_drawn 38 = .ok (.iinc 3 1, 3) := by decide +kernel
theorem dM_drawn_41 : decode cM_drawn 41 = .ok (.goto (-37), 3) := by decide +kernel
theorem dM_drawn_44 : decode cM_drawn 44 = .ok (.aload_n 0, 1) := by decide +kernel
theorem dM_drawn_45 : decode cM_drawn 45 = .ok (.ldc 92, 2) := by decide +kernel
theorem dM_drawn_47 : decode cM_drawn 47 = .ok (.aload_n 0, 1) := by decide +kernel
theorem dM_drawn_48 : decode cM_drawn 48 = .ok (.getfield 61, 3) := by decide +kernel
theorem dM_drawn_51 : decode cM_drawn 51 = .ok (.imul, 1) := by decide +kernel
theorem dM_drawn_52 : decode cM_drawn 52 = .ok (.sipush 12345, 3) := by decide +kernel
theorem dM_drawn_55 : decode cM_drawn 55 = .ok (.iadd, 1) := by decide +kernel
theorem dM_drawn_56 : decode cM_drawn 56 = .ok (.ldc 60, 2) := by decide +kernel
theorem dM_drawn_58 : decode cM_drawn 58 = .ok (.iand, 1) := by decide +kernel
theorem dM_drawn_59 : decode cM_drawn 59 = .ok (.putfield 61, 3) := by decide +kernel
theorem dM_drawn_62 : decode cM_drawn 62 = .ok (.aload_n 0, 1) := by decide +kernel
theorem dM_drawn_63 : decode cM_drawn 63 = .ok (.getfield 61, 3) := by decide +kernel
theorem dM_drawn_66 : decode cM_drawn 66 = .ok (.ldc 93, 2) := by decide +kernel
theorem dM_drawn_68 : decode cM_drawn 68 = .ok (.idiv, 1) := by decide +kernel
theorem dM_drawn_69 : decode cM_drawn 69 = .ok (.iload_n 2, 1) := by decide +kernel
theorem dM_drawn_70 : decode cM_drawn 70 = .ok (.irem, 1) := by decide +kernel
theorem dM_drawn_71 : decode cM_drawn 71 = .ok (.istore_n 3, 1) := by decide +kernel
theorem dM_drawn_72 : decode cM_drawn 72 = .ok (.iconst 0, 1) := by decide +kernel
theorem dM_drawn_73 : decode cM_drawn 73 = .ok (.istore 4, 2) := by decide +kernel
theorem dM_drawn_75 : decode cM_drawn 75 = .ok (.iload 4, 2) := by decide +kernel
theorem dM_drawn_77 : decode cM_drawn 77 = .ok (.aload_n 0, 1) := by decide +kernel
theorem dM_drawn_78 : decode cM_drawn 78 = .ok (.getfield 57, 3) := by decide +kernel
theorem dM_drawn_81 : decode cM_drawn 81 = .ok (.if_icmp .ge 39, 3) := by decide +kernel
theorem dM_drawn_84 : decode cM_drawn 84 = .ok (.aload_n 0, 1) := by decide +kernel
theorem dM_drawn_85 : decode cM_drawn 85 = .ok (.iload 4, 2) := by decide +kernel
theorem dM_drawn_87 : decode cM_drawn 87 = .ok (.invokevirtual 89, 3) := by decide +kernel
theorem dM_drawn_90 : decode cM_drawn 90 = .ok (.ifCond .eq 24, 3) := by decide +kernel
theorem dM_drawn_93 : decode cM_drawn 93 = .ok (.aload_n 0, 1) := by decide +kernel
theorem dM_drawn_94 : decode cM_drawn 94 = .ok (.getfield 20, 3) := by decide +kernel
theorem dM_drawn_97 : decode cM_drawn 97 = .ok (.iload 4, 2) := by decide +kernel
theorem dM_drawn_99 : decode cM_drawn 99 = .ok (.iaload, 1) := by decide +kernel
theorem dM_drawn_100 : decode cM_drawn 100 = .ok (.iload_n 1, 1) := by decide +kernel
theorem dM_drawn_101 : decode cM_drawn 101 = .ok (.if_icmp .ne 13, 3) := by decide +kernel
theorem dM_drawn_104 : decode cM_drawn 104 = .ok (.iload_n 3, 1) := by decide +kernel
theorem dM_drawn_105 : decode cM_drawn 105 = .ok (.ifCond .ne 6, 3) := by decide +kernel
theorem dM_drawn_108 : decode cM_drawn 108 = .ok (.iload 4, 2) := by decide +kernel
theorem dM_drawn_110 : decode cM_drawn 110 = .ok (.ireturn, 1) := by decide +kernel
theorem dM_drawn_111 : decode cM_drawn 111 = .ok (.iinc 3 (-1), 3) := by decide +kernel
theorem dM_drawn_114 : decode cM_drawn 114 = .ok (.iinc 4 1, 3) := by decide +kernel
theorem dM_drawn_117 : decode cM_drawn 117 = .ok (.goto (-42), 3) := by decide +kernel
theorem dM_drawn_120 : decode cM_drawn 120 = .ok (.iconst (-1), 1) := by decide +kernel
theorem dM_drawn_121 : decode cM_drawn 121 = .ok (.ireturn, 1) := by decide +kernel
abbrev cM_choose : ByteArray := prog_5_method_19_code
def yM_choose : MethodName := ⟨"ThreadSlotsModel", "choose", "()I"⟩
theorem dM_choose_0 : decode cM_choose 0 = .ok (.aload_n 0, 1) := by decide +kernel
theorem dM_choose_1 : decode cM_choose 1 = .ok (.invokevirtual 94, 3) := by decide +kernel
theorem dM_choose_4 : decode cM_choose 4 = .ok (.istore_n 1, 1) := by decide +kernel
theorem dM_choose_5 : decode cM_choose 5 = .ok (.iload_n 1, 1) := by decide +kernel
theorem dM_choose_6 : decode cM_choose 6 = .ok (.ifCond .ge 5, 3) := by decide +kernel
theorem dM_choose_9 : decode cM_choose 9 = .ok (.iconst (-1), 1) := by decide +kernel
theorem dM_choose_10 : decode cM_choose 10 = .ok (.ireturn, 1) := by decide +kernel
theorem dM_choose_11 : decode cM_choose 11 = .ok (.aload_n 0, 1) := by decide +kernel
theorem dM_choose_12 : decode cM_choose 12 = .ok (.invokevirtual 98, 3) := by decide +kernel
theorem dM_choose_15 : decode cM_choose 15 = .ok (.istore_n 2, 1) := by decide +kernel
theorem dM_choose_16 : decode cM_choose 16 = .ok (.iload_n 2, 1) := by decide +kernel
theorem dM_choose_17 : decode cM_choose 17 = .ok (.ifCond .lt 5, 3) := by decide +kernel
theorem dM_choose_20 : decode cM_choose 20 = .ok (.iload_n 2, 1) := by decide +kernel
theorem dM_choose_21 : decode cM_choose 21 = .ok (.ireturn, 1) := by decide +kernel
theorem dM_choose_22 : decode cM_choose 22 = .ok (.aload_n 0, 1) := by decide +kernel
theorem dM_choose_23 : decode cM_choose 23 = .ok (.getfield 75, 3) := by decide +kernel
theorem dM_choose_26 : decode cM_choose 26 = .ok (.ifCond .ne 11, 3) := by decide +kernel
theorem dM_choose_29 : decode cM_choose 29 = .ok (.aload_n 0, 1) := by decide +kernel
theorem dM_choose_30 : decode cM_choose 30 = .ok (.iload_n 1, 1) := by decide +kernel
theorem dM_choose_31 : decode cM_choose 31 = .ok (.invokevirtual 101, 3) := by decide +kernel
theorem dM_choose_34 : decode cM_choose 34 = .ok (.goto 37, 3) := by decide +kernel
theorem dM_choose_37 : decode cM_choose 37 = .ok (.aload_n 0, 1) := by decide +kernel
theorem dM_choose_38 : decode cM_choose 38 = .ok (.getfield 75, 3) := by decide +kernel
theorem dM_choose_41 : decode cM_choose 41 = .ok (.iconst 3, 1) := by decide +kernel
theorem dM_choose_42 : decode cM_choose 42 = .ok (.if_icmp .ne 11, 3) := by decide +kernel
theorem dM_choose_45 : decode cM_choose 45 = .ok (.aload_n 0, 1) := by decide +kernel
theorem dM_choose_46 : decode cM_choose 46 = .ok (.iload_n 1, 1) := by decide +kernel
theorem dM_choose_47 : decode cM_choose 47 = .ok (.invokevirtual 104, 3) := by decide +kernel
theorem dM_choose_50 : decode cM_choose 50 = .ok (.goto 21, 3) := by decide +kernel
theorem dM_choose_53 : decode cM_choose 53 = .ok (.aload_n 0, 1) := by decide +kernel
theorem dM_choose_54 : decode cM_choose 54 = .ok (.iload_n 1, 1) := by decide +kernel
theorem dM_choose_55 : decode cM_choose 55 = .ok (.aload_n 0, 1) := by decide +kernel
theorem dM_choose_56 : decode cM_choose 56 = .ok (.getfield 75, 3) := by decide +kernel
theorem dM_choose_59 : decode cM_choose 59 = .ok (.iconst 2, 1) := by decide +kernel
theorem dM_choose_60 : decode cM_choose 60 = .ok (.if_icmp .ne 7, 3) := by decide +kernel
theorem dM_choose_63 : decode cM_choose 63 = .ok (.iconst 1, 1) := by decide +kernel
theorem dM_choose_64 : decode cM_choose 64 = .ok (.goto 4, 3) := by decide +kernel
theorem dM_choose_67 : decode cM_choose 67 = .ok (.iconst 0, 1) := by decide +kernel
theorem dM_choose_68 : decode cM_choose 68 = .ok (.invokevirtual 107, 3) := by decide +kernel
theorem dM_choose_71 : decode cM_choose 71 = .ok (.ireturn, 1) := by decide +kernel
abbrev cM_goes : ByteArray := prog_5_method_20_code
def yM_goes : MethodName := ⟨"ThreadSlotsModel", "goes", "()I"⟩
theorem dM_goes_0 : decode cM_goes 0 = .ok (.aload_n 0, 1) := by decide +kernel
theorem dM_goes_1 : decode cM_goes 1 = .ok (.getfield 111, 3) := by decide +kernel
theorem dM_goes_4 : decode cM_goes 4 = .ok (.ifCond .le 25, 3) := by decide +kernel
theorem dM_goes_7 : decode cM_goes 7 = .ok (.aload_n 0, 1) := by decide +kernel
theorem dM_goes_8 : decode cM_goes 8 = .ok (.dup, 1) := by decide +kernel
theorem dM_goes_9 : decode cM_goes 9 = .ok (.getfield 111, 3) := by decide +kernel
theorem dM_goes_12 : decode cM_goes 12 = .ok (.iconst 1, 1) := by decide +kernel
theorem dM_goes_13 : decode cM_goes 13 = .ok (.isub, 1) := by decide +kernel
theorem dM_goes_14 : decode cM_goes 14 = .ok (.putfield 111, 3) := by decide +kernel
theorem dM_goes_17 : decode cM_goes 17 = .ok (.aload_n 0, 1) := by decide +kernel
theorem dM_goes_18 : decode cM_goes 18 = .ok (.dup, 1) := by decide +kernel
theorem dM_goes_19 : decode cM_goes 19 = .ok (.getfield 114, 3) := by decide +kernel
theorem dM_goes_22 : decode cM_goes 22 = .ok (.iconst 1, 1) := by decide +kernel
theorem dM_goes_23 : decode cM_goes 23 = .ok (.iadd, 1) := by decide +kernel
theorem dM_goes_24 : decode cM_goes 24 = .ok (.putfield 114, 3) := by decide +kernel
theorem dM_goes_27 : decode cM_goes 27 = .ok (.iconst (-1), 1) := by decide +kernel
theorem dM_goes_28 : decode cM_goes 28 = .ok (.ireturn, 1) := by decide +kernel
theorem dM_goes_29 : decode cM_goes 29 = .ok (.aload_n 0, 1) := by decide +kernel
theorem dM_goes_30 : decode cM_goes 30 = .ok (.getfield 13, 3) := by decide +kernel
theorem dM_goes_33 : decode cM_goes 33 = .ok (.ifCond .lt 21, 3) := by decide +kernel
theorem dM_goes_36 : decode cM_goes 36 = .ok (.aload_n 0, 1) := by decide +kernel
theorem dM_goes_37 : decode cM_goes 37 = .ok (.aload_n 0, 1) := by decide +kernel
theorem dM_goes_38 : decode cM_goes 38 = .ok (.getfield 13, 3) := by decide +kernel
theorem dM_goes_41 : decode cM_goes 41 = .ok (.invokevirtual 89, 3) := by decide +kernel
theorem dM_goes_44 : decode cM_goes 44 = .ok (.ifCond .eq 10, 3) := by decide +kernel
theorem dM_goes_47 : decode cM_goes 47 = .ok (.aload_n 0, 1) := by decide +kernel
theorem dM_goes_48 : decode cM_goes 48 = .ok (.getfield 13, 3) := by decide +kernel
theorem dM_goes_51 : decode cM_goes 51 = .ok (.goto 4, 3) := by decide +kernel
theorem dM_goes_54 : decode cM_goes 54 = .ok (.iconst (-1), 1) := by decide +kernel
theorem dM_goes_55 : decode cM_goes 55 = .ok (.istore_n 1, 1) := by decide +kernel
theorem dM_goes_56 : decode cM_goes 56 = .ok (.iload_n 1, 1) := by decide +kernel
theorem dM_goes_57 : decode cM_goes 57 = .ok (.ifCond .lt 10, 3) := by decide +kernel
theorem dM_goes_60 : decode cM_goes 60 = .ok (.aload_n 0, 1) := by decide +kernel
theorem dM_goes_61 : decode cM_goes 61 = .ok (.iconst (-1), 1) := by decide +kernel
theorem dM_goes_62 : decode cM_goes 62 = .ok (.putfield 13, 3) := by decide +kernel
theorem dM_goes_65 : decode cM_goes 65 = .ok (.iload_n 1, 1) := by decide +kernel
theorem dM_goes_66 : decode cM_goes 66 = .ok (.ireturn, 1) := by decide +kernel
theorem dM_goes_67 : decode cM_goes 67 = .ok (.aload_n 0, 1) := by decide +kernel
theorem dM_goes_68 : decode cM_goes 68 = .ok (.invokevirtual 117, 3) := by decide +kernel
theorem dM_goes_71 : decode cM_goes 71 = .ok (.istore_n 1, 1) := by decide +kernel
theorem dM_goes_72 : decode cM_goes 72 = .ok (.iload_n 1, 1) := by decide +kernel
theorem dM_goes_73 : decode cM_goes 73 = .ok (.ifCond .ge 15, 3) := by decide +kernel
theorem dM_goes_76 : decode cM_goes 76 = .ok (.aload_n 0, 1) := by decide +kernel
theorem dM_goes_77 : decode cM_goes 77 = .ok (.dup, 1) := by decide +kernel
theorem dM_goes_78 : decode cM_goes 78 = .ok (.getfield 120, 3) := by decide +kernel
theorem dM_goes_81 : decode cM_goes 81 = .ok (.iconst 1, 1) := by decide +kernel
theorem dM_goes_82 : decode cM_goes 82 = .ok (.iadd, 1) := by decide +kernel
theorem dM_goes_83 : decode cM_goes 83 = .ok (.putfield 120, 3) := by decide +kernel
theorem dM_goes_86 : decode cM_goes 86 = .ok (.iconst (-1), 1) := by decide +kernel
theorem dM_goes_87 : decode cM_goes 87 = .ok (.ireturn, 1) := by decide +kernel
theorem dM_goes_88 : decode cM_goes 88 = .ok (.aload_n 0, 1) := by decide +kernel
theorem dM_goes_89 : decode cM_goes 89 = .ok (.iconst (-1), 1) := by decide +kernel
theorem dM_goes_90 : decode cM_goes 90 = .ok (.putfield 13, 3) := by decide +kernel
theorem dM_goes_93 : decode cM_goes 93 = .ok (.iload_n 1, 1) := by decide +kernel
theorem dM_goes_94 : decode cM_goes 94 = .ok (.aload_n 0, 1) := by decide +kernel
theorem dM_goes_95 : decode cM_goes 95 = .ok (.getfield 7, 3) := by decide +kernel
theorem dM_goes_98 : decode cM_goes 98 = .ok (.if_icmp .eq 17, 3) := by decide +kernel
theorem dM_goes_101 : decode cM_goes 101 = .ok (.aload_n 0, 1) := by decide +kernel
theorem dM_goes_102 : decode cM_goes 102 = .ok (.getfield 7, 3) := by decide +kernel
theorem dM_goes_105 : decode cM_goes 105 = .ok (.ifCond .lt 10, 3) := by decide +kernel
theorem dM_goes_108 : decode cM_goes 108 = .ok (.aload_n 0, 1) := by decide +kernel
theorem dM_goes_109 : decode cM_goes 109 = .ok (.getfield 81, 3) := by decide +kernel
theorem dM_goes_112 : decode cM_goes 112 = .ok (.ifCond .ne 5, 3) := by decide +kernel
theorem dM_goes_115 : decode cM_goes 115 = .ok (.iload_n 1, 1) := by decide +kernel
theorem dM_goes_116 : decode cM_goes 116 = .ok (.ireturn, 1) := by decide +kernel
theorem dM_goes_117 : decode cM_goes 117 = .ok (.aload_n 0, 1) := by decide +kernel
theorem dM_goes_118 : decode cM_goes 118 = .ok (.iload_n 1, 1) := by decide +kernel
theorem dM_goes_119 : decode cM_goes 119 = .ok (.putfield 13, 3) := by decide +kernel
theorem dM_goes_122 : decode cM_goes 122 = .ok (.aload_n 0, 1) := by decide +kernel
theorem dM_goes_123 : decode cM_goes 123 = .ok (.aload_n 0, 1) := by decide +kernel
theorem dM_goes_124 : decode cM_goes 124 = .ok (.getfield 81, 3) := by decide +kernel
theorem dM_goes_127 : decode cM_goes 127 = .ok (.iconst 1, 1) := by decide +kernel
theorem dM_goes_128 : decode cM_goes 128 = .ok (.isub, 1) := by decide +kernel
theorem dM_goes_129 : decode cM_goes 129 = .ok (.putfield 111, 3) := by decide +kernel
theorem dM_goes_132 : decode cM_goes 132 = .ok (.aload_n 0, 1) := by decide +kernel
theorem dM_goes_133 : decode cM_goes 133 = .ok (.getfield 39, 3) := by decide +kernel
theorem dM_goes_136 : decode cM_goes 136 = .ok (.iload_n 1, 1) := by decide +kernel
theorem dM_goes_137 : decode cM_goes 137 = .ok (.dup2, 1) := by decide +kernel
theorem dM_goes_138 : decode cM_goes 138 = .ok (.iaload, 1) := by decide +kernel
theorem dM_goes_139 : decode cM_goes 139 = .ok (.iconst 1, 1) := by decide +kernel
theorem dM_goes_140 : decode cM_goes 140 = .ok (.iadd, 1) := by decide +kernel
theorem dM_goes_141 : decode cM_goes 141 = .ok (.iastore, 1) := by decide +kernel
theorem dM_goes_142 : decode cM_goes 142 = .ok (.aload_n 0, 1) := by decide +kernel
theorem dM_goes_143 : decode cM_goes 143 = .ok (.dup, 1) := by decide +kernel
theorem dM_goes_144 : decode cM_goes 144 = .ok (.getfield 114, 3) := by decide +kernel
theorem dM_goes_147 : decode cM_goes 147 = .ok (.iconst 1, 1) := by decide +kernel
theorem dM_goes_148 : decode cM_goes 148 = .ok (.iadd, 1) := by decide +kernel
theorem dM_goes_149 : decode cM_goes 149 = .ok (.putfield 114, 3) := by decide +kernel
theorem dM_goes_152 : decode cM_goes 152 = .ok (.iconst (-1), 1) := by decide +kernel
theorem dM_goes_153 : decode cM_goes 153 = .ok (.ireturn, 1) := by decide +kernel
abbrev cM_step : ByteArray := prog_5_method_21_code
def yM_step : MethodName := ⟨"ThreadSlotsModel", "step", "()I"⟩
theorem dM_step_0 : decode cM_step 0 = .ok (.aload_n 0, 1) := by decide +kernel
theorem dM_step_1 : decode cM_step 1 = .ok (.dup, 1) := by decide +kernel
theorem dM_step_2 : decode cM_step 2 = .ok (.getfield 123, 3) := by decide +kernel
theorem dM_step_5 : decode cM_step 5 = .ok (.iconst 1, 1) := by decide +kernel
theorem dM_step_6 : decode cM_step 6 = .ok (.iadd, 1) := by decide +kernel
theorem dM_step_7 : decode cM_step 7 = .ok (.putfield 123, 3) := by decide +kernel
theorem dM_step_10 : decode cM_step 10 = .ok (.iconst 0, 1) := by decide +kernel
theorem dM_step_11 : decode cM_step 11 = .ok (.istore_n 1, 1) := by decide +kernel
theorem dM_step_12 : decode cM_step 12 = .ok (.iload_n 1, 1) := by decide +kernel
theorem dM_step_13 : decode cM_step 13 = .ok (.aload_n 0, 1) := by decide +kernel
theorem dM_step_14 : decode cM_step 14 = .ok (.getfield 57, 3) := by decide +kernel
theorem dM_step_17 : decode cM_step 17 = .ok (.if_icmp .ge 38, 3) := by decide +kernel
theorem dM_step_20 : decode cM_step 20 = .ok (.aload_n 0, 1) := by decide +kernel
theorem dM_step_21 : decode cM_step 21 = .ok (.getfield 24, 3) := by decide +kernel
theorem dM_step_24 : decode cM_step 24 = .ok (.iload_n 1, 1) := by decide +kernel
theorem dM_step_25 : decode cM_step 25 = .ok (.aload_n 0, 1) := by decide +kernel
theorem dM_step_26 : decode cM_step 26 = .ok (.getfield 24, 3) := by decide +kernel
theorem dM_step_29 : decode cM_step 29 = .ok (.iload_n 1, 1) := by decide +kernel
theorem dM_step_30 : decode cM_step 30 = .ok (.iaload, 1) := by decide +kernel
theorem dM_step_31 : decode cM_step 31 = .ok (.aload_n 0, 1) := by decide +kernel
theorem dM_step_32 : decode cM_step 32 = .ok (.getfield 123, 3) := by decide +kernel
theorem dM_step_35 : decode cM_step 35 = .ok (.if_icmp .gt 7, 3) := by decide +kernel
theorem dM_step_38 : decode cM_step 38 = .ok (.iconst 0, 1) := by decide +kernel
theorem dM_step_39 : decode cM_step 39 = .ok (.goto 9, 3) := by decide +kernel
theorem dM_step_42 : decode cM_step 42 = .ok (.aload_n 0, 1) := by decide +kernel
theorem dM_step_43 : decode cM_step 43 = .ok (.getfield 24, 3) := by decide +kernel
theorem dM_step_46 : decode cM_step 46 = .ok (.iload_n 1, 1) := by decide +kernel
theorem dM_step_47 : decode cM_step 47 = .ok (.iaload, 1) := by decide +kernel
theorem dM_step_48 : decode cM_step 48 = .ok (.iastore, 1) := by decide +kernel
theorem dM_step_49 : decode cM_step 49 = .ok (.iinc 1 1, 3) := by decide +kernel
theorem dM_step_52 : decode cM_step 52 = .ok (.goto (-40), 3) := by decide +kernel
theorem dM_step_55 : decode cM_step 55 = .ok (.aload_n 0, 1) := by decide +kernel
theorem dM_step_56 : decode cM_step 56 = .ok (.invokevirtual 126, 3) := by decide +kernel
theorem dM_step_59 : decode cM_step 59 = .ok (.istore_n 1, 1) := by decide +kernel
theorem dM_step_60 : decode cM_step 60 = .ok (.iconst 0, 1) := by decide +kernel
theorem dM_step_61 : decode cM_step 61 = .ok (.istore_n 2, 1) := by decide +kernel
theorem dM_step_62 : decode cM_step 62 = .ok (.iload_n 2, 1) := by decide +kernel
theorem dM_step_63 : decode cM_step 63 = .ok (.aload_n 0, 1) := by decide +kernel
theorem dM_step_64 : decode cM_step 64 = .ok (.getfield 57, 3) := by decide +kernel
theorem dM_step_67 : decode cM_step 67 = .ok (.if_icmp .ge 88, 3) := by decide +kernel
theorem dM_step_70 : decode cM_step 70 = .ok (.iload_n 2, 1) := by decide +kernel
theorem dM_step_71 : decode cM_step 71 = .ok (.iload_n 1, 1) := by decide +kernel
theorem dM_step_72 : decode cM_step 72 = .ok (.if_icmp .ne 23, 3) := by decide +kernel
theorem dM_step_75 : decode cM_step 75 = .ok (.aload_n 0, 1) := by decide +kernel
theorem dM_step_76 : decode cM_step 76 = .ok (.getfield 30, 3) := by decide +kernel
theorem dM_step_79 : decode cM_step 79 = .ok (.iload_n 2, 1) := by decide +kernel
theorem dM_step_80 : decode cM_step 80 = .ok (.iconst 0, 1) := by decide +kernel
theorem dM_step_81 : decode cM_step 81 = .ok (.iastore, 1) := by decide +kernel
theorem dM_step_82 : decode cM_step 82 = .ok (.aload_n 0, 1) := by decide +kernel
theorem dM_step_83 : decode cM_step 83 = .ok (.getfield 36, 3) := by decide +kernel
theorem dM_step_86 : decode cM_step 86 = .ok (.iload_n 2, 1) := by decide +kernel
theorem dM_step_87 : decode cM_step 87 = .ok (.dup2, 1) := by decide +kernel
theorem dM_step_88 : decode cM_step 88 = .ok (.iaload, 1) := by decide +kernel
theorem dM_step_89 : decode cM_step 89 = .ok (.iconst 1, 1) := by decide +kernel
theorem dM_step_90 : decode cM_step 90 = .ok (.iadd, 1) := by decide +kernel
theorem dM_step_91 : decode cM_step 91 = .ok (.iastore, 1) := by decide +kernel
theorem dM_step_92 : decode cM_step 92 = .ok (.goto 57, 3) := by decide +kernel
theorem dM_step_95 : decode cM_step 95 = .ok (.aload_n 0, 1) := by decide +kernel
theorem dM_step_96 : decode cM_step 96 = .ok (.iload_n 2, 1) := by decide +kernel
theorem dM_step_97 : decode cM_step 97 = .ok (.invokevirtual 89, 3) := by decide +kernel
theorem dM_step_100 : decode cM_step 100 = .ok (.ifCond .eq 49, 3) := by decide +kernel
theorem dM_step_103 : decode cM_step 103 = .ok (.aload_n 0, 1) := by decide +kernel
theorem dM_step_104 : decode cM_step 104 = .ok (.getfield 30, 3) := by decide +kernel
theorem dM_step_107 : decode cM_step 107 = .ok (.iload_n 2, 1) := by decide +kernel
theorem dM_step_108 : decode cM_step 108 = .ok (.dup2, 1) := by decide +kernel
theorem dM_step_109 : decode cM_step 109 = .ok (.iaload, 1) := by decide +kernel
theorem dM_step_110 : decode cM_step 110 = .ok (.iconst 1, 1) := by decide +kernel
theorem dM_step_111 : decode cM_step 111 = .ok (.iadd, 1) := by decide +kernel
theorem dM_step_112 : decode cM_step 112 = .ok (.iastore, 1) := by decide +kernel
theorem dM_step_113 : decode cM_step 113 = .ok (.aload_n 0, 1) := by decide +kernel
theorem dM_step_114 : decode cM_step 114 = .ok (.getfield 33, 3) := by decide +kernel
theorem dM_step_117 : decode cM_step 117 = .ok (.iload_n 2, 1) := by decide +kernel
theorem dM_step_118 : decode cM_step 118 = .ok (.aload_n 0, 1) := by decide +kernel
theorem dM_step_119 : decode cM_step 119 = .ok (.getfield 30, 3) := by decide +kernel
theorem dM_step_122 : decode cM_step 122 = .ok (.iload_n 2, 1) := by decide +kernel
theorem dM_step_123 : decode cM_step 123 = .ok (.iaload, 1) := by decide +kernel
theorem dM_step_124 : decode cM_step 124 = .ok (.aload_n 0, 1) := by decide +kernel
theorem dM_step_125 : decode cM_step 125 = .ok (.getfield 33, 3) := by decide +kernel
theorem dM_step_128 : decode cM_step 128 = .ok (.iload_n 2, 1) := by decide +kernel
theorem dM_step_129 : decode cM_step 129 = .ok (.iaload, 1) := by decide +kernel
theorem dM_step_130 : decode cM_step 130 = .ok (.if_icmp .le 12, 3) := by decide +kernel
theorem dM_step_133 : decode cM_step 133 = .ok (.aload_n 0, 1) := by decide +kernel
theorem dM_step_134 : decode cM_step 134 = .ok (.getfield 30, 3) := by decide +kernel
theorem dM_step_137 : decode cM_step 137 = .ok (.iload_n 2, 1) := by decide +kernel
theorem dM_step_138 : decode cM_step 138 = .ok (.iaload, 1) := by decide +kernel
theorem dM_step_139 : decode cM_step 139 = .ok (.goto 9, 3) := by decide +kernel
theorem dM_step_142 : decode cM_step 142 = .ok (.aload_n 0, 1) := by decide +kernel
theorem dM_step_143 : decode cM_step 143 = .ok (.getfield 33, 3) := by decide +kernel
theorem dM_step_146 : decode cM_step 146 = .ok (.iload_n 2, 1) := by decide +kernel
theorem dM_step_147 : decode cM_step 147 = .ok (.iaload, 1) := by decide +kernel
theorem dM_step_148 : decode cM_step 148 = .ok (.iastore, 1) := by decide +kernel
theorem dM_step_149 : decode cM_step 149 = .ok (.iinc 2 1, 3) := by decide +kernel
theorem dM_step_152 : decode cM_step 152 = .ok (.goto (-90), 3) := by decide +kernel
theorem dM_step_155 : decode cM_step 155 = .ok (.aload_n 0, 1) := by decide +kernel
theorem dM_step_156 : decode cM_step 156 = .ok (.iload_n 1, 1) := by decide +kernel
theorem dM_step_157 : decode cM_step 157 = .ok (.ifCond .lt 7, 3) := by decide +kernel
theorem dM_step_160 : decode cM_step 160 = .ok (.iload_n 1, 1) := by decide +kernel
theorem dM_step_161 : decode cM_step 161 = .ok (.goto 7, 3) := by decide +kernel
theorem dM_step_164 : decode cM_step 164 = .ok (.aload_n 0, 1) := by decide +kernel
theorem dM_step_165 : decode cM_step 165 = .ok (.getfield 7, 3) := by decide +kernel
theorem dM_step_168 : decode cM_step 168 = .ok (.putfield 7, 3) := by decide +kernel
theorem dM_step_171 : decode cM_step 171 = .ok (.aload_n 0, 1) := by decide +kernel
theorem dM_step_172 : decode cM_step 172 = .ok (.dup, 1) := by decide +kernel
theorem dM_step_173 : decode cM_step 173 = .ok (.getfield 129, 3) := by decide +kernel
theorem dM_step_176 : decode cM_step 176 = .ok (.iload_n 1, 1) := by decide +kernel
theorem dM_step_177 : decode cM_step 177 = .ok (.ifCond .lt 7, 3) := by decide +kernel
theorem dM_step_180 : decode cM_step 180 = .ok (.iconst 1, 1) := by decide +kernel
theorem dM_step_181 : decode cM_step 181 = .ok (.goto 4, 3) := by decide +kernel
theorem dM_step_184 : decode cM_step 184 = .ok (.iconst 0, 1) := by decide +kernel
theorem dM_step_185 : decode cM_step 185 = .ok (.iadd, 1) := by decide +kernel
theorem dM_step_186 : decode cM_step 186 = .ok (.putfield 129, 3) := by decide +kernel
theorem dM_step_189 : decode cM_step 189 = .ok (.iload_n 1, 1) := by decide +kernel
theorem dM_step_190 : decode cM_step 190 = .ok (.ireturn, 1) := by decide +kernel
abbrev cM_cycle : ByteArray := prog_5_method_22_code
def yM_cycle : MethodName := ⟨"ThreadSlotsModel", "cycle", "()I"⟩
theorem dM_cycle_0 : decode cM_cycle 0 = .ok (.aload_n 0, 1) := by decide +kernel
theorem dM_cycle_1 : decode cM_cycle 1 = .ok (.iconst 0, 1) := by decide +kernel
theorem dM_cycle_2 : decode cM_cycle 2 = .ok (.putfield 64, 3) := by decide +kernel
theorem dM_cycle_5 : decode cM_cycle 5 = .ok (.aload_n 0, 1) := by decide +kernel
theorem dM_cycle_6 : decode cM_cycle 6 = .ok (.invokevirtual 132, 3) := by decide +kernel
theorem dM_cycle_9 : decode cM_cycle 9 = .ok (.ireturn, 1) := by decide +kernel
abbrev cM_run : ByteArray := prog_5_method_23_code
def yM_run : MethodName := ⟨"ThreadSlotsModel", "run", "(I)I"⟩
theorem dM_run_0 : decode cM_run 0 = .ok (.aload_n 0, 1) := by decide +kernel
theorem dM_run_1 : decode cM_run 1 = .ok (.iconst 0, 1) := by decide +kernel
theorem dM_run_2 : decode cM_run 2 = .ok (.putfield 64, 3) := by decide +kernel
theorem dM_run_5 : decode cM_run 5 = .ok (.iload_n 1, 1) := by decide +kernel
theorem dM_run_6 : decode cM_run 6 = .ok (.iconst 1, 1) := by decide +kernel
theorem dM_run_7 : decode cM_run 7 = .ok (.sipush 2000, 3) := by decide +kernel
theorem dM_run_10 : decode cM_run 10 = .ok (.invokestatic 67, 3) := by decide +kernel
theorem dM_run_13 : decode cM_run 13 = .ok (.ifCond .ne 9, 3) := by decide +kernel
theorem dM_run_16 : decode cM_run 16 = .ok (.aload_n 0, 1) := by decide +kernel
theorem dM_run_17 : decode cM_run 17 = .ok (.iconst 1, 1) := by decide +kernel
theorem dM_run_18 : decode cM_run 18 = .ok (.invokevirtual 71, 3) := by decide +kernel
theorem dM_run_21 : decode cM_run 21 = .ok (.ireturn, 1) := by decide +kernel
theorem dM_run_22 : decode cM_run 22 = .ok (.aload_n 0, 1) := by decide +kernel
theorem dM_run_23 : decode cM_run 23 = .ok (.getfield 129, 3) := by decide +kernel
theorem dM_run_26 : decode cM_run 26 = .ok (.istore_n 2, 1) := by decide +kernel
theorem dM_run_27 : decode cM_run 27 = .ok (.iconst 0, 1) := by decide +kernel
theorem dM_run_28 : decode cM_run 28 = .ok (.istore_n 3, 1) := by decide +kernel
theorem dM_run_29 : decode cM_run 29 = .ok (.iload_n 3, 1) := by decide +kernel
theorem dM_run_30 : decode cM_run 30 = .ok (.iload_n 1, 1) := by decide +kernel
theorem dM_run_31 : decode cM_run 31 = .ok (.if_icmp .ge 14, 3) := by decide +kernel
theorem dM_run_34 : decode cM_run 34 = .ok (.aload_n 0, 1) := by decide +kernel
theorem dM_run_35 : decode cM_run 35 = .ok (.invokevirtual 132, 3) := by decide +kernel
theorem dM_run_38 : decode cM_run 38 = .ok (.pop, 1) := by decide +kernel
theorem dM_run_39 : decode cM_run 39 = .ok (.iinc 3 1, 3) := by decide +kernel
theorem dM_run_42 : decode cM_run 42 = .ok (.goto (-13), 3) := by decide +kernel
theorem dM_run_45 : decode cM_run 45 = .ok (.aload_n 0, 1) := by decide +kernel
theorem dM_run_46 : decode cM_run 46 = .ok (.getfield 129, 3) := by decide +kernel
theorem dM_run_49 : decode cM_run 49 = .ok (.iload_n 2, 1) := by decide +kernel
theorem dM_run_50 : decode cM_run 50 = .ok (.isub, 1) := by decide +kernel
theorem dM_run_51 : decode cM_run 51 = .ok (.ireturn, 1) := by decide +kernel
abbrev cM_isQueue : ByteArray := prog_5_method_24_code
def yM_isQueue : MethodName := ⟨"ThreadSlotsModel", "isQueue", "(I)Z"⟩
theorem dM_isQueue_0 : decode cM_isQueue 0 = .ok (.aload_n 0, 1) := by decide +kernel
theorem dM_isQueue_1 : decode cM_isQueue 1 = .ok (.iload_n 1, 1) := by decide +kernel
theorem dM_isQueue_2 : decode cM_isQueue 2 = .ok (.iconst 0, 1) := by decide +kernel
theorem dM_isQueue_3 : decode cM_isQueue 3 = .ok (.bipush 7, 2) := by decide +kernel
theorem dM_isQueue_5 : decode cM_isQueue 5 = .ok (.invokestatic 67, 3) := by decide +kernel
theorem dM_isQueue_8 : decode cM_isQueue 8 = .ok (.ifCond .eq 7, 3) := by decide +kernel
theorem dM_isQueue_11 : decode cM_isQueue 11 = .ok (.iconst 0, 1) := by decide +kernel
theorem dM_isQueue_12 : decode cM_isQueue 12 = .ok (.goto 4, 3) := by decide +kernel
theorem dM_isQueue_15 : decode cM_isQueue 15 = .ok (.iconst 1, 1) := by decide +kernel
theorem dM_isQueue_16 : decode cM_isQueue 16 = .ok (.putfield 64, 3) := by decide +kernel
theorem dM_isQueue_19 : decode cM_isQueue 19 = .ok (.aload_n 0, 1) := by decide +kernel
theorem dM_isQueue_20 : decode cM_isQueue 20 = .ok (.getfield 64, 3) := by decide +kernel
theorem dM_isQueue_23 : decode cM_isQueue 23 = .ok (.ifCond .ne 7, 3) := by decide +kernel
theorem dM_isQueue_26 : decode cM_isQueue 26 = .ok (.iconst 1, 1) := by decide +kernel
theorem dM_isQueue_27 : decode cM_isQueue 27 = .ok (.goto 4, 3) := by decide +kernel
theorem dM_isQueue_30 : decode cM_isQueue 30 = .ok (.iconst 0, 1) := by decide +kernel
theorem dM_isQueue_31 : decode cM_isQueue 31 = .ok (.ireturn, 1) := by decide +kernel
abbrev cM_part : ByteArray := prog_5_method_25_code
def yM_part : MethodName := ⟨"ThreadSlotsModel", "part", "(III)I"⟩
theorem dM_part_0 : decode cM_part 0 = .ok (.aload_n 0, 1) := by decide +kernel
theorem dM_part_1 : decode cM_part 1 = .ok (.iload_n 1, 1) := by decide +kernel
theorem dM_part_2 : decode cM_part 2 = .ok (.invokevirtual 135, 3) := by decide +kernel
theorem dM_part_5 : decode cM_part 5 = .ok (.ifCond .eq 11, 3) := by decide +kernel
theorem dM_part_8 : decode cM_part 8 = .ok (.aload_n 0, 1) := by decide +kernel
theorem dM_part_9 : decode cM_part 9 = .ok (.iload_n 2, 1) := by decide +kernel
theorem dM_part_10 : decode cM_part 10 = .ok (.invokevirtual 84, 3) := by decide +kernel
theorem dM_part_13 : decode cM_part 13 = .ok (.ifCond .ne 5, 3) := by decide +kernel
theorem dM_part_16 : decode cM_part 16 = .ok (.iconst 0, 1) := by decide +kernel
theorem dM_part_17 : decode cM_part 17 = .ok (.ireturn, 1) := by decide +kernel
theorem dM_part_18 : decode cM_part 18 = .ok (.iload_n 3, 1) := by decide +kernel
theorem dM_part_19 : decode cM_part 19 = .ok (.iconst 0, 1) := by decide +kernel
theorem dM_part_20 : decode cM_part 20 = .ok (.bipush 32, 2) := by decide +kernel
theorem dM_part_22 : decode cM_part 22 = .ok (.invokestatic 67, 3) := by decide +kernel
theorem dM_part_25 : decode cM_part 25 = .ok (.ifCond .ne 9, 3) := by decide +kernel
theorem dM_part_28 : decode cM_part 28 = .ok (.aload_n 0, 1) := by decide +kernel
theorem dM_part_29 : decode cM_part 29 = .ok (.iconst 2, 1) := by decide +kernel
theorem dM_part_30 : decode cM_part 30 = .ok (.invokevirtual 71, 3) := by decide +kernel
theorem dM_part_33 : decode cM_part 33 = .ok (.ireturn, 1) := by decide +kernel
theorem dM_part_34 : decode cM_part 34 = .ok (.aload_n 0, 1) := by decide +kernel
theorem dM_part_35 : decode cM_part 35 = .ok (.getfield 54, 3) := by decide +kernel
theorem dM_part_38 : decode cM_part 38 = .ok (.bipush 16, 2) := by decide +kernel
theorem dM_part_40 : decode cM_part 40 = .ok (.iload_n 1, 1) := by decide +kernel
theorem dM_part_41 : decode cM_part 41 = .ok (.imul, 1) := by decide +kernel
theorem dM_part_42 : decode cM_part 42 = .ok (.iload_n 2, 1) := by decide +kernel
theorem dM_part_43 : decode cM_part 43 = .ok (.iadd, 1) := by decide +kernel
theorem dM_part_44 : decode cM_part 44 = .ok (.iaload, 1) := by decide +kernel
theorem dM_part_45 : decode cM_part 45 = .ok (.istore 4, 2) := by decide +kernel
theorem dM_part_47 : decode cM_part 47 = .ok (.aload_n 0, 1) := by decide +kernel
theorem dM_part_48 : decode cM_part 48 = .ok (.getfield 54, 3) := by decide +kernel
theorem dM_part_51 : decode cM_part 51 = .ok (.bipush 16, 2) := by decide +kernel
theorem dM_part_53 : decode cM_part 53 = .ok (.iload_n 1, 1) := by decide +kernel
theorem dM_part_54 : decode cM_part 54 = .ok (.imul, 1) := by decide +kernel
theorem dM_part_55 : decode cM_part 55 = .ok (.iload_n 2, 1) := by decide +kernel
theorem dM_part_56 : decode cM_part 56 = .ok (.iadd, 1) := by decide +kernel
theorem dM_part_57 : decode cM_part 57 = .ok (.iload_n 3, 1) := by decide +kernel
theorem dM_part_58 : decode cM_part 58 = .ok (.iastore, 1) := by decide +kernel
theorem dM_part_59 : decode cM_part 59 = .ok (.iload 4, 2) := by decide +kernel
theorem dM_part_61 : decode cM_part 61 = .ok (.ireturn, 1) := by decide +kernel
abbrev cM_has : ByteArray := prog_5_method_26_code
def yM_has : MethodName := ⟨"ThreadSlotsModel", "has", "(II)I"⟩
theorem dM_has_0 : decode cM_has 0 = .ok (.iconst 0, 1) := by decide +kernel
theorem dM_has_1 : decode cM_has 1 = .ok (.istore_n 3, 1) := by decide +kernel
theorem dM_has_2 : decode cM_has 2 = .ok (.iconst 0, 1) := by decide +kernel
theorem dM_has_3 : decode cM_has 3 = .ok (.istore 4, 2) := by decide +kernel
theorem dM_has_5 : decode cM_has 5 = .ok (.iload 4, 2) := by decide +kernel
theorem dM_has_7 : decode cM_has 7 = .ok (.aload_n 0, 1) := by decide +kernel
theorem dM_has_8 : decode cM_has 8 = .ok (.getfield 45, 3) := by decide +kernel
theorem dM_has_11 : decode cM_has 11 = .ok (.iload_n 1, 1) := by decide +kernel
theorem dM_has_12 : decode cM_has 12 = .ok (.iaload, 1) := by decide +kernel
theorem dM_has_13 : decode cM_has 13 = .ok (.if_icmp .ge 33, 3) := by decide +kernel
theorem dM_has_16 : decode cM_has 16 = .ok (.iload_n 3, 1) := by decide +kernel
theorem dM_has_17 : decode cM_has 17 = .ok (.aload_n 0, 1) := by decide +kernel
theorem dM_has_18 : decode cM_has 18 = .ok (.getfield 48, 3) := by decide +kernel
theorem dM_has_21 : decode cM_has 21 = .ok (.bipush 32, 2) := by decide +kernel
theorem dM_has_23 : decode cM_has 23 = .ok (.iload_n 1, 1) := by decide +kernel
theorem dM_has_24 : decode cM_has 24 = .ok (.imul, 1) := by decide +kernel
theorem dM_has_25 : decode cM_has 25 = .ok (.iload 4, 2) := by decide +kernel
theorem dM_has_27 : decode cM_has 27 = .ok (.iadd, 1) := by decide +kernel
theorem dM_has_28 : decode cM_has 28 = .ok (.iaload, 1) := by decide +kernel
theorem dM_has_29 : decode cM_has 29 = .ok (.iload_n 2, 1) := by decide +kernel
theorem dM_has_30 : decode cM_has 30 = .ok (.if_icmp .ne 7, 3) := by decide +kernel
theorem dM_has_33 : decode cM_has 33 = .ok (.iconst 1, 1) := by decide +kernel
theorem dM_has_34 : decode cM_has 34 = .ok (.goto 4, 3) := by decide +kernel
theorem dM_has_37 : decode cM_has 37 = .ok (.iconst 0, 1) := by decide +kernel
theorem dM_has_38 : decode cM_has 38 = .ok (.iadd, 1) := by decide +kernel
theorem dM_has_39 : decode cM_has 39 = .ok (.istore_n 3, 1) := by decide +kernel
theorem dM_has_40 : decode cM_has 40 = .ok (.iinc 4 1, 3) := by decide +kernel
theorem dM_has_43 : decode cM_has 43 = .ok (.goto (-38), 3) := by decide +kernel
theorem dM_has_46 : decode cM_has 46 = .ok (.iload_n 3, 1) := by decide +kernel
theorem dM_has_47 : decode cM_has 47 = .ok (.ireturn, 1) := by decide +kernel
abbrev cM_put : ByteArray := prog_5_method_27_code
def yM_put : MethodName := ⟨"ThreadSlotsModel", "put", "(III)I"⟩
theorem dM_put_0 : decode cM_put 0 = .ok (.aload_n 0, 1) := by decide +kernel
theorem dM_put_1 : decode cM_put 1 = .ok (.iload_n 1, 1) := by decide +kernel
theorem dM_put_2 : decode cM_put 2 = .ok (.invokevirtual 135, 3) := by decide +kernel
theorem dM_put_5 : decode cM_put 5 = .ok (.ifCond .eq 11, 3) := by decide +kernel
theorem dM_put_8 : decode cM_put 8 = .ok (.aload_n 0, 1) := by decide +kernel
theorem dM_put_9 : decode cM_put 9 = .ok (.iload_n 2, 1) := by decide +kernel
theorem dM_put_10 : decode cM_put 10 = .ok (.invokevirtual 84, 3) := by decide +kernel
theorem dM_put_13 : decode cM_put 13 = .ok (.ifCond .ne 5, 3) := by decide +kernel
theorem dM_put_16 : decode cM_put 16 = .ok (.iconst 0, 1) := by decide +kernel
theorem dM_put_17 : decode cM_put 17 = .ok (.ireturn, 1) := by decide +kernel
theorem dM_put_18 : decode cM_put 18 = .ok (.aload_n 0, 1) := by decide +kernel
theorem dM_put_19 : decode cM_put 19 = .ok (.iload_n 1, 1) := by decide +kernel
theorem dM_put_20 : decode cM_put 20 = .ok (.iload_n 2, 1) := by decide +kernel
theorem dM_put_21 : decode cM_put 21 = .ok (.invokevirtual 138, 3) := by decide +kernel
theorem dM_put_24 : decode cM_put 24 = .ok (.aload_n 0, 1) := by decide +kernel
theorem dM_put_25 : decode cM_put 25 = .ok (.getfield 54, 3) := by decide +kernel
theorem dM_put_28 : decode cM_put 28 = .ok (.bipush 16, 2) := by decide +kernel
theorem dM_put_30 : decode cM_put 30 = .ok (.iload_n 1, 1) := by decide +kernel
theorem dM_put_31 : decode cM_put 31 = .ok (.imul, 1) := by decide +kernel
theorem dM_put_32 : decode cM_put 32 = .ok (.iload_n 2, 1) := by decide +kernel
theorem dM_put_33 : decode cM_put 33 = .ok (.iadd, 1) := by decide +kernel
theorem dM_put_34 : decode cM_put 34 = .ok (.iaload, 1) := by decide +kernel
theorem dM_put_35 : decode cM_put 35 = .ok (.if_icmp .ge 14, 3) := by decide +kernel
theorem dM_put_38 : decode cM_put 38 = .ok (.aload_n 0, 1) := by decide +kernel
theorem dM_put_39 : decode cM_put 39 = .ok (.getfield 45, 3) := by decide +kernel
theorem dM_put_42 : decode cM_put 42 = .ok (.iload_n 1, 1) := by decide +kernel
theorem dM_put_43 : decode cM_put 43 = .ok (.iaload, 1) := by decide +kernel
theorem dM_put_44 : decode cM_put 44 = .ok (.bipush 32, 2) := by decide +kernel
theorem dM_put_46 : decode cM_put 46 = .ok (.if_icmp .ne 5, 3) := by decide +kernel
theorem dM_put_49 : decode cM_put 49 = .ok (.iconst (-1), 1) := by decide +kernel
theorem dM_put_50 : decode cM_put 50 = .ok (.ireturn, 1) := by decide +kernel
theorem dM_put_51 : decode cM_put 51 = .ok (.aload_n 0, 1) := by decide +kernel
theorem dM_put_52 : decode cM_put 52 = .ok (.getfield 48, 3) := by decide +kernel
theorem dM_put_55 : decode cM_put 55 = .ok (.bipush 32, 2) := by decide +kernel
theorem dM_put_57 : decode cM_put 57 = .ok (.iload_n 1, 1) := by decide +kernel
theorem dM_put_58 : decode cM_put 58 = .ok (.imul, 1) := by decide +kernel
theorem dM_put_59 : decode cM_put 59 = .ok (.aload_n 0, 1) := by decide +kernel
theorem dM_put_60 : decode cM_put 60 = .ok (.getfield 45, 3) := by decide +kernel
theorem dM_put_63 : decode cM_put 63 = .ok (.iload_n 1, 1) := by decide +kernel
theorem dM_put_64 : decode cM_put 64 = .ok (.iaload, 1) := by decide +kernel
theorem dM_put_65 : decode cM_put 65 = .ok (.iadd, 1) := by decide +kernel
theorem dM_put_66 : decode cM_put 66 = .ok (.iload_n 2, 1) := by decide +kernel
theorem dM_put_67 : decode cM_put 67 = .ok (.iastore, 1) := by decide +kernel
theorem dM_put_68 : decode cM_put 68 = .ok (.aload_n 0, 1) := by decide +kernel
theorem dM_put_69 : decode cM_put 69 = .ok (.getfield 51, 3) := by decide +kernel
theorem dM_put_72 : decode cM_put 72 = .ok (.bipush 32, 2) := by decide +kernel
theorem dM_put_74 : decode cM_put 74 = .ok (.iload_n 1, 1) := by decide +kernel
theorem dM_put_75 : decode cM_put 75 = .ok (.imul, 1) := by decide +kernel
theorem dM_put_76 : decode cM_put 76 = .ok (.aload_n 0, 1) := by decide +kernel
theorem dM_put_77 : decode cM_put 77 = .ok (.getfield 45, 3) := by decide +kernel
theorem dM_put_80 : decode cM_put 80 = .ok (.iload_n 1, 1) := by decide +kernel
theorem dM_put_81 : decode cM_put 81 = .ok (.iaload, 1) := by decide +kernel
theorem dM_put_82 : decode cM_put 82 = .ok (.iadd, 1) := by decide +kernel
theorem dM_put_83 : decode cM_put 83 = .ok (.iload_n 3, 1) := by decide +kernel
theorem dM_put_84 : decode cM_put 84 = .ok (.iastore, 1) := by decide +kernel
theorem dM_put_85 : decode cM_put 85 = .ok (.aload_n 0, 1) := by decide +kernel
theorem dM_put_86 : decode cM_put 86 = .ok (.getfield 45, 3) := by decide +kernel
theorem dM_put_89 : decode cM_put 89 = .ok (.iload_n 1, 1) := by decide +kernel
theorem dM_put_90 : decode cM_put 90 = .ok (.dup2, 1) := by decide +kernel
theorem dM_put_91 : decode cM_put 91 = .ok (.iaload, 1) := by decide +kernel
theorem dM_put_92 : decode cM_put 92 = .ok (.iconst 1, 1) := by decide +kernel
theorem dM_put_93 : decode cM_put 93 = .ok (.iadd, 1) := by decide +kernel
theorem dM_put_94 : decode cM_put 94 = .ok (.iastore, 1) := by decide +kernel
theorem dM_put_95 : decode cM_put 95 = .ok (.aload_n 0, 1) := by decide +kernel
theorem dM_put_96 : decode cM_put 96 = .ok (.iload_n 1, 1) := by decide +kernel
theorem dM_put_97 : decode cM_put 97 = .ok (.iload_n 2, 1) := by decide +kernel
theorem dM_put_98 : decode cM_put 98 = .ok (.invokevirtual 138, 3) := by decide +kernel
theorem dM_put_101 : decode cM_put 101 = .ok (.ireturn, 1) := by decide +kernel
abbrev cM_take : ByteArray := prog_5_method_28_code
def yM_take : MethodName := ⟨"ThreadSlotsModel", "take", "(II)I"⟩
theorem dM_take_0 : decode cM_take 0 = .ok (.aload_n 0, 1) := by decide +kernel
theorem dM_take_1 : decode cM_take 1 = .ok (.iload_n 1, 1) := by decide +kernel
theorem dM_take_2 : decode cM_take 2 = .ok (.invokevirtual 135, 3) := by decide +kernel
theorem dM_take_5 : decode cM_take 5 = .ok (.ifCond .eq 16, 3) := by decide +kernel
theorem dM_take_8 : decode cM_take 8 = .ok (.iload_n 2, 1) := by decide +kernel
theorem dM_take_9 : decode cM_take 9 = .ok (.iconst (-1), 1) := by decide +kernel
theorem dM_take_10 : decode cM_take 10 = .ok (.if_icmp .eq 13, 3) := by decide +kernel
theorem dM_take_13 : decode cM_take 13 = .ok (.aload_n 0, 1) := by decide +kernel
theorem dM_take_14 : decode cM_take 14 = .ok (.iload_n 2, 1) := by decide +kernel
theorem dM_take_15 : decode cM_take 15 = .ok (.invokevirtual 84, 3) := by decide +kernel
theorem dM_take_18 : decode cM_take 18 = .ok (.ifCond .ne 5, 3) := by decide +kernel
theorem dM_take_21 : decode cM_take 21 = .ok (.iconst 0, 1) := by decide +kernel
theorem dM_take_22 : decode cM_take 22 = .ok (.ireturn, 1) := by decide +kernel
theorem dM_take_23 : decode cM_take 23 = .ok (.iconst 0, 1) := by decide +kernel
theorem dM_take_24 : decode cM_take 24 = .ok (.istore_n 3, 1) := by decide +kernel
theorem dM_take_25 : decode cM_take 25 = .ok (.iload_n 3, 1) := by decide +kernel
theorem dM_take_26 : decode cM_take 26 = .ok (.aload_n 0, 1) := by decide +kernel
theorem dM_take_27 : decode cM_take 27 = .ok (.getfield 45, 3) := by decide +kernel
theorem dM_take_30 : decode cM_take 30 = .ok (.iload_n 1, 1) := by decide +kernel
theorem dM_take_31 : decode cM_take 31 = .ok (.iaload, 1) := by decide +kernel
theorem dM_take_32 : decode cM_take 32 = .ok (.if_icmp .ge 29, 3) := by decide +kernel
theorem dM_take_35 : decode cM_take 35 = .ok (.iload_n 2, 1) := by decide +kernel
theorem dM_take_36 : decode cM_take 36 = .ok (.iconst (-1), 1) := by decide +kernel
theorem dM_take_37 : decode cM_take 37 = .ok (.if_icmp .eq 24, 3) := by decide +kernel
theorem dM_take_40 : decode cM_take 40 = .ok (.aload_n 0, 1) := by decide +kernel
theorem dM_take_41 : decode cM_take 41 = .ok (.getfield 48, 3) := by decide +kernel
theorem dM_take_44 : decode cM_take 44 = .ok (.bipush 32, 2) := by decide +kernel
theorem dM_take_46 : decode cM_take 46 = .ok (.iload_n 1, 1) := by decide +kernel
theorem dM_take_47 : decode cM_take 47 = .ok (.imul, 1) := by decide +kernel
theorem dM_take_48 : decode cM_take 48 = .ok (.iload_n 3, 1) := by decide +kernel
theorem dM_take_49 : decode cM_take 49 = .ok (.iadd, 1) := by decide +kernel
theorem dM_take_50 : decode cM_take 50 = .ok (.iaload, 1) := by decide +kernel
theorem dM_take_51 : decode cM_take 51 = .ok (.iload_n 2, 1) := by decide +kernel
theorem dM_take_52 : decode cM_take 52 = .ok (.if_icmp .eq 9, 3) := by decide +kernel
theorem dM_take_55 : decode cM_take 55 = .ok (.iinc 3 1, 3) := by decide +kernel
theorem dM_take_58 : decode cM_take 58 = .ok (.goto (-33), 3) := by decide +kernel
theorem dM_take_61 : decode cM_take 61 = .ok (.iload_n 3, 1) := by decide +kernel
theorem dM_take_62 : decode cM_take 62 = .ok (.aload_n 0, 1) := by decide +kernel
theorem dM_take_63 : decode cM_take 63 = .ok (.getfield 45, 3) := by decide +kernel
theorem dM_take_66 : decode cM_take 66 = .ok (.iload_n 1, 1) := by decide +kernel
theorem dM_take_67 : decode cM_take 67 = .ok (.iaload, 1) := by decide +kernel
theorem dM_take_68 : decode cM_take 68 = .ok (.if_icmp .ne 9, 3) := by decide +kernel
theorem dM_take_71 : decode cM_take 71 = .ok (.aload_n 0, 1) := by decide +kernel
theorem dM_take_72 : decode cM_take 72 = .ok (.iconst 2, 1) := by decide +kernel
theorem dM_take_73 : decode cM_take 73 = .ok (.invokevirtual 71, 3) := by decide +kernel
theorem dM_take_76 : decode cM_take 76 = .ok (.ireturn, 1) := by decide +kernel
theorem dM_take_77 : decode cM_take 77 = .ok (.aload_n 0, 1) := by decide +kernel
theorem dM_take_78 : decode cM_take 78 = .ok (.getfield 51, 3) := by decide +kernel
theorem dM_take_81 : decode cM_take 81 = .ok (.bipush 32, 2) := by decide +kernel
theorem dM_take_83 : decode cM_take 83 = .ok (.iload_n 1, 1) := by decide +kernel
theorem dM_take_84 : decode cM_take 84 = .ok (.imul, 1) := by decide +kernel
theorem dM_take_85 : decode cM_take 85 = .ok (.iload_n 3, 1) := by decide +kernel
theorem dM_take_86 : decode cM_take 86 = .ok (.iadd, 1) := by decide +kernel
theorem dM_take_87 : decode cM_take 87 = .ok (.iaload, 1) := by decide +kernel
theorem dM_take_88 : decode cM_take 88 = .ok (.istore 4, 2) := by decide +kernel
theorem dM_take_90 : decode cM_take 90 = .ok (.aload_n 0, 1) := by decide +kernel
theorem dM_take_91 : decode cM_take 91 = .ok (.getfield 45, 3) := by decide +kernel
theorem dM_take_94 : decode cM_take 94 = .ok (.iload_n 1, 1) := by decide +kernel
theorem dM_take_95 : decode cM_take 95 = .ok (.dup2, 1) := by decide +kernel
theorem dM_take_96 : decode cM_take 96 = .ok (.iaload, 1) := by decide +kernel
theorem dM_take_97 : decode cM_take 97 = .ok (.iconst 1, 1) := by decide +kernel
theorem dM_take_98 : decode cM_take 98 = .ok (.isub, 1) := by decide +kernel
theorem dM_take_99 : decode cM_take 99 = .ok (.iastore, 1) := by decide +kernel
theorem dM_take_100 : decode cM_take 100 = .ok (.iload_n 3, 1) := by decide +kernel
theorem dM_take_101 : decode cM_take 101 = .ok (.istore 5, 2) := by decide +kernel
theorem dM_take_103 : decode cM_take 103 = .ok (.iload 5, 2) := by decide +kernel
theorem dM_take_105 : decode cM_take 105 = .ok (.aload_n 0, 1) := by decide +kernel
theorem dM_take_106 : decode cM_take 106 = .ok (.getfield 45, 3) := by decide +kernel
theorem dM_take_109 : decode cM_take 109 = .ok (.iload_n 1, 1) := by decide +kernel
theorem dM_take_110 : decode cM_take 110 = .ok (.iaload, 1) := by decide +kernel
theorem dM_take_111 : decode cM_take 111 = .ok (.if_icmp .ge 61, 3) := by decide +kernel
theorem dM_take_114 : decode cM_take 114 = .ok (.aload_n 0, 1) := by decide +kernel
theorem dM_take_115 : decode cM_take 115 = .ok (.getfield 48, 3) := by decide +kernel
theorem dM_take_118 : decode cM_take 118 = .ok (.bipush 32, 2) := by decide +kernel
theorem dM_take_120 : decode cM_take 120 = .ok (.iload_n 1, 1) := by decide +kernel
theorem dM_take_121 : decode cM_take 121 = .ok (.imul, 1) := by decide +kernel
theorem dM_take_122 : decode cM_take 122 = .ok (.iload 5, 2) := by decide +kernel
theorem dM_take_124 : decode cM_take 124 = .ok (.iadd, 1) := by decide +kernel
theorem dM_take_125 : decode cM_take 125 = .ok (.aload_n 0, 1) := by decide +kernel
theorem dM_take_126 : decode cM_take 126 = .ok (.getfield 48, 3) := by decide +kernel
theorem dM_take_129 : decode cM_take 129 = .ok (.bipush 32, 2) := by decide +kernel
theorem dM_take_131 : decode cM_take 131 = .ok (.iload_n 1, 1) := by decide +kernel
theorem dM_take_132 : decode cM_take 132 = .ok (.imul, 1) := by decide +kernel
theorem dM_take_133 : decode cM_take 133 = .ok (.iload 5, 2) := by decide +kernel
theorem dM_take_135 : decode cM_take 135 = .ok (.iadd, 1) := by decide +kernel
theorem dM_take_136 : decode cM_take 136 = .ok (.iconst 1, 1) := by decide +kernel
theorem dM_take_137 : decode cM_take 137 = .ok (.iadd, 1) := by decide +kernel
theorem dM_take_138 : decode cM_take 138 = .ok (.iaload, 1) := by decide +kernel
theorem dM_take_139 : decode cM_take 139 = .ok (.iastore, 1) := by decide +kernel
theorem dM_take_140 : decode cM_take 140 = .ok (.aload_n 0, 1) := by decide +kernel
theorem dM_take_141 : decode cM_take 141 = .ok (.getfield 51, 3) := by decide +kernel
theorem dM_take_144 : decode cM_take 144 = .ok (.bipush 32, 2) := by decide +kernel
theorem dM_take_146 : decode cM_take 146 = .ok (.iload_n 1, 1) := by decide +kernel
theorem dM_take_147 : decode cM_take 147 = .ok (.imul, 1) := by decide +kernel
theorem dM_take_148 : decode cM_take 148 = .ok (.iload 5, 2) := by decide +kernel
theorem dM_take_150 : decode cM_take 150 = .ok (.iadd, 1) := by decide +kernel
theorem dM_take_151 : decode cM_take 151 = .ok (.aload_n 0, 1) := by decide +kernel
theorem dM_take_152 : decode cM_take 152 = .ok (.getfield 51, 3) := by decide +kernel
theorem dM_take_155 : decode cM_take 155 = .ok (.bipush 32, 2) := by decide +kernel
theorem dM_take_157 : decode cM_take 157 = .ok (.iload_n 1, 1) := by decide +kernel
theorem dM_take_158 : decode cM_take 158 = .ok (.imul, 1) := by decide +kernel
theorem dM_take_159 : decode cM_take 159 = .ok (.iload 5, 2) := by decide +kernel
theorem dM_take_161 : decode cM_take 161 = .ok (.iadd, 1) := by decide +kernel
theorem dM_take_162 : decode cM_take 162 = .ok (.iconst 1, 1) := by decide +kernel
theorem dM_take_163 : decode cM_take 163 = .ok (.iadd, 1) := by decide +kernel
theorem dM_take_164 : decode cM_take 164 = .ok (.iaload, 1) := by decide +kernel
theorem dM_take_165 : decode cM_take 165 = .ok (.iastore, 1) := by decide +kernel
theorem dM_take_166 : decode cM_take 166 = .ok (.iinc 5 1, 3) := by decide +kernel
theorem dM_take_169 : decode cM_take 169 = .ok (.goto (-66), 3) := by decide +kernel
theorem dM_take_172 : decode cM_take 172 = .ok (.iload 4, 2) := by decide +kernel
theorem dM_take_174 : decode cM_take 174 = .ok (.ireturn, 1) := by decide +kernel
abbrev cM_entry : ByteArray := prog_5_method_29_code
def yM_entry : MethodName := ⟨"ThreadSlotsModel", "entry", "(III)I"⟩
theorem dM_entry_0 : decode cM_entry 0 = .ok (.aload_n 0, 1) := by decide +kernel
theorem dM_entry_1 : decode cM_entry 1 = .ok (.iload_n 1, 1) := by decide +kernel
theorem dM_entry_2 : decode cM_entry 2 = .ok (.invokevirtual 135, 3) := by decide +kernel
theorem dM_entry_5 : decode cM_entry 5 = .ok (.ifCond .ne 5, 3) := by decide +kernel
theorem dM_entry_8 : decode cM_entry 8 = .ok (.iconst 0, 1) := by decide +kernel
theorem dM_entry_9 : decode cM_entry 9 = .ok (.ireturn, 1) := by decide +kernel
theorem dM_entry_10 : decode cM_entry 10 = .ok (.iload_n 2, 1) := by decide +kernel
theorem dM_entry_11 : decode cM_entry 11 = .ok (.iconst 0, 1) := by decide +kernel
theorem dM_entry_12 : decode cM_entry 12 = .ok (.aload_n 0, 1) := by decide +kernel
theorem dM_entry_13 : decode cM_entry 13 = .ok (.getfield 45, 3) := by decide +kernel
theorem dM_entry_16 : decode cM_entry 16 = .ok (.iload_n 1, 1) := by decide +kernel
theorem dM_entry_17 : decode cM_entry 17 = .ok (.iaload, 1) := by decide +kernel
theorem dM_entry_18 : decode cM_entry 18 = .ok (.iconst 1, 1) := by decide +kernel
theorem dM_entry_19 : decode cM_entry 19 = .ok (.isub, 1) := by decide +kernel
theorem dM_entry_20 : decode cM_entry 20 = .ok (.invokestatic 67, 3) := by decide +kernel
theorem dM_entry_23 : decode cM_entry 23 = .ok (.ifCond .eq 12, 3) := by decide +kernel
theorem dM_entry_26 : decode cM_entry 26 = .ok (.iload_n 3, 1) := by decide +kernel
theorem dM_entry_27 : decode cM_entry 27 = .ok (.iconst 0, 1) := by decide +kernel
theorem dM_entry_28 : decode cM_entry 28 = .ok (.iconst 1, 1) := by decide +kernel
theorem dM_entry_29 : decode cM_entry 29 = .ok (.invokestatic 67, 3) := by decide +kernel
theorem dM_entry_32 : decode cM_entry 32 = .ok (.ifCond .ne 9, 3) := by decide +kernel
theorem dM_entry_35 : decode cM_entry 35 = .ok (.aload_n 0, 1) := by decide +kernel
theorem dM_entry_36 : decode cM_entry 36 = .ok (.iconst 1, 1) := by decide +kernel
theorem dM_entry_37 : decode cM_entry 37 = .ok (.invokevirtual 71, 3) := by decide +kernel
theorem dM_entry_40 : decode cM_entry 40 = .ok (.ireturn, 1) := by decide +kernel
theorem dM_entry_41 : decode cM_entry 41 = .ok (.iload_n 3, 1) := by decide +kernel
theorem dM_entry_42 : decode cM_entry 42 = .ok (.ifCond .ne 17, 3) := by decide +kernel
theorem dM_entry_45 : decode cM_entry 45 = .ok (.aload_n 0, 1) := by decide +kernel
theorem dM_entry_46 : decode cM_entry 46 = .ok (.getfield 48, 3) := by decide +kernel
theorem dM_entry_49 : decode cM_entry 49 = .ok (.bipush 32, 2) := by decide +kernel
theorem dM_entry_51 : decode cM_entry 51 = .ok (.iload_n 1, 1) := by decide +kernel
theorem dM_entry_52 : decode cM_entry 52 = .ok (.imul, 1) := by decide +kernel
theorem dM_entry_53 : decode cM_entry 53 = .ok (.iload_n 2, 1) := by decide +kernel
theorem dM_entry_54 : decode cM_entry 54 = .ok (.iadd, 1) := by decide +kernel
theorem dM_entry_55 : decode cM_entry 55 = .ok (.iaload, 1) := by decide +kernel
theorem dM_entry_56 : decode cM_entry 56 = .ok (.goto 14, 3) := by decide +kernel
theorem dM_entry_59 : decode cM_entry 59 = .ok (.aload_n 0, 1) := by decide +kernel
theorem dM_entry_60 : decode cM_entry 60 = .ok (.getfield 51, 3) := by decide +kernel
theorem dM_entry_63 : decode cM_entry 63 = .ok (.bipush 32, 2) := by decide +kernel
theorem dM_entry_65 : decode cM_entry 65 = .ok (.iload_n 1, 1) := by decide +kernel
theorem dM_entry_66 : decode cM_entry 66 = .ok (.imul, 1) := by decide +kernel
theorem dM_entry_67 : decode cM_entry 67 = .ok (.iload_n 2, 1) := by decide +kernel
theorem dM_entry_68 : decode cM_entry 68 = .ok (.iadd, 1) := by decide +kernel
theorem dM_entry_69 : decode cM_entry 69 = .ok (.iaload, 1) := by decide +kernel
theorem dM_entry_70 : decode cM_entry 70 = .ok (.ireturn, 1) := by decide +kernel
abbrev cM_set : ByteArray := prog_5_method_30_code
def yM_set : MethodName := ⟨"ThreadSlotsModel", "set", "(II)I"⟩
theorem dM_set_0 : decode cM_set 0 = .ok (.aload_n 0, 1) := by decide +kernel
theorem dM_set_1 : decode cM_set 1 = .ok (.iconst 0, 1) := by decide +kernel
theorem dM_set_2 : decode cM_set 2 = .ok (.putfield 64, 3) := by decide +kernel
theorem dM_set_5 : decode cM_set 5 = .ok (.iload_n 1, 1) := by decide +kernel
theorem dM_set_6 : decode cM_set 6 = .ok (.iconst 0, 1) := by decide +kernel
theorem dM_set_7 : decode cM_set 7 = .ok (.bipush 15, 2) := by decide +kernel
theorem dM_set_9 : decode cM_set 9 = .ok (.invokestatic 67, 3) := by decide +kernel
theorem dM_set_12 : decode cM_set 12 = .ok (.ifCond .ne 9, 3) := by decide +kernel
theorem dM_set_15 : decode cM_set 15 = .ok (.aload_n 0, 1) := by decide +kernel
theorem dM_set_16 : decode cM_set 16 = .ok (.iconst 1, 1) := by decide +kernel
theorem dM_set_17 : decode cM_set 17 = .ok (.invokevirtual 71, 3) := by decide +kernel
theorem dM_set_20 : decode cM_set 20 = .ok (.ireturn, 1) := by decide +kernel
theorem dM_set_21 : decode cM_set 21 = .ok (.bipush 16, 2) := by decide +kernel
theorem dM_set_23 : decode cM_set 23 = .ok (.aload_n 0, 1) := by decide +kernel
theorem dM_set_24 : decode cM_set 24 = .ok (.getfield 7, 3) := by decide +kernel
theorem dM_set_27 : decode cM_set 27 = .ok (.ifCond .ge 7, 3) := by decide +kernel
theorem dM_set_30 : decode cM_set 30 = .ok (.iconst 0, 1) := by decide +kernel
theorem dM_set_31 : decode cM_set 31 = .ok (.goto 7, 3) := by decide +kernel
theorem dM_set_34 : decode cM_set 34 = .ok (.aload_n 0, 1) := by decide +kernel
theorem dM_set_35 : decode cM_set 35 = .ok (.getfield 7, 3) := by decide +kernel
theorem dM_set_38 : decode cM_set 38 = .ok (.imul, 1) := by decide +kernel
theorem dM_set_39 : decode cM_set 39 = .ok (.iload_n 1, 1) := by decide +kernel
theorem dM_set_40 : decode cM_set 40 = .ok (.iadd, 1) := by decide +kernel
theorem dM_set_41 : decode cM_set 41 = .ok (.istore_n 3, 1) := by decide +kernel
theorem dM_set_42 : decode cM_set 42 = .ok (.aload_n 0, 1) := by decide +kernel
theorem dM_set_43 : decode cM_set 43 = .ok (.getfield 42, 3) := by decide +kernel
theorem dM_set_46 : decode cM_set 46 = .ok (.iload_n 3, 1) := by decide +kernel
theorem dM_set_47 : decode cM_set 47 = .ok (.iaload, 1) := by decide +kernel
theorem dM_set_48 : decode cM_set 48 = .ok (.istore 4, 2) := by decide +kernel
theorem dM_set_50 : decode cM_set 50 = .ok (.aload_n 0, 1) := by decide +kernel
theorem dM_set_51 : decode cM_set 51 = .ok (.getfield 42, 3) := by decide +kernel
theorem dM_set_54 : decode cM_set 54 = .ok (.iload_n 3, 1) := by decide +kernel
theorem dM_set_55 : decode cM_set 55 = .ok (.iload_n 2, 1) := by decide +kernel
theorem dM_set_56 : decode cM_set 56 = .ok (.iastore, 1) := by decide +kernel
theorem dM_set_57 : decode cM_set 57 = .ok (.iload 4, 2) := by decide +kernel
theorem dM_set_59 : decode cM_set 59 = .ok (.ireturn, 1) := by decide +kernel
abbrev cM_register : ByteArray := prog_5_method_31_code
def yM_register : MethodName := ⟨"ThreadSlotsModel", "register", "(II)I"⟩
theorem dM_register_0 : decode cM_register 0 = .ok (.aload_n 0, 1) := by decide +kernel
theorem dM_register_1 : decode cM_register 1 = .ok (.iload_n 1, 1) := by decide +kernel
theorem dM_register_2 : decode cM_register 2 = .ok (.invokevirtual 84, 3) := by decide +kernel
theorem dM_register_5 : decode cM_register 5 = .ok (.ifCond .ne 5, 3) := by decide +kernel
theorem dM_register_8 : decode cM_register 8 = .ok (.iconst 0, 1) := by decide +kernel
theorem dM_register_9 : decode cM_register 9 = .ok (.ireturn, 1) := by decide +kernel
theorem dM_register_10 : decode cM_register 10 = .ok (.iload_n 2, 1) := by decide +kernel
theorem dM_register_11 : decode cM_register 11 = .ok (.iconst 0, 1) := by decide +kernel
theorem dM_register_12 : decode cM_register 12 = .ok (.bipush 15, 2) := by decide +kernel
theorem dM_register_14 : decode cM_register 14 = .ok (.invokestatic 67, 3) := by decide +kernel
theorem dM_register_17 : decode cM_register 17 = .ok (.ifCond .eq 17, 3) := by decide +kernel
theorem dM_register_20 : decode cM_register 20 = .ok (.aload_n 0, 1) := by decide +kernel
theorem dM_register_21 : decode cM_register 21 = .ok (.getfield 42, 3) := by decide +kernel
theorem dM_register_24 : decode cM_register 24 = .ok (.bipush 16, 2) := by decide +kernel
theorem dM_register_26 : decode cM_register 26 = .ok (.iload_n 1, 1) := by decide +kernel
theorem dM_register_27 : decode cM_register 27 = .ok (.imul, 1) := by decide +kernel
theorem dM_register_28 : decode cM_register 28 = .ok (.iload_n 2, 1) := by decide +kernel
theorem dM_register_29 : decode cM_register 29 = .ok (.iadd, 1) := by decide +kernel
theorem dM_register_30 : decode cM_register 30 = .ok (.iaload, 1) := by decide +kernel
theorem dM_register_31 : decode cM_register 31 = .ok (.goto 8, 3) := by decide +kernel
theorem dM_register_34 : decode cM_register 34 = .ok (.aload_n 0, 1) := by decide +kernel
theorem dM_register_35 : decode cM_register 35 = .ok (.iconst 1, 1) := by decide +kernel
theorem dM_register_36 : decode cM_register 36 = .ok (.invokevirtual 71, 3) := by decide +kernel
theorem dM_register_39 : decode cM_register 39 = .ok (.ireturn, 1) := by decide +kernel
abbrev cM_thread : ByteArray := prog_5_method_32_code
def yM_thread : MethodName := ⟨"ThreadSlotsModel", "thread", "(II)I"⟩
theorem dM_thread_0 : decode cM_thread 0 = .ok (.aload_n 0, 1) := by decide +kernel
theorem dM_thread_1 : decode cM_thread 1 = .ok (.iload_n 1, 1) := by decide +kernel
theorem dM_thread_2 : decode cM_thread 2 = .ok (.invokevirtual 84, 3) := by decide +kernel
theorem dM_thread_5 : decode cM_thread 5 = .ok (.ifCond .ne 5, 3) := by decide +kernel
theorem dM_thread_8 : decode cM_thread 8 = .ok (.iconst 0, 1) := by decide +kernel
theorem dM_thread_9 : decode cM_thread 9 = .ok (.ireturn, 1) := by decide +kernel
theorem dM_thread_10 : decode cM_thread 10 = .ok (.iload_n 2, 1) := by decide +kernel
theorem dM_thread_11 : decode cM_thread 11 = .ok (.tableswitch 79 0 5 #[37, 44, 51, 58, 65, 72], 37) := by decide +kernel
theorem dM_thread_48 : decode cM_thread 48 = .ok (.aload_n 0, 1) := by decide +kernel
theorem dM_thread_49 : decode cM_thread 49 = .ok (.getfield 30, 3) := by decide +kernel
theorem dM_thread_52 : decode cM_thread 52 = .ok (.iload_n 1, 1) := by decide +kernel
theorem dM_thread_53 : decode cM_thread 53 = .ok (.iaload, 1) := by decide +kernel
theorem dM_thread_54 : decode cM_thread 54 = .ok (.ireturn, 1) := by decide +kernel
theorem dM_thread_55 : decode cM_thread 55 = .ok (.aload_n 0, 1) := by decide +kernel
theorem dM_thread_56 : decode cM_thread 56 = .ok (.getfield 33, 3) := by decide +kernel
theorem dM_thread_59 : decode cM_thread 59 = .ok (.iload_n 1, 1) := by decide +kernel
theorem dM_thread_60 : decode cM_thread 60 = .ok (.iaload, 1) := by decide +kernel
theorem dM_thread_61 : decode cM_thread 61 = .ok (.ireturn, 1) := by decide +kernel
theorem dM_thread_62 : decode cM_thread 62 = .ok (.aload_n 0, 1) := by decide +kernel
theorem dM_thread_63 : decode cM_thread 63 = .ok (.getfield 36, 3) := by decide +kernel
theorem dM_thread_66 : decode cM_thread 66 = .ok (.iload_n 1, 1) := by decide +kernel
theorem dM_thread_67 : decode cM_thread 67 = .ok (.iaload, 1) := by decide +kernel
theorem dM_thread_68 : decode cM_thread 68 = .ok (.ireturn, 1) := by decide +kernel
theorem dM_thread_69 : decode cM_thread 69 = .ok (.aload_n 0, 1) := by decide +kernel
theorem dM_thread_70 : decode cM_thread 70 = .ok (.getfield 27, 3) := by decide +kernel
theorem dM_thread_73 : decode cM_thread 73 = .ok (.iload_n 1, 1) := by decide +kernel
theorem dM_thread_74 : decode cM_thread 74 = .ok (.iaload, 1) := by decide +kernel
theorem dM_thread_75 : decode cM_thread 75 = .ok (.ireturn, 1) := by decide +kernel
theorem dM_thread_76 : decode cM_thread 76 = .ok (.aload_n 0, 1) := by decide +kernel
theorem dM_thread_77 : decode cM_thread 77 = .ok (.getfield 24, 3) := by decide +kernel
theorem dM_thread_80 : decode cM_thread 80 = .ok (.iload_n 1, 1) := by decide +kernel
theorem dM_thread_81 : decode cM_thread 81 = .ok (.iaload, 1) := by decide +kernel
theorem dM_thread_82 : decode cM_thread 82 = .ok (.ireturn, 1) := by decide +kernel
theorem dM_thread_83 : decode cM_thread 83 = .ok (.aload_n 0, 1) := by decide +kernel
theorem dM_thread_84 : decode cM_thread 84 = .ok (.getfield 39, 3) := by decide +kernel
theorem dM_thread_87 : decode cM_thread 87 = .ok (.iload_n 1, 1) := by decide +kernel
theorem dM_thread_88 : decode cM_thread 88 = .ok (.iaload, 1) := by decide +kernel
theorem dM_thread_89 : decode cM_thread 89 = .ok (.ireturn, 1) := by decide +kernel
theorem dM_thread_90 : decode cM_thread 90 = .ok (.aload_n 0, 1) := by decide +kernel
theorem dM_thread_91 : decode cM_thread 91 = .ok (.iconst 1, 1) := by decide +kernel
theorem dM_thread_92 : decode cM_thread 92 = .ok (.invokevirtual 71, 3) := by decide +kernel
theorem dM_thread_95 : decode cM_thread 95 = .ok (.ireturn, 1) := by decide +kernel
abbrev cM_share : ByteArray := prog_5_method_33_code
def yM_share : MethodName := ⟨"ThreadSlotsModel", "share", "(II)I"⟩
theorem dM_share_0 : decode cM_share 0 = .ok (.aload_n 0, 1) := by decide +kernel
theorem dM_share_1 : decode cM_share 1 = .ok (.iload_n 1, 1) := by decide +kernel
theorem dM_share_2 : decode cM_share 2 = .ok (.invokevirtual 84, 3) := by decide +kernel
theorem dM_share_5 : decode cM_share 5 = .ok (.ifCond .ne 5, 3) := by decide +kernel
theorem dM_share_8 : decode cM_share 8 = .ok (.iconst 0, 1) := by decide +kernel
theorem dM_share_9 : decode cM_share 9 = .ok (.ireturn, 1) := by decide +kernel
theorem dM_share_10 : decode cM_share 10 = .ok (.iload_n 2, 1) := by decide +kernel
theorem dM_share_11 : decode cM_share 11 = .ok (.iconst 0, 1) := by decide +kernel
theorem dM_share_12 : decode cM_share 12 = .ok (.iconst 1, 1) := by decide +kernel
theorem dM_share_13 : decode cM_share 13 = .ok (.invokestatic 67, 3) := by decide +kernel
theorem dM_share_16 : decode cM_share 16 = .ok (.ifCond .ne 9, 3) := by decide +kernel
theorem dM_share_19 : decode cM_share 19 = .ok (.aload_n 0, 1) := by decide +kernel
theorem dM_share_20 : decode cM_share 20 = .ok (.iconst 1, 1) := by decide +kernel
theorem dM_share_21 : decode cM_share 21 = .ok (.invokevirtual 71, 3) := by decide +kernel
theorem dM_share_24 : decode cM_share 24 = .ok (.ireturn, 1) := by decide +kernel
theorem dM_share_25 : decode cM_share 25 = .ok (.aload_n 0, 1) := by decide +kernel
theorem dM_share_26 : decode cM_share 26 = .ok (.getfield 36, 3) := by decide +kernel
theorem dM_share_29 : decode cM_share 29 = .ok (.iload_n 1, 1) := by decide +kernel
theorem dM_share_30 : decode cM_share 30 = .ok (.iaload, 1) := by decide +kernel
theorem dM_share_31 : decode cM_share 31 = .ok (.istore_n 3, 1) := by decide +kernel
theorem dM_share_32 : decode cM_share 32 = .ok (.aload_n 0, 1) := by decide +kernel
theorem dM_share_33 : decode cM_share 33 = .ok (.getfield 129, 3) := by decide +kernel
theorem dM_share_36 : decode cM_share 36 = .ok (.istore 4, 2) := by decide +kernel
theorem dM_share_38 : decode cM_share 38 = .ok (.iload 4, 2) := by decide +kernel
theorem dM_share_40 : decode cM_share 40 = .ok (.ifCond .eq 19, 3) := by decide +kernel
theorem dM_share_43 : decode cM_share 43 = .ok (.iload_n 3, 1) := by decide +kernel
theorem dM_share_44 : decode cM_share 44 = .ok (.iload 4, 2) := by decide +kernel
theorem dM_share_46 : decode cM_share 46 = .ok (.irem, 1) := by decide +kernel
theorem dM_share_47 : decode cM_share 47 = .ok (.istore 5, 2) := by decide +kernel
theorem dM_share_49 : decode cM_share 49 = .ok (.iload 4, 2) := by decide +kernel
theorem dM_share_51 : decode cM_share 51 = .ok (.istore_n 3, 1) := by decide +kernel
theorem dM_share_52 : decode cM_share 52 = .ok (.iload 5, 2) := by decide +kernel
theorem dM_share_54 : decode cM_share 54 = .ok (.istore 4, 2) := by decide +kernel
theorem dM_share_56 : decode cM_share 56 = .ok (.goto (-18), 3) := by decide +kernel
theorem dM_share_59 : decode cM_share 59 = .ok (.aload_n 0, 1) := by decide +kernel
theorem dM_share_60 : decode cM_share 60 = .ok (.getfield 129, 3) := by decide +kernel
theorem dM_share_63 : decode cM_share 63 = .ok (.ifCond .ne 5, 3) := by decide +kernel
theorem dM_share_66 : decode cM_share 66 = .ok (.iload_n 2, 1) := by decide +kernel
theorem dM_share_67 : decode cM_share 67 = .ok (.ireturn, 1) := by decide +kernel
theorem dM_share_68 : decode cM_share 68 = .ok (.iload_n 2, 1) := by decide +kernel
theorem dM_share_69 : decode cM_share 69 = .ok (.ifCond .ne 14, 3) := by decide +kernel
theorem dM_share_72 : decode cM_share 72 = .ok (.aload_n 0, 1) := by decide +kernel
theorem dM_share_73 : decode cM_share 73 = .ok (.getfield 36, 3) := by decide +kernel
theorem dM_share_76 : decode cM_share 76 = .ok (.iload_n 1, 1) := by decide +kernel
theorem dM_share_77 : decode cM_share 77 = .ok (.iaload, 1) := by decide +kernel
theorem dM_share_78 : decode cM_share 78 = .ok (.iload_n 3, 1) := by decide +kernel
theorem dM_share_79 : decode cM_share 79 = .ok (.idiv, 1) := by decide +kernel
theorem dM_share_80 : decode cM_share 80 = .ok (.goto 9, 3) := by decide +kernel
theorem dM_share_83 : decode cM_share 83 = .ok (.aload_n 0, 1) := by decide +kernel
theorem dM_share_84 : decode cM_share 84 = .ok (.getfield 129, 3) := by decide +kernel
theorem dM_share_87 : decode cM_share 87 = .ok (.iload_n 3, 1) := by decide +kernel
theorem dM_share_88 : decode cM_share 88 = .ok (.idiv, 1) := by decide +kernel
theorem dM_share_89 : decode cM_share 89 = .ok (.ireturn, 1) := by decide +kernel
abbrev cM_count : ByteArray := prog_5_method_34_code
def yM_count : MethodName := ⟨"ThreadSlotsModel", "count", "(I)I"⟩
theorem dM_count_0 : decode cM_count 0 = .ok (.aload_n 0, 1) := by decide +kernel
theorem dM_count_1 : decode cM_count 1 = .ok (.iconst 0, 1) := by decide +kernel
theorem dM_count_2 : decode cM_count 2 = .ok (.putfield 64, 3) := by decide +kernel
theorem dM_count_5 : decode cM_count 5 = .ok (.iload_n 1, 1) := by decide +kernel
theorem dM_count_6 : decode cM_count 6 = .ok (.iconst 0, 1) := by decide +kernel
theorem dM_count_7 : decode cM_count 7 = .ok (.bipush 7, 2) := by decide +kernel
theorem dM_count_9 : decode cM_count 9 = .ok (.invokestatic 67, 3) := by decide +kernel
theorem dM_count_12 : decode cM_count 12 = .ok (.ifCond .ne 5, 3) := by decide +kernel
theorem dM_count_15 : decode cM_count 15 = .ok (.iconst (-1), 1) := by decide +kernel
theorem dM_count_16 : decode cM_count 16 = .ok (.ireturn, 1) := by decide +kernel
theorem dM_count_17 : decode cM_count 17 = .ok (.iload_n 1, 1) := by decide +kernel
theorem dM_count_18 : decode cM_count 18 = .ok (.iconst 4, 1) := by decide +kernel
theorem dM_count_19 : decode cM_count 19 = .ok (.if_icmp .ge 43, 3) := by decide +kernel
theorem dM_count_22 : decode cM_count 22 = .ok (.iload_n 1, 1) := by decide +kernel
theorem dM_count_23 : decode cM_count 23 = .ok (.ifCond .ne 10, 3) := by decide +kernel
theorem dM_count_26 : decode cM_count 26 = .ok (.aload_n 0, 1) := by decide +kernel
theorem dM_count_27 : decode cM_count 27 = .ok (.getfield 123, 3) := by decide +kernel
theorem dM_count_30 : decode cM_count 30 = .ok (.goto 31, 3) := by decide +kernel
theorem dM_count_33 : decode cM_count 33 = .ok (.iload_n 1, 1) := by decide +kernel
theorem dM_count_34 : decode cM_count 34 = .ok (.iconst 1, 1) := by decide +kernel
theorem dM_count_35 : decode cM_count 35 = .ok (.if_icmp .ne 10, 3) := by decide +kernel
theorem dM_count_38 : decode cM_count 38 = .ok (.aload_n 0, 1) := by decide +kernel
theorem dM_count_39 : decode cM_count 39 = .ok (.getfield 129, 3) := by decide +kernel
theorem dM_count_42 : decode cM_count 42 = .ok (.goto 19, 3) := by decide +kernel
theorem dM_count_45 : decode cM_count 45 = .ok (.iload_n 1, 1) := by decide +kernel
theorem dM_count_46 : decode cM_count 46 = .ok (.iconst 2, 1) := by decide +kernel
theorem dM_count_47 : decode cM_count 47 = .ok (.if_icmp .ne 10, 3) := by decide +kernel
theorem dM_count_50 : decode cM_count 50 = .ok (.aload_n 0, 1) := by decide +kernel
theorem dM_count_51 : decode cM_count 51 = .ok (.getfield 120, 3) := by decide +kernel
theorem dM_count_54 : decode cM_count 54 = .ok (.goto 7, 3) := by decide +kernel
theorem dM_count_57 : decode cM_count 57 = .ok (.aload_n 0, 1) := by decide +kernel
theorem dM_count_58 : decode cM_count 58 = .ok (.getfield 114, 3) := by decide +kernel
theorem dM_count_61 : decode cM_count 61 = .ok (.ireturn, 1) := by decide +kernel
theorem dM_count_62 : decode cM_count 62 = .ok (.iload_n 1, 1) := by decide +kernel
theorem dM_count_63 : decode cM_count 63 = .ok (.bipush 7, 2) := by decide +kernel
theorem dM_count_65 : decode cM_count 65 = .ok (.if_icmp .ge 32, 3) := by decide +kernel
theorem dM_count_68 : decode cM_count 68 = .ok (.iload_n 1, 1) := by decide +kernel
theorem dM_count_69 : decode cM_count 69 = .ok (.iconst 4, 1) := by decide +kernel
theorem dM_count_70 : decode cM_count 70 = .ok (.if_icmp .ne 10, 3) := by decide +kernel
theorem dM_count_73 : decode cM_count 73 = .ok (.aload_n 0, 1) := by decide +kernel
theorem dM_count_74 : decode cM_count 74 = .ok (.getfield 57, 3) := by decide +kernel
theorem dM_count_77 : decode cM_count 77 = .ok (.goto 19, 3) := by decide +kernel
theorem dM_count_80 : decode cM_count 80 = .ok (.iload_n 1, 1) := by decide +kernel
theorem dM_count_81 : decode cM_count 81 = .ok (.iconst 5, 1) := by decide +kernel
theorem dM_count_82 : decode cM_count 82 = .ok (.if_icmp .ne 10, 3) := by decide +kernel
theorem dM_count_85 : decode cM_count 85 = .ok (.aload_n 0, 1) := by decide +kernel
theorem dM_count_86 : decode cM_count 86 = .ok (.getfield 7, 3) := by decide +kernel
theorem dM_count_89 : decode cM_count 89 = .ok (.goto 7, 3) := by decide +kernel
theorem dM_count_92 : decode cM_count 92 = .ok (.aload_n 0, 1) := by decide +kernel
theorem dM_count_93 : decode cM_count 93 = .ok (.getfield 13, 3) := by decide +kernel
theorem dM_count_96 : decode cM_count 96 = .ok (.ireturn, 1) := by decide +kernel
theorem dM_count_97 : decode cM_count 97 = .ok (.iconst 0, 1) := by decide +kernel
theorem dM_count_98 : decode cM_count 98 = .ok (.istore_n 2, 1) := by decide +kernel
theorem dM_count_99 : decode cM_count 99 = .ok (.iconst 0, 1) := by decide +kernel
theorem dM_count_100 : decode cM_count 100 = .ok (.istore_n 3, 1) := by decide +kernel
theorem dM_count_101 : decode cM_count 101 = .ok (.iload_n 3, 1) := by decide +kernel
theorem dM_count_102 : decode cM_count 102 = .ok (.bipush 8, 2) := by decide +kernel
theorem dM_count_104 : decode cM_count 104 = .ok (.if_icmp .ge 18, 3) := by decide +kernel
theorem dM_count_107 : decode cM_count 107 = .ok (.iload_n 2, 1) := by decide +kernel
theorem dM_count_108 : decode cM_count 108 = .ok (.aload_n 0, 1) := by decide +kernel
theorem dM_count_109 : decode cM_count 109 = .ok (.getfield 45, 3) := by decide +kernel
theorem dM_count_112 : decode cM_count 112 = .ok (.iload_n 3, 1) := by decide +kernel
theorem dM_count_113 : decode cM_count 113 = .ok (.iaload, 1) := by decide +kernel
theorem dM_count_114 : decode cM_count 114 = .ok (.iadd, 1) := by decide +kernel
theorem dM_count_115 : decode cM_count 115 = .ok (.istore_n 2, 1) := by decide +kernel
theorem dM_count_116 : decode cM_count 116 = .ok (.iinc 3 1, 3) := by decide +kernel
theorem dM_count_119 : decode cM_count 119 = .ok (.goto (-18), 3) := by decide +kernel
theorem dM_count_122 : decode cM_count 122 = .ok (.iload_n 2, 1) := by decide +kernel
theorem dM_count_123 : decode cM_count 123 = .ok (.ireturn, 1) := by decide +kernel
end
section
theorem iM : ∀ w ∈ u_ws RM FM 26, w ∈ wsG := fun w hw => inG ((by decide +kernel : ∀ w ∈ u_ws RM FM 26, w ∈ lw_tbl) w hw) ((by decide +kernel : ∀ w ∈ u_ws RM FM 26, goodWord w = true) w hw)
theorem fM_ref : ∀ k, k < 26 → (FM k).1 = RM := by decide +kernel
theorem fM_same (k : Nat) (hk : k < 26) (s : State) : ∀ x, s.fieldFound? (FM k).1 (FM k).2.1 (FM k).2.2.1 = some x → s.fieldFound? RM (FM k).2.1 (FM k).2.2.1 = some x := fun x h => by rw [fM_ref k hk] at h; exact h
def fM (am : Nat → Nat) (N : Nat) (th : Int32) (σ : St) : List Value := [.int th, .int (nI N), .int (σ 0 0 3), .int (σ 0 0 0), .int (σ 0 0 1), .int (σ 0 0 2), .int (σ 0 0 7), .int (σ 0 0 8), .int (σ 0 0 9), .int (σ 0 0 10), .int (σ 0 0 4), .int (σ 0 0 5), .int (σ 0 0 6), .ref (am 1), .ref (am 2), .ref (am 3), .ref (am 4), .ref (am 5), .ref (am 6), .ref (am 7), .ref (am 8), .ref (am 9), .ref (am 10), .ref (am 11), .ref (am 12), .ref (am 13)]
def sM (ct : Ct) (am : Nat → Nat) (N : Nat) (th : Int32) (σ : St) : List (Nat × (Nat → Nat × va_E)) := [(1, fun _ => (am 0, .inr (kM, fM am N th σ))), (1, fun _ => (am 1, eI (ct 4) 16 (fun z9 => σ 1 z9 0))), (1, fun _ => (am 2, eI (ct 0) 16 (fun z9 => σ 1 z9 1))), (1, fun _ => (am 3, eI (ct 0) 16 (fun z9 => σ 1 z9 2))), (1, fun _ => (am 4, eI (ct 0) 16 (fun z9 => σ 1 z9 3))), (1, fun _ => (am 5, eI (ct 0) 16 (fun z9 => σ 1 z9 4))), (1, fun _ => (am 6, eI (ct 0) 16 (fun z9 => σ 1 z9 5))), (1, fun _ => (am 7, eI (ct 0) 16 (fun z9 => σ 1 z9 6))), (1, fun _ => (am 8, eI (ct 0) 16 (fun z9 => σ 1 z9 7))), (1, fun _ => (am 9, eI (ct 0) 256 (fun z9 => σ 2 (z9 / 16) (z9 % 16)))), (1, fun _ => (am 10, eI (ct 0) 8 (fun z9 => σ 3 z9 0))), (1, fun _ => (am 11, eI (ct 0) 256 (fun z9 => σ 4 (z9 / 32) (z9 % 32)))), (1, fun _ => (am 12, eI (ct 0) 256 (fun z9 => σ 5 (z9 / 32) (z9 % 32)))), (1, fun _ => (am 13, eI (ct 0) 128 (fun z9 => σ 6 (z9 / 16) (z9 % 16))))]
def wM (ct : Ct) (am : Nat → Nat) (N : Nat) (th : Int32) (σ : St) : va_W := sg (sM ct am N th σ)
theorem fM_2 {am : Nat → Nat} {N : Nat} {th v : Int32} {σ : St} : fM am N th (su σ 0 0 3 v) = (fM am N th σ).set 2 (.int v) := by simp [fM, su]
theorem fM_3 {am : Nat → Nat} {N : Nat} {th v : Int32} {σ : St} : fM am N th (su σ 0 0 0 v) = (fM am N th σ).set 3 (.int v) := by simp [fM, su]
theorem fM_4 {am : Nat → Nat} {N : Nat} {th v : Int32} {σ : St} : fM am N th (su σ 0 0 1 v) = (fM am N th σ).set 4 (.int v) := by simp [fM, su]
theorem fM_5 {am : Nat → Nat} {N : Nat} {th v : Int32} {σ : St} : fM am N th (su σ 0 0 2 v) = (fM am N th σ).set 5 (.int v) := by simp [fM, su]
theorem fM_6 {am : Nat → Nat} {N : Nat} {th v : Int32} {σ : St} : fM am N th (su σ 0 0 7 v) = (fM am N th σ).set 6 (.int v) := by simp [fM, su]
theorem fM_7 {am : Nat → Nat} {N : Nat} {th v : Int32} {σ : St} : fM am N th (su σ 0 0 8 v) = (fM am N th σ).set 7 (.int v) := by simp [fM, su]
theorem fM_8 {am : Nat → Nat} {N : Nat} {th v : Int32} {σ : St} : fM am N th (su σ 0 0 9 v) = (fM am N th σ).set 8 (.int v) := by simp [fM, su]
theorem fM_9 {am : Nat → Nat} {N : Nat} {th v : Int32} {σ : St} : fM am N th (su σ 0 0 10 v) = (fM am N th σ).set 9 (.int v) := by simp [fM, su]
theorem fM_10 {am : Nat → Nat} {N : Nat} {th v : Int32} {σ : St} : fM am N th (su σ 0 0 4 v) = (fM am N th σ).set 10 (.int v) := by simp [fM, su]
theorem fM_11 {am : Nat → Nat} {N : Nat} {th v : Int32} {σ : St} : fM am N th (su σ 0 0 5 v) = (fM am N th σ).set 11 (.int v) := by simp [fM, su]
theorem fM_12 {am : Nat → Nat} {N : Nat} {th v : Int32} {σ : St} : fM am N th (su σ 0 0 6 v) = (fM am N th σ).set 12 (.int v) := by simp [fM, su]
theorem fM_0 {am : Nat → Nat} {N : Nat} {th v : Int32} {σ : St} : fM am N v σ = (fM am N th σ).set 0 (.int v) := by simp [fM]
theorem sM_s {ct : Ct} {am : Nat → Nat} {N j : Nat} {th v : Int32} {σ : St} : sM ct am N th (su σ 0 0 j v) = (sM ct am N th σ).set 0 (1, fun _ => (am 0, .inr (kM, fM am N th (su σ 0 0 j v)))) := by simp [sM, su, su_r]
theorem sM_0 {ct : Ct} {am : Nat → Nat} {N : Nat} {th v : Int32} {σ : St} : sM ct am N v σ = (sM ct am N th σ).set 0 (1, fun _ => (am 0, .inr (kM, fM am N v σ))) := by simp [sM]
section MRows
variable {p : Program} {l : Launch} {e : Env} {R : Room} {s : State} {m : MethodId} {args : Array Value} {below : List Frame} {meth : Method} {c : Code} {H : Heap} {locs : List Loc} {cells slots : Nat} {Q : State → Prop}
variable {cc : ByteArray} {pc : Nat} {ls : Array Slot} {rest : List Value} {nL : Nat} {own : String} {ct : Ct} {D : va_G} {A : Nat → Prop} {am : Nat → Nat} {N index k t j q : Nat} {σ : St} {th : Int32}
theorem mg (C : cx p l s m args meth c cc nL own ct D A) (hw : wl D A s (wM ct am N th σ) H locs) (k : Nat) (hlink : Cond.fieldLink own index RM (FM k).2.1 (FM k).2.2.1 ∈ wsG) (hk : k < 26) {v : Value} (hv : (fM am N th σ)[k]? = some v) (hdg : decode cc pc = .ok (.getfield index, 3))
    (kk : W p l e R s m args below meth c H locs cells slots Q (F0 m (pc + 3) ls (v :: rest))) : W p l e R s m args below meth c H locs cells slots Q (F0 m pc ls (.ref (am 0) :: rest)) := by
  obtain ⟨q0, h1, -⟩ := sg_at (sM ct am N th σ) 0 1 _ rfl 0 (by decide)
  exact va_get (ref := RM) C.1 C.2.1 C.2.2.2.2.1 iM C.2.2.2.1 C.2.2.2.2.2.1 hw.1 q0 h1 rfl k hk (C.2.2.2.2.1 _ hlink) (fM_same k hk _) hv hdg kk
theorem mp_0 (C : cx p l s m args meth c cc nL own ct D A) (hw : wl D A s (wM ct am N th σ) H locs) (hlink : Cond.fieldLink own index RM (FM 0).2.1 (FM 0).2.2.1 ∈ wsG) {v : Int32} (hdg : decode cc pc = .ok (.putfield index, 3))
    (kk : ∀ (H1 : Heap) (locs1 : List Loc), wl D A s (wM ct am N v σ) H1 locs1 → W p l e R s m args below meth c H1 locs1 cells slots Q (F0 m (pc + 3) ls rest)) : W p l e R s m args below meth c H locs cells slots Q (F0 m pc ls (.int v :: .ref (am 0) :: rest)) := by
  obtain ⟨q0, h1, h2⟩ := sg_at (sM ct am N th σ) 0 1 _ rfl 0 (by decide)
  have h3 := h2 (am 0, .inr (kM, (fM am N th σ).set 0 (.int v))) (fun _ => (am 0, .inr (kM, fM am N v σ))) (by rw [fM_0 (th := th)]) (fun k hk hne => by omega)
  rw [← sM_0] at h3
  have h3 : (wM ct am N th σ).set q0 _ = wM ct am N v σ := h3
  refine va_put (ref := RM) (ty := .int) C.1 C.2.1 C.2.2.2.2.1 iM tM tM_ok nM C.2.2.2.1 C.2.2.2.2.2.1 hw.1 hw.2.1 hw.2.2 q0 h1 rfl 0 (by omega) (C.2.2.2.2.1 _ hlink) (fM_same 0 (by omega) _) rfl (by decide +kernel) rfl rfl (by simp [fM]) hdg (fun H1 locs1 a b c => ?_)
  rw [h3] at a b
  exact kk H1 locs1 ⟨a, b, c⟩
theorem mp_2 (C : cx p l s m args meth c cc nL own ct D A) (hw : wl D A s (wM ct am N th σ) H locs) (hlink : Cond.fieldLink own index RM (FM 2).2.1 (FM 2).2.2.1 ∈ wsG) {v : Int32} (hdg : decode cc pc = .ok (.putfield index, 3))
    (kk : ∀ (H1 : Heap) (locs1 : List Loc), wl D A s (wM ct am N th (su σ 0 0 3 v)) H1 locs1 → W p l e R s m args below meth c H1 locs1 cells slots Q (F0 m (pc + 3) ls rest)) : W p l e R s m args below meth c H locs cells slots Q (F0 m pc ls (.int v :: .ref (am 0) :: rest)) := by
  obtain ⟨q0, h1, h2⟩ := sg_at (sM ct am N th σ) 0 1 _ rfl 0 (by decide)
  have h3 := h2 (am 0, .inr (kM, (fM am N th σ).set 2 (.int v))) (fun _ => (am 0, .inr (kM, fM am N th (su σ 0 0 3 v)))) (by rw [fM_2 (th := th)]) (fun k hk hne => by omega)
  rw [← sM_s] at h3
  have h3 : (wM ct am N th σ).set q0 _ = wM ct am N th (su σ 0 0 3 v) := h3
  refine va_put (ref := RM) (ty := .int) C.1 C.2.1 C.2.2.2.2.1 iM tM tM_ok nM C.2.2.2.1 C.2.2.2.2.2.1 hw.1 hw.2.1 hw.2.2 q0 h1 rfl 2 (by omega) (C.2.2.2.2.1 _ hlink) (fM_same 2 (by omega) _) rfl (by decide +kernel) rfl rfl (by simp [fM]) hdg (fun H1 locs1 a b c => ?_)
  rw [h3] at a b
  exact kk H1 locs1 ⟨a, b, c⟩
theorem mp_3 (C : cx p l s m args meth c cc nL own ct D A) (hw : wl D A s (wM ct am N th σ) H locs) (hlink : Cond.fieldLink own index RM (FM 3).2.1 (FM 3).2.2.1 ∈ wsG) {v : Int32} (hdg : decode cc pc = .ok (.putfield index, 3))
    (kk : ∀ (H1 : Heap) (locs1 : List Loc), wl D A s (wM ct am N th (su σ 0 0 0 v)) H1 locs1 → W p l e R s m args below meth c H1 locs1 cells slots Q (F0 m (pc + 3) ls rest)) : W p l e R s m args below meth c H locs cells slots Q (F0 m pc ls (.int v :: .ref (am 0) :: rest)) := by
  obtain ⟨q0, h1, h2⟩ := sg_at (sM ct am N th σ) 0 1 _ rfl 0 (by decide)
  have h3 := h2 (am 0, .inr (kM, (fM am N th σ).set 3 (.int v))) (fun _ => (am 0, .inr (kM, fM am N th (su σ 0 0 0 v)))) (by rw [fM_3 (th := th)]) (fun k hk hne => by omega)
  rw [← sM_s] at h3
  have h3 : (wM ct am N th σ).set q0 _ = wM ct am N th (su σ 0 0 0 v) := h3
  refine va_put (ref := RM) (ty := .int) C.1 C.2.1 C.2.2.2.2.1 iM tM tM_ok nM C.2.2.2.1 C.2.2.2.2.2.1 hw.1 hw.2.1 hw.2.2 q0 h1 rfl 3 (by omega) (C.2.2.2.2.1 _ hlink) (fM_same 3 (by omega) _) rfl (by decide +kernel) rfl rfl (by simp [fM]) hdg (fun H1 locs1 a b c => ?_)
  rw [h3] at a b
  exact kk H1 locs1 ⟨a, b, c⟩
theorem mp_4 (C : cx p l s m args meth c cc nL own ct D A) (hw : wl D A s (wM ct am N th σ) H locs) (hlink : Cond.fieldLink own index RM (FM 4).2.1 (FM 4).2.2.1 ∈ wsG) {v : Int32} (hdg : decode cc pc = .ok (.putfield index, 3))
    (kk : ∀ (H1 : Heap) (locs1 : List Loc), wl D A s (wM ct am N th (su σ 0 0 1 v)) H1 locs1 → W p l e R s m args below meth c H1 locs1 cells slots Q (F0 m (pc + 3) ls rest)) : W p l e R s m args below meth c H locs cells slots Q (F0 m pc ls (.int v :: .ref (am 0) :: rest)) := by
  obtain ⟨q0, h1, h2⟩ := sg_at (sM ct am N th σ) 0 1 _ rfl 0 (by decide)
  have h3 := h2 (am 0, .inr (kM, (fM am N th σ).set 4 (.int v))) (fun _ => (am 0, .inr (kM, fM am N th (su σ 0 0 1 v)))) (by rw [fM_4 (th := th)]) (fun k hk hne => by omega)
  rw [← sM_s] at h3
  have h3 : (wM ct am N th σ).set q0 _ = wM ct am N th (su σ 0 0 1 v) := h3
  refine va_put (ref := RM) (ty := .int) C.1 C.2.1 C.2.2.2.2.1 iM tM tM_ok nM C.2.2.2.1 C.2.2.2.2.2.1 hw.1 hw.2.1 hw.2.2 q0 h1 rfl 4 (by omega) (C.2.2.2.2.1 _ hlink) (fM_same 4 (by omega) _) rfl (by decide +kernel) rfl rfl (by simp [fM]) hdg (fun H1 locs1 a b c => ?_)
  rw [h3] at a b
  exact kk H1 locs1 ⟨a, b, c⟩
theorem mp_5 (C : cx p l s m args meth c cc nL own ct D A) (hw : wl D A s (wM ct am N th σ) H locs) (hlink : Cond.fieldLink own index RM (FM 5).2.1 (FM 5).2.2.1 ∈ wsG) {v : Int32} (hdg : decode cc pc = .ok (.putfield index, 3))
    (kk : ∀ (H1 : Heap) (locs1 : List Loc), wl D A s (wM ct am N th (su σ 0 0 2 v)) H1 locs1 → W p l e R s m args below meth c H1 locs1 cells slots Q (F0 m (pc + 3) ls rest)) : W p l e R s m args below meth c H locs cells slots Q (F0 m pc ls (.int v :: .ref (am 0) :: rest)) := by
  obtain ⟨q0, h1, h2⟩ := sg_at (sM ct am N th σ) 0 1 _ rfl 0 (by decide)
  have h3 := h2 (am 0, .inr (kM, (fM am N th σ).set 5 (.int v))) (fun _ => (am 0, .inr (kM, fM am N th (su σ 0 0 2 v)))) (by rw [fM_5 (th := th)]) (fun k hk hne => by omega)
  rw [← sM_s] at h3
  have h3 : (wM ct am N th σ).set q0 _ = wM ct am N th (su σ 0 0 2 v) := h3
  refine va_put (ref := RM) (ty := .int) C.1 C.2.1 C.2.2.2.2.1 iM tM tM_ok nM C.2.2.2.1 C.2.2.2.2.2.1 hw.1 hw.2.1 hw.2.2 q0 h1 rfl 5 (by omega) (C.2.2.2.2.1 _ hlink) (fM_same 5 (by omega) _) rfl (by decide +kernel) rfl rfl (by simp [fM]) hdg (fun H1 locs1 a b c => ?_)
  rw [h3] at a b
  exact kk H1 locs1 ⟨a, b, c⟩
theorem mp_6 (C : cx p l s m args meth c cc nL own ct D A) (hw : wl D A s (wM ct am N th σ) H locs) (hlink : Cond.fieldLink own index RM (FM 6).2.1 (FM 6).2.2.1 ∈ wsG) {v : Int32} (hdg : decode cc pc = .ok (.putfield index, 3))
    (kk : ∀ (H1 : Heap) (locs1 : List Loc), wl D A s (wM ct am N th (su σ 0 0 7 v)) H1 locs1 → W p l e R s m args below meth c H1 locs1 cells slots Q (F0 m (pc + 3) ls rest)) : W p l e R s m args below meth c H locs cells slots Q (F0 m pc ls (.int v :: .ref (am 0) :: rest)) := by
  obtain ⟨q0, h1, h2⟩ := sg_at (sM ct am N th σ) 0 1 _ rfl 0 (by decide)
  have h3 := h2 (am 0, .inr (kM, (fM am N th σ).set 6 (.int v))) (fun _ => (am 0, .inr (kM, fM am N th (su σ 0 0 7 v)))) (by rw [fM_6 (th := th)]) (fun k hk hne => by omega)
  rw [← sM_s] at h3
  have h3 : (wM ct am N th σ).set q0 _ = wM ct am N th (su σ 0 0 7 v) := h3
  refine va_put (ref := RM) (ty := .int) C.1 C.2.1 C.2.2.2.2.1 iM tM tM_ok nM C.2.2.2.1 C.2.2.2.2.2.1 hw.1 hw.2.1 hw.2.2 q0 h1 rfl 6 (by omega) (C.2.2.2.2.1 _ hlink) (fM_same 6 (by omega) _) rfl (by decide +kernel) rfl rfl (by simp [fM]) hdg (fun H1 locs1 a b c => ?_)
  rw [h3] at a b
  exact kk H1 locs1 ⟨a, b, c⟩
theorem mp_7 (C : cx p l s m args meth c cc nL own ct D A) (hw : wl D A s (wM ct am N th σ) H locs) (hlink : Cond.fieldLink own index RM (FM 7).2.1 (FM 7).2.2.1 ∈ wsG) {v : Int32} (hdg : decode cc pc = .ok (.putfield index, 3))
    (kk : ∀ (H1 : Heap) (locs1 : List Loc), wl D A s (wM ct am N th (su σ 0 0 8 v)) H1 locs1 → W p l e R s m args below meth c H1 locs1 cells slots Q (F0 m (pc + 3) ls rest)) : W p l e R s m args below meth c H locs cells slots Q (F0 m pc ls (.int v :: .ref (am 0) :: rest)) := by
  obtain ⟨q0, h1, h2⟩ := sg_at (sM ct am N th σ) 0 1 _ rfl 0 (by decide)
  have h3 := h2 (am 0, .inr (kM, (fM am N th σ).set 7 (.int v))) (fun _ => (am 0, .inr (kM, fM am N th (su σ 0 0 8 v)))) (by rw [fM_7 (th := th)]) (fun k hk hne => by omega)
  rw [← sM_s] at h3
  have h3 : (wM ct am N th σ).set q0 _ = wM ct am N th (su σ 0 0 8 v) := h3
  refine va_put (ref := RM) (ty := .int) C.1 C.2.1 C.2.2.2.2.1 iM tM tM_ok nM C.2.2.2.1 C.2.2.2.2.2.1 hw.1 hw.2.1 hw.2.2 q0 h1 rfl 7 (by omega) (C.2.2.2.2.1 _ hlink) (fM_same 7 (by omega) _) rfl (by decide +kernel) rfl rfl (by simp [fM]) hdg (fun H1 locs1 a b c => ?_)
  rw [h3] at a b
  exact kk H1 locs1 ⟨a, b, c⟩
theorem mp_8 (C : cx p l s m args meth c cc nL own ct D A) (hw : wl D A s (wM ct am N th σ) H locs) (hlink : Cond.fieldLink own index RM (FM 8).2.1 (FM 8).2.2.1 ∈ wsG) {v : Int32} (hdg : decode cc pc = .ok (.putfield index, 3))
    (kk : ∀ (H1 : Heap) (locs1 : List Loc), wl D A s (wM ct am N th (su σ 0 0 9 v)) H1 locs1 → W p l e R s m args below meth c H1 locs1 cells slots Q (F0 m (pc + 3) ls rest)) : W p l e R s m args below meth c H locs cells slots Q (F0 m pc ls (.int v :: .ref (am 0) :: rest)) := by
  obtain ⟨q0, h1, h2⟩ := sg_at (sM ct am N th σ) 0 1 _ rfl 0 (by decide)
  have h3 := h2 (am 0, .inr (kM, (fM am N th σ).set 8 (.int v))) (fun _ => (am 0, .inr (kM, fM am N th (su σ 0 0 9 v)))) (by rw [fM_8 (th := th)]) (fun k hk hne => by omega)
  rw [← sM_s] at h3
  have h3 : (wM ct am N th σ).set q0 _ = wM ct am N th (su σ 0 0 9 v) := h3
  refine va_put (ref := RM) (ty := .int) C.1 C.2.1 C.2.2.2.2.1 iM tM tM_ok nM C.2.2.2.1 C.2.2.2.2.2.1 hw.1 hw.2.1 hw.2.2 q0 h1 rfl 8 (by omega) (C.2.2.2.2.1 _ hlink) (fM_same 8 (by omega) _) rfl (by decide +kernel) rfl rfl (by simp [fM]) hdg (fun H1 locs1 a b c => ?_)
  rw [h3] at a b
  exact kk H1 locs1 ⟨a, b, c⟩
theorem mp_9 (C : cx p l s m args meth c cc nL own ct D A) (hw : wl D A s (wM ct am N th σ) H locs) (hlink : Cond.fieldLink own index RM (FM 9).2.1 (FM 9).2.2.1 ∈ wsG) {v : Int32} (hdg : decode cc pc = .ok (.putfield index, 3))
    (kk : ∀ (H1 : Heap) (locs1 : List Loc), wl D A s (wM ct am N th (su σ 0 0 10 v)) H1 locs1 → W p l e R s m args below meth c H1 locs1 cells slots Q (F0 m (pc + 3) ls rest)) : W p l e R s m args below meth c H locs cells slots Q (F0 m pc ls (.int v :: .ref (am 0) :: rest)) := by
  obtain ⟨q0, h1, h2⟩ := sg_at (sM ct am N th σ) 0 1 _ rfl 0 (by decide)
  have h3 := h2 (am 0, .inr (kM, (fM am N th σ).set 9 (.int v))) (fun _ => (am 0, .inr (kM, fM am N th (su σ 0 0 10 v)))) (by rw [fM_9 (th := th)]) (fun k hk hne => by omega)
  rw [← sM_s] at h3
  have h3 : (wM ct am N th σ).set q0 _ = wM ct am N th (su σ 0 0 10 v) := h3
  refine va_put (ref := RM) (ty := .int) C.1 C.2.1 C.2.2.2.2.1 iM tM tM_ok nM C.2.2.2.1 C.2.2.2.2.2.1 hw.1 hw.2.1 hw.2.2 q0 h1 rfl 9 (by omega) (C.2.2.2.2.1 _ hlink) (fM_same 9 (by omega) _) rfl (by decide +kernel) rfl rfl (by simp [fM]) hdg (fun H1 locs1 a b c => ?_)
  rw [h3] at a b
  exact kk H1 locs1 ⟨a, b, c⟩
theorem mp_10 (C : cx p l s m args meth c cc nL own ct D A) (hw : wl D A s (wM ct am N th σ) H locs) (hlink : Cond.fieldLink own index RM (FM 10).2.1 (FM 10).2.2.1 ∈ wsG) {v : Int32} (hdg : decode cc pc = .ok (.putfield index, 3))
    (kk : ∀ (H1 : Heap) (locs1 : List Loc), wl D A s (wM ct am N th (su σ 0 0 4 v)) H1 locs1 → W p l e R s m args below meth c H1 locs1 cells slots Q (F0 m (pc + 3) ls rest)) : W p l e R s m args below meth c H locs cells slots Q (F0 m pc ls (.int v :: .ref (am 0) :: rest)) := by
  obtain ⟨q0, h1, h2⟩ := sg_at (sM ct am N th σ) 0 1 _ rfl 0 (by decide)
  have h3 := h2 (am 0, .inr (kM, (fM am N th σ).set 10 (.int v))) (fun _ => (am 0, .inr (kM, fM am N th (su σ 0 0 4 v)))) (by rw [fM_10 (th := th)]) (fun k hk hne => by omega)
  rw [← sM_s] at h3
  have h3 : (wM ct am N th σ).set q0 _ = wM ct am N th (su σ 0 0 4 v) := h3
  refine va_put (ref := RM) (ty := .int) C.1 C.2.1 C.2.2.2.2.1 iM tM tM_ok nM C.2.2.2.1 C.2.2.2.2.2.1 hw.1 hw.2.1 hw.2.2 q0 h1 rfl 10 (by omega) (C.2.2.2.2.1 _ hlink) (fM_same 10 (by omega) _) rfl (by decide +kernel) rfl rfl (by simp [fM]) hdg (fun H1 locs1 a b c => ?_)
  rw [h3] at a b
  exact kk H1 locs1 ⟨a, b, c⟩
theorem mp_11 (C : cx p l s m args meth c cc nL own ct D A) (hw : wl D A s (wM ct am N th σ) H locs) (hlink : Cond.fieldLink own index RM (FM 11).2.1 (FM 11).2.2.1 ∈ wsG) {v : Int32} (hdg : decode cc pc = .ok (.putfield index, 3))
    (kk : ∀ (H1 : Heap) (locs1 : List Loc), wl D A s (wM ct am N th (su σ 0 0 5 v)) H1 locs1 → W p l e R s m args below meth c H1 locs1 cells slots Q (F0 m (pc + 3) ls rest)) : W p l e R s m args below meth c H locs cells slots Q (F0 m pc ls (.int v :: .ref (am 0) :: rest)) := by
  obtain ⟨q0, h1, h2⟩ := sg_at (sM ct am N th σ) 0 1 _ rfl 0 (by decide)
  have h3 := h2 (am 0, .inr (kM, (fM am N th σ).set 11 (.int v))) (fun _ => (am 0, .inr (kM, fM am N th (su σ 0 0 5 v)))) (by rw [fM_11 (th := th)]) (fun k hk hne => by omega)
  rw [← sM_s] at h3
  have h3 : (wM ct am N th σ).set q0 _ = wM ct am N th (su σ 0 0 5 v) := h3
  refine va_put (ref := RM) (ty := .int) C.1 C.2.1 C.2.2.2.2.1 iM tM tM_ok nM C.2.2.2.1 C.2.2.2.2.2.1 hw.1 hw.2.1 hw.2.2 q0 h1 rfl 11 (by omega) (C.2.2.2.2.1 _ hlink) (fM_same 11 (by omega) _) rfl (by decide +kernel) rfl rfl (by simp [fM]) hdg (fun H1 locs1 a b c => ?_)
  rw [h3] at a b
  exact kk H1 locs1 ⟨a, b, c⟩
theorem mp_12 (C : cx p l s m args meth c cc nL own ct D A) (hw : wl D A s (wM ct am N th σ) H locs) (hlink : Cond.fieldLink own index RM (FM 12).2.1 (FM 12).2.2.1 ∈ wsG) {v : Int32} (hdg : decode cc pc = .ok (.putfield index, 3))
    (kk : ∀ (H1 : Heap) (locs1 : List Loc), wl D A s (wM ct am N th (su σ 0 0 6 v)) H1 locs1 → W p l e R s m args below meth c H1 locs1 cells slots Q (F0 m (pc + 3) ls rest)) : W p l e R s m args below meth c H locs cells slots Q (F0 m pc ls (.int v :: .ref (am 0) :: rest)) := by
  obtain ⟨q0, h1, h2⟩ := sg_at (sM ct am N th σ) 0 1 _ rfl 0 (by decide)
  have h3 := h2 (am 0, .inr (kM, (fM am N th σ).set 12 (.int v))) (fun _ => (am 0, .inr (kM, fM am N th (su σ 0 0 6 v)))) (by rw [fM_12 (th := th)]) (fun k hk hne => by omega)
  rw [← sM_s] at h3
  have h3 : (wM ct am N th σ).set q0 _ = wM ct am N th (su σ 0 0 6 v) := h3
  refine va_put (ref := RM) (ty := .int) C.1 C.2.1 C.2.2.2.2.1 iM tM tM_ok nM C.2.2.2.1 C.2.2.2.2.2.1 hw.1 hw.2.1 hw.2.2 q0 h1 rfl 12 (by omega) (C.2.2.2.2.1 _ hlink) (fM_same 12 (by omega) _) rfl (by decide +kernel) rfl rfl (by simp [fM]) hdg (fun H1 locs1 a b c => ?_)
  rw [h3] at a b
  exact kk H1 locs1 ⟨a, b, c⟩
theorem sM_1 {ct : Ct} {am : Nat → Nat} {N t : Nat} {th x : Int32} {σ : St} : sM ct am N th (su σ 1 t 0 x) = (sM ct am N th σ).set 1 (1, fun _ => (am 1, eI (ct 4) 16 (fun z9 => (su σ 1 t 0 x) 1 z9 0))) := by simp [sM, fM, su, su_r]
theorem mr_1 (C : cx p l s m args meth c cc nL own ct D A) (hw : wl D A s (wM ct am N th σ) H locs) (ht : t < 16) {i : Int32} (hi : i = nI (t)) (hdg : decode cc pc = .ok (.baload, 1)) (kk : W p l e R s m args below meth c H locs cells slots Q (F0 m (pc + 1) ls (.int (σ 1 t 0) :: rest))) : W p l e R s m args below meth c H locs cells slots Q (F0 m pc ls (.int i :: .ref (am 1) :: rest)) := by
  subst hi
  obtain ⟨q0, h1, -⟩ := sg_at (sM ct am N th σ) 1 1 _ rfl 0 (by decide)
  refine va_zald C.1 C.2.1 C.2.2.2.2.2.1 hw.1 q0 4 h1 rfl (vp_in_nI (by omega) (by omega)) hdg ?_
  rw [nI_clamp (by omega)]
  exact kk
theorem mw_1 (C : cx p l s m args meth c cc nL own ct D A) (hw : wl D A s (wM ct am N th σ) H locs) (ht : t < 16) {i x : Int32} (hz : x = 0 ∨ x = 1) (hi : i = nI (t)) (hdg : decode cc pc = .ok (.bastore, 1)) (kk : ∀ (H1 : Heap) (locs1 : List Loc), wl D A s (wM ct am N th (su σ 1 t 0 x)) H1 locs1 → W p l e R s m args below meth c H1 locs1 cells slots Q (F0 m (pc + 1) ls rest)) : W p l e R s m args below meth c H locs cells slots Q (F0 m pc ls (.int x :: .int i :: .ref (am 1) :: rest)) := by
  subst hi
  obtain ⟨q0, h1, h2⟩ := sg_at (sM ct am N th σ) 1 1 _ rfl 0 (by decide)
  have hu : upd (fun z9 => σ 1 z9 0) (t) x = (fun z9 => (su σ 1 t 0 x) 1 z9 0) := by
    funext z
    by_cases hz9 : z = t
    · subst hz9; simp [upd, su]
    · simp [upd, su, hz9]
  have h3 := h2 (am 1, eI (ct 4) 16 (upd (fun z9 => σ 1 z9 0) (t) x)) (fun _ => (am 1, eI (ct 4) 16 (fun z9 => (su σ 1 t 0 x) 1 z9 0))) (by rw [hu]) (fun k hk hne => by omega)
  rw [← sM_1] at h3
  have h3 : (wM ct am N th σ).set q0 _ = wM ct am N th (su σ 1 t 0 x) := h3
  refine va_zast C.1 C.2.1 C.2.2.2.2.2.1 hw.1 hw.2.1 hw.2.2 q0 4 h1 rfl (vp_in_nI (by omega) (by omega)) hdg (fun H1 locs1 a b c => ?_)
  rw [show vp_nar .boolean x = x by rcases hz with rfl | rfl <;> rfl] at a b
  rw [nI_clamp (by omega), h3] at a b
  exact kk H1 locs1 ⟨a, b, c⟩
theorem sM_2 {ct : Ct} {am : Nat → Nat} {N t : Nat} {th x : Int32} {σ : St} : sM ct am N th (su σ 1 t 1 x) = (sM ct am N th σ).set 2 (1, fun _ => (am 2, eI (ct 0) 16 (fun z9 => (su σ 1 t 1 x) 1 z9 1))) := by simp [sM, fM, su, su_r]
theorem mr_2 (C : cx p l s m args meth c cc nL own ct D A) (hw : wl D A s (wM ct am N th σ) H locs) (ht : t < 16) {i : Int32} (hi : i = nI (t)) (hdg : decode cc pc = .ok (.iaload, 1)) (kk : W p l e R s m args below meth c H locs cells slots Q (F0 m (pc + 1) ls (.int (σ 1 t 1) :: rest))) : W p l e R s m args below meth c H locs cells slots Q (F0 m pc ls (.int i :: .ref (am 2) :: rest)) := by
  subst hi
  obtain ⟨q0, h1, -⟩ := sg_at (sM ct am N th σ) 2 1 _ rfl 0 (by decide)
  refine va_iald C.1 C.2.1 C.2.2.2.2.2.1 hw.1 q0 0 h1 rfl (vp_in_nI (by omega) (by omega)) hdg ?_
  rw [nI_clamp (by omega)]
  exact kk
theorem mw_2 (C : cx p l s m args meth c cc nL own ct D A) (hw : wl D A s (wM ct am N th σ) H locs) (ht : t < 16) {i x : Int32} (hi : i = nI (t)) (hdg : decode cc pc = .ok (.iastore, 1)) (kk : ∀ (H1 : Heap) (locs1 : List Loc), wl D A s (wM ct am N th (su σ 1 t 1 x)) H1 locs1 → W p l e R s m args below meth c H1 locs1 cells slots Q (F0 m (pc + 1) ls rest)) : W p l e R s m args below meth c H locs cells slots Q (F0 m pc ls (.int x :: .int i :: .ref (am 2) :: rest)) := by
  subst hi
  obtain ⟨q0, h1, h2⟩ := sg_at (sM ct am N th σ) 2 1 _ rfl 0 (by decide)
  have hu : upd (fun z9 => σ 1 z9 1) (t) x = (fun z9 => (su σ 1 t 1 x) 1 z9 1) := by
    funext z
    by_cases hz9 : z = t
    · subst hz9; simp [upd, su]
    · simp [upd, su, hz9]
  have h3 := h2 (am 2, eI (ct 0) 16 (upd (fun z9 => σ 1 z9 1) (t) x)) (fun _ => (am 2, eI (ct 0) 16 (fun z9 => (su σ 1 t 1 x) 1 z9 1))) (by rw [hu]) (fun k hk hne => by omega)
  rw [← sM_2] at h3
  have h3 : (wM ct am N th σ).set q0 _ = wM ct am N th (su σ 1 t 1 x) := h3
  refine va_iast C.1 C.2.1 C.2.2.2.2.2.1 hw.1 hw.2.1 hw.2.2 q0 0 h1 rfl (vp_in_nI (by omega) (by omega)) hdg (fun H1 locs1 a b c => ?_)
  rw [nI_clamp (by omega), h3] at a b
  exact kk H1 locs1 ⟨a, b, c⟩
theorem sM_3 {ct : Ct} {am : Nat → Nat} {N t : Nat} {th x : Int32} {σ : St} : sM ct am N th (su σ 1 t 2 x) = (sM ct am N th σ).set 3 (1, fun _ => (am 3, eI (ct 0) 16 (fun z9 => (su σ 1 t 2 x) 1 z9 2))) := by simp [sM, fM, su, su_r]
theorem mr_3 (C : cx p l s m args meth c cc nL own ct D A) (hw : wl D A s (wM ct am N th σ) H locs) (ht : t < 16) {i : Int32} (hi : i = nI (t)) (hdg : decode cc pc = .ok (.iaload, 1)) (kk : W p l e R s m args below meth c H locs cells slots Q (F0 m (pc + 1) ls (.int (σ 1 t 2) :: rest))) : W p l e R s m args below meth c H locs cells slots Q (F0 m pc ls (.int i :: .ref (am 3) :: rest)) := by
  subst hi
  obtain ⟨q0, h1, -⟩ := sg_at (sM ct am N th σ) 3 1 _ rfl 0 (by decide)
  refine va_iald C.1 C.2.1 C.2.2.2.2.2.1 hw.1 q0 0 h1 rfl (vp_in_nI (by omega) (by omega)) hdg ?_
  rw [nI_clamp (by omega)]
  exact kk
theorem mw_3 (C : cx p l s m args meth c cc nL own ct D A) (hw : wl D A s (wM ct am N th σ) H locs) (ht : t < 16) {i x : Int32} (hi : i = nI (t)) (hdg : decode cc pc = .ok (.iastore, 1)) (kk : ∀ (H1 : Heap) (locs1 : List Loc), wl D A s (wM ct am N th (su σ 1 t 2 x)) H1 locs1 → W p l e R s m args below meth c H1 locs1 cells slots Q (F0 m (pc + 1) ls rest)) : W p l e R s m args below meth c H locs cells slots Q (F0 m pc ls (.int x :: .int i :: .ref (am 3) :: rest)) := by
  subst hi
  obtain ⟨q0, h1, h2⟩ := sg_at (sM ct am N th σ) 3 1 _ rfl 0 (by decide)
  have hu : upd (fun z9 => σ 1 z9 2) (t) x = (fun z9 => (su σ 1 t 2 x) 1 z9 2) := by
    funext z
    by_cases hz9 : z = t
    · subst hz9; simp [upd, su]
    · simp [upd, su, hz9]
  have h3 := h2 (am 3, eI (ct 0) 16 (upd (fun z9 => σ 1 z9 2) (t) x)) (fun _ => (am 3, eI (ct 0) 16 (fun z9 => (su σ 1 t 2 x) 1 z9 2))) (by rw [hu]) (fun k hk hne => by omega)
  rw [← sM_3] at h3
  have h3 : (wM ct am N th σ).set q0 _ = wM ct am N th (su σ 1 t 2 x) := h3
  refine va_iast C.1 C.2.1 C.2.2.2.2.2.1 hw.1 hw.2.1 hw.2.2 q0 0 h1 rfl (vp_in_nI (by omega) (by omega)) hdg (fun H1 locs1 a b c => ?_)
  rw [nI_clamp (by omega), h3] at a b
  exact kk H1 locs1 ⟨a, b, c⟩
theorem sM_4 {ct : Ct} {am : Nat → Nat} {N t : Nat} {th x : Int32} {σ : St} : sM ct am N th (su σ 1 t 3 x) = (sM ct am N th σ).set 4 (1, fun _ => (am 4, eI (ct 0) 16 (fun z9 => (su σ 1 t 3 x) 1 z9 3))) := by simp [sM, fM, su, su_r]
theorem mr_4 (C : cx p l s m args meth c cc nL own ct D A) (hw : wl D A s (wM ct am N th σ) H locs) (ht : t < 16) {i : Int32} (hi : i = nI (t)) (hdg : decode cc pc = .ok (.iaload, 1)) (kk : W p l e R s m args below meth c H locs cells slots Q (F0 m (pc + 1) ls (.int (σ 1 t 3) :: rest))) : W p l e R s m args below meth c H locs cells slots Q (F0 m pc ls (.int i :: .ref (am 4) :: rest)) := by
  subst hi
  obtain ⟨q0, h1, -⟩ := sg_at (sM ct am N th σ) 4 1 _ rfl 0 (by decide)
  refine va_iald C.1 C.2.1 C.2.2.2.2.2.1 hw.1 q0 0 h1 rfl (vp_in_nI (by omega) (by omega)) hdg ?_
  rw [nI_clamp (by omega)]
  exact kk
theorem mw_4 (C : cx p l s m args meth c cc nL own ct D A) (hw : wl D A s (wM ct am N th σ) H locs) (ht : t < 16) {i x : Int32} (hi : i = nI (t)) (hdg : decode cc pc = .ok (.iastore, 1)) (kk : ∀ (H1 : Heap) (locs1 : List Loc), wl D A s (wM ct am N th (su σ 1 t 3 x)) H1 locs1 → W p l e R s m args below meth c H1 locs1 cells slots Q (F0 m (pc + 1) ls rest)) : W p l e R s m args below meth c H locs cells slots Q (F0 m pc ls (.int x :: .int i :: .ref (am 4) :: rest)) := by
  subst hi
  obtain ⟨q0, h1, h2⟩ := sg_at (sM ct am N th σ) 4 1 _ rfl 0 (by decide)
  have hu : upd (fun z9 => σ 1 z9 3) (t) x = (fun z9 => (su σ 1 t 3 x) 1 z9 3) := by
    funext z
    by_cases hz9 : z = t
    · subst hz9; simp [upd, su]
    · simp [upd, su, hz9]
  have h3 := h2 (am 4, eI (ct 0) 16 (upd (fun z9 => σ 1 z9 3) (t) x)) (fun _ => (am 4, eI (ct 0) 16 (fun z9 => (su σ 1 t 3 x) 1 z9 3))) (by rw [hu]) (fun k hk hne => by omega)
  rw [← sM_4] at h3
  have h3 : (wM ct am N th σ).set q0 _ = wM ct am N th (su σ 1 t 3 x) := h3
  refine va_iast C.1 C.2.1 C.2.2.2.2.2.1 hw.1 hw.2.1 hw.2.2 q0 0 h1 rfl (vp_in_nI (by omega) (by omega)) hdg (fun H1 locs1 a b c => ?_)
  rw [nI_clamp (by omega), h3] at a b
  exact kk H1 locs1 ⟨a, b, c⟩
theorem sM_5 {ct : Ct} {am : Nat → Nat} {N t : Nat} {th x : Int32} {σ : St} : sM ct am N th (su σ 1 t 4 x) = (sM ct am N th σ).set 5 (1, fun _ => (am 5, eI (ct 0) 16 (fun z9 => (su σ 1 t 4 x) 1 z9 4))) := by simp [sM, fM, su, su_r]
theorem mr_5 (C : cx p l s m args meth c cc nL own ct D A) (hw : wl D A s (wM ct am N th σ) H locs) (ht : t < 16) {i : Int32} (hi : i = nI (t)) (hdg : decode cc pc = .ok (.iaload, 1)) (kk : W p l e R s m args below meth c H locs cells slots Q (F0 m (pc + 1) ls (.int (σ 1 t 4) :: rest))) : W p l e R s m args below meth c H locs cells slots Q (F0 m pc ls (.int i :: .ref (am 5) :: rest)) := by
  subst hi
  obtain ⟨q0, h1, -⟩ := sg_at (sM ct am N th σ) 5 1 _ rfl 0 (by decide)
  refine va_iald C.1 C.2.1 C.2.2.2.2.2.1 hw.1 q0 0 h1 rfl (vp_in_nI (by omega) (by omega)) hdg ?_
  rw [nI_clamp (by omega)]
  exact kk
theorem mw_5 (C : cx p l s m args meth c cc nL own ct D A) (hw : wl D A s (wM ct am N th σ) H locs) (ht : t < 16) {i x : Int32} (hi : i = nI (t)) (hdg : decode cc pc = .ok (.iastore, 1)) (kk : ∀ (H1 : Heap) (locs1 : List Loc), wl D A s (wM ct am N th (su σ 1 t 4 x)) H1 locs1 → W p l e R s m args below meth c H1 locs1 cells slots Q (F0 m (pc + 1) ls rest)) : W p l e R s m args below meth c H locs cells slots Q (F0 m pc ls (.int x :: .int i :: .ref (am 5) :: rest)) := by
  subst hi
  obtain ⟨q0, h1, h2⟩ := sg_at (sM ct am N th σ) 5 1 _ rfl 0 (by decide)
  have hu : upd (fun z9 => σ 1 z9 4) (t) x = (fun z9 => (su σ 1 t 4 x) 1 z9 4) := by
    funext z
    by_cases hz9 : z = t
    · subst hz9; simp [upd, su]
    · simp [upd, su, hz9]
  have h3 := h2 (am 5, eI (ct 0) 16 (upd (fun z9 => σ 1 z9 4) (t) x)) (fun _ => (am 5, eI (ct 0) 16 (fun z9 => (su σ 1 t 4 x) 1 z9 4))) (by rw [hu]) (fun k hk hne => by omega)
  rw [← sM_5] at h3
  have h3 : (wM ct am N th σ).set q0 _ = wM ct am N th (su σ 1 t 4 x) := h3
  refine va_iast C.1 C.2.1 C.2.2.2.2.2.1 hw.1 hw.2.1 hw.2.2 q0 0 h1 rfl (vp_in_nI (by omega) (by omega)) hdg (fun H1 locs1 a b c => ?_)
  rw [nI_clamp (by omega), h3] at a b
  exact kk H1 locs1 ⟨a, b, c⟩
theorem sM_6 {ct : Ct} {am : Nat → Nat} {N t : Nat} {th x : Int32} {σ : St} : sM ct am N th (su σ 1 t 5 x) = (sM ct am N th σ).set 6 (1, fun _ => (am 6, eI (ct 0) 16 (fun z9 => (su σ 1 t 5 x) 1 z9 5))) := by simp [sM, fM, su, su_r]
theorem mr_6 (C : cx p l s m args meth c cc nL own ct D A) (hw : wl D A s (wM ct am N th σ) H locs) (ht : t < 16) {i : Int32} (hi : i = nI (t)) (hdg : decode cc pc = .ok (.iaload, 1)) (kk : W p l e R s m args below meth c H locs cells slots Q (F0 m (pc + 1) ls (.int (σ 1 t 5) :: rest))) : W p l e R s m args below meth c H locs cells slots Q (F0 m pc ls (.int i :: .ref (am 6) :: rest)) := by
  subst hi
  obtain ⟨q0, h1, -⟩ := sg_at (sM ct am N th σ) 6 1 _ rfl 0 (by decide)
  refine va_iald C.1 C.2.1 C.2.2.2.2.2.1 hw.1 q0 0 h1 rfl (vp_in_nI (by omega) (by omega)) hdg ?_
  rw [nI_clamp (by omega)]
  exact kk
theorem mw_6 (C : cx p l s m args meth c cc nL own ct D A) (hw : wl D A s (wM ct am N th σ) H locs) (ht : t < 16) {i x : Int32} (hi : i = nI (t)) (hdg : decode cc pc = .ok (.iastore, 1)) (kk : ∀ (H1 : Heap) (locs1 : List Loc), wl D A s (wM ct am N th (su σ 1 t 5 x)) H1 locs1 → W p l e R s m args below meth c H1 locs1 cells slots Q (F0 m (pc + 1) ls rest)) : W p l e R s m args below meth c H locs cells slots Q (F0 m pc ls (.int x :: .int i :: .ref (am 6) :: rest)) := by
  subst hi
  obtain ⟨q0, h1, h2⟩ := sg_at (sM ct am N th σ) 6 1 _ rfl 0 (by decide)
  have hu : upd (fun z9 => σ 1 z9 5) (t) x = (fun z9 => (su σ 1 t 5 x) 1 z9 5) := by
    funext z
    by_cases hz9 : z = t
    · subst hz9; simp [upd, su]
    · simp [upd, su, hz9]
  have h3 := h2 (am 6, eI (ct 0) 16 (upd (fun z9 => σ 1 z9 5) (t) x)) (fun _ => (am 6, eI (ct 0) 16 (fun z9 => (su σ 1 t 5 x) 1 z9 5))) (by rw [hu]) (fun k hk hne => by omega)
  rw [← sM_6] at h3
  have h3 : (wM ct am N th σ).set q0 _ = wM ct am N th (su σ 1 t 5 x) := h3
  refine va_iast C.1 C.2.1 C.2.2.2.2.2.1 hw.1 hw.2.1 hw.2.2 q0 0 h1 rfl (vp_in_nI (by omega) (by omega)) hdg (fun H1 locs1 a b c => ?_)
  rw [nI_clamp (by omega), h3] at a b
  exact kk H1 locs1 ⟨a, b, c⟩
theorem sM_7 {ct : Ct} {am : Nat → Nat} {N t : Nat} {th x : Int32} {σ : St} : sM ct am N th (su σ 1 t 6 x) = (sM ct am N th σ).set 7 (1, fun _ => (am 7, eI (ct 0) 16 (fun z9 => (su σ 1 t 6 x) 1 z9 6))) := by simp [sM, fM, su, su_r]
theorem mr_7 (C : cx p l s m args meth c cc nL own ct D A) (hw : wl D A s (wM ct am N th σ) H locs) (ht : t < 16) {i : Int32} (hi : i = nI (t)) (hdg : decode cc pc = .ok (.iaload, 1)) (kk : W p l e R s m args below meth c H locs cells slots Q (F0 m (pc + 1) ls (.int (σ 1 t 6) :: rest))) : W p l e R s m args below meth c H locs cells slots Q (F0 m pc ls (.int i :: .ref (am 7) :: rest)) := by
  subst hi
  obtain ⟨q0, h1, -⟩ := sg_at (sM ct am N th σ) 7 1 _ rfl 0 (by decide)
  refine va_iald C.1 C.2.1 C.2.2.2.2.2.1 hw.1 q0 0 h1 rfl (vp_in_nI (by omega) (by omega)) hdg ?_
  rw [nI_clamp (by omega)]
  exact kk
theorem mw_7 (C : cx p l s m args meth c cc nL own ct D A) (hw : wl D A s (wM ct am N th σ) H locs) (ht : t < 16) {i x : Int32} (hi : i = nI (t)) (hdg : decode cc pc = .ok (.iastore, 1)) (kk : ∀ (H1 : Heap) (locs1 : List Loc), wl D A s (wM ct am N th (su σ 1 t 6 x)) H1 locs1 → W p l e R s m args below meth c H1 locs1 cells slots Q (F0 m (pc + 1) ls rest)) : W p l e R s m args below meth c H locs cells slots Q (F0 m pc ls (.int x :: .int i :: .ref (am 7) :: rest)) := by
  subst hi
  obtain ⟨q0, h1, h2⟩ := sg_at (sM ct am N th σ) 7 1 _ rfl 0 (by decide)
  have hu : upd (fun z9 => σ 1 z9 6) (t) x = (fun z9 => (su σ 1 t 6 x) 1 z9 6) := by
    funext z
    by_cases hz9 : z = t
    · subst hz9; simp [upd, su]
    · simp [upd, su, hz9]
  have h3 := h2 (am 7, eI (ct 0) 16 (upd (fun z9 => σ 1 z9 6) (t) x)) (fun _ => (am 7, eI (ct 0) 16 (fun z9 => (su σ 1 t 6 x) 1 z9 6))) (by rw [hu]) (fun k hk hne => by omega)
  rw [← sM_7] at h3
  have h3 : (wM ct am N th σ).set q0 _ = wM ct am N th (su σ 1 t 6 x) := h3
  refine va_iast C.1 C.2.1 C.2.2.2.2.2.1 hw.1 hw.2.1 hw.2.2 q0 0 h1 rfl (vp_in_nI (by omega) (by omega)) hdg (fun H1 locs1 a b c => ?_)
  rw [nI_clamp (by omega), h3] at a b
  exact kk H1 locs1 ⟨a, b, c⟩
theorem sM_8 {ct : Ct} {am : Nat → Nat} {N t : Nat} {th x : Int32} {σ : St} : sM ct am N th (su σ 1 t 7 x) = (sM ct am N th σ).set 8 (1, fun _ => (am 8, eI (ct 0) 16 (fun z9 => (su σ 1 t 7 x) 1 z9 7))) := by simp [sM, fM, su, su_r]
theorem mr_8 (C : cx p l s m args meth c cc nL own ct D A) (hw : wl D A s (wM ct am N th σ) H locs) (ht : t < 16) {i : Int32} (hi : i = nI (t)) (hdg : decode cc pc = .ok (.iaload, 1)) (kk : W p l e R s m args below meth c H locs cells slots Q (F0 m (pc + 1) ls (.int (σ 1 t 7) :: rest))) : W p l e R s m args below meth c H locs cells slots Q (F0 m pc ls (.int i :: .ref (am 8) :: rest)) := by
  subst hi
  obtain ⟨q0, h1, -⟩ := sg_at (sM ct am N th σ) 8 1 _ rfl 0 (by decide)
  refine va_iald C.1 C.2.1 C.2.2.2.2.2.1 hw.1 q0 0 h1 rfl (vp_in_nI (by omega) (by omega)) hdg ?_
  rw [nI_clamp (by omega)]
  exact kk
theorem mw_8 (C : cx p l s m args meth c cc nL own ct D A) (hw : wl D A s (wM ct am N th σ) H locs) (ht : t < 16) {i x : Int32} (hi : i = nI (t)) (hdg : decode cc pc = .ok (.iastore, 1)) (kk : ∀ (H1 : Heap) (locs1 : List Loc), wl D A s (wM ct am N th (su σ 1 t 7 x)) H1 locs1 → W p l e R s m args below meth c H1 locs1 cells slots Q (F0 m (pc + 1) ls rest)) : W p l e R s m args below meth c H locs cells slots Q (F0 m pc ls (.int x :: .int i :: .ref (am 8) :: rest)) := by
  subst hi
  obtain ⟨q0, h1, h2⟩ := sg_at (sM ct am N th σ) 8 1 _ rfl 0 (by decide)
  have hu : upd (fun z9 => σ 1 z9 7) (t) x = (fun z9 => (su σ 1 t 7 x) 1 z9 7) := by
    funext z
    by_cases hz9 : z = t
    · subst hz9; simp [upd, su]
    · simp [upd, su, hz9]
  have h3 := h2 (am 8, eI (ct 0) 16 (upd (fun z9 => σ 1 z9 7) (t) x)) (fun _ => (am 8, eI (ct 0) 16 (fun z9 => (su σ 1 t 7 x) 1 z9 7))) (by rw [hu]) (fun k hk hne => by omega)
  rw [← sM_8] at h3
  have h3 : (wM ct am N th σ).set q0 _ = wM ct am N th (su σ 1 t 7 x) := h3
  refine va_iast C.1 C.2.1 C.2.2.2.2.2.1 hw.1 hw.2.1 hw.2.2 q0 0 h1 rfl (vp_in_nI (by omega) (by omega)) hdg (fun H1 locs1 a b c => ?_)
  rw [nI_clamp (by omega), h3] at a b
  exact kk H1 locs1 ⟨a, b, c⟩
theorem sM_9 {ct : Ct} {am : Nat → Nat} {N t k : Nat} {th x : Int32} {σ : St} : sM ct am N th (su σ 2 t k x) = (sM ct am N th σ).set 9 (1, fun _ => (am 9, eI (ct 0) 256 (fun z9 => (su σ 2 t k x) 2 (z9 / 16) (z9 % 16)))) := by simp [sM, fM, su, su_r]
theorem mr_9 (C : cx p l s m args meth c cc nL own ct D A) (hw : wl D A s (wM ct am N th σ) H locs) (ht : t < 16) (hk : k < 16) {i : Int32} (hi : i = nI (16 * t + k)) (hdg : decode cc pc = .ok (.iaload, 1)) (kk : W p l e R s m args below meth c H locs cells slots Q (F0 m (pc + 1) ls (.int (σ 2 t k) :: rest))) : W p l e R s m args below meth c H locs cells slots Q (F0 m pc ls (.int i :: .ref (am 9) :: rest)) := by
  subst hi
  obtain ⟨q0, h1, -⟩ := sg_at (sM ct am N th σ) 9 1 _ rfl 0 (by decide)
  refine va_iald C.1 C.2.1 C.2.2.2.2.2.1 hw.1 q0 0 h1 rfl (vp_in_nI (by omega) (by omega)) hdg ?_
  rw [nI_clamp (by omega)]
  have e1 : (16 * t + k) / 16 = t := by omega
  have e2 : (16 * t + k) % 16 = k := by omega
  simp only [e1, e2]
  exact kk
theorem mw_9 (C : cx p l s m args meth c cc nL own ct D A) (hw : wl D A s (wM ct am N th σ) H locs) (ht : t < 16) (hk : k < 16) {i x : Int32} (hi : i = nI (16 * t + k)) (hdg : decode cc pc = .ok (.iastore, 1)) (kk : ∀ (H1 : Heap) (locs1 : List Loc), wl D A s (wM ct am N th (su σ 2 t k x)) H1 locs1 → W p l e R s m args below meth c H1 locs1 cells slots Q (F0 m (pc + 1) ls rest)) : W p l e R s m args below meth c H locs cells slots Q (F0 m pc ls (.int x :: .int i :: .ref (am 9) :: rest)) := by
  subst hi
  obtain ⟨q0, h1, h2⟩ := sg_at (sM ct am N th σ) 9 1 _ rfl 0 (by decide)
  have hu : upd (fun z9 => σ 2 (z9 / 16) (z9 % 16)) (16 * t + k) x = (fun z9 => (su σ 2 t k x) 2 (z9 / 16) (z9 % 16)) := by
    funext z
    by_cases hz9 : z = 16 * t + k
    · subst hz9
      have e1 : (16 * t + k) / 16 = t := by omega
      have e2 : (16 * t + k) % 16 = k := by omega
      simp [upd, su, e1, e2]
    · have e3 : ¬ (z / 16 = t ∧ z % 16 = k) := by omega
      simp [upd, su, hz9, e3]
  have h3 := h2 (am 9, eI (ct 0) 256 (upd (fun z9 => σ 2 (z9 / 16) (z9 % 16)) (16 * t + k) x)) (fun _ => (am 9, eI (ct 0) 256 (fun z9 => (su σ 2 t k x) 2 (z9 / 16) (z9 % 16)))) (by rw [hu]) (fun k hk hne => by omega)
  rw [← sM_9] at h3
  have h3 : (wM ct am N th σ).set q0 _ = wM ct am N th (su σ 2 t k x) := h3
  refine va_iast C.1 C.2.1 C.2.2.2.2.2.1 hw.1 hw.2.1 hw.2.2 q0 0 h1 rfl (vp_in_nI (by omega) (by omega)) hdg (fun H1 locs1 a b c => ?_)
  rw [nI_clamp (by omega), h3] at a b
  exact kk H1 locs1 ⟨a, b, c⟩
theorem sM_10 {ct : Ct} {am : Nat → Nat} {N q : Nat} {th x : Int32} {σ : St} : sM ct am N th (su σ 3 q 0 x) = (sM ct am N th σ).set 10 (1, fun _ => (am 10, eI (ct 0) 8 (fun z9 => (su σ 3 q 0 x) 3 z9 0))) := by simp [sM, fM, su, su_r]
theorem mr_10 (C : cx p l s m args meth c cc nL own ct D A) (hw : wl D A s (wM ct am N th σ) H locs) (hq : q < 8) {i : Int32} (hi : i = nI (q)) (hdg : decode cc pc = .ok (.iaload, 1)) (kk : W p l e R s m args below meth c H locs cells slots Q (F0 m (pc + 1) ls (.int (σ 3 q 0) :: rest))) : W p l e R s m args below meth c H locs cells slots Q (F0 m pc ls (.int i :: .ref (am 10) :: rest)) := by
  subst hi
  obtain ⟨q0, h1, -⟩ := sg_at (sM ct am N th σ) 10 1 _ rfl 0 (by decide)
  refine va_iald C.1 C.2.1 C.2.2.2.2.2.1 hw.1 q0 0 h1 rfl (vp_in_nI (by omega) (by omega)) hdg ?_
  rw [nI_clamp (by omega)]
  exact kk
theorem mw_10 (C : cx p l s m args meth c cc nL own ct D A) (hw : wl D A s (wM ct am N th σ) H locs) (hq : q < 8) {i x : Int32} (hi : i = nI (q)) (hdg : decode cc pc = .ok (.iastore, 1)) (kk : ∀ (H1 : Heap) (locs1 : List Loc), wl D A s (wM ct am N th (su σ 3 q 0 x)) H1 locs1 → W p l e R s m args below meth c H1 locs1 cells slots Q (F0 m (pc + 1) ls rest)) : W p l e R s m args below meth c H locs cells slots Q (F0 m pc ls (.int x :: .int i :: .ref (am 10) :: rest)) := by
  subst hi
  obtain ⟨q0, h1, h2⟩ := sg_at (sM ct am N th σ) 10 1 _ rfl 0 (by decide)
  have hu : upd (fun z9 => σ 3 z9 0) (q) x = (fun z9 => (su σ 3 q 0 x) 3 z9 0) := by
    funext z
    by_cases hz9 : z = q
    · subst hz9; simp [upd, su]
    · simp [upd, su, hz9]
  have h3 := h2 (am 10, eI (ct 0) 8 (upd (fun z9 => σ 3 z9 0) (q) x)) (fun _ => (am 10, eI (ct 0) 8 (fun z9 => (su σ 3 q 0 x) 3 z9 0))) (by rw [hu]) (fun k hk hne => by omega)
  rw [← sM_10] at h3
  have h3 : (wM ct am N th σ).set q0 _ = wM ct am N th (su σ 3 q 0 x) := h3
  refine va_iast C.1 C.2.1 C.2.2.2.2.2.1 hw.1 hw.2.1 hw.2.2 q0 0 h1 rfl (vp_in_nI (by omega) (by omega)) hdg (fun H1 locs1 a b c => ?_)
  rw [nI_clamp (by omega), h3] at a b
  exact kk H1 locs1 ⟨a, b, c⟩
theorem sM_11 {ct : Ct} {am : Nat → Nat} {N q k : Nat} {th x : Int32} {σ : St} : sM ct am N th (su σ 4 q k x) = (sM ct am N th σ).set 11 (1, fun _ => (am 11, eI (ct 0) 256 (fun z9 => (su σ 4 q k x) 4 (z9 / 32) (z9 % 32)))) := by simp [sM, fM, su, su_r]
theorem mr_11 (C : cx p l s m args meth c cc nL own ct D A) (hw : wl D A s (wM ct am N th σ) H locs) (hq : q < 8) (hk : k < 32) {i : Int32} (hi : i = nI (32 * q + k)) (hdg : decode cc pc = .ok (.iaload, 1)) (kk : W p l e R s m args below meth c H locs cells slots Q (F0 m (pc + 1) ls (.int (σ 4 q k) :: rest))) : W p l e R s m args below meth c H locs cells slots Q (F0 m pc ls (.int i :: .ref (am 11) :: rest)) := by
  subst hi
  obtain ⟨q0, h1, -⟩ := sg_at (sM ct am N th σ) 11 1 _ rfl 0 (by decide)
  refine va_iald C.1 C.2.1 C.2.2.2.2.2.1 hw.1 q0 0 h1 rfl (vp_in_nI (by omega) (by omega)) hdg ?_
  rw [nI_clamp (by omega)]
  have e1 : (32 * q + k) / 32 = q := by omega
  have e2 : (32 * q + k) % 32 = k := by omega
  simp only [e1, e2]
  exact kk
theorem mw_11 (C : cx p l s m args meth c cc nL own ct D A) (hw : wl D A s (wM ct am N th σ) H locs) (hq : q < 8) (hk : k < 32) {i x : Int32} (hi : i = nI (32 * q + k)) (hdg : decode cc pc = .ok (.iastore, 1)) (kk : ∀ (H1 : Heap) (locs1 : List Loc), wl D A s (wM ct am N th (su σ 4 q k x)) H1 locs1 → W p l e R s m args below meth c H1 locs1 cells slots Q (F0 m (pc + 1) ls rest)) : W p l e R s m args below meth c H locs cells slots Q (F0 m pc ls (.int x :: .int i :: .ref (am 11) :: rest)) := by
  subst hi
  obtain ⟨q0, h1, h2⟩ := sg_at (sM ct am N th σ) 11 1 _ rfl 0 (by decide)
  have hu : upd (fun z9 => σ 4 (z9 / 32) (z9 % 32)) (32 * q + k) x = (fun z9 => (su σ 4 q k x) 4 (z9 / 32) (z9 % 32)) := by
    funext z
    by_cases hz9 : z = 32 * q + k
    · subst hz9
      have e1 : (32 * q + k) / 32 = q := by omega
      have e2 : (32 * q + k) % 32 = k := by omega
      simp [upd, su, e1, e2]
    · have e3 : ¬ (z / 32 = q ∧ z % 32 = k) := by omega
      simp [upd, su, hz9, e3]
  have h3 := h2 (am 11, eI (ct 0) 256 (upd (fun z9 => σ 4 (z9 / 32) (z9 % 32)) (32 * q + k) x)) (fun _ => (am 11, eI (ct 0) 256 (fun z9 => (su σ 4 q k x) 4 (z9 / 32) (z9 % 32)))) (by rw [hu]) (fun k hk hne => by omega)
  rw [← sM_11] at h3
  have h3 : (wM ct am N th σ).set q0 _ = wM ct am N th (su σ 4 q k x) := h3
  refine va_iast C.1 C.2.1 C.2.2.2.2.2.1 hw.1 hw.2.1 hw.2.2 q0 0 h1 rfl (vp_in_nI (by omega) (by omega)) hdg (fun H1 locs1 a b c => ?_)
  rw [nI_clamp (by omega), h3] at a b
  exact kk H1 locs1 ⟨a, b, c⟩
theorem sM_12 {ct : Ct} {am : Nat → Nat} {N q k : Nat} {th x : Int32} {σ : St} : sM ct am N th (su σ 5 q k x) = (sM ct am N th σ).set 12 (1, fun _ => (am 12, eI (ct 0) 256 (fun z9 => (su σ 5 q k x) 5 (z9 / 32) (z9 % 32)))) := by simp [sM, fM, su, su_r]
theorem mr_12 (C : cx p l s m args meth c cc nL own ct D A) (hw : wl D A s (wM ct am N th σ) H locs) (hq : q < 8) (hk : k < 32) {i : Int32} (hi : i = nI (32 * q + k)) (hdg : decode cc pc = .ok (.iaload, 1)) (kk : W p l e R s m args below meth c H locs cells slots Q (F0 m (pc + 1) ls (.int (σ 5 q k) :: rest))) : W p l e R s m args below meth c H locs cells slots Q (F0 m pc ls (.int i :: .ref (am 12) :: rest)) := by
  subst hi
  obtain ⟨q0, h1, -⟩ := sg_at (sM ct am N th σ) 12 1 _ rfl 0 (by decide)
  refine va_iald C.1 C.2.1 C.2.2.2.2.2.1 hw.1 q0 0 h1 rfl (vp_in_nI (by omega) (by omega)) hdg ?_
  rw [nI_clamp (by omega)]
  have e1 : (32 * q + k) / 32 = q := by omega
  have e2 : (32 * q + k) % 32 = k := by omega
  simp only [e1, e2]
  exact kk
theorem mw_12 (C : cx p l s m args meth c cc nL own ct D A) (hw : wl D A s (wM ct am N th σ) H locs) (hq : q < 8) (hk : k < 32) {i x : Int32} (hi : i = nI (32 * q + k)) (hdg : decode cc pc = .ok (.iastore, 1)) (kk : ∀ (H1 : Heap) (locs1 : List Loc), wl D A s (wM ct am N th (su σ 5 q k x)) H1 locs1 → W p l e R s m args below meth c H1 locs1 cells slots Q (F0 m (pc + 1) ls rest)) : W p l e R s m args below meth c H locs cells slots Q (F0 m pc ls (.int x :: .int i :: .ref (am 12) :: rest)) := by
  subst hi
  obtain ⟨q0, h1, h2⟩ := sg_at (sM ct am N th σ) 12 1 _ rfl 0 (by decide)
  have hu : upd (fun z9 => σ 5 (z9 / 32) (z9 % 32)) (32 * q + k) x = (fun z9 => (su σ 5 q k x) 5 (z9 / 32) (z9 % 32)) := by
    funext z
    by_cases hz9 : z = 32 * q + k
    · subst hz9
      have e1 : (32 * q + k) / 32 = q := by omega
      have e2 : (32 * q + k) % 32 = k := by omega
      simp [upd, su, e1, e2]
    · have e3 : ¬ (z / 32 = q ∧ z % 32 = k) := by omega
      simp [upd, su, hz9, e3]
  have h3 := h2 (am 12, eI (ct 0) 256 (upd (fun z9 => σ 5 (z9 / 32) (z9 % 32)) (32 * q + k) x)) (fun _ => (am 12, eI (ct 0) 256 (fun z9 => (su σ 5 q k x) 5 (z9 / 32) (z9 % 32)))) (by rw [hu]) (fun k hk hne => by omega)
  rw [← sM_12] at h3
  have h3 : (wM ct am N th σ).set q0 _ = wM ct am N th (su σ 5 q k x) := h3
  refine va_iast C.1 C.2.1 C.2.2.2.2.2.1 hw.1 hw.2.1 hw.2.2 q0 0 h1 rfl (vp_in_nI (by omega) (by omega)) hdg (fun H1 locs1 a b c => ?_)
  rw [nI_clamp (by omega), h3] at a b
  exact kk H1 locs1 ⟨a, b, c⟩
theorem sM_13 {ct : Ct} {am : Nat → Nat} {N q t : Nat} {th x : Int32} {σ : St} : sM ct am N th (su σ 6 q t x) = (sM ct am N th σ).set 13 (1, fun _ => (am 13, eI (ct 0) 128 (fun z9 => (su σ 6 q t x) 6 (z9 / 16) (z9 % 16)))) := by simp [sM, fM, su, su_r]
theorem mr_13 (C : cx p l s m args meth c cc nL own ct D A) (hw : wl D A s (wM ct am N th σ) H locs) (hq : q < 8) (ht : t < 16) {i : Int32} (hi : i = nI (16 * q + t)) (hdg : decode cc pc = .ok (.iaload, 1)) (kk : W p l e R s m args below meth c H locs cells slots Q (F0 m (pc + 1) ls (.int (σ 6 q t) :: rest))) : W p l e R s m args below meth c H locs cells slots Q (F0 m pc ls (.int i :: .ref (am 13) :: rest)) := by
  subst hi
  obtain ⟨q0, h1, -⟩ := sg_at (sM ct am N th σ) 13 1 _ rfl 0 (by decide)
  refine va_iald C.1 C.2.1 C.2.2.2.2.2.1 hw.1 q0 0 h1 rfl (vp_in_nI (by omega) (by omega)) hdg ?_
  rw [nI_clamp (by omega)]
  have e1 : (16 * q + t) / 16 = q := by omega
  have e2 : (16 * q + t) % 16 = t := by omega
  simp only [e1, e2]
  exact kk
theorem mw_13 (C : cx p l s m args meth c cc nL own ct D A) (hw : wl D A s (wM ct am N th σ) H locs) (hq : q < 8) (ht : t < 16) {i x : Int32} (hi : i = nI (16 * q + t)) (hdg : decode cc pc = .ok (.iastore, 1)) (kk : ∀ (H1 : Heap) (locs1 : List Loc), wl D A s (wM ct am N th (su σ 6 q t x)) H1 locs1 → W p l e R s m args below meth c H1 locs1 cells slots Q (F0 m (pc + 1) ls rest)) : W p l e R s m args below meth c H locs cells slots Q (F0 m pc ls (.int x :: .int i :: .ref (am 13) :: rest)) := by
  subst hi
  obtain ⟨q0, h1, h2⟩ := sg_at (sM ct am N th σ) 13 1 _ rfl 0 (by decide)
  have hu : upd (fun z9 => σ 6 (z9 / 16) (z9 % 16)) (16 * q + t) x = (fun z9 => (su σ 6 q t x) 6 (z9 / 16) (z9 % 16)) := by
    funext z
    by_cases hz9 : z = 16 * q + t
    · subst hz9
      have e1 : (16 * q + t) / 16 = q := by omega
      have e2 : (16 * q + t) % 16 = t := by omega
      simp [upd, su, e1, e2]
    · have e3 : ¬ (z / 16 = q ∧ z % 16 = t) := by omega
      simp [upd, su, hz9, e3]
  have h3 := h2 (am 13, eI (ct 0) 128 (upd (fun z9 => σ 6 (z9 / 16) (z9 % 16)) (16 * q + t) x)) (fun _ => (am 13, eI (ct 0) 128 (fun z9 => (su σ 6 q t x) 6 (z9 / 16) (z9 % 16)))) (by rw [hu]) (fun k hk hne => by omega)
  rw [← sM_13] at h3
  have h3 : (wM ct am N th σ).set q0 _ = wM ct am N th (su σ 6 q t x) := h3
  refine va_iast C.1 C.2.1 C.2.2.2.2.2.1 hw.1 hw.2.1 hw.2.2 q0 0 h1 rfl (vp_in_nI (by omega) (by omega)) hdg (fun H1 locs1 a b c => ?_)
  rw [nI_clamp (by omega), h3] at a b
  exact kk H1 locs1 ⟨a, b, c⟩
theorem re_M (C : cx p l s m args meth c cc nL own ct D A) (hw : wl D A s (wM ct am N th σ) H locs) : ∃ cellB : Cell, H[am 0]? = some cellB ∧ cellB.vm.isStatics = false ∧ s.vm.findClass "ThreadSlotsModel" = some cellB.cls := by
  obtain ⟨q0, h1, -⟩ := sg_at (sM ct am N th σ) 0 1 _ rfl 0 (by decide)
  exact va_recv C.2.2.2.2.2.1 hw.1 (ci := kM) (q := (RM, FM, 26)) rfl h1
end MRows
end
section
theorem hd_M_init : yM_init.cls ≠ "java/lang/invoke/MethodHandle" ∧ yM_init.cls ≠ "java/lang/invoke/VarHandle" ∧ (parseMethodDescriptor yM_init.desc).map (fun d => d.parameters.length) = some 2 := by decide +kernel
theorem hv_M_init : yM_init.cls = "ThreadSlotsModel" ∧ yM_init.cls ≠ "java/lang/invoke/MethodHandle" ∧ yM_init.cls ≠ "java/lang/invoke/VarHandle" ∧ (parseMethodDescriptor yM_init.desc).map (fun d => d.parameters.length) = some 2 := ⟨rfl, hd_M_init⟩
theorem hd_M_thrown : yM_thrown.cls ≠ "java/lang/invoke/MethodHandle" ∧ yM_thrown.cls ≠ "java/lang/invoke/VarHandle" ∧ (parseMethodDescriptor yM_thrown.desc).map (fun d => d.parameters.length) = some 0 := by decide +kernel
theorem hv_M_thrown : yM_thrown.cls = "ThreadSlotsModel" ∧ yM_thrown.cls ≠ "java/lang/invoke/MethodHandle" ∧ yM_thrown.cls ≠ "java/lang/invoke/VarHandle" ∧ (parseMethodDescriptor yM_thrown.desc).map (fun d => d.parameters.length) = some 0 := ⟨rfl, hd_M_thrown⟩
theorem hd_M_fail : yM_fail.cls ≠ "java/lang/invoke/MethodHandle" ∧ yM_fail.cls ≠ "java/lang/invoke/VarHandle" ∧ (parseMethodDescriptor yM_fail.desc).map (fun d => d.parameters.length) = some 1 := by decide +kernel
theorem hv_M_fail : yM_fail.cls = "ThreadSlotsModel" ∧ yM_fail.cls ≠ "java/lang/invoke/MethodHandle" ∧ yM_fail.cls ≠ "java/lang/invoke/VarHandle" ∧ (parseMethodDescriptor yM_fail.desc).map (fun d => d.parameters.length) = some 1 := ⟨rfl, hd_M_fail⟩
theorem hd_M_within : yM_within.cls ≠ "java/lang/invoke/MethodHandle" ∧ yM_within.cls ≠ "java/lang/invoke/VarHandle" ∧ (parseMethodDescriptor yM_within.desc).map (fun d => d.parameters.length) = some 3 := by decide +kernel
theorem hv_M_within : yM_within.cls = "ThreadSlotsModel" ∧ yM_within.cls ≠ "java/lang/invoke/MethodHandle" ∧ yM_within.cls ≠ "java/lang/invoke/VarHandle" ∧ (parseMethodDescriptor yM_within.desc).map (fun d => d.parameters.length) = some 3 := ⟨rfl, hd_M_within⟩
theorem hd_M_isThread : yM_isThread.cls ≠ "java/lang/invoke/MethodHandle" ∧ yM_isThread.cls ≠ "java/lang/invoke/VarHandle" ∧ (parseMethodDescriptor yM_isThread.desc).map (fun d => d.parameters.length) = some 1 := by decide +kernel
theorem hv_M_isThread : yM_isThread.cls = "ThreadSlotsModel" ∧ yM_isThread.cls ≠ "java/lang/invoke/MethodHandle" ∧ yM_isThread.cls ≠ "java/lang/invoke/VarHandle" ∧ (parseMethodDescriptor yM_isThread.desc).map (fun d => d.parameters.length) = some 1 := ⟨rfl, hd_M_isThread⟩
theorem hd_M_rule : yM_rule.cls ≠ "java/lang/invoke/MethodHandle" ∧ yM_rule.cls ≠ "java/lang/invoke/VarHandle" ∧ (parseMethodDescriptor yM_rule.desc).map (fun d => d.parameters.length) = some 1 := by decide +kernel
theorem hv_M_rule : yM_rule.cls = "ThreadSlotsModel" ∧ yM_rule.cls ≠ "java/lang/invoke/MethodHandle" ∧ yM_rule.cls ≠ "java/lang/invoke/VarHandle" ∧ (parseMethodDescriptor yM_rule.desc).map (fun d => d.parameters.length) = some 1 := ⟨rfl, hd_M_rule⟩
theorem hd_M_bound : yM_bound.cls ≠ "java/lang/invoke/MethodHandle" ∧ yM_bound.cls ≠ "java/lang/invoke/VarHandle" ∧ (parseMethodDescriptor yM_bound.desc).map (fun d => d.parameters.length) = some 1 := by decide +kernel
theorem hv_M_bound : yM_bound.cls = "ThreadSlotsModel" ∧ yM_bound.cls ≠ "java/lang/invoke/MethodHandle" ∧ yM_bound.cls ≠ "java/lang/invoke/VarHandle" ∧ (parseMethodDescriptor yM_bound.desc).map (fun d => d.parameters.length) = some 1 := ⟨rfl, hd_M_bound⟩
theorem hd_M_cost : yM_cost.cls ≠ "java/lang/invoke/MethodHandle" ∧ yM_cost.cls ≠ "java/lang/invoke/VarHandle" ∧ (parseMethodDescriptor yM_cost.desc).map (fun d => d.parameters.length) = some 1 := by decide +kernel
theorem hv_M_cost : yM_cost.cls = "ThreadSlotsModel" ∧ yM_cost.cls ≠ "java/lang/invoke/MethodHandle" ∧ yM_cost.cls ≠ "java/lang/invoke/VarHandle" ∧ (parseMethodDescriptor yM_cost.desc).map (fun d => d.parameters.length) = some 1 := ⟨rfl, hd_M_cost⟩
theorem hd_M_ready : yM_ready.cls ≠ "java/lang/invoke/MethodHandle" ∧ yM_ready.cls ≠ "java/lang/invoke/VarHandle" ∧ (parseMethodDescriptor yM_ready.desc).map (fun d => d.parameters.length) = some 2 := by decide +kernel
theorem hv_M_ready : yM_ready.cls = "ThreadSlotsModel" ∧ yM_ready.cls ≠ "java/lang/invoke/MethodHandle" ∧ yM_ready.cls ≠ "java/lang/invoke/VarHandle" ∧ (parseMethodDescriptor yM_ready.desc).map (fun d => d.parameters.length) = some 2 := ⟨rfl, hd_M_ready⟩
theorem hd_M_rank : yM_rank.cls ≠ "java/lang/invoke/MethodHandle" ∧ yM_rank.cls ≠ "java/lang/invoke/VarHandle" ∧ (parseMethodDescriptor yM_rank.desc).map (fun d => d.parameters.length) = some 2 := by decide +kernel
theorem hv_M_rank : yM_rank.cls = "ThreadSlotsModel" ∧ yM_rank.cls ≠ "java/lang/invoke/MethodHandle" ∧ yM_rank.cls ≠ "java/lang/invoke/VarHandle" ∧ (parseMethodDescriptor yM_rank.desc).map (fun d => d.parameters.length) = some 2 := ⟨rfl, hd_M_rank⟩
theorem hd_M_sleep : yM_sleep.cls ≠ "java/lang/invoke/MethodHandle" ∧ yM_sleep.cls ≠ "java/lang/invoke/VarHandle" ∧ (parseMethodDescriptor yM_sleep.desc).map (fun d => d.parameters.length) = some 2 := by decide +kernel
theorem hv_M_sleep : yM_sleep.cls = "ThreadSlotsModel" ∧ yM_sleep.cls ≠ "java/lang/invoke/MethodHandle" ∧ yM_sleep.cls ≠ "java/lang/invoke/VarHandle" ∧ (parseMethodDescriptor yM_sleep.desc).map (fun d => d.parameters.length) = some 2 := ⟨rfl, hd_M_sleep⟩
theorem hd_M_miss : yM_miss.cls ≠ "java/lang/invoke/MethodHandle" ∧ yM_miss.cls ≠ "java/lang/invoke/VarHandle" ∧ (parseMethodDescriptor yM_miss.desc).map (fun d => d.parameters.length) = some 1 := by decide +kernel
theorem hv_M_miss : yM_miss.cls = "ThreadSlotsModel" ∧ yM_miss.cls ≠ "java/lang/invoke/MethodHandle" ∧ yM_miss.cls ≠ "java/lang/invoke/VarHandle" ∧ (parseMethodDescriptor yM_miss.desc).map (fun d => d.parameters.length) = some 1 := ⟨rfl, hd_M_miss⟩
theorem hd_M_canGo : yM_canGo.cls ≠ "java/lang/invoke/MethodHandle" ∧ yM_canGo.cls ≠ "java/lang/invoke/VarHandle" ∧ (parseMethodDescriptor yM_canGo.desc).map (fun d => d.parameters.length) = some 1 := by decide +kernel
theorem hv_M_canGo : yM_canGo.cls = "ThreadSlotsModel" ∧ yM_canGo.cls ≠ "java/lang/invoke/MethodHandle" ∧ yM_canGo.cls ≠ "java/lang/invoke/VarHandle" ∧ (parseMethodDescriptor yM_canGo.desc).map (fun d => d.parameters.length) = some 1 := ⟨rfl, hd_M_canGo⟩
theorem hd_M_overdue : yM_overdue.cls ≠ "java/lang/invoke/MethodHandle" ∧ yM_overdue.cls ≠ "java/lang/invoke/VarHandle" ∧ (parseMethodDescriptor yM_overdue.desc).map (fun d => d.parameters.length) = some 0 := by decide +kernel
theorem hv_M_overdue : yM_overdue.cls = "ThreadSlotsModel" ∧ yM_overdue.cls ≠ "java/lang/invoke/MethodHandle" ∧ yM_overdue.cls ≠ "java/lang/invoke/VarHandle" ∧ (parseMethodDescriptor yM_overdue.desc).map (fun d => d.parameters.length) = some 0 := ⟨rfl, hd_M_overdue⟩
theorem hd_M_topRank : yM_topRank.cls ≠ "java/lang/invoke/MethodHandle" ∧ yM_topRank.cls ≠ "java/lang/invoke/VarHandle" ∧ (parseMethodDescriptor yM_topRank.desc).map (fun d => d.parameters.length) = some 0 := by decide +kernel
theorem hv_M_topRank : yM_topRank.cls = "ThreadSlotsModel" ∧ yM_topRank.cls ≠ "java/lang/invoke/MethodHandle" ∧ yM_topRank.cls ≠ "java/lang/invoke/VarHandle" ∧ (parseMethodDescriptor yM_topRank.desc).map (fun d => d.parameters.length) = some 0 := ⟨rfl, hd_M_topRank⟩
theorem hd_M_turn : yM_turn.cls ≠ "java/lang/invoke/MethodHandle" ∧ yM_turn.cls ≠ "java/lang/invoke/VarHandle" ∧ (parseMethodDescriptor yM_turn.desc).map (fun d => d.parameters.length) = some 1 := by decide +kernel
theorem hv_M_turn : yM_turn.cls = "ThreadSlotsModel" ∧ yM_turn.cls ≠ "java/lang/invoke/MethodHandle" ∧ yM_turn.cls ≠ "java/lang/invoke/VarHandle" ∧ (parseMethodDescriptor yM_turn.desc).map (fun d => d.parameters.length) = some 1 := ⟨rfl, hd_M_turn⟩
theorem hd_M_fewest : yM_fewest.cls ≠ "java/lang/invoke/MethodHandle" ∧ yM_fewest.cls ≠ "java/lang/invoke/VarHandle" ∧ (parseMethodDescriptor yM_fewest.desc).map (fun d => d.parameters.length) = some 2 := by decide +kernel
theorem hv_M_fewest : yM_fewest.cls = "ThreadSlotsModel" ∧ yM_fewest.cls ≠ "java/lang/invoke/MethodHandle" ∧ yM_fewest.cls ≠ "java/lang/invoke/VarHandle" ∧ (parseMethodDescriptor yM_fewest.desc).map (fun d => d.parameters.length) = some 2 := ⟨rfl, hd_M_fewest⟩
theorem hd_M_drawn : yM_drawn.cls ≠ "java/lang/invoke/MethodHandle" ∧ yM_drawn.cls ≠ "java/lang/invoke/VarHandle" ∧ (parseMethodDescriptor yM_drawn.desc).map (fun d => d.parameters.length) = some 1 := by decide +kernel
theorem hv_M_drawn : yM_drawn.cls = "ThreadSlotsModel" ∧ yM_drawn.cls ≠ "java/lang/invoke/MethodHandle" ∧ yM_drawn.cls ≠ "java/lang/invoke/VarHandle" ∧ (parseMethodDescriptor yM_drawn.desc).map (fun d => d.parameters.length) = some 1 := ⟨rfl, hd_M_drawn⟩
theorem hd_M_choose : yM_choose.cls ≠ "java/lang/invoke/MethodHandle" ∧ yM_choose.cls ≠ "java/lang/invoke/VarHandle" ∧ (parseMethodDescriptor yM_choose.desc).map (fun d => d.parameters.length) = some 0 := by decide +kernel
theorem hv_M_choose : yM_choose.cls = "ThreadSlotsModel" ∧ yM_choose.cls ≠ "java/lang/invoke/MethodHandle" ∧ yM_choose.cls ≠ "java/lang/invoke/VarHandle" ∧ (parseMethodDescriptor yM_choose.desc).map (fun d => d.parameters.length) = some 0 := ⟨rfl, hd_M_choose⟩
theorem hd_M_goes : yM_goes.cls ≠ "java/lang/invoke/MethodHandle" ∧ yM_goes.cls ≠ "java/lang/invoke/VarHandle" ∧ (parseMethodDescriptor yM_goes.desc).map (fun d => d.parameters.length) = some 0 := by decide +kernel
theorem hv_M_goes : yM_goes.cls = "ThreadSlotsModel" ∧ yM_goes.cls ≠ "java/lang/invoke/MethodHandle" ∧ yM_goes.cls ≠ "java/lang/invoke/VarHandle" ∧ (parseMethodDescriptor yM_goes.desc).map (fun d => d.parameters.length) = some 0 := ⟨rfl, hd_M_goes⟩
theorem hd_M_step : yM_step.cls ≠ "java/lang/invoke/MethodHandle" ∧ yM_step.cls ≠ "java/lang/invoke/VarHandle" ∧ (parseMethodDescriptor yM_step.desc).map (fun d => d.parameters.length) = some 0 := by decide +kernel
theorem hv_M_step : yM_step.cls = "ThreadSlotsModel" ∧ yM_step.cls ≠ "java/lang/invoke/MethodHandle" ∧ yM_step.cls ≠ "java/lang/invoke/VarHandle" ∧ (parseMethodDescriptor yM_step.desc).map (fun d => d.parameters.length) = some 0 := ⟨rfl, hd_M_step⟩
theorem hd_M_cycle : yM_cycle.cls ≠ "java/lang/invoke/MethodHandle" ∧ yM_cycle.cls ≠ "java/lang/invoke/VarHandle" ∧ (parseMethodDescriptor yM_cycle.desc).map (fun d => d.parameters.length) = some 0 := by decide +kernel
theorem hv_M_cycle : yM_cycle.cls = "ThreadSlotsModel" ∧ yM_cycle.cls ≠ "java/lang/invoke/MethodHandle" ∧ yM_cycle.cls ≠ "java/lang/invoke/VarHandle" ∧ (parseMethodDescriptor yM_cycle.desc).map (fun d => d.parameters.length) = some 0 := ⟨rfl, hd_M_cycle⟩
theorem hd_M_run : yM_run.cls ≠ "java/lang/invoke/MethodHandle" ∧ yM_run.cls ≠ "java/lang/invoke/VarHandle" ∧ (parseMethodDescriptor yM_run.desc).map (fun d => d.parameters.length) = some 1 := by decide +kernel
theorem hv_M_run : yM_run.cls = "ThreadSlotsModel" ∧ yM_run.cls ≠ "java/lang/invoke/MethodHandle" ∧ yM_run.cls ≠ "java/lang/invoke/VarHandle" ∧ (parseMethodDescriptor yM_run.desc).map (fun d => d.parameters.length) = some 1 := ⟨rfl, hd_M_run⟩
theorem hd_M_isQueue : yM_isQueue.cls ≠ "java/lang/invoke/MethodHandle" ∧ yM_isQueue.cls ≠ "java/lang/invoke/VarHandle" ∧ (parseMethodDescriptor yM_isQueue.desc).map (fun d => d.parameters.length) = some 1 := by decide +kernel
theorem hv_M_isQueue : yM_isQueue.cls = "ThreadSlotsModel" ∧ yM_isQueue.cls ≠ "java/lang/invoke/MethodHandle" ∧ yM_isQueue.cls ≠ "java/lang/invoke/VarHandle" ∧ (parseMethodDescriptor yM_isQueue.desc).map (fun d => d.parameters.length) = some 1 := ⟨rfl, hd_M_isQueue⟩
theorem hd_M_part : yM_part.cls ≠ "java/lang/invoke/MethodHandle" ∧ yM_part.cls ≠ "java/lang/invoke/VarHandle" ∧ (parseMethodDescriptor yM_part.desc).map (fun d => d.parameters.length) = some 3 := by decide +kernel
theorem hv_M_part : yM_part.cls = "ThreadSlotsModel" ∧ yM_part.cls ≠ "java/lang/invoke/MethodHandle" ∧ yM_part.cls ≠ "java/lang/invoke/VarHandle" ∧ (parseMethodDescriptor yM_part.desc).map (fun d => d.parameters.length) = some 3 := ⟨rfl, hd_M_part⟩
theorem hd_M_has : yM_has.cls ≠ "java/lang/invoke/MethodHandle" ∧ yM_has.cls ≠ "java/lang/invoke/VarHandle" ∧ (parseMethodDescriptor yM_has.desc).map (fun d => d.parameters.length) = some 2 := by decide +kernel
theorem hv_M_has : yM_has.cls = "ThreadSlotsModel" ∧ yM_has.cls ≠ "java/lang/invoke/MethodHandle" ∧ yM_has.cls ≠ "java/lang/invoke/VarHandle" ∧ (parseMethodDescriptor yM_has.desc).map (fun d => d.parameters.length) = some 2 := ⟨rfl, hd_M_has⟩
theorem hd_M_put : yM_put.cls ≠ "java/lang/invoke/MethodHandle" ∧ yM_put.cls ≠ "java/lang/invoke/VarHandle" ∧ (parseMethodDescriptor yM_put.desc).map (fun d => d.parameters.length) = some 3 := by decide +kernel
theorem hv_M_put : yM_put.cls = "ThreadSlotsModel" ∧ yM_put.cls ≠ "java/lang/invoke/MethodHandle" ∧ yM_put.cls ≠ "java/lang/invoke/VarHandle" ∧ (parseMethodDescriptor yM_put.desc).map (fun d => d.parameters.length) = some 3 := ⟨rfl, hd_M_put⟩
theorem hd_M_take : yM_take.cls ≠ "java/lang/invoke/MethodHandle" ∧ yM_take.cls ≠ "java/lang/invoke/VarHandle" ∧ (parseMethodDescriptor yM_take.desc).map (fun d => d.parameters.length) = some 2 := by decide +kernel
theorem hv_M_take : yM_take.cls = "ThreadSlotsModel" ∧ yM_take.cls ≠ "java/lang/invoke/MethodHandle" ∧ yM_take.cls ≠ "java/lang/invoke/VarHandle" ∧ (parseMethodDescriptor yM_take.desc).map (fun d => d.parameters.length) = some 2 := ⟨rfl, hd_M_take⟩
theorem hd_M_entry : yM_entry.cls ≠ "java/lang/invoke/MethodHandle" ∧ yM_entry.cls ≠ "java/lang/invoke/VarHandle" ∧ (parseMethodDescriptor yM_entry.desc).map (fun d => d.parameters.length) = some 3 := by decide +kernel
theorem hv_M_entry : yM_entry.cls = "ThreadSlotsModel" ∧ yM_entry.cls ≠ "java/lang/invoke/MethodHandle" ∧ yM_entry.cls ≠ "java/lang/invoke/VarHandle" ∧ (parseMethodDescriptor yM_entry.desc).map (fun d => d.parameters.length) = some 3 := ⟨rfl, hd_M_entry⟩
theorem hd_M_set : yM_set.cls ≠ "java/lang/invoke/MethodHandle" ∧ yM_set.cls ≠ "java/lang/invoke/VarHandle" ∧ (parseMethodDescriptor yM_set.desc).map (fun d => d.parameters.length) = some 2 := by decide +kernel
theorem hv_M_set : yM_set.cls = "ThreadSlotsModel" ∧ yM_set.cls ≠ "java/lang/invoke/MethodHandle" ∧ yM_set.cls ≠ "java/lang/invoke/VarHandle" ∧ (parseMethodDescriptor yM_set.desc).map (fun d => d.parameters.length) = some 2 := ⟨rfl, hd_M_set⟩
theorem hd_M_register : yM_register.cls ≠ "java/lang/invoke/MethodHandle" ∧ yM_register.cls ≠ "java/lang/invoke/VarHandle" ∧ (parseMethodDescriptor yM_register.desc).map (fun d => d.parameters.length) = some 2 := by decide +kernel
theorem hv_M_register : yM_register.cls = "ThreadSlotsModel" ∧ yM_register.cls ≠ "java/lang/invoke/MethodHandle" ∧ yM_register.cls ≠ "java/lang/invoke/VarHandle" ∧ (parseMethodDescriptor yM_register.desc).map (fun d => d.parameters.length) = some 2 := ⟨rfl, hd_M_register⟩
theorem hd_M_thread : yM_thread.cls ≠ "java/lang/invoke/MethodHandle" ∧ yM_thread.cls ≠ "java/lang/invoke/VarHandle" ∧ (parseMethodDescriptor yM_thread.desc).map (fun d => d.parameters.length) = some 2 := by decide +kernel
theorem hv_M_thread : yM_thread.cls = "ThreadSlotsModel" ∧ yM_thread.cls ≠ "java/lang/invoke/MethodHandle" ∧ yM_thread.cls ≠ "java/lang/invoke/VarHandle" ∧ (parseMethodDescriptor yM_thread.desc).map (fun d => d.parameters.length) = some 2 := ⟨rfl, hd_M_thread⟩
theorem hd_M_share : yM_share.cls ≠ "java/lang/invoke/MethodHandle" ∧ yM_share.cls ≠ "java/lang/invoke/VarHandle" ∧ (parseMethodDescriptor yM_share.desc).map (fun d => d.parameters.length) = some 2 := by decide +kernel
theorem hv_M_share : yM_share.cls = "ThreadSlotsModel" ∧ yM_share.cls ≠ "java/lang/invoke/MethodHandle" ∧ yM_share.cls ≠ "java/lang/invoke/VarHandle" ∧ (parseMethodDescriptor yM_share.desc).map (fun d => d.parameters.length) = some 2 := ⟨rfl, hd_M_share⟩
theorem hd_M_count : yM_count.cls ≠ "java/lang/invoke/MethodHandle" ∧ yM_count.cls ≠ "java/lang/invoke/VarHandle" ∧ (parseMethodDescriptor yM_count.desc).map (fun d => d.parameters.length) = some 1 := by decide +kernel
theorem hv_M_count : yM_count.cls = "ThreadSlotsModel" ∧ yM_count.cls ≠ "java/lang/invoke/MethodHandle" ∧ yM_count.cls ≠ "java/lang/invoke/VarHandle" ∧ (parseMethodDescriptor yM_count.desc).map (fun d => d.parameters.length) = some 1 := ⟨rfl, hd_M_count⟩
theorem l_M_7 : Cond.fieldLink "ThreadSlotsModel" 7 RM (FM 10).2.1 (FM 10).2.2.1 ∈ wsG := inG (List.mem_of_getElem? (i := 501) (by decide +kernel)) rfl
theorem l_M_13 : Cond.fieldLink "ThreadSlotsModel" 13 RM (FM 11).2.1 (FM 11).2.2.1 ∈ wsG := inG (List.mem_of_getElem? (i := 502) (by decide +kernel)) rfl
theorem l_M_16 : Cond.fieldLink "ThreadSlotsModel" 16 RM (FM 13).2.1 (FM 13).2.2.1 ∈ wsG := inG (List.mem_of_getElem? (i := 504) (by decide +kernel)) rfl
theorem l_M_20 : Cond.fieldLink "ThreadSlotsModel" 20 RM (FM 14).2.1 (FM 14).2.2.1 ∈ wsG := inG (List.mem_of_getElem? (i := 505) (by decide +kernel)) rfl
theorem l_M_24 : Cond.fieldLink "ThreadSlotsModel" 24 RM (FM 15).2.1 (FM 15).2.2.1 ∈ wsG := inG (List.mem_of_getElem? (i := 506) (by decide +kernel)) rfl
theorem l_M_27 : Cond.fieldLink "ThreadSlotsModel" 27 RM (FM 16).2.1 (FM 16).2.2.1 ∈ wsG := inG (List.mem_of_getElem? (i := 507) (by decide +kernel)) rfl
theorem l_M_30 : Cond.fieldLink "ThreadSlotsModel" 30 RM (FM 17).2.1 (FM 17).2.2.1 ∈ wsG := inG (List.mem_of_getElem? (i := 508) (by decide +kernel)) rfl
theorem l_M_33 : Cond.fieldLink "ThreadSlotsModel" 33 RM (FM 18).2.1 (FM 18).2.2.1 ∈ wsG := inG (List.mem_of_getElem? (i := 509) (by decide +kernel)) rfl
theorem l_M_36 : Cond.fieldLink "ThreadSlotsModel" 36 RM (FM 19).2.1 (FM 19).2.2.1 ∈ wsG := inG (List.mem_of_getElem? (i := 510) (by decide +kernel)) rfl
theorem l_M_39 : Cond.fieldLink "ThreadSlotsModel" 39 RM (FM 20).2.1 (FM 20).2.2.1 ∈ wsG := inG (List.mem_of_getElem? (i := 511) (by decide +kernel)) rfl
theorem l_M_42 : Cond.fieldLink "ThreadSlotsModel" 42 RM (FM 21).2.1 (FM 21).2.2.1 ∈ wsG := inG (List.mem_of_getElem? (i := 512) (by decide +kernel)) rfl
theorem l_M_45 : Cond.fieldLink "ThreadSlotsModel" 45 RM (FM 22).2.1 (FM 22).2.2.1 ∈ wsG := inG (List.mem_of_getElem? (i := 513) (by decide +kernel)) rfl
theorem l_M_48 : Cond.fieldLink "ThreadSlotsModel" 48 RM (FM 23).2.1 (FM 23).2.2.1 ∈ wsG := inG (List.mem_of_getElem? (i := 514) (by decide +kernel)) rfl
theorem l_M_51 : Cond.fieldLink "ThreadSlotsModel" 51 RM (FM 24).2.1 (FM 24).2.2.1 ∈ wsG := inG (List.mem_of_getElem? (i := 515) (by decide +kernel)) rfl
theorem l_M_54 : Cond.fieldLink "ThreadSlotsModel" 54 RM (FM 25).2.1 (FM 25).2.2.1 ∈ wsG := inG (List.mem_of_getElem? (i := 516) (by decide +kernel)) rfl
theorem l_M_57 : Cond.fieldLink "ThreadSlotsModel" 57 RM (FM 1).2.1 (FM 1).2.2.1 ∈ wsG := inG (List.mem_of_getElem? (i := 492) (by decide +kernel)) rfl
theorem l_M_61 : Cond.fieldLink "ThreadSlotsModel" 61 RM (FM 2).2.1 (FM 2).2.2.1 ∈ wsG := inG (List.mem_of_getElem? (i := 493) (by decide +kernel)) rfl
theorem l_M_64 : Cond.fieldLink "ThreadSlotsModel" 64 RM (FM 0).2.1 (FM 0).2.2.1 ∈ wsG := inG (List.mem_of_getElem? (i := 491) (by decide +kernel)) rfl
theorem l_M_75 : Cond.fieldLink "ThreadSlotsModel" 75 RM (FM 3).2.1 (FM 3).2.2.1 ∈ wsG := inG (List.mem_of_getElem? (i := 494) (by decide +kernel)) rfl
theorem l_M_78 : Cond.fieldLink "ThreadSlotsModel" 78 RM (FM 4).2.1 (FM 4).2.2.1 ∈ wsG := inG (List.mem_of_getElem? (i := 495) (by decide +kernel)) rfl
theorem l_M_81 : Cond.fieldLink "ThreadSlotsModel" 81 RM (FM 5).2.1 (FM 5).2.2.1 ∈ wsG := inG (List.mem_of_getElem? (i := 496) (by decide +kernel)) rfl
theorem l_M_111 : Cond.fieldLink "ThreadSlotsModel" 111 RM (FM 12).2.1 (FM 12).2.2.1 ∈ wsG := inG (List.mem_of_getElem? (i := 503) (by decide +kernel)) rfl
theorem l_M_114 : Cond.fieldLink "ThreadSlotsModel" 114 RM (FM 9).2.1 (FM 9).2.2.1 ∈ wsG := inG (List.mem_of_getElem? (i := 500) (by decide +kernel)) rfl
theorem l_M_120 : Cond.fieldLink "ThreadSlotsModel" 120 RM (FM 8).2.1 (FM 8).2.2.1 ∈ wsG := inG (List.mem_of_getElem? (i := 499) (by decide +kernel)) rfl
theorem l_M_123 : Cond.fieldLink "ThreadSlotsModel" 123 RM (FM 6).2.1 (FM 6).2.2.1 ∈ wsG := inG (List.mem_of_getElem? (i := 497) (by decide +kernel)) rfl
theorem l_M_129 : Cond.fieldLink "ThreadSlotsModel" 129 RM (FM 7).2.1 (FM 7).2.2.1 ∈ wsG := inG (List.mem_of_getElem? (i := 498) (by decide +kernel)) rfl
theorem g_M_67 : GoodIn wsG (va_wsS "ThreadSlotsModel" 67 yM_within (.code yM_within cM_within 3 (some .boolean) :: wsG)) := gS (List.mem_of_getElem? (i := 579) (by decide +kernel)) (List.mem_of_getElem? (i := 580) (by decide +kernel)) (List.mem_of_getElem? (i := 39) (by decide +kernel)) (List.mem_of_getElem? (i := 581) (by decide +kernel))
theorem g_M_71 : GoodIn wsG (wsV "ThreadSlotsModel" 71 "ThreadSlotsModel" yM_fail (.code yM_fail cM_fail 2 (some .int) :: wsG)) := gV (List.mem_of_getElem? (i := 582) (by decide +kernel)) (List.mem_of_getElem? (i := 584) (by decide +kernel)) (List.mem_of_getElem? (i := 21) (by decide +kernel)) (List.mem_of_getElem? (i := 39) (by decide +kernel)) (List.mem_of_getElem? (i := 585) (by decide +kernel))
theorem g_M_84 : GoodIn wsG (wsV "ThreadSlotsModel" 84 "ThreadSlotsModel" yM_isThread (.code yM_isThread cM_isThread 2 (some .boolean) :: wsG)) := gV (List.mem_of_getElem? (i := 598) (by decide +kernel)) (List.mem_of_getElem? (i := 600) (by decide +kernel)) (List.mem_of_getElem? (i := 22) (by decide +kernel)) (List.mem_of_getElem? (i := 39) (by decide +kernel)) (List.mem_of_getElem? (i := 601) (by decide +kernel))
theorem g_M_89 : GoodIn wsG (wsV "ThreadSlotsModel" 89 "ThreadSlotsModel" yM_canGo (.code yM_canGo cM_canGo 2 (some .boolean) :: wsG)) := gV (List.mem_of_getElem? (i := 627) (by decide +kernel)) (List.mem_of_getElem? (i := 629) (by decide +kernel)) (List.mem_of_getElem? (i := 25) (by decide +kernel)) (List.mem_of_getElem? (i := 39) (by decide +kernel)) (List.mem_of_getElem? (i := 630) (by decide +kernel))
theorem g_M_94 : GoodIn wsG (wsV "ThreadSlotsModel" 94 "ThreadSlotsModel" yM_topRank (.code yM_topRank cM_topRank 3 (some .int) :: wsG)) := gV (List.mem_of_getElem? (i := 635) (by decide +kernel)) (List.mem_of_getElem? (i := 637) (by decide +kernel)) (List.mem_of_getElem? (i := 27) (by decide +kernel)) (List.mem_of_getElem? (i := 39) (by decide +kernel)) (List.mem_of_getElem? (i := 638) (by decide +kernel))
theorem g_M_98 : GoodIn wsG (wsV "ThreadSlotsModel" 98 "ThreadSlotsModel" yM_overdue (.code yM_overdue cM_overdue 3 (some .int) :: wsG)) := gV (List.mem_of_getElem? (i := 639) (by decide +kernel)) (List.mem_of_getElem? (i := 641) (by decide +kernel)) (List.mem_of_getElem? (i := 28) (by decide +kernel)) (List.mem_of_getElem? (i := 39) (by decide +kernel)) (List.mem_of_getElem? (i := 642) (by decide +kernel))
theorem g_M_101 : GoodIn wsG (wsV "ThreadSlotsModel" 101 "ThreadSlotsModel" yM_turn (.code yM_turn cM_turn 4 (some .int) :: wsG)) := gV (List.mem_of_getElem? (i := 643) (by decide +kernel)) (List.mem_of_getElem? (i := 645) (by decide +kernel)) (List.mem_of_getElem? (i := 29) (by decide +kernel)) (List.mem_of_getElem? (i := 39) (by decide +kernel)) (List.mem_of_getElem? (i := 646) (by decide +kernel))
theorem g_M_104 : GoodIn wsG (wsV "ThreadSlotsModel" 104 "ThreadSlotsModel" yM_drawn (.code yM_drawn cM_drawn 5 (some .int) :: wsG)) := gV (List.mem_of_getElem? (i := 647) (by decide +kernel)) (List.mem_of_getElem? (i := 649) (by decide +kernel)) (List.mem_of_getElem? (i := 30) (by decide +kernel)) (List.mem_of_getElem? (i := 39) (by decide +kernel)) (List.mem_of_getElem? (i := 650) (by decide +kernel))
theorem g_M_107 : GoodIn wsG (wsV "ThreadSlotsModel" 107 "ThreadSlotsModel" yM_fewest (.code yM_fewest cM_fewest 7 (some .int) :: wsG)) := gV (List.mem_of_getElem? (i := 653) (by decide +kernel)) (List.mem_of_getElem? (i := 655) (by decide +kernel)) (List.mem_of_getElem? (i := 31) (by decide +kernel)) (List.mem_of_getElem? (i := 39) (by decide +kernel)) (List.mem_of_getElem? (i := 656) (by decide +kernel))
theorem g_M_117 : GoodIn wsG (wsV "ThreadSlotsModel" 117 "ThreadSlotsModel" yM_choose (.code yM_choose cM_choose 3 (some .int) :: wsG)) := gV (List.mem_of_getElem? (i := 631) (by decide +kernel)) (List.mem_of_getElem? (i := 633) (by decide +kernel)) (List.mem_of_getElem? (i := 26) (by decide +kernel)) (List.mem_of_getElem? (i := 39) (by decide +kernel)) (List.mem_of_getElem? (i := 634) (by decide +kernel))
theorem g_M_126 : GoodIn wsG (wsV "ThreadSlotsModel" 126 "ThreadSlotsModel" yM_goes (.code yM_goes cM_goes 2 (some .int) :: wsG)) := gV (List.mem_of_getElem? (i := 623) (by decide +kernel)) (List.mem_of_getElem? (i := 625) (by decide +kernel)) (List.mem_of_getElem? (i := 24) (by decide +kernel)) (List.mem_of_getElem? (i := 39) (by decide +kernel)) (List.mem_of_getElem? (i := 626) (by decide +kernel))
theorem g_M_132 : GoodIn wsG (wsV "ThreadSlotsModel" 132 "ThreadSlotsModel" yM_step (.code yM_step cM_step 3 (some .int) :: wsG)) := gV (List.mem_of_getElem? (i := 619) (by decide +kernel)) (List.mem_of_getElem? (i := 621) (by decide +kernel)) (List.mem_of_getElem? (i := 23) (by decide +kernel)) (List.mem_of_getElem? (i := 39) (by decide +kernel)) (List.mem_of_getElem? (i := 622) (by decide +kernel))
theorem g_M_135 : GoodIn wsG (wsV "ThreadSlotsModel" 135 "ThreadSlotsModel" yM_isQueue (.code yM_isQueue cM_isQueue 2 (some .boolean) :: wsG)) := gV (List.mem_of_getElem? (i := 665) (by decide +kernel)) (List.mem_of_getElem? (i := 667) (by decide +kernel)) (List.mem_of_getElem? (i := 32) (by decide +kernel)) (List.mem_of_getElem? (i := 39) (by decide +kernel)) (List.mem_of_getElem? (i := 668) (by decide +kernel))
theorem g_M_138 : GoodIn wsG (wsV "ThreadSlotsModel" 138 "ThreadSlotsModel" yM_has (.code yM_has cM_has 5 (some .int) :: wsG)) := gV (List.mem_of_getElem? (i := 673) (by decide +kernel)) (List.mem_of_getElem? (i := 675) (by decide +kernel)) (List.mem_of_getElem? (i := 33) (by decide +kernel)) (List.mem_of_getElem? (i := 39) (by decide +kernel)) (List.mem_of_getElem? (i := 676) (by decide +kernel))
theorem k_M_60 : Cond.constant "ThreadSlotsModel" 60 2147483647 ∈ wsG := inG (List.mem_of_getElem? (i := 490) (by decide +kernel)) rfl
theorem k_M_88 : Cond.constant "ThreadSlotsModel" 88 1000000 ∈ wsG := inG (List.mem_of_getElem? (i := 610) (by decide +kernel)) rfl
theorem k_M_92 : Cond.constant "ThreadSlotsModel" 92 1103515245 ∈ wsG := inG (List.mem_of_getElem? (i := 651) (by decide +kernel)) rfl
theorem k_M_93 : Cond.constant "ThreadSlotsModel" 93 65536 ∈ wsG := inG (List.mem_of_getElem? (i := 652) (by decide +kernel)) rfl
end
section
def mf_can (σ : St) (t : Nat) : Int32 := if σ 1 t 0 = 0 then 0 else if σ 1 t 2 = 0 then 1 else 0
def mf_ov (σ : St) : Nat → Nat → Int32 → Int32
  | 0, _, b => b
  | n + 1, t, b => if mf_can σ t = 0 then mf_ov σ n (t + 1) b else if b < 0 then mf_ov σ n (t + 1) (nI t) else if σ 1 t 4 ≤ σ 1 b.toNatClampNeg 4 then mf_ov σ n (t + 1) b else mf_ov σ n (t + 1) (nI t)
def mf_over (N : Nat) (σ : St) : Int32 := if σ 0 0 1 ≤ 0 then -1 else if mf_ov σ N 0 (-1) < 0 then -1 else if σ 1 (mf_ov σ N 0 (-1)).toNatClampNeg 4 < σ 0 0 1 then -1 else mf_ov σ N 0 (-1)
def mf_top (σ : St) : Nat → Nat → Int32 → Int32
  | 0, _, top => top
  | n + 1, t, top => if mf_can σ t = 0 then mf_top σ n (t + 1) top else if σ 1 t 1 ≤ top then mf_top σ n (t + 1) top else mf_top σ n (t + 1) (σ 1 t 1)
def mf_L (σ : St) : Nat := if σ 0 0 4 = -1 then 0 else (σ 0 0 4).toNatClampNeg + 1
def mf_turn (σ : St) (N : Nat) (top : Int32) : Nat → Nat → Int32
  | 0, _ => -1
  | n + 1, j => if mf_can σ ((mf_L σ + j) % N) = 0 then mf_turn σ N top n (j + 1) else if σ 1 ((mf_L σ + j) % N) 1 = top then nI ((mf_L σ + j) % N) else mf_turn σ N top n (j + 1)
def mf_v (σ : St) (y : Int32) (t : Nat) : Int32 := if y = 0 then σ 1 t 6 else σ 1 t 3
def mf_b (σ : St) (y b v : Int32) : Int32 := if 0 ≤ b then mf_v σ y b.toNatClampNeg else v
def mf_few (σ : St) (top y : Int32) : Nat → Int32 → Int32
  | 0, b => b
  | n + 1, b => if mf_can σ n = 0 then mf_few σ top y n b else if σ 1 n 1 = top then (if mf_b σ y b (mf_v σ y n) < mf_v σ y n then mf_few σ top y n b else mf_few σ top y n (nI n)) else mf_few σ top y n b
def mf_cnt (σ : St) (top : Int32) : Nat → Nat → Int32 → Int32
  | 0, _, k => k
  | n + 1, t, k => if mf_can σ t = 0 then mf_cnt σ top n (t + 1) (k + 0) else if σ 1 t 1 = top then mf_cnt σ top n (t + 1) (k + 1) else mf_cnt σ top n (t + 1) (k + 0)
def mf_pick (σ : St) (top : Int32) : Nat → Nat → Int32 → Int32
  | 0, _, _ => -1
  | n + 1, t, k => if mf_can σ t = 0 then mf_pick σ top n (t + 1) k else if σ 1 t 1 = top then (if k = 0 then nI t else mf_pick σ top n (t + 1) (k + (-1))) else mf_pick σ top n (t + 1) k
def mf_drA (N : Nat) (top : Int32) (σ : St) : Int32 := mf_pick (su σ 0 0 3 (tf_x σ)) top N 0 (tf_x σ / 65536 - tf_x σ / 65536 / mf_cnt σ top N 0 0 * mf_cnt σ top N 0 0)
def mf_y (σ : St) : Int32 := if σ 0 0 0 = 2 then 1 else 0
def mf_chA (N : Nat) (σ : St) : Int32 :=
  if 0 ≤ mf_top σ N 0 (-1) then (if mf_over N σ < 0 then (if σ 0 0 0 = 0 then mf_turn σ N (mf_top σ N 0 (-1)) N 0 else if σ 0 0 0 = 3 then mf_drA N (mf_top σ N 0 (-1)) σ else mf_few σ (mf_top σ N 0 (-1)) (mf_y σ) N (-1)) else mf_over N σ) else -1
def mf_chS (N : Nat) (σ : St) : St :=
  if 0 ≤ mf_top σ N 0 (-1) then (if mf_over N σ < 0 then (if σ 0 0 0 = 0 then σ else if σ 0 0 0 = 3 then su σ 0 0 3 (tf_x σ) else σ) else σ) else σ
def mf_beg (σ : St) (a : Int32) : St :=
  su (su (su (su σ 0 0 5 a) 0 0 6 (su σ 0 0 5 a 0 0 2 - 1)) 1 a.toNatClampNeg 7 (su (su σ 0 0 5 a) 0 0 6 (su σ 0 0 5 a 0 0 2 - 1) 1 a.toNatClampNeg 7 + 1)) 0 0 10 (su (su (su σ 0 0 5 a) 0 0 6 (su σ 0 0 5 a 0 0 2 - 1)) 1 a.toNatClampNeg 7 (su (su σ 0 0 5 a) 0 0 6 (su σ 0 0 5 a 0 0 2 - 1) 1 a.toNatClampNeg 7 + 1) 0 0 10 + 1)
def mf_tA (N : Nat) (σ : St) : Int32 :=
  if 0 ≤ mf_chA N σ then (if mf_chA N σ = su (mf_chS N σ) 0 0 5 (-1) 0 0 4 then mf_chA N σ else if su (mf_chS N σ) 0 0 5 (-1) 0 0 4 < 0 then mf_chA N σ else if su (mf_chS N σ) 0 0 5 (-1) 0 0 2 = 0 then mf_chA N σ else -1) else -1
def mf_tS (N : Nat) (σ : St) : St :=
  if 0 ≤ mf_chA N σ then (if mf_chA N σ = su (mf_chS N σ) 0 0 5 (-1) 0 0 4 then su (mf_chS N σ) 0 0 5 (-1) else if su (mf_chS N σ) 0 0 5 (-1) 0 0 4 < 0 then su (mf_chS N σ) 0 0 5 (-1) else if su (mf_chS N σ) 0 0 5 (-1) 0 0 2 = 0 then su (mf_chS N σ) 0 0 5 (-1) else mf_beg (su (mf_chS N σ) 0 0 5 (-1)) (mf_chA N σ)) else su (mf_chS N σ) 0 0 9 (mf_chS N σ 0 0 9 + 1)
def mf_goA (N : Nat) (σ : St) : Int32 := if σ 0 0 6 ≤ 0 then (if σ 0 0 5 < 0 then mf_tA N σ else if mf_can σ (σ 0 0 5).toNatClampNeg = 0 then mf_tA N σ else σ 0 0 5) else -1
def mf_goS (N : Nat) (σ : St) : St := if σ 0 0 6 ≤ 0 then (if σ 0 0 5 < 0 then mf_tS N σ else if mf_can σ (σ 0 0 5).toNatClampNeg = 0 then mf_tS N σ else su σ 0 0 5 (-1)) else su (su σ 0 0 6 (σ 0 0 6 - 1)) 0 0 10 (su σ 0 0 6 (σ 0 0 6 - 1) 0 0 10 + 1)
def mf_un1 (σ : St) (t : Nat) : St := if σ 0 0 7 < σ 1 t 2 then su σ 1 t 2 (σ 1 t 2) else su σ 1 t 2 0
def mf_un : Nat → Nat → St → St
  | 0, _, σ => σ
  | n + 1, t, σ => mf_un n (t + 1) (mf_un1 σ t)
def mf_w1 (g : Int32) (σ : St) (t : Nat) : St :=
  if nI t = g then su (su σ 1 t 4 0) 1 t 6 (su σ 1 t 4 0 1 t 6 + 1) else if mf_can σ t = 0 then σ else
    su (su σ 1 t 4 (σ 1 t 4 + 1)) 1 t 5 (if su σ 1 t 4 (σ 1 t 4 + 1) 1 t 4 ≤ su σ 1 t 4 (σ 1 t 4 + 1) 1 t 5 then su σ 1 t 4 (σ 1 t 4 + 1) 1 t 5 else su σ 1 t 4 (σ 1 t 4 + 1) 1 t 4)
def mf_w (g : Int32) : Nat → Nat → St → St
  | 0, _, σ => σ
  | n + 1, t, σ => mf_w g n (t + 1) (mf_w1 g σ t)
def mf_p1 (N : Nat) (σ : St) : St := mf_un N 0 (su σ 0 0 7 (σ 0 0 7 + 1))
def mf_stA (N : Nat) (σ : St) : Int32 := mf_goA N (mf_p1 N σ)
def mf_p3 (N : Nat) (σ : St) : St := mf_w (mf_stA N σ) N 0 (mf_goS N (mf_p1 N σ))
def mf_stS (N : Nat) (σ : St) : St :=
  if mf_stA N σ < 0 then su (su (mf_p3 N σ) 0 0 4 (mf_p3 N σ 0 0 4)) 0 0 8 (su (mf_p3 N σ) 0 0 4 (mf_p3 N σ 0 0 4) 0 0 8 + 0) else su (su (mf_p3 N σ) 0 0 4 (mf_stA N σ)) 0 0 8 (su (mf_p3 N σ) 0 0 4 (mf_stA N σ) 0 0 8 + 1)
def mf_it (N : Nat) (σ : St) : Nat → St
  | 0 => σ
  | k + 1 => mf_stS N (mf_it N σ k)
theorem i32_nlt {x y : Int32} (h : x ≤ y) : ¬ y < x := by
  rw [Int32.lt_iff_toInt_lt]; rw [Int32.le_iff_toInt_le] at h; omega
theorem i32_lt {x y : Int32} (h : ¬ x ≤ y) : y < x := by
  rw [Int32.lt_iff_toInt_lt]; rw [Int32.le_iff_toInt_le] at h; omega
theorem i32_le {x y : Int32} (h : ¬ y < x) : x ≤ y := by
  rw [Int32.le_iff_toInt_le]; rw [Int32.lt_iff_toInt_lt] at h; omega
theorem le_pred {t N : Nat} (h : t < N) (hN : N < 2 ^ 31) : nI t ≤ nI N - 1 := by
  rw [show N = N - 1 + 1 by omega, nI_pred]
  exact nI_le (by omega) (by omega)
theorem bad_pred {i : Int32} {N : Nat} (h0 : 0 < N) (hN : N < 2 ^ 31) (h : i < 0 ∨ ¬ i < nI N) : i < 0 ∨ ¬ i ≤ nI N - 1 := by
  rcases h with h | h
  · exact Or.inl h
  · refine Or.inr (fun q => h ?_)
    rw [show N = N - 1 + 1 by omega, nI_pred] at q
    rw [Int32.le_iff_toInt_le, nI_toInt (by omega)] at q
    rw [Int32.lt_iff_toInt_lt, nI_toInt hN]
    omega
theorem ix_nn {N : Nat} {x : Int32} (hN : N ≤ 16) (h : ix N x) (hx : ¬ x < 0) : x.toNatClampNeg < N ∧ x = nI x.toNatClampNeg := ix_cl hN h (fun q => hx (by rw [q]; decide))
theorem mf_ov_ix (N : Nat) (σ : St) : ∀ (n t : Nat) (b : Int32), t + n = N → ix N b → ix N (mf_ov σ n t b) := by
  intro n
  induction n with
  | zero => intro t b _ h; exact h
  | succ n ih =>
    intro t b hn h
    unfold mf_ov
    split
    · exact ih _ _ (by omega) h
    · split
      · exact ih _ _ (by omega) (ix_t (by omega))
      · split
        · exact ih _ _ (by omega) h
        · exact ih _ _ (by omega) (ix_t (by omega))
theorem mf_over_ix (N : Nat) (σ : St) : ix N (mf_over N σ) := by
  have h := mf_ov_ix N σ N 0 (-1) (by omega) ix_m
  unfold mf_over
  split
  · exact ix_m
  · split
    · exact ix_m
    · split
      · exact ix_m
      · exact h
theorem mf_turn_ix (N : Nat) (σ : St) (top : Int32) (h0 : 0 < N) : ∀ (n j : Nat), ix N (mf_turn σ N top n j) := by
  intro n
  induction n with
  | zero => intro j; exact ix_m
  | succ n ih =>
    intro j
    unfold mf_turn
    split
    · exact ih _
    · split
      · exact ix_t (Nat.mod_lt _ h0)
      · exact ih _
theorem mf_few_ix (N : Nat) (σ : St) (top y : Int32) : ∀ (n : Nat) (b : Int32), n ≤ N → ix N b → ix N (mf_few σ top y n b) := by
  intro n
  induction n with
  | zero => intro b _ h; exact h
  | succ n ih =>
    intro b hn h
    unfold mf_few
    split
    · exact ih _ (by omega) h
    · split
      · split
        · exact ih _ (by omega) h
        · exact ih _ (by omega) (ix_t (by omega))
      · exact ih _ (by omega) h
theorem mf_pick_ix (N : Nat) (σ : St) (top : Int32) : ∀ (n t : Nat) (k : Int32), t + n = N → ix N (mf_pick σ top n t k) := by
  intro n
  induction n with
  | zero => intro t k _; exact ix_m
  | succ n ih =>
    intro t k hn
    unfold mf_pick
    split
    · exact ih _ _ (by omega)
    · split
      · split
        · exact ix_t (by omega)
        · exact ih _ _ (by omega)
      · exact ih _ _ (by omega)
theorem mf_chA_ix (N : Nat) (σ : St) (h0 : 0 < N) : ix N (mf_chA N σ) := by
  unfold mf_chA
  split
  · split
    · split
      · exact mf_turn_ix N σ _ h0 _ _
      · split
        · exact mf_pick_ix N _ _ N 0 _ (by omega)
        · exact mf_few_ix N σ _ _ N _ (Nat.le_refl N) ix_m
    · exact mf_over_ix N σ
  · exact ix_m
def dn (n : Nat) : Int32 := nI n + (-1)
theorem dn_s (n : Nat) : dn (n + 1) = nI n := pk_m1 n
theorem dn_0 : dn 0 < 0 := by decide
theorem dn_N (N : Nat) : nI N - 1 = dn N := by
  unfold dn
  rw [Int32.sub_eq_add_neg]
theorem turn_ix {N j : Nat} {σ : St} (hN : N ≤ 16) (h0 : 0 < N) (hj : j < N) (h : ix N (σ 0 0 4)) : σ 0 0 4 + nI (j + 1) - (σ 0 0 4 + nI (j + 1)) / nI N * nI N = nI ((mf_L σ + j) % N) := by
  have e : σ 0 0 4 + nI (j + 1) = nI (mf_L σ + j) := by
    unfold mf_L
    by_cases h4 : σ 0 0 4 = -1
    · rw [if_pos h4, h4, Nat.zero_add, Int32.add_comm, pk_m1]
    · rw [if_neg h4]
      obtain ⟨h5, h6⟩ := ix_cl hN h h4
      rw [show (σ 0 0 4).toNatClampNeg + 1 + j = (σ 0 0 4).toNatClampNeg + (j + 1) by omega, ← nI_add (σ 0 0 4).toNatClampNeg (j + 1), ← h6]
  have hL : mf_L σ ≤ 16 := by
    unfold mf_L
    by_cases h4 : σ 0 0 4 = -1
    · rw [if_pos h4]; omega
    · rw [if_neg h4]
      obtain ⟨h5, h6⟩ := ix_cl hN h h4
      omega
  rw [e, pk_rem (by omega) h0 (by omega)]
theorem i16 (q t : Nat) : (16 : Int32) * nI q + nI t = nI (16 * q + t) := by
  rw [show (16 : Int32) = nI 16 from rfl, pk_mul, nI_add]
theorem i32x (q t : Nat) : (32 : Int32) * nI q + nI t = nI (32 * q + t) := by
  rw [show (32 : Int32) = nI 32 from rfl, pk_mul, nI_add]
theorem i32y (q t : Nat) : (32 : Int32) * nI q + nI t + 1 = nI (32 * q + (t + 1)) := by
  rw [i32x, nI_1]; rfl
def mf_putA (σ : St) (q t K : Nat) (v : Int32) : Int32 := if σ 6 q t ≤ tf_ent σ q (nI t) K 0 0 then -1 else if σ 3 q 0 = 32 then -1 else tf_ent (tf_app σ q K (nI t) v) q (nI t) (K + 1) 0 0
def mf_putS (σ : St) (q t K : Nat) (v : Int32) : St := if σ 6 q t ≤ tf_ent σ q (nI t) K 0 0 then σ else if σ 3 q 0 = 32 then σ else tf_app σ q K (nI t) v
def mf_tk (σ : St) (q : Nat) (x : Int32) : Nat → Nat → Nat
  | 0, k => k
  | n + 1, k => if x = -1 then k else if σ 4 q k = x then k else mf_tk σ q x n (k + 1)
theorem mf_tk_le (σ : St) (q : Nat) (x : Int32) : ∀ n k, mf_tk σ q x n k ≤ k + n := by
  intro n
  induction n with
  | zero => intro k; exact Nat.le_refl _
  | succ n ih =>
    intro k
    unfold mf_tk
    split
    · omega
    · split
      · omega
      · have := ih (k + 1); omega
def mf_fin : Nat → Int32 → Int32 → Prop
  | 0, _, b => b = 0
  | n + 1, a, b => b = 0 ∨ mf_fin n b (a - a / b * b)
def mf_shA (σ : St) (t : Nat) (x : Int32) : Int32 := if σ 0 0 8 = 0 then x else if x = 0 then σ 1 t 6 / tf_gcd 64 (σ 1 t 6) (σ 0 0 8) else σ 0 0 8 / tf_gcd 64 (σ 1 t 6) (σ 0 0 8)
theorem bad7 {x : Int32} (h : x.toInt < 0 ∨ 7 < x.toInt) : x < 0 ∨ ¬ x ≤ 7 := by
  rcases h with h | h
  · exact Or.inl (by rw [Int32.lt_iff_toInt_lt, Int32.toInt_zero]; exact h)
  · refine Or.inr ?_
    rw [Int32.le_iff_toInt_le, show (7 : Int32).toInt = 7 from rfl]
    omega
theorem bad5 {x : Int32} (h : x < 0 ∨ ¬ x < nI 2) : x < 0 ∨ ¬ x ≤ 1 := bad_pred (N := 2) (by decide) (by decide) h
theorem bad15 {x : Int32} (h : x < 0 ∨ ¬ x < nI 16) : x < 0 ∨ ¬ x ≤ 15 := bad_pred (N := 16) (by decide) (by decide) h
theorem core_nn {N : Nat} {σ : St} (hN : N ≤ 16) (h : ix N (σ 0 0 4)) (h4 : 0 ≤ σ 0 0 4) : σ 0 0 4 = nI (tf_core σ) := by
  have hne : ¬ σ 0 0 4 = -1 := fun q => by rw [q] at h4; exact absurd h4 (by decide)
  rw [tf_core, if_neg hne]
  exact (ix_cl hN h hne).2
theorem core_m {N : Nat} {σ : St} (hN : N ≤ 16) (h : ix N (σ 0 0 4)) (h4 : ¬ 0 ≤ σ 0 0 4) : tf_core σ = 0 := by
  rcases h with h | ⟨t, ht, h⟩
  · rw [tf_core, if_pos h]
  · exact absurd (by rw [h]; exact nI_pos' (by omega)) h4
end
section
set_option maxHeartbeats 4000000 in
set_option maxRecDepth 100000 in
theorem w_ok (l : Launch) (hst : l.stackTraces = false) (D : va_G) (ct : Ct) (w0 : va_W) (sz : Nat) (x lo hi : Int32) (h0 : ¬ x < lo) (h1 : x ≤ hi) : Kt l yM_within cM_within 3 (some .boolean) (r0 0) 0 0 D ct [.int x, .int lo, .int hi] sz (w0) (fun v w => v = some (.int 1) ∧ w = w0) (fun E w => False) := by
  refine kt_of hst (by decide) (Nat.le_of_ble_eq_true rfl) (by simp [Value.category]) ?_
  intro p e s m args below meth c A ls C hne hr hw hl Q hQ
  have hx := C.1
  have hb := C.2.1
  refine q_iload_n hx hb hl dM_within_0 rfl ?_
  refine q_iload_n hx hb hl dM_within_1 rfl ?_
  refine lv_icmp_lt (tgt := 14) hx hb dM_within_2 (by decide) (fun q9 => absurd q9 h0) (fun c_2 => ?_)
  refine q_iload_n hx hb hl dM_within_5 rfl ?_
  refine q_iload_n hx hb hl dM_within_6 rfl ?_
  refine lv_icmp_gt (tgt := 14) hx hb dM_within_7 (by decide) (fun q9 => absurd q9 (i32_nlt h1)) (fun c_7 => ?_)
  refine lv_iconst (v := 1) hx hb dM_within_10 (by decide) ?_
  refine lv_goto (tgt := 15) hx hb dM_within_11 (by decide) ?_
  exact tr_z hQ C hw hr (Nat.le_of_ble_eq_true rfl) (Nat.le_of_ble_eq_true rfl) dM_within_15 (by decide) ⟨rfl, rfl⟩
set_option maxHeartbeats 4000000 in
set_option maxRecDepth 100000 in
theorem w_bad (l : Launch) (hst : l.stackTraces = false) (D : va_G) (ct : Ct) (w0 : va_W) (sz : Nat) (x lo hi : Int32) (h : x < lo ∨ ¬ x ≤ hi) : Kt l yM_within cM_within 3 (some .boolean) (r0 0) 0 0 D ct [.int x, .int lo, .int hi] sz (w0) (fun v w => v = some (.int 0) ∧ w = w0) (fun E w => False) := by
  refine kt_of hst (by decide) (Nat.le_of_ble_eq_true rfl) (by simp [Value.category]) ?_
  intro p e s m args below meth c A ls C hne hr hw hl Q hQ
  have hx := C.1
  have hb := C.2.1
  refine q_iload_n hx hb hl dM_within_0 rfl ?_
  refine q_iload_n hx hb hl dM_within_1 rfl ?_
  refine lv_icmp_lt (tgt := 14) hx hb dM_within_2 (by decide) (fun c_2 => ?_) (fun c_2 => ?_)
  · refine lv_iconst (v := 0) hx hb dM_within_14 (by decide) ?_
    exact tr_z hQ C hw hr (Nat.le_of_ble_eq_true rfl) (Nat.le_of_ble_eq_true rfl) dM_within_15 (by decide) ⟨rfl, rfl⟩
  refine q_iload_n hx hb hl dM_within_5 rfl ?_
  refine q_iload_n hx hb hl dM_within_6 rfl ?_
  refine lv_icmp_gt (tgt := 14) hx hb dM_within_7 (by decide) (fun c_7 => ?_) (fun q9 => absurd (i32_lt (h.resolve_left c_2)) q9)
  refine lv_iconst (v := 0) hx hb dM_within_14 (by decide) ?_
  exact tr_z hQ C hw hr (Nat.le_of_ble_eq_true rfl) (Nat.le_of_ble_eq_true rfl) dM_within_15 (by decide) ⟨rfl, rfl⟩
set_option maxHeartbeats 4000000 in
set_option maxRecDepth 100000 in
theorem m_thrown (l : Launch) (hst : l.stackTraces = false) (D : va_G) (ct : Ct) (am : Nat → Nat) (N : Nat) (hN : N ≤ 16) (h0 : 0 < N) (th : Int32) (σ : St) (sz : Nat) : Kt l yM_thrown cM_thrown 1 (some .int) (r0 0) 0 0 D ct [.ref (am 0)] sz (wM ct am N th σ) (fun v w => v = some (.int th) ∧ w = wM ct am N th σ) (fun E w => False) := by
  refine kt_of hst (by decide) (Nat.le_of_ble_eq_true rfl) (by simp [Value.category]) ?_
  intro p e s m args below meth c A ls C hne hr hw hl Q hQ
  have hx := C.1
  have hb := C.2.1
  refine q_aload_n hx hb hl dM_thrown_0 rfl ?_
  refine mg C hw 0 l_M_64 (by decide) rfl dM_thrown_1 ?_
  exact tr_i hQ C hw hr (Nat.le_of_ble_eq_true rfl) (Nat.le_of_ble_eq_true rfl) dM_thrown_4 ⟨rfl, rfl⟩
set_option maxHeartbeats 4000000 in
set_option maxRecDepth 100000 in
theorem m_fail (l : Launch) (hst : l.stackTraces = false) (D : va_G) (ct : Ct) (am : Nat → Nat) (N : Nat) (hN : N ≤ 16) (h0 : 0 < N) (th : Int32) (σ : St) (sz : Nat) (x : Int32) : Kt l yM_fail cM_fail 2 (some .int) (r0 0) 0 0 D ct [.ref (am 0), .int x] sz (wM ct am N th σ) (fun v w => v = some (.int 0) ∧ w = wM ct am N x σ) (fun E w => False) := by
  refine kt_of hst (by decide) (Nat.le_of_ble_eq_true rfl) (by simp [Value.category]) ?_
  intro p e s m args below meth c A ls C hne hr hw hl Q hQ
  have hx := C.1
  have hb := C.2.1
  refine q_aload_n hx hb hl dM_fail_0 rfl ?_
  refine q_iload_n hx hb hl dM_fail_1 rfl ?_
  refine mp_0 C hw l_M_64 dM_fail_2 (fun H locs hw => ?_)
  refine lv_iconst (v := 0) hx hb dM_fail_5 (by decide) ?_
  exact tr_i hQ C hw hr (Nat.le_of_ble_eq_true rfl) (Nat.le_of_ble_eq_true rfl) dM_fail_6 ⟨rfl, rfl⟩
set_option maxHeartbeats 4000000 in
set_option maxRecDepth 100000 in
theorem it_ok (l : Launch) (hst : l.stackTraces = false) (D : va_G) (ct : Ct) (am : Nat → Nat) (N : Nat) (hN : N ≤ 16) (h0 : 0 < N) (th : Int32) (σ : St) (sz : Nat) (t : Nat) (ht : t < N) : Kt l yM_isThread cM_isThread 2 (some .boolean) (r0 1) 0 0 D ct [.ref (am 0), .int (nI t)] sz (wM ct am N th σ) (fun v w => v = some (.int 1) ∧ w = wM ct am N 0 σ) (fun E w => False) := by
  refine kt_of hst (by decide) (Nat.le_of_ble_eq_true rfl) (by simp [Value.category]) ?_
  intro p e s m args below meth c A ls C hne hr hw hl Q hQ
  have hx := C.1
  have hb := C.2.1
  refine q_aload_n hx hb hl dM_isThread_0 rfl ?_
  refine q_iload_n hx hb hl dM_isThread_1 rfl ?_
  refine lv_iconst (v := 0) hx hb dM_isThread_2 (by decide) ?_
  refine q_aload_n hx hb hl dM_isThread_3 rfl ?_
  refine mg C hw 1 l_M_57 (by decide) rfl dM_isThread_4 ?_
  refine lv_iconst (v := 1) hx hb dM_isThread_7 (by decide) ?_
  refine lv_isub hx hb dM_isThread_8 ?_
  refine tc_E (tc_S C hl (w_ok l hst D ct (wM ct am N th σ) _ (nI t) 0 (nI N - 1) (nI_pos (by omega)) (le_pred ht (by omega))) hw.1 hw.2.1 hw.2.2 g_M_67 hd_M_within rfl rfl ⟨(Nat.le_of_ble_eq_true rfl), (Nat.le_of_ble_eq_true rfl)⟩ (Nat.le_of_ble_eq_true rfl) ⟨(Nat.le_of_ble_eq_true rfl), (Nat.le_of_ble_eq_true rfl)⟩ dM_isThread_9 rfl) C hw (fun E ce q9 w1 H locs hp hw h1 h2 h3 => ?_) (fun v w1 H locs hp hw => ?_)
  · exact hp.elim
  obtain ⟨rfl, rfl⟩ := hp
  dsimp only [Option.toList_some, Option.toList_none, List.cons_append, List.nil_append]
  refine lv_if_eq (tgt := 19) hx hb dM_isThread_12 (by decide) (fun q9 => absurd q9 (by decide)) (fun c_12 => ?_)
  refine lv_iconst (v := 0) hx hb dM_isThread_15 (by decide) ?_
  refine lv_goto (tgt := 20) hx hb dM_isThread_16 (by decide) ?_
  refine mp_0 C hw l_M_64 dM_isThread_20 (fun H locs hw => ?_)
  refine q_aload_n hx hb hl dM_isThread_23 rfl ?_
  refine mg C hw 0 l_M_64 (by decide) rfl dM_isThread_24 ?_
  refine lv_if_ne (tgt := 34) hx hb dM_isThread_27 (by decide) (fun q9 => absurd rfl q9) (fun c_27 => ?_)
  refine lv_iconst (v := 1) hx hb dM_isThread_30 (by decide) ?_
  refine lv_goto (tgt := 35) hx hb dM_isThread_31 (by decide) ?_
  exact tr_z hQ C hw hr (Nat.le_of_ble_eq_true rfl) (Nat.le_of_ble_eq_true rfl) dM_isThread_35 (by decide) ⟨rfl, rfl⟩
set_option maxHeartbeats 4000000 in
set_option maxRecDepth 100000 in
theorem it_bad (l : Launch) (hst : l.stackTraces = false) (D : va_G) (ct : Ct) (am : Nat → Nat) (N : Nat) (hN : N ≤ 16) (h0 : 0 < N) (th : Int32) (σ : St) (sz : Nat) (i : Int32) (h : i < 0 ∨ ¬ i < nI N) : Kt l yM_isThread cM_isThread 2 (some .boolean) (r0 1) 0 0 D ct [.ref (am 0), .int i] sz (wM ct am N th σ) (fun v w => v = some (.int 0) ∧ w = wM ct am N 1 σ) (fun E w => False) := by
  refine kt_of hst (by decide) (Nat.le_of_ble_eq_true rfl) (by simp [Value.category]) ?_
  intro p e s m args below meth c A ls C hne hr hw hl Q hQ
  have hx := C.1
  have hb := C.2.1
  refine q_aload_n hx hb hl dM_isThread_0 rfl ?_
  refine q_iload_n hx hb hl dM_isThread_1 rfl ?_
  refine lv_iconst (v := 0) hx hb dM_isThread_2 (by decide) ?_
  refine q_aload_n hx hb hl dM_isThread_3 rfl ?_
  refine mg C hw 1 l_M_57 (by decide) rfl dM_isThread_4 ?_
  refine lv_iconst (v := 1) hx hb dM_isThread_7 (by decide) ?_
  refine lv_isub hx hb dM_isThread_8 ?_
  refine tc_E (tc_S C hl (w_bad l hst D ct (wM ct am N th σ) _ i 0 (nI N - 1) (bad_pred h0 (by omega) h)) hw.1 hw.2.1 hw.2.2 g_M_67 hd_M_within rfl rfl ⟨(Nat.le_of_ble_eq_true rfl), (Nat.le_of_ble_eq_true rfl)⟩ (Nat.le_of_ble_eq_true rfl) ⟨(Nat.le_of_ble_eq_true rfl), (Nat.le_of_ble_eq_true rfl)⟩ dM_isThread_9 rfl) C hw (fun E ce q9 w1 H locs hp hw h1 h2 h3 => ?_) (fun v w1 H locs hp hw => ?_)
  · exact hp.elim
  obtain ⟨rfl, rfl⟩ := hp
  dsimp only [Option.toList_some, Option.toList_none, List.cons_append, List.nil_append]
  refine lv_if_eq (tgt := 19) hx hb dM_isThread_12 (by decide) (fun c_12 => ?_) (fun q9 => absurd rfl q9)
  refine lv_iconst (v := 1) hx hb dM_isThread_19 (by decide) ?_
  refine mp_0 C hw l_M_64 dM_isThread_20 (fun H locs hw => ?_)
  refine q_aload_n hx hb hl dM_isThread_23 rfl ?_
  refine mg C hw 0 l_M_64 (by decide) rfl dM_isThread_24 ?_
  refine lv_if_ne (tgt := 34) hx hb dM_isThread_27 (by decide) (fun c_27 => ?_) (fun q9 => absurd q9 (by decide))
  refine lv_iconst (v := 0) hx hb dM_isThread_34 (by decide) ?_
  exact tr_z hQ C hw hr (Nat.le_of_ble_eq_true rfl) (Nat.le_of_ble_eq_true rfl) dM_isThread_35 (by decide) ⟨rfl, rfl⟩
set_option maxHeartbeats 4000000 in
set_option maxRecDepth 100000 in
theorem iq_ok (l : Launch) (hst : l.stackTraces = false) (D : va_G) (ct : Ct) (am : Nat → Nat) (N : Nat) (hN : N ≤ 16) (h0 : 0 < N) (th : Int32) (σ : St) (sz : Nat) (q : Nat) (hq : q < 8) : Kt l yM_isQueue cM_isQueue 2 (some .boolean) (r0 1) 0 0 D ct [.ref (am 0), .int (nI q)] sz (wM ct am N th σ) (fun v w => v = some (.int 1) ∧ w = wM ct am N 0 σ) (fun E w => False) := by
  refine kt_of hst (by decide) (Nat.le_of_ble_eq_true rfl) (by simp [Value.category]) ?_
  intro p e s m args below meth c A ls C hne hr hw hl Q hQ
  have hx := C.1
  have hb := C.2.1
  refine q_aload_n hx hb hl dM_isQueue_0 rfl ?_
  refine q_iload_n hx hb hl dM_isQueue_1 rfl ?_
  refine lv_iconst (v := 0) hx hb dM_isQueue_2 (by decide) ?_
  refine lv_bipush (v := 7) hx hb dM_isQueue_3 (by decide) ?_
  refine tc_E (tc_S C hl (w_ok l hst D ct (wM ct am N th σ) _ (nI q) 0 7 (nI_pos (by omega)) (nI_le (b := 7) (by omega) (by omega))) hw.1 hw.2.1 hw.2.2 g_M_67 hd_M_within rfl rfl ⟨(Nat.le_of_ble_eq_true rfl), (Nat.le_of_ble_eq_true rfl)⟩ (Nat.le_of_ble_eq_true rfl) ⟨(Nat.le_of_ble_eq_true rfl), (Nat.le_of_ble_eq_true rfl)⟩ dM_isQueue_5 rfl) C hw (fun E ce q9 w1 H locs hp hw h1 h2 h3 => ?_) (fun v w1 H locs hp hw => ?_)
  · exact hp.elim
  obtain ⟨rfl, rfl⟩ := hp
  dsimp only [Option.toList_some, Option.toList_none, List.cons_append, List.nil_append]
  refine lv_if_eq (tgt := 15) hx hb dM_isQueue_8 (by decide) (fun q9 => absurd q9 (by decide)) (fun c_8 => ?_)
  refine lv_iconst (v := 0) hx hb dM_isQueue_11 (by decide) ?_
  refine lv_goto (tgt := 16) hx hb dM_isQueue_12 (by decide) ?_
  refine mp_0 C hw l_M_64 dM_isQueue_16 (fun H locs hw => ?_)
  refine q_aload_n hx hb hl dM_isQueue_19 rfl ?_
  refine mg C hw 0 l_M_64 (by decide) rfl dM_isQueue_20 ?_
  refine lv_if_ne (tgt := 30) hx hb dM_isQueue_23 (by decide) (fun q9 => absurd rfl q9) (fun c_23 => ?_)
  refine lv_iconst (v := 1) hx hb dM_isQueue_26 (by decide) ?_
  refine lv_goto (tgt := 31) hx hb dM_isQueue_27 (by decide) ?_
  exact tr_z hQ C hw hr (Nat.le_of_ble_eq_true rfl) (Nat.le_of_ble_eq_true rfl) dM_isQueue_31 (by decide) ⟨rfl, rfl⟩
set_option maxHeartbeats 4000000 in
set_option maxRecDepth 100000 in
theorem iq_bad (l : Launch) (hst : l.stackTraces = false) (D : va_G) (ct : Ct) (am : Nat → Nat) (N : Nat) (hN : N ≤ 16) (h0 : 0 < N) (th : Int32) (σ : St) (sz : Nat) (i : Int32) (h : i < 0 ∨ ¬ i < nI 8) : Kt l yM_isQueue cM_isQueue 2 (some .boolean) (r0 1) 0 0 D ct [.ref (am 0), .int i] sz (wM ct am N th σ) (fun v w => v = some (.int 0) ∧ w = wM ct am N 1 σ) (fun E w => False) := by
  refine kt_of hst (by decide) (Nat.le_of_ble_eq_true rfl) (by simp [Value.category]) ?_
  intro p e s m args below meth c A ls C hne hr hw hl Q hQ
  have hx := C.1
  have hb := C.2.1
  refine q_aload_n hx hb hl dM_isQueue_0 rfl ?_
  refine q_iload_n hx hb hl dM_isQueue_1 rfl ?_
  refine lv_iconst (v := 0) hx hb dM_isQueue_2 (by decide) ?_
  refine lv_bipush (v := 7) hx hb dM_isQueue_3 (by decide) ?_
  refine tc_E (tc_S C hl (w_bad l hst D ct (wM ct am N th σ) _ i 0 7 (bad_pred (N := 8) (by decide) (by decide) h)) hw.1 hw.2.1 hw.2.2 g_M_67 hd_M_within rfl rfl ⟨(Nat.le_of_ble_eq_true rfl), (Nat.le_of_ble_eq_true rfl)⟩ (Nat.le_of_ble_eq_true rfl) ⟨(Nat.le_of_ble_eq_true rfl), (Nat.le_of_ble_eq_true rfl)⟩ dM_isQueue_5 rfl) C hw (fun E ce q9 w1 H locs hp hw h1 h2 h3 => ?_) (fun v w1 H locs hp hw => ?_)
  · exact hp.elim
  obtain ⟨rfl, rfl⟩ := hp
  dsimp only [Option.toList_some, Option.toList_none, List.cons_append, List.nil_append]
  refine lv_if_eq (tgt := 15) hx hb dM_isQueue_8 (by decide) (fun c_8 => ?_) (fun q9 => absurd rfl q9)
  refine lv_iconst (v := 1) hx hb dM_isQueue_15 (by decide) ?_
  refine mp_0 C hw l_M_64 dM_isQueue_16 (fun H locs hw => ?_)
  refine q_aload_n hx hb hl dM_isQueue_19 rfl ?_
  refine mg C hw 0 l_M_64 (by decide) rfl dM_isQueue_20 ?_
  refine lv_if_ne (tgt := 30) hx hb dM_isQueue_23 (by decide) (fun c_23 => ?_) (fun q9 => absurd q9 (by decide))
  refine lv_iconst (v := 0) hx hb dM_isQueue_30 (by decide) ?_
  exact tr_z hQ C hw hr (Nat.le_of_ble_eq_true rfl) (Nat.le_of_ble_eq_true rfl) dM_isQueue_31 (by decide) ⟨rfl, rfl⟩
set_option maxHeartbeats 4000000 in
set_option maxRecDepth 100000 in
theorem mo_rule (l : Launch) (hst : l.stackTraces = false) (D : va_G) (ct : Ct) (am : Nat → Nat) (N : Nat) (hN : N ≤ 16) (h0 : 0 < N) (th : Int32) (σ : St) (sz : Nat) (x : Int32) (h : ¬ x < 0 ∧ x ≤ 3) : Kt l yM_rule cM_rule 3 (some .int) (r0 1) 0 0 D ct [.ref (am 0), .int x] sz (wM ct am N th σ) (fun v w => v = some (.int (σ 0 0 0)) ∧ w = wM ct am N 0 (su σ 0 0 0 x)) (fun E w => False) := by
  refine kt_of hst (by decide) (Nat.le_of_ble_eq_true rfl) (by simp [Value.category]) ?_
  intro p e s m args below meth c A ls C hne hr hw hl Q hQ
  have hx := C.1
  have hb := C.2.1
  refine q_aload_n hx hb hl dM_rule_0 rfl ?_
  refine lv_iconst (v := 0) hx hb dM_rule_1 (by decide) ?_
  refine mp_0 C hw l_M_64 dM_rule_2 (fun H locs hw => ?_)
  refine q_iload_n hx hb hl dM_rule_5 rfl ?_
  refine lv_iconst (v := 0) hx hb dM_rule_6 (by decide) ?_
  refine lv_iconst (v := 3) hx hb dM_rule_7 (by decide) ?_
  refine tc_E (tc_S C hl (w_ok l hst D ct (wM ct am N 0 σ) _ x 0 3 h.1 h.2) hw.1 hw.2.1 hw.2.2 g_M_67 hd_M_within rfl rfl ⟨(Nat.le_of_ble_eq_true rfl), (Nat.le_of_ble_eq_true rfl)⟩ (Nat.le_of_ble_eq_true rfl) ⟨(Nat.le_of_ble_eq_true rfl), (Nat.le_of_ble_eq_true rfl)⟩ dM_rule_8 rfl) C hw (fun E ce q9 w1 H locs hp hw h1 h2 h3 => ?_) (fun v w1 H locs hp hw => ?_)
  · exact hp.elim
  obtain ⟨rfl, rfl⟩ := hp
  dsimp only [Option.toList_some, Option.toList_none, List.cons_append, List.nil_append]
  refine lv_if_ne (tgt := 20) hx hb dM_rule_11 (by decide) (fun c_11 => ?_) (fun q9 => absurd q9 (by decide))
  refine q_aload_n hx hb hl dM_rule_20 rfl ?_
  refine mg C hw 3 l_M_75 (by decide) rfl dM_rule_21 ?_
  refine q_istore_n hx hb hl dM_rule_24 (by decide) (fun ls hl => ?_)
  refine q_aload_n hx hb hl dM_rule_25 rfl ?_
  refine q_iload_n hx hb hl dM_rule_26 rfl ?_
  refine mp_3 C hw l_M_75 dM_rule_27 (fun H locs hw => ?_)
  refine q_iload_n hx hb hl dM_rule_30 rfl ?_
  exact tr_i hQ C hw hr (Nat.le_of_ble_eq_true rfl) (Nat.le_of_ble_eq_true rfl) dM_rule_31 ⟨rfl, rfl⟩
set_option maxHeartbeats 4000000 in
set_option maxRecDepth 100000 in
theorem mx_rule (l : Launch) (hst : l.stackTraces = false) (D : va_G) (ct : Ct) (am : Nat → Nat) (N : Nat) (hN : N ≤ 16) (h0 : 0 < N) (th : Int32) (σ : St) (sz : Nat) (x : Int32) (h : x < 0 ∨ ¬ x ≤ 3) : Kt l yM_rule cM_rule 3 (some .int) (r0 1) 0 0 D ct [.ref (am 0), .int x] sz (wM ct am N th σ) (fun v w => v = some (.int 0) ∧ w = wM ct am N 1 σ) (fun E w => False) := by
  refine kt_of hst (by decide) (Nat.le_of_ble_eq_true rfl) (by simp [Value.category]) ?_
  intro p e s m args below meth c A ls C hne hr hw hl Q hQ
  have hx := C.1
  have hb := C.2.1
  refine q_aload_n hx hb hl dM_rule_0 rfl ?_
  refine lv_iconst (v := 0) hx hb dM_rule_1 (by decide) ?_
  refine mp_0 C hw l_M_64 dM_rule_2 (fun H locs hw => ?_)
  refine q_iload_n hx hb hl dM_rule_5 rfl ?_
  refine lv_iconst (v := 0) hx hb dM_rule_6 (by decide) ?_
  refine lv_iconst (v := 3) hx hb dM_rule_7 (by decide) ?_
  refine tc_E (tc_S C hl (w_bad l hst D ct (wM ct am N 0 σ) _ x 0 3 h) hw.1 hw.2.1 hw.2.2 g_M_67 hd_M_within rfl rfl ⟨(Nat.le_of_ble_eq_true rfl), (Nat.le_of_ble_eq_true rfl)⟩ (Nat.le_of_ble_eq_true rfl) ⟨(Nat.le_of_ble_eq_true rfl), (Nat.le_of_ble_eq_true rfl)⟩ dM_rule_8 rfl) C hw (fun E ce q9 w1 H locs hp hw h1 h2 h3 => ?_) (fun v w1 H locs hp hw => ?_)
  · exact hp.elim
  obtain ⟨rfl, rfl⟩ := hp
  dsimp only [Option.toList_some, Option.toList_none, List.cons_append, List.nil_append]
  refine lv_if_ne (tgt := 20) hx hb dM_rule_11 (by decide) (fun q9 => absurd rfl q9) (fun c_11 => ?_)
  refine q_aload_n hx hb hl dM_rule_14 rfl ?_
  refine lv_iconst (v := 1) hx hb dM_rule_15 (by decide) ?_
  refine tc_E (tc_V C hl (m_fail l hst D ct am N hN h0 0 σ _ 1) hw.1 hw.2.1 hw.2.2 g_M_71 (re_M C hw) hv_M_fail rfl rfl ⟨(Nat.le_of_ble_eq_true rfl), (Nat.le_of_ble_eq_true rfl)⟩ (Nat.le_of_ble_eq_true rfl) ⟨(Nat.le_of_ble_eq_true rfl), (Nat.le_of_ble_eq_true rfl)⟩ dM_rule_16 rfl) C hw (fun E ce q9 w1 H locs hp hw h1 h2 h3 => ?_) (fun v w1 H locs hp hw => ?_)
  · exact hp.elim
  obtain ⟨rfl, rfl⟩ := hp
  dsimp only [Option.toList_some, Option.toList_none, List.cons_append, List.nil_append]
  exact tr_i hQ C hw hr (Nat.le_of_ble_eq_true rfl) (Nat.le_of_ble_eq_true rfl) dM_rule_19 ⟨rfl, rfl⟩
set_option maxHeartbeats 4000000 in
set_option maxRecDepth 100000 in
theorem mo_bound (l : Launch) (hst : l.stackTraces = false) (D : va_G) (ct : Ct) (am : Nat → Nat) (N : Nat) (hN : N ≤ 16) (h0 : 0 < N) (th : Int32) (σ : St) (sz : Nat) (x : Int32) (h : ¬ x < 0 ∧ x ≤ 1000) : Kt l yM_bound cM_bound 3 (some .int) (r0 1) 0 0 D ct [.ref (am 0), .int x] sz (wM ct am N th σ) (fun v w => v = some (.int (σ 0 0 1)) ∧ w = wM ct am N 0 (su σ 0 0 1 x)) (fun E w => False) := by
  refine kt_of hst (by decide) (Nat.le_of_ble_eq_true rfl) (by simp [Value.category]) ?_
  intro p e s m args below meth c A ls C hne hr hw hl Q hQ
  have hx := C.1
  have hb := C.2.1
  refine q_aload_n hx hb hl dM_bound_0 rfl ?_
  refine lv_iconst (v := 0) hx hb dM_bound_1 (by decide) ?_
  refine mp_0 C hw l_M_64 dM_bound_2 (fun H locs hw => ?_)
  refine q_iload_n hx hb hl dM_bound_5 rfl ?_
  refine lv_iconst (v := 0) hx hb dM_bound_6 (by decide) ?_
  refine lv_sipush (v := 1000) hx hb dM_bound_7 (by decide) ?_
  refine tc_E (tc_S C hl (w_ok l hst D ct (wM ct am N 0 σ) _ x 0 1000 h.1 h.2) hw.1 hw.2.1 hw.2.2 g_M_67 hd_M_within rfl rfl ⟨(Nat.le_of_ble_eq_true rfl), (Nat.le_of_ble_eq_true rfl)⟩ (Nat.le_of_ble_eq_true rfl) ⟨(Nat.le_of_ble_eq_true rfl), (Nat.le_of_ble_eq_true rfl)⟩ dM_bound_10 rfl) C hw (fun E ce q9 w1 H locs hp hw h1 h2 h3 => ?_) (fun v w1 H locs hp hw => ?_)
  · exact hp.elim
  obtain ⟨rfl, rfl⟩ := hp
  dsimp only [Option.toList_some, Option.toList_none, List.cons_append, List.nil_append]
  refine lv_if_ne (tgt := 22) hx hb dM_bound_13 (by decide) (fun c_13 => ?_) (fun q9 => absurd q9 (by decide))
  refine q_aload_n hx hb hl dM_bound_22 rfl ?_
  refine mg C hw 4 l_M_78 (by decide) rfl dM_bound_23 ?_
  refine q_istore_n hx hb hl dM_bound_26 (by decide) (fun ls hl => ?_)
  refine q_aload_n hx hb hl dM_bound_27 rfl ?_
  refine q_iload_n hx hb hl dM_bound_28 rfl ?_
  refine mp_4 C hw l_M_78 dM_bound_29 (fun H locs hw => ?_)
  refine q_iload_n hx hb hl dM_bound_32 rfl ?_
  exact tr_i hQ C hw hr (Nat.le_of_ble_eq_true rfl) (Nat.le_of_ble_eq_true rfl) dM_bound_33 ⟨rfl, rfl⟩
set_option maxHeartbeats 4000000 in
set_option maxRecDepth 100000 in
theorem mx_bound (l : Launch) (hst : l.stackTraces = false) (D : va_G) (ct : Ct) (am : Nat → Nat) (N : Nat) (hN : N ≤ 16) (h0 : 0 < N) (th : Int32) (σ : St) (sz : Nat) (x : Int32) (h : x < 0 ∨ ¬ x ≤ 1000) : Kt l yM_bound cM_bound 3 (some .int) (r0 1) 0 0 D ct [.ref (am 0), .int x] sz (wM ct am N th σ) (fun v w => v = some (.int 0) ∧ w = wM ct am N 1 σ) (fun E w => False) := by
  refine kt_of hst (by decide) (Nat.le_of_ble_eq_true rfl) (by simp [Value.category]) ?_
  intro p e s m args below meth c A ls C hne hr hw hl Q hQ
  have hx := C.1
  have hb := C.2.1
  refine q_aload_n hx hb hl dM_bound_0 rfl ?_
  refine lv_iconst (v := 0) hx hb dM_bound_1 (by decide) ?_
  refine mp_0 C hw l_M_64 dM_bound_2 (fun H locs hw => ?_)
  refine q_iload_n hx hb hl dM_bound_5 rfl ?_
  refine lv_iconst (v := 0) hx hb dM_bound_6 (by decide) ?_
  refine lv_sipush (v := 1000) hx hb dM_bound_7 (by decide) ?_
  refine tc_E (tc_S C hl (w_bad l hst D ct (wM ct am N 0 σ) _ x 0 1000 h) hw.1 hw.2.1 hw.2.2 g_M_67 hd_M_within rfl rfl ⟨(Nat.le_of_ble_eq_true rfl), (Nat.le_of_ble_eq_true rfl)⟩ (Nat.le_of_ble_eq_true rfl) ⟨(Nat.le_of_ble_eq_true rfl), (Nat.le_of_ble_eq_true rfl)⟩ dM_bound_10 rfl) C hw (fun E ce q9 w1 H locs hp hw h1 h2 h3 => ?_) (fun v w1 H locs hp hw => ?_)
  · exact hp.elim
  obtain ⟨rfl, rfl⟩ := hp
  dsimp only [Option.toList_some, Option.toList_none, List.cons_append, List.nil_append]
  refine lv_if_ne (tgt := 22) hx hb dM_bound_13 (by decide) (fun q9 => absurd rfl q9) (fun c_13 => ?_)
  refine q_aload_n hx hb hl dM_bound_16 rfl ?_
  refine lv_iconst (v := 1) hx hb dM_bound_17 (by decide) ?_
  refine tc_E (tc_V C hl (m_fail l hst D ct am N hN h0 0 σ _ 1) hw.1 hw.2.1 hw.2.2 g_M_71 (re_M C hw) hv_M_fail rfl rfl ⟨(Nat.le_of_ble_eq_true rfl), (Nat.le_of_ble_eq_true rfl)⟩ (Nat.le_of_ble_eq_true rfl) ⟨(Nat.le_of_ble_eq_true rfl), (Nat.le_of_ble_eq_true rfl)⟩ dM_bound_18 rfl) C hw (fun E ce q9 w1 H locs hp hw h1 h2 h3 => ?_) (fun v w1 H locs hp hw => ?_)
  · exact hp.elim
  obtain ⟨rfl, rfl⟩ := hp
  dsimp only [Option.toList_some, Option.toList_none, List.cons_append, List.nil_append]
  exact tr_i hQ C hw hr (Nat.le_of_ble_eq_true rfl) (Nat.le_of_ble_eq_true rfl) dM_bound_21 ⟨rfl, rfl⟩
set_option maxHeartbeats 4000000 in
set_option maxRecDepth 100000 in
theorem mo_cost (l : Launch) (hst : l.stackTraces = false) (D : va_G) (ct : Ct) (am : Nat → Nat) (N : Nat) (hN : N ≤ 16) (h0 : 0 < N) (th : Int32) (σ : St) (sz : Nat) (x : Int32) (h : ¬ x < 0 ∧ x ≤ 20) : Kt l yM_cost cM_cost 3 (some .int) (r0 1) 0 0 D ct [.ref (am 0), .int x] sz (wM ct am N th σ) (fun v w => v = some (.int (σ 0 0 2)) ∧ w = wM ct am N 0 (su σ 0 0 2 x)) (fun E w => False) := by
  refine kt_of hst (by decide) (Nat.le_of_ble_eq_true rfl) (by simp [Value.category]) ?_
  intro p e s m args below meth c A ls C hne hr hw hl Q hQ
  have hx := C.1
  have hb := C.2.1
  refine q_aload_n hx hb hl dM_cost_0 rfl ?_
  refine lv_iconst (v := 0) hx hb dM_cost_1 (by decide) ?_
  refine mp_0 C hw l_M_64 dM_cost_2 (fun H locs hw => ?_)
  refine q_iload_n hx hb hl dM_cost_5 rfl ?_
  refine lv_iconst (v := 0) hx hb dM_cost_6 (by decide) ?_
  refine lv_bipush (v := 20) hx hb dM_cost_7 (by decide) ?_
  refine tc_E (tc_S C hl (w_ok l hst D ct (wM ct am N 0 σ) _ x 0 20 h.1 h.2) hw.1 hw.2.1 hw.2.2 g_M_67 hd_M_within rfl rfl ⟨(Nat.le_of_ble_eq_true rfl), (Nat.le_of_ble_eq_true rfl)⟩ (Nat.le_of_ble_eq_true rfl) ⟨(Nat.le_of_ble_eq_true rfl), (Nat.le_of_ble_eq_true rfl)⟩ dM_cost_9 rfl) C hw (fun E ce q9 w1 H locs hp hw h1 h2 h3 => ?_) (fun v w1 H locs hp hw => ?_)
  · exact hp.elim
  obtain ⟨rfl, rfl⟩ := hp
  dsimp only [Option.toList_some, Option.toList_none, List.cons_append, List.nil_append]
  refine lv_if_ne (tgt := 21) hx hb dM_cost_12 (by decide) (fun c_12 => ?_) (fun q9 => absurd q9 (by decide))
  refine q_aload_n hx hb hl dM_cost_21 rfl ?_
  refine mg C hw 5 l_M_81 (by decide) rfl dM_cost_22 ?_
  refine q_istore_n hx hb hl dM_cost_25 (by decide) (fun ls hl => ?_)
  refine q_aload_n hx hb hl dM_cost_26 rfl ?_
  refine q_iload_n hx hb hl dM_cost_27 rfl ?_
  refine mp_5 C hw l_M_81 dM_cost_28 (fun H locs hw => ?_)
  refine q_iload_n hx hb hl dM_cost_31 rfl ?_
  exact tr_i hQ C hw hr (Nat.le_of_ble_eq_true rfl) (Nat.le_of_ble_eq_true rfl) dM_cost_32 ⟨rfl, rfl⟩
set_option maxHeartbeats 4000000 in
set_option maxRecDepth 100000 in
theorem mx_cost (l : Launch) (hst : l.stackTraces = false) (D : va_G) (ct : Ct) (am : Nat → Nat) (N : Nat) (hN : N ≤ 16) (h0 : 0 < N) (th : Int32) (σ : St) (sz : Nat) (x : Int32) (h : x < 0 ∨ ¬ x ≤ 20) : Kt l yM_cost cM_cost 3 (some .int) (r0 1) 0 0 D ct [.ref (am 0), .int x] sz (wM ct am N th σ) (fun v w => v = some (.int 0) ∧ w = wM ct am N 1 σ) (fun E w => False) := by
  refine kt_of hst (by decide) (Nat.le_of_ble_eq_true rfl) (by simp [Value.category]) ?_
  intro p e s m args below meth c A ls C hne hr hw hl Q hQ
  have hx := C.1
  have hb := C.2.1
  refine q_aload_n hx hb hl dM_cost_0 rfl ?_
  refine lv_iconst (v := 0) hx hb dM_cost_1 (by decide) ?_
  refine mp_0 C hw l_M_64 dM_cost_2 (fun H locs hw => ?_)
  refine q_iload_n hx hb hl dM_cost_5 rfl ?_
  refine lv_iconst (v := 0) hx hb dM_cost_6 (by decide) ?_
  refine lv_bipush (v := 20) hx hb dM_cost_7 (by decide) ?_
  refine tc_E (tc_S C hl (w_bad l hst D ct (wM ct am N 0 σ) _ x 0 20 h) hw.1 hw.2.1 hw.2.2 g_M_67 hd_M_within rfl rfl ⟨(Nat.le_of_ble_eq_true rfl), (Nat.le_of_ble_eq_true rfl)⟩ (Nat.le_of_ble_eq_true rfl) ⟨(Nat.le_of_ble_eq_true rfl), (Nat.le_of_ble_eq_true rfl)⟩ dM_cost_9 rfl) C hw (fun E ce q9 w1 H locs hp hw h1 h2 h3 => ?_) (fun v w1 H locs hp hw => ?_)
  · exact hp.elim
  obtain ⟨rfl, rfl⟩ := hp
  dsimp only [Option.toList_some, Option.toList_none, List.cons_append, List.nil_append]
  refine lv_if_ne (tgt := 21) hx hb dM_cost_12 (by decide) (fun q9 => absurd rfl q9) (fun c_12 => ?_)
  refine q_aload_n hx hb hl dM_cost_15 rfl ?_
  refine lv_iconst (v := 1) hx hb dM_cost_16 (by decide) ?_
  refine tc_E (tc_V C hl (m_fail l hst D ct am N hN h0 0 σ _ 1) hw.1 hw.2.1 hw.2.2 g_M_71 (re_M C hw) hv_M_fail rfl rfl ⟨(Nat.le_of_ble_eq_true rfl), (Nat.le_of_ble_eq_true rfl)⟩ (Nat.le_of_ble_eq_true rfl) ⟨(Nat.le_of_ble_eq_true rfl), (Nat.le_of_ble_eq_true rfl)⟩ dM_cost_17 rfl) C hw (fun E ce q9 w1 H locs hp hw h1 h2 h3 => ?_) (fun v w1 H locs hp hw => ?_)
  · exact hp.elim
  obtain ⟨rfl, rfl⟩ := hp
  dsimp only [Option.toList_some, Option.toList_none, List.cons_append, List.nil_append]
  exact tr_i hQ C hw hr (Nat.le_of_ble_eq_true rfl) (Nat.le_of_ble_eq_true rfl) dM_cost_20 ⟨rfl, rfl⟩
set_option maxHeartbeats 4000000 in
set_option maxRecDepth 100000 in
theorem mo_ready (l : Launch) (hst : l.stackTraces = false) (D : va_G) (ct : Ct) (am : Nat → Nat) (N : Nat) (hN : N ≤ 16) (h0 : 0 < N) (th : Int32) (σ : St) (sz : Nat) (hbo : ∀ t, t < N → σ 1 t 0 = 0 ∨ σ 1 t 0 = 1) (t : Nat) (ht : t < N) (p1 : Int32) (hz : p1 = 0 ∨ p1 = 1) : Kt l yM_ready cM_ready 4 (some .boolean) (r0 2) 0 0 D ct [.ref (am 0), .int (nI t), .int p1] sz (wM ct am N th σ) (fun v w => v = some (.int (σ 1 t 0)) ∧ w = wM ct am N 0 (su σ 1 t 0 p1)) (fun E w => False) := by
  refine kt_of hst (by decide) (Nat.le_of_ble_eq_true rfl) (by simp [Value.category]) ?_
  intro p e s m args below meth c A ls C hne hr hw hl Q hQ
  have hx := C.1
  have hb := C.2.1
  have ht16 : t < 16 := by omega
  refine q_aload_n hx hb hl dM_ready_0 rfl ?_
  refine q_iload_n hx hb hl dM_ready_1 rfl ?_
  refine tc_E (tc_V C hl (it_ok l hst D ct am N hN h0 th σ _ t ht) hw.1 hw.2.1 hw.2.2 g_M_84 (re_M C hw) hv_M_isThread rfl rfl ⟨(Nat.le_of_ble_eq_true rfl), (Nat.le_of_ble_eq_true rfl)⟩ (Nat.le_of_ble_eq_true rfl) ⟨(Nat.le_of_ble_eq_true rfl), (Nat.le_of_ble_eq_true rfl)⟩ dM_ready_2 rfl) C hw (fun E ce q9 w1 H locs hp hw h1 h2 h3 => ?_) (fun v w1 H locs hp hw => ?_)
  · exact hp.elim
  obtain ⟨rfl, rfl⟩ := hp
  dsimp only [Option.toList_some, Option.toList_none, List.cons_append, List.nil_append]
  refine lv_if_ne (tgt := 10) hx hb dM_ready_5 (by decide) (fun c_5 => ?_) (fun q9 => absurd q9 (by decide))
  refine q_aload_n hx hb hl dM_ready_10 rfl ?_
  refine mg C hw 13 l_M_16 (by decide) rfl dM_ready_11 ?_
  refine q_iload_n hx hb hl dM_ready_14 rfl ?_
  refine mr_1 C hw (by assumption) rfl dM_ready_15 ?_
  refine q_istore_n hx hb hl dM_ready_16 (by decide) (fun ls hl => ?_)
  refine q_aload_n hx hb hl dM_ready_17 rfl ?_
  refine mg C hw 13 l_M_16 (by decide) rfl dM_ready_18 ?_
  refine q_iload_n hx hb hl dM_ready_21 rfl ?_
  refine q_iload_n hx hb hl dM_ready_22 rfl ?_
  refine mw_1 C hw (by assumption) hz rfl dM_ready_23 (fun H locs hw => ?_)
  refine q_iload_n hx hb hl dM_ready_24 rfl ?_
  exact tr_z hQ C hw hr (Nat.le_of_ble_eq_true rfl) (Nat.le_of_ble_eq_true rfl) dM_ready_25 (hbo t ht) ⟨rfl, rfl⟩
set_option maxHeartbeats 4000000 in
set_option maxRecDepth 100000 in
theorem mx_ready (l : Launch) (hst : l.stackTraces = false) (D : va_G) (ct : Ct) (am : Nat → Nat) (N : Nat) (hN : N ≤ 16) (h0 : 0 < N) (th : Int32) (σ : St) (sz : Nat) (p0 p1 : Int32) (h : p0 < 0 ∨ ¬ p0 < nI N) : Kt l yM_ready cM_ready 4 (some .boolean) (r0 2) 0 0 D ct [.ref (am 0), .int p0, .int p1] sz (wM ct am N th σ) (fun v w => v = some (.int 0) ∧ w = wM ct am N 1 σ) (fun E w => False) := by
  refine kt_of hst (by decide) (Nat.le_of_ble_eq_true rfl) (by simp [Value.category]) ?_
  intro p e s m args below meth c A ls C hne hr hw hl Q hQ
  have hx := C.1
  have hb := C.2.1
  refine q_aload_n hx hb hl dM_ready_0 rfl ?_
  refine q_iload_n hx hb hl dM_ready_1 rfl ?_
  refine tc_E (tc_V C hl (it_bad l hst D ct am N hN h0 th σ _ p0 h) hw.1 hw.2.1 hw.2.2 g_M_84 (re_M C hw) hv_M_isThread rfl rfl ⟨(Nat.le_of_ble_eq_true rfl), (Nat.le_of_ble_eq_true rfl)⟩ (Nat.le_of_ble_eq_true rfl) ⟨(Nat.le_of_ble_eq_true rfl), (Nat.le_of_ble_eq_true rfl)⟩ dM_ready_2 rfl) C hw (fun E ce q9 w1 H locs hp hw h1 h2 h3 => ?_) (fun v w1 H locs hp hw => ?_)
  · exact hp.elim
  obtain ⟨rfl, rfl⟩ := hp
  dsimp only [Option.toList_some, Option.toList_none, List.cons_append, List.nil_append]
  refine lv_if_ne (tgt := 10) hx hb dM_ready_5 (by decide) (fun q9 => absurd rfl q9) (fun c_5 => ?_)
  refine lv_iconst (v := 0) hx hb dM_ready_8 (by decide) ?_
  exact tr_z hQ C hw hr (Nat.le_of_ble_eq_true rfl) (Nat.le_of_ble_eq_true rfl) dM_ready_9 (by decide) ⟨rfl, rfl⟩
set_option maxHeartbeats 4000000 in
set_option maxRecDepth 100000 in
theorem mo_rank (l : Launch) (hst : l.stackTraces = false) (D : va_G) (ct : Ct) (am : Nat → Nat) (N : Nat) (hN : N ≤ 16) (h0 : 0 < N) (th : Int32) (σ : St) (sz : Nat) (t : Nat) (ht : t < N) (p1 : Int32) (h : ¬ p1 < 0 ∧ p1 ≤ 15) : Kt l yM_rank cM_rank 4 (some .int) (r0 2) 0 0 D ct [.ref (am 0), .int (nI t), .int p1] sz (wM ct am N th σ) (fun v w => v = some (.int (σ 1 t 1)) ∧ w = wM ct am N 0 (su σ 1 t 1 p1)) (fun E w => False) := by
  refine kt_of hst (by decide) (Nat.le_of_ble_eq_true rfl) (by simp [Value.category]) ?_
  intro p e s m args below meth c A ls C hne hr hw hl Q hQ
  have hx := C.1
  have hb := C.2.1
  have ht16 : t < 16 := by omega
  refine q_aload_n hx hb hl dM_rank_0 rfl ?_
  refine q_iload_n hx hb hl dM_rank_1 rfl ?_
  refine tc_E (tc_V C hl (it_ok l hst D ct am N hN h0 th σ _ t ht) hw.1 hw.2.1 hw.2.2 g_M_84 (re_M C hw) hv_M_isThread rfl rfl ⟨(Nat.le_of_ble_eq_true rfl), (Nat.le_of_ble_eq_true rfl)⟩ (Nat.le_of_ble_eq_true rfl) ⟨(Nat.le_of_ble_eq_true rfl), (Nat.le_of_ble_eq_true rfl)⟩ dM_rank_2 rfl) C hw (fun E ce q9 w1 H locs hp hw h1 h2 h3 => ?_) (fun v w1 H locs hp hw => ?_)
  · exact hp.elim
  obtain ⟨rfl, rfl⟩ := hp
  dsimp only [Option.toList_some, Option.toList_none, List.cons_append, List.nil_append]
  refine lv_if_ne (tgt := 10) hx hb dM_rank_5 (by decide) (fun c_5 => ?_) (fun q9 => absurd q9 (by decide))
  refine q_iload_n hx hb hl dM_rank_10 rfl ?_
  refine lv_iconst (v := 0) hx hb dM_rank_11 (by decide) ?_
  refine lv_bipush (v := 15) hx hb dM_rank_12 (by decide) ?_
  refine tc_E (tc_S C hl (w_ok l hst D ct (wM ct am N 0 σ) _ p1 0 15 h.1 h.2) hw.1 hw.2.1 hw.2.2 g_M_67 hd_M_within rfl rfl ⟨(Nat.le_of_ble_eq_true rfl), (Nat.le_of_ble_eq_true rfl)⟩ (Nat.le_of_ble_eq_true rfl) ⟨(Nat.le_of_ble_eq_true rfl), (Nat.le_of_ble_eq_true rfl)⟩ dM_rank_14 rfl) C hw (fun E ce q9 w1 H locs hp hw h1 h2 h3 => ?_) (fun v w1 H locs hp hw => ?_)
  · exact hp.elim
  obtain ⟨rfl, rfl⟩ := hp
  dsimp only [Option.toList_some, Option.toList_none, List.cons_append, List.nil_append]
  refine lv_if_ne (tgt := 26) hx hb dM_rank_17 (by decide) (fun c_17 => ?_) (fun q9 => absurd q9 (by decide))
  refine q_aload_n hx hb hl dM_rank_26 rfl ?_
  refine mg C hw 14 l_M_20 (by decide) rfl dM_rank_27 ?_
  refine q_iload_n hx hb hl dM_rank_30 rfl ?_
  refine mr_2 C hw (by assumption) rfl dM_rank_31 ?_
  refine q_istore_n hx hb hl dM_rank_32 (by decide) (fun ls hl => ?_)
  refine q_aload_n hx hb hl dM_rank_33 rfl ?_
  refine mg C hw 14 l_M_20 (by decide) rfl dM_rank_34 ?_
  refine q_iload_n hx hb hl dM_rank_37 rfl ?_
  refine q_iload_n hx hb hl dM_rank_38 rfl ?_
  refine mw_2 C hw (by assumption) rfl dM_rank_39 (fun H locs hw => ?_)
  refine q_iload_n hx hb hl dM_rank_40 rfl ?_
  exact tr_i hQ C hw hr (Nat.le_of_ble_eq_true rfl) (Nat.le_of_ble_eq_true rfl) dM_rank_41 ⟨rfl, rfl⟩
set_option maxHeartbeats 4000000 in
set_option maxRecDepth 100000 in
theorem my_rank (l : Launch) (hst : l.stackTraces = false) (D : va_G) (ct : Ct) (am : Nat → Nat) (N : Nat) (hN : N ≤ 16) (h0 : 0 < N) (th : Int32) (σ : St) (sz : Nat) (t : Nat) (ht : t < N) (p1 : Int32) (h : p1 < 0 ∨ ¬ p1 ≤ 15) : Kt l yM_rank cM_rank 4 (some .int) (r0 2) 0 0 D ct [.ref (am 0), .int (nI t), .int p1] sz (wM ct am N th σ) (fun v w => v = some (.int 0) ∧ w = wM ct am N 2 σ) (fun E w => False) := by
  refine kt_of hst (by decide) (Nat.le_of_ble_eq_true rfl) (by simp [Value.category]) ?_
  intro p e s m args below meth c A ls C hne hr hw hl Q hQ
  have hx := C.1
  have hb := C.2.1
  refine q_aload_n hx hb hl dM_rank_0 rfl ?_
  refine q_iload_n hx hb hl dM_rank_1 rfl ?_
  refine tc_E (tc_V C hl (it_ok l hst D ct am N hN h0 th σ _ t ht) hw.1 hw.2.1 hw.2.2 g_M_84 (re_M C hw) hv_M_isThread rfl rfl ⟨(Nat.le_of_ble_eq_true rfl), (Nat.le_of_ble_eq_true rfl)⟩ (Nat.le_of_ble_eq_true rfl) ⟨(Nat.le_of_ble_eq_true rfl), (Nat.le_of_ble_eq_true rfl)⟩ dM_rank_2 rfl) C hw (fun E ce q9 w1 H locs hp hw h1 h2 h3 => ?_) (fun v w1 H locs hp hw => ?_)
  · exact hp.elim
  obtain ⟨rfl, rfl⟩ := hp
  dsimp only [Option.toList_some, Option.toList_none, List.cons_append, List.nil_append]
  refine lv_if_ne (tgt := 10) hx hb dM_rank_5 (by decide) (fun c_5 => ?_) (fun q9 => absurd q9 (by decide))
  refine q_iload_n hx hb hl dM_rank_10 rfl ?_
  refine lv_iconst (v := 0) hx hb dM_rank_11 (by decide) ?_
  refine lv_bipush (v := 15) hx hb dM_rank_12 (by decide) ?_
  refine tc_E (tc_S C hl (w_bad l hst D ct (wM ct am N 0 σ) _ p1 0 15 h) hw.1 hw.2.1 hw.2.2 g_M_67 hd_M_within rfl rfl ⟨(Nat.le_of_ble_eq_true rfl), (Nat.le_of_ble_eq_true rfl)⟩ (Nat.le_of_ble_eq_true rfl) ⟨(Nat.le_of_ble_eq_true rfl), (Nat.le_of_ble_eq_true rfl)⟩ dM_rank_14 rfl) C hw (fun E ce q9 w1 H locs hp hw h1 h2 h3 => ?_) (fun v w1 H locs hp hw => ?_)
  · exact hp.elim
  obtain ⟨rfl, rfl⟩ := hp
  dsimp only [Option.toList_some, Option.toList_none, List.cons_append, List.nil_append]
  refine lv_if_ne (tgt := 26) hx hb dM_rank_17 (by decide) (fun q9 => absurd rfl q9) (fun c_17 => ?_)
  refine q_aload_n hx hb hl dM_rank_20 rfl ?_
  refine lv_iconst (v := 2) hx hb dM_rank_21 (by decide) ?_
  refine tc_E (tc_V C hl (m_fail l hst D ct am N hN h0 0 σ _ 2) hw.1 hw.2.1 hw.2.2 g_M_71 (re_M C hw) hv_M_fail rfl rfl ⟨(Nat.le_of_ble_eq_true rfl), (Nat.le_of_ble_eq_true rfl)⟩ (Nat.le_of_ble_eq_true rfl) ⟨(Nat.le_of_ble_eq_true rfl), (Nat.le_of_ble_eq_true rfl)⟩ dM_rank_22 rfl) C hw (fun E ce q9 w1 H locs hp hw h1 h2 h3 => ?_) (fun v w1 H locs hp hw => ?_)
  · exact hp.elim
  obtain ⟨rfl, rfl⟩ := hp
  dsimp only [Option.toList_some, Option.toList_none, List.cons_append, List.nil_append]
  exact tr_i hQ C hw hr (Nat.le_of_ble_eq_true rfl) (Nat.le_of_ble_eq_true rfl) dM_rank_25 ⟨rfl, rfl⟩
set_option maxHeartbeats 4000000 in
set_option maxRecDepth 100000 in
theorem mx_rank (l : Launch) (hst : l.stackTraces = false) (D : va_G) (ct : Ct) (am : Nat → Nat) (N : Nat) (hN : N ≤ 16) (h0 : 0 < N) (th : Int32) (σ : St) (sz : Nat) (p0 p1 : Int32) (h : p0 < 0 ∨ ¬ p0 < nI N) : Kt l yM_rank cM_rank 4 (some .int) (r0 2) 0 0 D ct [.ref (am 0), .int p0, .int p1] sz (wM ct am N th σ) (fun v w => v = some (.int 0) ∧ w = wM ct am N 1 σ) (fun E w => False) := by
  refine kt_of hst (by decide) (Nat.le_of_ble_eq_true rfl) (by simp [Value.category]) ?_
  intro p e s m args below meth c A ls C hne hr hw hl Q hQ
  have hx := C.1
  have hb := C.2.1
  refine q_aload_n hx hb hl dM_rank_0 rfl ?_
  refine q_iload_n hx hb hl dM_rank_1 rfl ?_
  refine tc_E (tc_V C hl (it_bad l hst D ct am N hN h0 th σ _ p0 h) hw.1 hw.2.1 hw.2.2 g_M_84 (re_M C hw) hv_M_isThread rfl rfl ⟨(Nat.le_of_ble_eq_true rfl), (Nat.le_of_ble_eq_true rfl)⟩ (Nat.le_of_ble_eq_true rfl) ⟨(Nat.le_of_ble_eq_true rfl), (Nat.le_of_ble_eq_true rfl)⟩ dM_rank_2 rfl) C hw (fun E ce q9 w1 H locs hp hw h1 h2 h3 => ?_) (fun v w1 H locs hp hw => ?_)
  · exact hp.elim
  obtain ⟨rfl, rfl⟩ := hp
  dsimp only [Option.toList_some, Option.toList_none, List.cons_append, List.nil_append]
  refine lv_if_ne (tgt := 10) hx hb dM_rank_5 (by decide) (fun q9 => absurd rfl q9) (fun c_5 => ?_)
  refine lv_iconst (v := 0) hx hb dM_rank_8 (by decide) ?_
  exact tr_i hQ C hw hr (Nat.le_of_ble_eq_true rfl) (Nat.le_of_ble_eq_true rfl) dM_rank_9 ⟨rfl, rfl⟩
set_option maxHeartbeats 4000000 in
set_option maxRecDepth 100000 in
theorem mo_sleep (l : Launch) (hst : l.stackTraces = false) (D : va_G) (ct : Ct) (am : Nat → Nat) (N : Nat) (hN : N ≤ 16) (h0 : 0 < N) (th : Int32) (σ : St) (sz : Nat) (t : Nat) (ht : t < N) (p1 : Int32) (h : ¬ p1 < 0 ∧ p1 ≤ 1000000) : Kt l yM_sleep cM_sleep 4 (some .int) (r0 2) 0 0 D ct [.ref (am 0), .int (nI t), .int p1] sz (wM ct am N th σ) (fun v w => v = some (.int (σ 1 t 2)) ∧ w = wM ct am N 0 (su σ 1 t 2 p1)) (fun E w => False) := by
  refine kt_of hst (by decide) (Nat.le_of_ble_eq_true rfl) (by simp [Value.category]) ?_
  intro p e s m args below meth c A ls C hne hr hw hl Q hQ
  have hx := C.1
  have hb := C.2.1
  have ht16 : t < 16 := by omega
  refine q_aload_n hx hb hl dM_sleep_0 rfl ?_
  refine q_iload_n hx hb hl dM_sleep_1 rfl ?_
  refine tc_E (tc_V C hl (it_ok l hst D ct am N hN h0 th σ _ t ht) hw.1 hw.2.1 hw.2.2 g_M_84 (re_M C hw) hv_M_isThread rfl rfl ⟨(Nat.le_of_ble_eq_true rfl), (Nat.le_of_ble_eq_true rfl)⟩ (Nat.le_of_ble_eq_true rfl) ⟨(Nat.le_of_ble_eq_true rfl), (Nat.le_of_ble_eq_true rfl)⟩ dM_sleep_2 rfl) C hw (fun E ce q9 w1 H locs hp hw h1 h2 h3 => ?_) (fun v w1 H locs hp hw => ?_)
  · exact hp.elim
  obtain ⟨rfl, rfl⟩ := hp
  dsimp only [Option.toList_some, Option.toList_none, List.cons_append, List.nil_append]
  refine lv_if_ne (tgt := 10) hx hb dM_sleep_5 (by decide) (fun c_5 => ?_) (fun q9 => absurd q9 (by decide))
  refine q_iload_n hx hb hl dM_sleep_10 rfl ?_
  refine lv_iconst (v := 0) hx hb dM_sleep_11 (by decide) ?_
  refine lv_ldc hx hb C.2.2.2.1 (C.2.2.2.2.1 _ k_M_88) dM_sleep_12 ?_
  refine tc_E (tc_S C hl (w_ok l hst D ct (wM ct am N 0 σ) _ p1 0 1000000 h.1 h.2) hw.1 hw.2.1 hw.2.2 g_M_67 hd_M_within rfl rfl ⟨(Nat.le_of_ble_eq_true rfl), (Nat.le_of_ble_eq_true rfl)⟩ (Nat.le_of_ble_eq_true rfl) ⟨(Nat.le_of_ble_eq_true rfl), (Nat.le_of_ble_eq_true rfl)⟩ dM_sleep_14 rfl) C hw (fun E ce q9 w1 H locs hp hw h1 h2 h3 => ?_) (fun v w1 H locs hp hw => ?_)
  · exact hp.elim
  obtain ⟨rfl, rfl⟩ := hp
  dsimp only [Option.toList_some, Option.toList_none, List.cons_append, List.nil_append]
  refine lv_if_ne (tgt := 26) hx hb dM_sleep_17 (by decide) (fun c_17 => ?_) (fun q9 => absurd q9 (by decide))
  refine q_aload_n hx hb hl dM_sleep_26 rfl ?_
  refine mg C hw 15 l_M_24 (by decide) rfl dM_sleep_27 ?_
  refine q_iload_n hx hb hl dM_sleep_30 rfl ?_
  refine mr_3 C hw (by assumption) rfl dM_sleep_31 ?_
  refine q_istore_n hx hb hl dM_sleep_32 (by decide) (fun ls hl => ?_)
  refine q_aload_n hx hb hl dM_sleep_33 rfl ?_
  refine mg C hw 15 l_M_24 (by decide) rfl dM_sleep_34 ?_
  refine q_iload_n hx hb hl dM_sleep_37 rfl ?_
  refine q_iload_n hx hb hl dM_sleep_38 rfl ?_
  refine mw_3 C hw (by assumption) rfl dM_sleep_39 (fun H locs hw => ?_)
  refine q_iload_n hx hb hl dM_sleep_40 rfl ?_
  exact tr_i hQ C hw hr (Nat.le_of_ble_eq_true rfl) (Nat.le_of_ble_eq_true rfl) dM_sleep_41 ⟨rfl, rfl⟩
set_option maxHeartbeats 4000000 in
set_option maxRecDepth 100000 in
theorem my_sleep (l : Launch) (hst : l.stackTraces = false) (D : va_G) (ct : Ct) (am : Nat → Nat) (N : Nat) (hN : N ≤ 16) (h0 : 0 < N) (th : Int32) (σ : St) (sz : Nat) (t : Nat) (ht : t < N) (p1 : Int32) (h : p1 < 0 ∨ ¬ p1 ≤ 1000000) : Kt l yM_sleep cM_sleep 4 (some .int) (r0 2) 0 0 D ct [.ref (am 0), .int (nI t), .int p1] sz (wM ct am N th σ) (fun v w => v = some (.int 0) ∧ w = wM ct am N 2 σ) (fun E w => False) := by
  refine kt_of hst (by decide) (Nat.le_of_ble_eq_true rfl) (by simp [Value.category]) ?_
  intro p e s m args below meth c A ls C hne hr hw hl Q hQ
  have hx := C.1
  have hb := C.2.1
  refine q_aload_n hx hb hl dM_sleep_0 rfl ?_
  refine q_iload_n hx hb hl dM_sleep_1 rfl ?_
  refine tc_E (tc_V C hl (it_ok l hst D ct am N hN h0 th σ _ t ht) hw.1 hw.2.1 hw.2.2 g_M_84 (re_M C hw) hv_M_isThread rfl rfl ⟨(Nat.le_of_ble_eq_true rfl), (Nat.le_of_ble_eq_true rfl)⟩ (Nat.le_of_ble_eq_true rfl) ⟨(Nat.le_of_ble_eq_true rfl), (Nat.le_of_ble_eq_true rfl)⟩ dM_sleep_2 rfl) C hw (fun E ce q9 w1 H locs hp hw h1 h2 h3 => ?_) (fun v w1 H locs hp hw => ?_)
  · exact hp.elim
  obtain ⟨rfl, rfl⟩ := hp
  dsimp only [Option.toList_some, Option.toList_none, List.cons_append, List.nil_append]
  refine lv_if_ne (tgt := 10) hx hb dM_sleep_5 (by decide) (fun c_5 => ?_) (fun q9 => absurd q9 (by decide))
  refine q_iload_n hx hb hl dM_sleep_10 rfl ?_
  refine lv_iconst (v := 0) hx hb dM_sleep_11 (by decide) ?_
  refine lv_ldc hx hb C.2.2.2.1 (C.2.2.2.2.1 _ k_M_88) dM_sleep_12 ?_
  refine tc_E (tc_S C hl (w_bad l hst D ct (wM ct am N 0 σ) _ p1 0 1000000 h) hw.1 hw.2.1 hw.2.2 g_M_67 hd_M_within rfl rfl ⟨(Nat.le_of_ble_eq_true rfl), (Nat.le_of_ble_eq_true rfl)⟩ (Nat.le_of_ble_eq_true rfl) ⟨(Nat.le_of_ble_eq_true rfl), (Nat.le_of_ble_eq_true rfl)⟩ dM_sleep_14 rfl) C hw (fun E ce q9 w1 H locs hp hw h1 h2 h3 => ?_) (fun v w1 H locs hp hw => ?_)
  · exact hp.elim
  obtain ⟨rfl, rfl⟩ := hp
  dsimp only [Option.toList_some, Option.toList_none, List.cons_append, List.nil_append]
  refine lv_if_ne (tgt := 26) hx hb dM_sleep_17 (by decide) (fun q9 => absurd rfl q9) (fun c_17 => ?_)
  refine q_aload_n hx hb hl dM_sleep_20 rfl ?_
  refine lv_iconst (v := 2) hx hb dM_sleep_21 (by decide) ?_
  refine tc_E (tc_V C hl (m_fail l hst D ct am N hN h0 0 σ _ 2) hw.1 hw.2.1 hw.2.2 g_M_71 (re_M C hw) hv_M_fail rfl rfl ⟨(Nat.le_of_ble_eq_true rfl), (Nat.le_of_ble_eq_true rfl)⟩ (Nat.le_of_ble_eq_true rfl) ⟨(Nat.le_of_ble_eq_true rfl), (Nat.le_of_ble_eq_true rfl)⟩ dM_sleep_22 rfl) C hw (fun E ce q9 w1 H locs hp hw h1 h2 h3 => ?_) (fun v w1 H locs hp hw => ?_)
  · exact hp.elim
  obtain ⟨rfl, rfl⟩ := hp
  dsimp only [Option.toList_some, Option.toList_none, List.cons_append, List.nil_append]
  exact tr_i hQ C hw hr (Nat.le_of_ble_eq_true rfl) (Nat.le_of_ble_eq_true rfl) dM_sleep_25 ⟨rfl, rfl⟩
set_option maxHeartbeats 4000000 in
set_option maxRecDepth 100000 in
theorem mx_sleep (l : Launch) (hst : l.stackTraces = false) (D : va_G) (ct : Ct) (am : Nat → Nat) (N : Nat) (hN : N ≤ 16) (h0 : 0 < N) (th : Int32) (σ : St) (sz : Nat) (p0 p1 : Int32) (h : p0 < 0 ∨ ¬ p0 < nI N) : Kt l yM_sleep cM_sleep 4 (some .int) (r0 2) 0 0 D ct [.ref (am 0), .int p0, .int p1] sz (wM ct am N th σ) (fun v w => v = some (.int 0) ∧ w = wM ct am N 1 σ) (fun E w => False) := by
  refine kt_of hst (by decide) (Nat.le_of_ble_eq_true rfl) (by simp [Value.category]) ?_
  intro p e s m args below meth c A ls C hne hr hw hl Q hQ
  have hx := C.1
  have hb := C.2.1
  refine q_aload_n hx hb hl dM_sleep_0 rfl ?_
  refine q_iload_n hx hb hl dM_sleep_1 rfl ?_
  refine tc_E (tc_V C hl (it_bad l hst D ct am N hN h0 th σ _ p0 h) hw.1 hw.2.1 hw.2.2 g_M_84 (re_M C hw) hv_M_isThread rfl rfl ⟨(Nat.le_of_ble_eq_true rfl), (Nat.le_of_ble_eq_true rfl)⟩ (Nat.le_of_ble_eq_true rfl) ⟨(Nat.le_of_ble_eq_true rfl), (Nat.le_of_ble_eq_true rfl)⟩ dM_sleep_2 rfl) C hw (fun E ce q9 w1 H locs hp hw h1 h2 h3 => ?_) (fun v w1 H locs hp hw => ?_)
  · exact hp.elim
  obtain ⟨rfl, rfl⟩ := hp
  dsimp only [Option.toList_some, Option.toList_none, List.cons_append, List.nil_append]
  refine lv_if_ne (tgt := 10) hx hb dM_sleep_5 (by decide) (fun q9 => absurd rfl q9) (fun c_5 => ?_)
  refine lv_iconst (v := 0) hx hb dM_sleep_8 (by decide) ?_
  exact tr_i hQ C hw hr (Nat.le_of_ble_eq_true rfl) (Nat.le_of_ble_eq_true rfl) dM_sleep_9 ⟨rfl, rfl⟩
set_option maxHeartbeats 4000000 in
set_option maxRecDepth 100000 in
theorem mo_miss (l : Launch) (hst : l.stackTraces = false) (D : va_G) (ct : Ct) (am : Nat → Nat) (N : Nat) (hN : N ≤ 16) (h0 : 0 < N) (th : Int32) (σ : St) (sz : Nat) (t : Nat) (ht : t < N) : Kt l yM_miss cM_miss 2 (some .int) (r0 2) 0 0 D ct [.ref (am 0), .int (nI t)] sz (wM ct am N th σ) (fun v w => v = some (.int (σ 1 t 3 + 1)) ∧ w = wM ct am N 0 (su σ 1 t 3 (σ 1 t 3 + 1))) (fun E w => False) := by
  refine kt_of hst (by decide) (Nat.le_of_ble_eq_true rfl) (by simp [Value.category]) ?_
  intro p e s m args below meth c A ls C hne hr hw hl Q hQ
  have hx := C.1
  have hb := C.2.1
  have ht16 : t < 16 := by omega
  refine q_aload_n hx hb hl dM_miss_0 rfl ?_
  refine q_iload_n hx hb hl dM_miss_1 rfl ?_
  refine tc_E (tc_V C hl (it_ok l hst D ct am N hN h0 th σ _ t ht) hw.1 hw.2.1 hw.2.2 g_M_84 (re_M C hw) hv_M_isThread rfl rfl ⟨(Nat.le_of_ble_eq_true rfl), (Nat.le_of_ble_eq_true rfl)⟩ (Nat.le_of_ble_eq_true rfl) ⟨(Nat.le_of_ble_eq_true rfl), (Nat.le_of_ble_eq_true rfl)⟩ dM_miss_2 rfl) C hw (fun E ce q9 w1 H locs hp hw h1 h2 h3 => ?_) (fun v w1 H locs hp hw => ?_)
  · exact hp.elim
  obtain ⟨rfl, rfl⟩ := hp
  dsimp only [Option.toList_some, Option.toList_none, List.cons_append, List.nil_append]
  refine lv_if_ne (tgt := 10) hx hb dM_miss_5 (by decide) (fun c_5 => ?_) (fun q9 => absurd q9 (by decide))
  refine q_aload_n hx hb hl dM_miss_10 rfl ?_
  refine mg C hw 16 l_M_27 (by decide) rfl dM_miss_11 ?_
  refine q_iload_n hx hb hl dM_miss_14 rfl ?_
  refine lv_dup2_11 hx hb dM_miss_15 rfl rfl ?_
  refine mr_4 C hw (by assumption) rfl dM_miss_16 ?_
  refine lv_iconst (v := 1) hx hb dM_miss_17 (by decide) ?_
  refine lv_iadd hx hb dM_miss_18 ?_
  refine mw_4 C hw (by assumption) rfl dM_miss_19 (fun H locs hw => ?_)
  refine q_aload_n hx hb hl dM_miss_20 rfl ?_
  refine mg C hw 16 l_M_27 (by decide) rfl dM_miss_21 ?_
  refine q_iload_n hx hb hl dM_miss_24 rfl ?_
  refine mr_4 C hw (by assumption) rfl dM_miss_25 ?_
  exact tr_i hQ C hw hr (Nat.le_of_ble_eq_true rfl) (Nat.le_of_ble_eq_true rfl) dM_miss_26 ⟨by rw [su_eq], rfl⟩
set_option maxHeartbeats 4000000 in
set_option maxRecDepth 100000 in
theorem mx_miss (l : Launch) (hst : l.stackTraces = false) (D : va_G) (ct : Ct) (am : Nat → Nat) (N : Nat) (hN : N ≤ 16) (h0 : 0 < N) (th : Int32) (σ : St) (sz : Nat) (p0 : Int32) (h : p0 < 0 ∨ ¬ p0 < nI N) : Kt l yM_miss cM_miss 2 (some .int) (r0 2) 0 0 D ct [.ref (am 0), .int p0] sz (wM ct am N th σ) (fun v w => v = some (.int 0) ∧ w = wM ct am N 1 σ) (fun E w => False) := by
  refine kt_of hst (by decide) (Nat.le_of_ble_eq_true rfl) (by simp [Value.category]) ?_
  intro p e s m args below meth c A ls C hne hr hw hl Q hQ
  have hx := C.1
  have hb := C.2.1
  refine q_aload_n hx hb hl dM_miss_0 rfl ?_
  refine q_iload_n hx hb hl dM_miss_1 rfl ?_
  refine tc_E (tc_V C hl (it_bad l hst D ct am N hN h0 th σ _ p0 h) hw.1 hw.2.1 hw.2.2 g_M_84 (re_M C hw) hv_M_isThread rfl rfl ⟨(Nat.le_of_ble_eq_true rfl), (Nat.le_of_ble_eq_true rfl)⟩ (Nat.le_of_ble_eq_true rfl) ⟨(Nat.le_of_ble_eq_true rfl), (Nat.le_of_ble_eq_true rfl)⟩ dM_miss_2 rfl) C hw (fun E ce q9 w1 H locs hp hw h1 h2 h3 => ?_) (fun v w1 H locs hp hw => ?_)
  · exact hp.elim
  obtain ⟨rfl, rfl⟩ := hp
  dsimp only [Option.toList_some, Option.toList_none, List.cons_append, List.nil_append]
  refine lv_if_ne (tgt := 10) hx hb dM_miss_5 (by decide) (fun q9 => absurd rfl q9) (fun c_5 => ?_)
  refine lv_iconst (v := 0) hx hb dM_miss_8 (by decide) ?_
  exact tr_i hQ C hw hr (Nat.le_of_ble_eq_true rfl) (Nat.le_of_ble_eq_true rfl) dM_miss_9 ⟨rfl, rfl⟩
end
section
set_option maxHeartbeats 4000000 in
set_option maxRecDepth 100000 in
theorem m_can (l : Launch) (hst : l.stackTraces = false) (D : va_G) (ct : Ct) (am : Nat → Nat) (N : Nat) (hN : N ≤ 16) (h0 : 0 < N) (th : Int32) (σ : St) (sz : Nat) (t : Nat) (ht : t < 16) (i : Int32) (hi : i = nI t) : Kt l yM_canGo cM_canGo 2 (some .boolean) (r0 0) 0 0 D ct [.ref (am 0), .int i] sz (wM ct am N th σ) (fun v w => v = some (.int (mf_can σ t)) ∧ w = wM ct am N th σ) (fun E w => False) := by
  refine kt_of hst (by decide) (Nat.le_of_ble_eq_true rfl) (by simp [Value.category]) ?_
  intro p e s m args below meth c A ls C hne hr hw hl Q hQ
  have hx := C.1
  have hb := C.2.1
  subst hi
  refine q_aload_n hx hb hl dM_canGo_0 rfl ?_
  refine mg C hw 13 l_M_16 (by decide) rfl dM_canGo_1 ?_
  refine q_iload_n hx hb hl dM_canGo_4 rfl ?_
  refine mr_1 C hw (by assumption) rfl dM_canGo_5 ?_
  refine lv_if_eq (tgt := 22) hx hb dM_canGo_6 (by decide) (fun c_6 => ?_) (fun c_6 => ?_)
  · refine lv_iconst (v := 0) hx hb dM_canGo_22 (by decide) ?_
    exact tr_z hQ C hw hr (Nat.le_of_ble_eq_true rfl) (Nat.le_of_ble_eq_true rfl) dM_canGo_23 (by decide) ⟨by simp only [mf_can, if_pos c_6], rfl⟩
  refine q_aload_n hx hb hl dM_canGo_9 rfl ?_
  refine mg C hw 15 l_M_24 (by decide) rfl dM_canGo_10 ?_
  refine q_iload_n hx hb hl dM_canGo_13 rfl ?_
  refine mr_3 C hw (by assumption) rfl dM_canGo_14 ?_
  refine lv_if_ne (tgt := 22) hx hb dM_canGo_15 (by decide) (fun c_15 => ?_) (fun c_15 => ?_)
  · refine lv_iconst (v := 0) hx hb dM_canGo_22 (by decide) ?_
    exact tr_z hQ C hw hr (Nat.le_of_ble_eq_true rfl) (Nat.le_of_ble_eq_true rfl) dM_canGo_23 (by decide) ⟨by simp only [mf_can, if_neg c_6, if_neg c_15], rfl⟩
  refine lv_iconst (v := 1) hx hb dM_canGo_18 (by decide) ?_
  refine lv_goto (tgt := 23) hx hb dM_canGo_19 (by decide) ?_
  exact tr_z hQ C hw hr (Nat.le_of_ble_eq_true rfl) (Nat.le_of_ble_eq_true rfl) dM_canGo_23 (by decide) ⟨by simp only [mf_can, if_neg c_6, if_pos c_15], rfl⟩
set_option maxHeartbeats 4000000 in
set_option maxRecDepth 100000 in
theorem m_over (l : Launch) (hst : l.stackTraces = false) (D : va_G) (ct : Ct) (am : Nat → Nat) (N : Nat) (hN : N ≤ 16) (h0 : 0 < N) (th : Int32) (σ : St) (sz : Nat) : Kt l yM_overdue cM_overdue 3 (some .int) (r0 1) 0 0 D ct [.ref (am 0)] sz (wM ct am N th σ) (fun v w => v = some (.int (mf_over N σ)) ∧ w = wM ct am N th σ) (fun E w => False) := by
  refine kt_of hst (by decide) (Nat.le_of_ble_eq_true rfl) (by simp [Value.category]) ?_
  intro p e s m args below meth c A ls C hne hr hw hl Q hQ
  have hx := C.1
  have hb := C.2.1
  refine lv_iconst (v := -1) hx hb dM_overdue_0 (by decide) ?_
  refine q_istore_n hx hb hl dM_overdue_1 (by decide) (fun ls hl => ?_)
  refine lv_iconst (v := 0) hx hb dM_overdue_2 (by decide) ?_
  refine q_istore_n hx hb hl dM_overdue_3 (by decide) (fun ls hl => ?_)
  have L4 : ∀ (n : Nat) (t : Nat) (b : Int32), t + n = N → mf_ov σ n t b = mf_ov σ N 0 (-1) → ix N b → ∀ (H : Heap) (locs : List Loc) (ls : Array Slot), wl D A s (wM ct am N th σ) H locs → lq ls 3 [some (.ref (am 0)), some (.int b), some (.int (nI t))] → W p l e (r0 1) s m args below meth c H locs 0 0 Q (F0 m 4 ls []) := by
    intro n
    induction n with
    | zero =>
      intro t b hn he hb9 H locs ls hw hl
      refine q_iload_n hx hb hl dM_overdue_4 rfl ?_
      refine q_aload_n hx hb hl dM_overdue_5 rfl ?_
      refine mg C hw 1 l_M_57 (by decide) rfl dM_overdue_6 ?_
      refine lv_icmp_ge (tgt := 47) hx hb dM_overdue_9 (by decide) (fun c_9 => ?_) (fun q9 => absurd (nI_le (by omega) (by omega)) q9)
      have he2 : b = mf_ov σ N 0 (-1) := he
      refine q_aload_n hx hb hl dM_overdue_47 rfl ?_
      refine mg C hw 4 l_M_78 (by decide) rfl dM_overdue_48 ?_
      refine lv_if_le (tgt := 75) hx hb dM_overdue_51 (by decide) (fun c_51 => ?_) (fun c_51 => ?_)
      · refine lv_iconst (v := -1) hx hb dM_overdue_75 (by decide) ?_
        exact tr_i hQ C hw hr (Nat.le_of_ble_eq_true rfl) (Nat.le_of_ble_eq_true rfl) dM_overdue_76 ⟨by rw [mf_over, ← he2]; simp only [if_pos c_51], rfl⟩
      refine q_iload_n hx hb hl dM_overdue_54 rfl ?_
      refine lv_if_lt (tgt := 75) hx hb dM_overdue_55 (by decide) (fun c_55 => ?_) (fun c_55 => ?_)
      · refine lv_iconst (v := -1) hx hb dM_overdue_75 (by decide) ?_
        exact tr_i hQ C hw hr (Nat.le_of_ble_eq_true rfl) (Nat.le_of_ble_eq_true rfl) dM_overdue_76 ⟨by rw [mf_over, ← he2]; simp only [if_neg c_51, if_pos c_55], rfl⟩
      obtain ⟨h6, h7⟩ := ix_nn hN hb9 c_55
      refine q_aload_n hx hb hl dM_overdue_58 rfl ?_
      refine mg C hw 17 l_M_30 (by decide) rfl dM_overdue_59 ?_
      refine q_iload_n hx hb hl dM_overdue_62 rfl ?_
      refine mr_5 C hw (t := b.toNatClampNeg) (by omega) h7 dM_overdue_63 ?_
      refine q_aload_n hx hb hl dM_overdue_64 rfl ?_
      refine mg C hw 4 l_M_78 (by decide) rfl dM_overdue_65 ?_
      refine lv_icmp_lt (tgt := 75) hx hb dM_overdue_68 (by decide) (fun c_68 => ?_) (fun c_68 => ?_)
      · refine lv_iconst (v := -1) hx hb dM_overdue_75 (by decide) ?_
        exact tr_i hQ C hw hr (Nat.le_of_ble_eq_true rfl) (Nat.le_of_ble_eq_true rfl) dM_overdue_76 ⟨by rw [mf_over, ← he2]; simp only [if_neg c_51, if_neg c_55, if_pos c_68], rfl⟩
      refine q_iload_n hx hb hl dM_overdue_71 rfl ?_
      refine lv_goto (tgt := 76) hx hb dM_overdue_72 (by decide) ?_
      exact tr_i hQ C hw hr (Nat.le_of_ble_eq_true rfl) (Nat.le_of_ble_eq_true rfl) dM_overdue_76 ⟨by rw [mf_over, ← he2]; simp only [if_neg c_51, if_neg c_55, if_neg c_68], rfl⟩
    | succ n ih =>
      intro t b hn he hb9 H locs ls hw hl
      have ht : t < N := by omega
      have ht16 : t < 16 := by omega
      refine q_iload_n hx hb hl dM_overdue_4 rfl ?_
      refine q_aload_n hx hb hl dM_overdue_5 rfl ?_
      refine mg C hw 1 l_M_57 (by decide) rfl dM_overdue_6 ?_
      refine lv_icmp_ge (tgt := 47) hx hb dM_overdue_9 (by decide) (fun q9 => absurd q9 (nI_ge ht (by omega))) (fun c_9 => ?_)
      refine q_aload_n hx hb hl dM_overdue_12 rfl ?_
      refine q_iload_n hx hb hl dM_overdue_13 rfl ?_
      refine tc_E (tc_V C hl (m_can l hst D ct am N hN h0 th σ _ t (by omega) _ rfl) hw.1 hw.2.1 hw.2.2 g_M_89 (re_M C hw) hv_M_canGo rfl rfl ⟨(Nat.le_of_ble_eq_true rfl), (Nat.le_of_ble_eq_true rfl)⟩ (Nat.le_of_ble_eq_true rfl) ⟨(Nat.le_of_ble_eq_true rfl), (Nat.le_of_ble_eq_true rfl)⟩ dM_overdue_14 rfl) C hw (fun E ce q9 w1 H locs hp hw h1 h2 h3 => ?_) (fun v w1 H locs hp hw => ?_)
      · exact hp.elim
      obtain ⟨rfl, rfl⟩ := hp
      dsimp only [Option.toList_some, Option.toList_none, List.cons_append, List.nil_append]
      refine lv_if_eq (tgt := 41) hx hb dM_overdue_17 (by decide) (fun c_17 => ?_) (fun c_17 => ?_)
      · refine q_inc hx hb hl dM_overdue_41 rfl (by decide) (fun ls hl => ?_)
        refine lv_goto (tgt := 4) hx hb dM_overdue_44 (by decide) ?_
        exact ih _ _ (by omega) (by rw [← he]; simp only [mf_ov, if_pos c_17]) (by first | exact hb9 | exact ix_t ht) _ _ _ hw hl
      refine q_iload_n hx hb hl dM_overdue_20 rfl ?_
      refine lv_if_lt (tgt := 39) hx hb dM_overdue_21 (by decide) (fun c_21 => ?_) (fun c_21 => ?_)
      · refine q_iload_n hx hb hl dM_overdue_39 rfl ?_
        refine q_istore_n hx hb hl dM_overdue_40 (by decide) (fun ls hl => ?_)
        refine q_inc hx hb hl dM_overdue_41 rfl (by decide) (fun ls hl => ?_)
        refine lv_goto (tgt := 4) hx hb dM_overdue_44 (by decide) ?_
        exact ih _ _ (by omega) (by rw [← he]; simp only [mf_ov, if_neg c_17, if_pos c_21]) (by first | exact hb9 | exact ix_t ht) _ _ _ hw hl
      obtain ⟨h6, h7⟩ := ix_nn hN hb9 c_21
      refine q_aload_n hx hb hl dM_overdue_24 rfl ?_
      refine mg C hw 17 l_M_30 (by decide) rfl dM_overdue_25 ?_
      refine q_iload_n hx hb hl dM_overdue_28 rfl ?_
      refine mr_5 C hw (by assumption) rfl dM_overdue_29 ?_
      refine q_aload_n hx hb hl dM_overdue_30 rfl ?_
      refine mg C hw 17 l_M_30 (by decide) rfl dM_overdue_31 ?_
      refine q_iload_n hx hb hl dM_overdue_34 rfl ?_
      refine mr_5 C hw (t := b.toNatClampNeg) (by omega) h7 dM_overdue_35 ?_
      refine lv_icmp_le (tgt := 41) hx hb dM_overdue_36 (by decide) (fun c_36 => ?_) (fun c_36 => ?_)
      · refine q_inc hx hb hl dM_overdue_41 rfl (by decide) (fun ls hl => ?_)
        refine lv_goto (tgt := 4) hx hb dM_overdue_44 (by decide) ?_
        exact ih _ _ (by omega) (by rw [← he]; simp only [mf_ov, if_neg c_17, if_neg c_21, if_pos c_36]) (by first | exact hb9 | exact ix_t ht) _ _ _ hw hl
      refine q_iload_n hx hb hl dM_overdue_39 rfl ?_
      refine q_istore_n hx hb hl dM_overdue_40 (by decide) (fun ls hl => ?_)
      refine q_inc hx hb hl dM_overdue_41 rfl (by decide) (fun ls hl => ?_)
      refine lv_goto (tgt := 4) hx hb dM_overdue_44 (by decide) ?_
      exact ih _ _ (by omega) (by rw [← he]; simp only [mf_ov, if_neg c_17, if_neg c_21, if_neg c_36]) (by first | exact hb9 | exact ix_t ht) _ _ _ hw hl
  exact L4 N 0 _ (by omega) rfl ix_m _ _ _ hw hl
set_option maxHeartbeats 4000000 in
set_option maxRecDepth 100000 in
theorem m_top (l : Launch) (hst : l.stackTraces = false) (D : va_G) (ct : Ct) (am : Nat → Nat) (N : Nat) (hN : N ≤ 16) (h0 : 0 < N) (th : Int32) (σ : St) (sz : Nat) : Kt l yM_topRank cM_topRank 3 (some .int) (r0 1) 0 0 D ct [.ref (am 0)] sz (wM ct am N th σ) (fun v w => v = some (.int (mf_top σ N 0 (-1))) ∧ w = wM ct am N th σ) (fun E w => False) := by
  refine kt_of hst (by decide) (Nat.le_of_ble_eq_true rfl) (by simp [Value.category]) ?_
  intro p e s m args below meth c A ls C hne hr hw hl Q hQ
  have hx := C.1
  have hb := C.2.1
  refine lv_iconst (v := -1) hx hb dM_topRank_0 (by decide) ?_
  refine q_istore_n hx hb hl dM_topRank_1 (by decide) (fun ls hl => ?_)
  refine lv_iconst (v := 0) hx hb dM_topRank_2 (by decide) ?_
  refine q_istore_n hx hb hl dM_topRank_3 (by decide) (fun ls hl => ?_)
  have L4 : ∀ (n : Nat) (t : Nat) (k : Int32), t + n = N → mf_top σ n t k = mf_top σ N 0 (-1) → ∀ (H : Heap) (locs : List Loc) (ls : Array Slot), wl D A s (wM ct am N th σ) H locs → lq ls 3 [some (.ref (am 0)), some (.int k), some (.int (nI t))] → W p l e (r0 1) s m args below meth c H locs 0 0 Q (F0 m 4 ls []) := by
    intro n
    induction n with
    | zero =>
      intro t k hn he H locs ls hw hl
      refine q_iload_n hx hb hl dM_topRank_4 rfl ?_
      refine q_aload_n hx hb hl dM_topRank_5 rfl ?_
      refine mg C hw 1 l_M_57 (by decide) rfl dM_topRank_6 ?_
      refine lv_icmp_ge (tgt := 47) hx hb dM_topRank_9 (by decide) (fun c_9 => ?_) (fun q9 => absurd (nI_le (by omega) (by omega)) q9)
      refine q_iload_n hx hb hl dM_topRank_47 rfl ?_
      exact tr_i hQ C hw hr (Nat.le_of_ble_eq_true rfl) (Nat.le_of_ble_eq_true rfl) dM_topRank_48 ⟨by rw [← he]; rfl, rfl⟩
    | succ n ih =>
      intro t k hn he H locs ls hw hl
      have ht : t < N := by omega
      have ht16 : t < 16 := by omega
      refine q_iload_n hx hb hl dM_topRank_4 rfl ?_
      refine q_aload_n hx hb hl dM_topRank_5 rfl ?_
      refine mg C hw 1 l_M_57 (by decide) rfl dM_topRank_6 ?_
      refine lv_icmp_ge (tgt := 47) hx hb dM_topRank_9 (by decide) (fun q9 => absurd q9 (nI_ge ht (by omega))) (fun c_9 => ?_)
      refine q_aload_n hx hb hl dM_topRank_12 rfl ?_
      refine q_iload_n hx hb hl dM_topRank_13 rfl ?_
      refine tc_E (tc_V C hl (m_can l hst D ct am N hN h0 th σ _ t (by omega) _ rfl) hw.1 hw.2.1 hw.2.2 g_M_89 (re_M C hw) hv_M_canGo rfl rfl ⟨(Nat.le_of_ble_eq_true rfl), (Nat.le_of_ble_eq_true rfl)⟩ (Nat.le_of_ble_eq_true rfl) ⟨(Nat.le_of_ble_eq_true rfl), (Nat.le_of_ble_eq_true rfl)⟩ dM_topRank_14 rfl) C hw (fun E ce q9 w1 H locs hp hw h1 h2 h3 => ?_) (fun v w1 H locs hp hw => ?_)
      · exact hp.elim
      obtain ⟨rfl, rfl⟩ := hp
      dsimp only [Option.toList_some, Option.toList_none, List.cons_append, List.nil_append]
      refine lv_if_eq (tgt := 39) hx hb dM_topRank_17 (by decide) (fun c_17 => ?_) (fun c_17 => ?_)
      · refine q_iload_n hx hb hl dM_topRank_39 rfl ?_
        refine q_istore_n hx hb hl dM_topRank_40 (by decide) (fun ls hl => ?_)
        refine q_inc hx hb hl dM_topRank_41 rfl (by decide) (fun ls hl => ?_)
        refine lv_goto (tgt := 4) hx hb dM_topRank_44 (by decide) ?_
        exact ih _ _ (by omega) (by rw [← he]; simp only [mf_top, if_pos c_17]) _ _ _ hw hl
      refine q_aload_n hx hb hl dM_topRank_20 rfl ?_
      refine mg C hw 14 l_M_20 (by decide) rfl dM_topRank_21 ?_
      refine q_iload_n hx hb hl dM_topRank_24 rfl ?_
      refine mr_2 C hw (by assumption) rfl dM_topRank_25 ?_
      refine q_iload_n hx hb hl dM_topRank_26 rfl ?_
      refine lv_icmp_le (tgt := 39) hx hb dM_topRank_27 (by decide) (fun c_27 => ?_) (fun c_27 => ?_)
      · refine q_iload_n hx hb hl dM_topRank_39 rfl ?_
        refine q_istore_n hx hb hl dM_topRank_40 (by decide) (fun ls hl => ?_)
        refine q_inc hx hb hl dM_topRank_41 rfl (by decide) (fun ls hl => ?_)
        refine lv_goto (tgt := 4) hx hb dM_topRank_44 (by decide) ?_
        exact ih _ _ (by omega) (by rw [← he]; simp only [mf_top, if_neg c_17, if_pos c_27]) _ _ _ hw hl
      refine q_aload_n hx hb hl dM_topRank_30 rfl ?_
      refine mg C hw 14 l_M_20 (by decide) rfl dM_topRank_31 ?_
      refine q_iload_n hx hb hl dM_topRank_34 rfl ?_
      refine mr_2 C hw (by assumption) rfl dM_topRank_35 ?_
      refine lv_goto (tgt := 40) hx hb dM_topRank_36 (by decide) ?_
      refine q_istore_n hx hb hl dM_topRank_40 (by decide) (fun ls hl => ?_)
      refine q_inc hx hb hl dM_topRank_41 rfl (by decide) (fun ls hl => ?_)
      refine lv_goto (tgt := 4) hx hb dM_topRank_44 (by decide) ?_
      exact ih _ _ (by omega) (by rw [← he]; simp only [mf_top, if_neg c_17, if_neg c_27]) _ _ _ hw hl
  exact L4 N 0 _ (by omega) rfl _ _ _ hw hl
set_option maxHeartbeats 4000000 in
set_option maxRecDepth 100000 in
theorem m_turn (l : Launch) (hst : l.stackTraces = false) (D : va_G) (ct : Ct) (am : Nat → Nat) (N : Nat) (hN : N ≤ 16) (h0 : 0 < N) (th : Int32) (σ : St) (sz : Nat) (h4 : ix N (σ 0 0 4)) (top : Int32) : Kt l yM_turn cM_turn 4 (some .int) (r0 1) 0 0 D ct [.ref (am 0), .int top] sz (wM ct am N th σ) (fun v w => v = some (.int (mf_turn σ N top N 0)) ∧ w = wM ct am N th σ) (fun E w => False) := by
  refine kt_of hst (by decide) (Nat.le_of_ble_eq_true rfl) (by simp [Value.category]) ?_
  intro p e s m args below meth c A ls C hne hr hw hl Q hQ
  have hx := C.1
  have hb := C.2.1
  refine lv_iconst (v := 1) hx hb dM_turn_0 (by decide) ?_
  refine q_istore_n hx hb hl dM_turn_1 (by decide) (fun ls hl => ?_)
  have L2 : ∀ (n : Nat) (j : Nat), j + n = N → mf_turn σ N top n j = mf_turn σ N top N 0 → ∀ (H : Heap) (locs : List Loc) (ls : Array Slot), wl D A s (wM ct am N th σ) H locs → lq ls 4 [some (.ref (am 0)), some (.int top), some (.int (nI (j + 1))), none] → W p l e (r0 1) s m args below meth c H locs 0 0 Q (F0 m 2 ls []) := by
    intro n
    induction n with
    | zero =>
      intro j hn he H locs ls hw hl
      refine q_iload_n hx hb hl dM_turn_2 rfl ?_
      refine q_aload_n hx hb hl dM_turn_3 rfl ?_
      refine mg C hw 1 l_M_57 (by decide) rfl dM_turn_4 ?_
      refine lv_icmp_gt (tgt := 48) hx hb dM_turn_7 (by decide) (fun c_7 => ?_) (fun q9 => absurd (nI_lt (by omega) (by omega)) q9)
      refine lv_iconst (v := -1) hx hb dM_turn_48 (by decide) ?_
      exact tr_i hQ C hw hr (Nat.le_of_ble_eq_true rfl) (Nat.le_of_ble_eq_true rfl) dM_turn_49 ⟨by rw [← he]; rfl, rfl⟩
    | succ n ih =>
      intro j hn he H locs ls hw hl
      have hm : (mf_L σ + j) % N < N := Nat.mod_lt _ h0
      refine q_iload_n hx hb hl dM_turn_2 rfl ?_
      refine q_aload_n hx hb hl dM_turn_3 rfl ?_
      refine mg C hw 1 l_M_57 (by decide) rfl dM_turn_4 ?_
      refine lv_icmp_gt (tgt := 48) hx hb dM_turn_7 (by decide) (fun q9 => absurd q9 (nI_nlt (by omega) (by omega))) (fun c_7 => ?_)
      refine q_aload_n hx hb hl dM_turn_10 rfl ?_
      refine mg C hw 10 l_M_7 (by decide) rfl dM_turn_11 ?_
      refine q_iload_n hx hb hl dM_turn_14 rfl ?_
      refine lv_iadd hx hb dM_turn_15 ?_
      refine q_aload_n hx hb hl dM_turn_16 rfl ?_
      refine mg C hw 1 l_M_57 (by decide) rfl dM_turn_17 ?_
      refine lv_irem hx hb dM_turn_20 (nI_ne0 h0 (by omega)) ?_
      refine q_istore_n hx hb hl dM_turn_21 (by decide) (fun ls hl => ?_)
      refine q_aload_n hx hb hl dM_turn_22 rfl ?_
      refine q_iload_n hx hb hl dM_turn_23 rfl ?_
      refine tc_E (tc_V C hl (m_can l hst D ct am N hN h0 th σ _ ((mf_L σ + j) % N) (by omega) _ (turn_ix hN h0 (by omega) h4)) hw.1 hw.2.1 hw.2.2 g_M_89 (re_M C hw) hv_M_canGo rfl rfl ⟨(Nat.le_of_ble_eq_true rfl), (Nat.le_of_ble_eq_true rfl)⟩ (Nat.le_of_ble_eq_true rfl) ⟨(Nat.le_of_ble_eq_true rfl), (Nat.le_of_ble_eq_true rfl)⟩ dM_turn_24 rfl) C hw (fun E ce q9 w1 H locs hp hw h1 h2 h3 => ?_) (fun v w1 H locs hp hw => ?_)
      · exact hp.elim
      obtain ⟨rfl, rfl⟩ := hp
      dsimp only [Option.toList_some, Option.toList_none, List.cons_append, List.nil_append]
      refine lv_if_eq (tgt := 42) hx hb dM_turn_27 (by decide) (fun c_27 => ?_) (fun c_27 => ?_)
      · refine q_inc hx hb hl dM_turn_42 rfl (by decide) (fun ls hl => ?_)
        refine lv_goto (tgt := 2) hx hb dM_turn_45 (by decide) ?_
        exact ih _ (by omega) (by rw [← he]; simp only [mf_turn, if_pos c_27]) _ _ _ hw (hl.drop 3)
      refine q_aload_n hx hb hl dM_turn_30 rfl ?_
      refine mg C hw 14 l_M_20 (by decide) rfl dM_turn_31 ?_
      refine q_iload_n hx hb hl dM_turn_34 rfl ?_
      refine mr_2 C hw (t := (mf_L σ + j) % N) (by omega) (turn_ix hN h0 (by omega) h4) dM_turn_35 ?_
      refine q_iload_n hx hb hl dM_turn_36 rfl ?_
      refine lv_icmp_ne (tgt := 42) hx hb dM_turn_37 (by decide) (fun c_37 => ?_) (fun c_37 => ?_)
      · refine q_inc hx hb hl dM_turn_42 rfl (by decide) (fun ls hl => ?_)
        refine lv_goto (tgt := 2) hx hb dM_turn_45 (by decide) ?_
        exact ih _ (by omega) (by rw [← he]; simp only [mf_turn, if_neg c_27, if_neg c_37]) _ _ _ hw (hl.drop 3)
      refine q_iload_n hx hb hl dM_turn_40 rfl ?_
      exact tr_i hQ C hw hr (Nat.le_of_ble_eq_true rfl) (Nat.le_of_ble_eq_true rfl) dM_turn_41 ⟨by rw [turn_ix hN h0 (by omega) h4, ← he]; simp only [mf_turn, if_neg c_27, if_pos c_37], rfl⟩
  exact L2 N 0 (by omega) rfl _ _ _ hw hl
set_option maxHeartbeats 4000000 in
set_option maxRecDepth 100000 in
theorem m_few (l : Launch) (hst : l.stackTraces = false) (D : va_G) (ct : Ct) (am : Nat → Nat) (N : Nat) (hN : N ≤ 16) (h0 : 0 < N) (th : Int32) (σ : St) (sz : Nat) (top y : Int32) : Kt l yM_fewest cM_fewest 7 (some .int) (r0 1) 0 0 D ct [.ref (am 0), .int top, .int y] sz (wM ct am N th σ) (fun v w => v = some (.int (mf_few σ top y N (-1))) ∧ w = wM ct am N th σ) (fun E w => False) := by
  refine kt_of hst (by decide) (Nat.le_of_ble_eq_true rfl) (by simp [Value.category]) ?_
  intro p e s m args below meth c A ls C hne hr hw hl Q hQ
  have hx := C.1
  have hb := C.2.1
  refine lv_iconst (v := -1) hx hb dM_fewest_0 (by decide) ?_
  refine q_istore_n hx hb hl dM_fewest_1 (by decide) (fun ls hl => ?_)
  refine q_aload_n hx hb hl dM_fewest_2 rfl ?_
  refine mg C hw 1 l_M_57 (by decide) rfl dM_fewest_3 ?_
  refine lv_iconst (v := 1) hx hb dM_fewest_6 (by decide) ?_
  refine lv_isub hx hb dM_fewest_7 ?_
  refine q_istore hx hb hl dM_fewest_8 (by decide) (fun ls hl => ?_)
  have L10 : ∀ (n : Nat) (b : Int32), n ≤ N → mf_few σ top y n b = mf_few σ top y N (-1) → ix N b → ∀ (H : Heap) (locs : List Loc) (ls : Array Slot), wl D A s (wM ct am N th σ) H locs → lq ls 7 [some (.ref (am 0)), some (.int top), some (.int y), some (.int b), some (.int (dn n)), none, none] → W p l e (r0 1) s m args below meth c H locs 0 0 Q (F0 m 10 ls []) := by
    intro n
    induction n with
    | zero =>
      intro b hn he hb9 H locs ls hw hl
      refine q_iload hx hb hl dM_fewest_10 rfl ?_
      refine lv_if_lt (tgt := 104) hx hb dM_fewest_12 (by decide) (fun c_12 => ?_) (fun q9 => absurd dn_0 q9)
      refine q_iload_n hx hb hl dM_fewest_104 rfl ?_
      exact tr_i hQ C hw hr (Nat.le_of_ble_eq_true rfl) (Nat.le_of_ble_eq_true rfl) dM_fewest_105 ⟨by rw [← he]; rfl, rfl⟩
    | succ n ih =>
      intro b hn he hb9 H locs ls hw hl
      have ht16 : n < 16 := by omega
      have ht : n < N := by omega
      rw [dn_s] at hl
      refine q_iload hx hb hl dM_fewest_10 rfl ?_
      refine lv_if_lt (tgt := 104) hx hb dM_fewest_12 (by decide) (fun q9 => absurd q9 (nI_pos (by omega))) (fun c_12 => ?_)
      refine q_iload_n hx hb hl dM_fewest_15 rfl ?_
      refine lv_if_eq (tgt := 29) hx hb dM_fewest_16 (by decide) (fun c_16 => ?_) (fun c_16 => ?_)
      · refine q_aload_n hx hb hl dM_fewest_29 rfl ?_
        refine mg C hw 19 l_M_36 (by decide) rfl dM_fewest_30 ?_
        refine q_iload hx hb hl dM_fewest_33 rfl ?_
        refine mr_7 C hw (by assumption) rfl dM_fewest_35 ?_
        refine q_istore hx hb hl dM_fewest_36 (by decide) (fun ls hl => ?_)
        refine q_iload_n hx hb hl dM_fewest_38 rfl ?_
        refine lv_if_ge (tgt := 47) hx hb dM_fewest_39 (by decide) (fun c_39 => ?_) (fun c_39 => ?_)
        · refine q_iload_n hx hb hl dM_fewest_47 rfl ?_
          refine lv_if_eq (tgt := 60) hx hb dM_fewest_48 (by decide) (fun c_48 => ?_) (fun q9 => absurd c_16 q9)
          obtain ⟨h6, h7⟩ := ix_nn hN hb9 (i32_nlt c_39)
          refine q_aload_n hx hb hl dM_fewest_60 rfl ?_
          refine mg C hw 19 l_M_36 (by decide) rfl dM_fewest_61 ?_
          refine q_iload_n hx hb hl dM_fewest_64 rfl ?_
          refine mr_7 C hw (t := b.toNatClampNeg) (by omega) h7 dM_fewest_65 ?_
          refine q_istore hx hb hl dM_fewest_66 (by decide) (fun ls hl => ?_)
          refine q_aload_n hx hb hl dM_fewest_68 rfl ?_
          refine q_iload hx hb hl dM_fewest_69 rfl ?_
          refine tc_E (tc_V C hl (m_can l hst D ct am N hN h0 th σ _ n (by omega) _ rfl) hw.1 hw.2.1 hw.2.2 g_M_89 (re_M C hw) hv_M_canGo rfl rfl ⟨(Nat.le_of_ble_eq_true rfl), (Nat.le_of_ble_eq_true rfl)⟩ (Nat.le_of_ble_eq_true rfl) ⟨(Nat.le_of_ble_eq_true rfl), (Nat.le_of_ble_eq_true rfl)⟩ dM_fewest_71 rfl) C hw (fun E ce q9 w1 H locs hp hw h1 h2 h3 => ?_) (fun v w1 H locs hp hw => ?_)
          · exact hp.elim
          obtain ⟨rfl, rfl⟩ := hp
          dsimp only [Option.toList_some, Option.toList_none, List.cons_append, List.nil_append]
          refine lv_if_eq (tgt := 98) hx hb dM_fewest_74 (by decide) (fun c_74 => ?_) (fun c_74 => ?_)
          · refine q_incm hx hb hl dM_fewest_98 rfl (by decide) (fun ls hl => ?_)
            refine lv_goto (tgt := 10) hx hb dM_fewest_101 (by decide) ?_
            exact ih _ (by omega) (by rw [← he]; simp only [mf_few, mf_b, mf_v, if_pos c_16, if_pos c_39, if_pos c_74]) (by first | exact hb9 | exact ix_t (by omega)) _ _ _ hw ((hl.drop 5).drop 6)
          refine q_aload_n hx hb hl dM_fewest_77 rfl ?_
          refine mg C hw 14 l_M_20 (by decide) rfl dM_fewest_78 ?_
          refine q_iload hx hb hl dM_fewest_81 rfl ?_
          refine mr_2 C hw (by assumption) rfl dM_fewest_83 ?_
          refine q_iload_n hx hb hl dM_fewest_84 rfl ?_
          refine lv_icmp_ne (tgt := 98) hx hb dM_fewest_85 (by decide) (fun c_85 => ?_) (fun c_85 => ?_)
          · refine q_incm hx hb hl dM_fewest_98 rfl (by decide) (fun ls hl => ?_)
            refine lv_goto (tgt := 10) hx hb dM_fewest_101 (by decide) ?_
            exact ih _ (by omega) (by rw [← he]; simp only [mf_few, mf_b, mf_v, if_pos c_16, if_pos c_39, if_neg c_74, if_neg c_85]) (by first | exact hb9 | exact ix_t (by omega)) _ _ _ hw ((hl.drop 5).drop 6)
          refine q_iload hx hb hl dM_fewest_88 rfl ?_
          refine q_iload hx hb hl dM_fewest_90 rfl ?_
          refine lv_icmp_gt (tgt := 98) hx hb dM_fewest_92 (by decide) (fun c_92 => ?_) (fun c_92 => ?_)
          · refine q_incm hx hb hl dM_fewest_98 rfl (by decide) (fun ls hl => ?_)
            refine lv_goto (tgt := 10) hx hb dM_fewest_101 (by decide) ?_
            exact ih _ (by omega) (by rw [← he]; simp only [mf_few, mf_b, mf_v, if_pos c_16, if_pos c_39, if_neg c_74, if_pos c_85, if_pos c_92]) (by first | exact hb9 | exact ix_t (by omega)) _ _ _ hw ((hl.drop 5).drop 6)
          refine q_iload hx hb hl dM_fewest_95 rfl ?_
          refine q_istore_n hx hb hl dM_fewest_97 (by decide) (fun ls hl => ?_)
          refine q_incm hx hb hl dM_fewest_98 rfl (by decide) (fun ls hl => ?_)
          refine lv_goto (tgt := 10) hx hb dM_fewest_101 (by decide) ?_
          exact ih _ (by omega) (by rw [← he]; simp only [mf_few, mf_b, mf_v, if_pos c_16, if_pos c_39, if_neg c_74, if_pos c_85, if_neg c_92]) (by first | exact hb9 | exact ix_t (by omega)) _ _ _ hw ((hl.drop 5).drop 6)
        refine q_iload hx hb hl dM_fewest_42 rfl ?_
        refine lv_goto (tgt := 66) hx hb dM_fewest_44 (by decide) ?_
        refine q_istore hx hb hl dM_fewest_66 (by decide) (fun ls hl => ?_)
        refine q_aload_n hx hb hl dM_fewest_68 rfl ?_
        refine q_iload hx hb hl dM_fewest_69 rfl ?_
        refine tc_E (tc_V C hl (m_can l hst D ct am N hN h0 th σ _ n (by omega) _ rfl) hw.1 hw.2.1 hw.2.2 g_M_89 (re_M C hw) hv_M_canGo rfl rfl ⟨(Nat.le_of_ble_eq_true rfl), (Nat.le_of_ble_eq_true rfl)⟩ (Nat.le_of_ble_eq_true rfl) ⟨(Nat.le_of_ble_eq_true rfl), (Nat.le_of_ble_eq_true rfl)⟩ dM_fewest_71 rfl) C hw (fun E ce q9 w1 H locs hp hw h1 h2 h3 => ?_) (fun v w1 H locs hp hw => ?_)
        · exact hp.elim
        obtain ⟨rfl, rfl⟩ := hp
        dsimp only [Option.toList_some, Option.toList_none, List.cons_append, List.nil_append]
        refine lv_if_eq (tgt := 98) hx hb dM_fewest_74 (by decide) (fun c_74 => ?_) (fun c_74 => ?_)
        · refine q_incm hx hb hl dM_fewest_98 rfl (by decide) (fun ls hl => ?_)
          refine lv_goto (tgt := 10) hx hb dM_fewest_101 (by decide) ?_
          exact ih _ (by omega) (by rw [← he]; simp only [mf_few, mf_b, mf_v, if_pos c_16, if_neg c_39, if_pos c_74]) (by first | exact hb9 | exact ix_t (by omega)) _ _ _ hw ((hl.drop 5).drop 6)
        refine q_aload_n hx hb hl dM_fewest_77 rfl ?_
        refine mg C hw 14 l_M_20 (by decide) rfl dM_fewest_78 ?_
        refine q_iload hx hb hl dM_fewest_81 rfl ?_
        refine mr_2 C hw (by assumption) rfl dM_fewest_83 ?_
        refine q_iload_n hx hb hl dM_fewest_84 rfl ?_
        refine lv_icmp_ne (tgt := 98) hx hb dM_fewest_85 (by decide) (fun c_85 => ?_) (fun c_85 => ?_)
        · refine q_incm hx hb hl dM_fewest_98 rfl (by decide) (fun ls hl => ?_)
          refine lv_goto (tgt := 10) hx hb dM_fewest_101 (by decide) ?_
          exact ih _ (by omega) (by rw [← he]; simp only [mf_few, mf_b, mf_v, if_pos c_16, if_neg c_39, if_neg c_74, if_neg c_85]) (by first | exact hb9 | exact ix_t (by omega)) _ _ _ hw ((hl.drop 5).drop 6)
        refine q_iload hx hb hl dM_fewest_88 rfl ?_
        refine q_iload hx hb hl dM_fewest_90 rfl ?_
        refine lv_icmp_gt (tgt := 98) hx hb dM_fewest_92 (by decide) (fun c_92 => ?_) (fun c_92 => ?_)
        · refine q_incm hx hb hl dM_fewest_98 rfl (by decide) (fun ls hl => ?_)
          refine lv_goto (tgt := 10) hx hb dM_fewest_101 (by decide) ?_
          exact ih _ (by omega) (by rw [← he]; simp only [mf_few, mf_b, mf_v, if_pos c_16, if_neg c_39, if_neg c_74, if_pos c_85, if_pos c_92]) (by first | exact hb9 | exact ix_t (by omega)) _ _ _ hw ((hl.drop 5).drop 6)
        refine q_iload hx hb hl dM_fewest_95 rfl ?_
        refine q_istore_n hx hb hl dM_fewest_97 (by decide) (fun ls hl => ?_)
        refine q_incm hx hb hl dM_fewest_98 rfl (by decide) (fun ls hl => ?_)
        refine lv_goto (tgt := 10) hx hb dM_fewest_101 (by decide) ?_
        exact ih _ (by omega) (by rw [← he]; simp only [mf_few, mf_b, mf_v, if_pos c_16, if_neg c_39, if_neg c_74, if_pos c_85, if_neg c_92]) (by first | exact hb9 | exact ix_t (by omega)) _ _ _ hw ((hl.drop 5).drop 6)
      refine q_aload_n hx hb hl dM_fewest_19 rfl ?_
      refine mg C hw 16 l_M_27 (by decide) rfl dM_fewest_20 ?_
      refine q_iload hx hb hl dM_fewest_23 rfl ?_
      refine mr_4 C hw (by assumption) rfl dM_fewest_25 ?_
      refine lv_goto (tgt := 36) hx hb dM_fewest_26 (by decide) ?_
      refine q_istore hx hb hl dM_fewest_36 (by decide) (fun ls hl => ?_)
      refine q_iload_n hx hb hl dM_fewest_38 rfl ?_
      refine lv_if_ge (tgt := 47) hx hb dM_fewest_39 (by decide) (fun c_39 => ?_) (fun c_39 => ?_)
      · refine q_iload_n hx hb hl dM_fewest_47 rfl ?_
        refine lv_if_eq (tgt := 60) hx hb dM_fewest_48 (by decide) (fun q9 => absurd q9 c_16) (fun c_48 => ?_)
        obtain ⟨h6, h7⟩ := ix_nn hN hb9 (i32_nlt c_39)
        refine q_aload_n hx hb hl dM_fewest_51 rfl ?_
        refine mg C hw 16 l_M_27 (by decide) rfl dM_fewest_52 ?_
        refine q_iload_n hx hb hl dM_fewest_55 rfl ?_
        refine mr_4 C hw (t := b.toNatClampNeg) (by omega) h7 dM_fewest_56 ?_
        refine lv_goto (tgt := 66) hx hb dM_fewest_57 (by decide) ?_
        refine q_istore hx hb hl dM_fewest_66 (by decide) (fun ls hl => ?_)
        refine q_aload_n hx hb hl dM_fewest_68 rfl ?_
        refine q_iload hx hb hl dM_fewest_69 rfl ?_
        refine tc_E (tc_V C hl (m_can l hst D ct am N hN h0 th σ _ n (by omega) _ rfl) hw.1 hw.2.1 hw.2.2 g_M_89 (re_M C hw) hv_M_canGo rfl rfl ⟨(Nat.le_of_ble_eq_true rfl), (Nat.le_of_ble_eq_true rfl)⟩ (Nat.le_of_ble_eq_true rfl) ⟨(Nat.le_of_ble_eq_true rfl), (Nat.le_of_ble_eq_true rfl)⟩ dM_fewest_71 rfl) C hw (fun E ce q9 w1 H locs hp hw h1 h2 h3 => ?_) (fun v w1 H locs hp hw => ?_)
        · exact hp.elim
        obtain ⟨rfl, rfl⟩ := hp
        dsimp only [Option.toList_some, Option.toList_none, List.cons_append, List.nil_append]
        refine lv_if_eq (tgt := 98) hx hb dM_fewest_74 (by decide) (fun c_74 => ?_) (fun c_74 => ?_)
        · refine q_incm hx hb hl dM_fewest_98 rfl (by decide) (fun ls hl => ?_)
          refine lv_goto (tgt := 10) hx hb dM_fewest_101 (by decide) ?_
          exact ih _ (by omega) (by rw [← he]; simp only [mf_few, mf_b, mf_v, if_neg c_16, if_pos c_39, if_pos c_74]) (by first | exact hb9 | exact ix_t (by omega)) _ _ _ hw ((hl.drop 5).drop 6)
        refine q_aload_n hx hb hl dM_fewest_77 rfl ?_
        refine mg C hw 14 l_M_20 (by decide) rfl dM_fewest_78 ?_
        refine q_iload hx hb hl dM_fewest_81 rfl ?_
        refine mr_2 C hw (by assumption) rfl dM_fewest_83 ?_
        refine q_iload_n hx hb hl dM_fewest_84 rfl ?_
        refine lv_icmp_ne (tgt := 98) hx hb dM_fewest_85 (by decide) (fun c_85 => ?_) (fun c_85 => ?_)
        · refine q_incm hx hb hl dM_fewest_98 rfl (by decide) (fun ls hl => ?_)
          refine lv_goto (tgt := 10) hx hb dM_fewest_101 (by decide) ?_
          exact ih _ (by omega) (by rw [← he]; simp only [mf_few, mf_b, mf_v, if_neg c_16, if_pos c_39, if_neg c_74, if_neg c_85]) (by first | exact hb9 | exact ix_t (by omega)) _ _ _ hw ((hl.drop 5).drop 6)
        refine q_iload hx hb hl dM_fewest_88 rfl ?_
        refine q_iload hx hb hl dM_fewest_90 rfl ?_
        refine lv_icmp_gt (tgt := 98) hx hb dM_fewest_92 (by decide) (fun c_92 => ?_) (fun c_92 => ?_)
        · refine q_incm hx hb hl dM_fewest_98 rfl (by decide) (fun ls hl => ?_)
          refine lv_goto (tgt := 10) hx hb dM_fewest_101 (by decide) ?_
          exact ih _ (by omega) (by rw [← he]; simp only [mf_few, mf_b, mf_v, if_neg c_16, if_pos c_39, if_neg c_74, if_pos c_85, if_pos c_92]) (by first | exact hb9 | exact ix_t (by omega)) _ _ _ hw ((hl.drop 5).drop 6)
        refine q_iload hx hb hl dM_fewest_95 rfl ?_
        refine q_istore_n hx hb hl dM_fewest_97 (by decide) (fun ls hl => ?_)
        refine q_incm hx hb hl dM_fewest_98 rfl (by decide) (fun ls hl => ?_)
        refine lv_goto (tgt := 10) hx hb dM_fewest_101 (by decide) ?_
        exact ih _ (by omega) (by rw [← he]; simp only [mf_few, mf_b, mf_v, if_neg c_16, if_pos c_39, if_neg c_74, if_pos c_85, if_neg c_92]) (by first | exact hb9 | exact ix_t (by omega)) _ _ _ hw ((hl.drop 5).drop 6)
      refine q_iload hx hb hl dM_fewest_42 rfl ?_
      refine lv_goto (tgt := 66) hx hb dM_fewest_44 (by decide) ?_
      refine q_istore hx hb hl dM_fewest_66 (by decide) (fun ls hl => ?_)
      refine q_aload_n hx hb hl dM_fewest_68 rfl ?_
      refine q_iload hx hb hl dM_fewest_69 rfl ?_
      refine tc_E (tc_V C hl (m_can l hst D ct am N hN h0 th σ _ n (by omega) _ rfl) hw.1 hw.2.1 hw.2.2 g_M_89 (re_M C hw) hv_M_canGo rfl rfl ⟨(Nat.le_of_ble_eq_true rfl), (Nat.le_of_ble_eq_true rfl)⟩ (Nat.le_of_ble_eq_true rfl) ⟨(Nat.le_of_ble_eq_true rfl), (Nat.le_of_ble_eq_true rfl)⟩ dM_fewest_71 rfl) C hw (fun E ce q9 w1 H locs hp hw h1 h2 h3 => ?_) (fun v w1 H locs hp hw => ?_)
      · exact hp.elim
      obtain ⟨rfl, rfl⟩ := hp
      dsimp only [Option.toList_some, Option.toList_none, List.cons_append, List.nil_append]
      refine lv_if_eq (tgt := 98) hx hb dM_fewest_74 (by decide) (fun c_74 => ?_) (fun c_74 => ?_)
      · refine q_incm hx hb hl dM_fewest_98 rfl (by decide) (fun ls hl => ?_)
        refine lv_goto (tgt := 10) hx hb dM_fewest_101 (by decide) ?_
        exact ih _ (by omega) (by rw [← he]; simp only [mf_few, mf_b, mf_v, if_neg c_16, if_neg c_39, if_pos c_74]) (by first | exact hb9 | exact ix_t (by omega)) _ _ _ hw ((hl.drop 5).drop 6)
      refine q_aload_n hx hb hl dM_fewest_77 rfl ?_
      refine mg C hw 14 l_M_20 (by decide) rfl dM_fewest_78 ?_
      refine q_iload hx hb hl dM_fewest_81 rfl ?_
      refine mr_2 C hw (by assumption) rfl dM_fewest_83 ?_
      refine q_iload_n hx hb hl dM_fewest_84 rfl ?_
      refine lv_icmp_ne (tgt := 98) hx hb dM_fewest_85 (by decide) (fun c_85 => ?_) (fun c_85 => ?_)
      · refine q_incm hx hb hl dM_fewest_98 rfl (by decide) (fun ls hl => ?_)
        refine lv_goto (tgt := 10) hx hb dM_fewest_101 (by decide) ?_
        exact ih _ (by omega) (by rw [← he]; simp only [mf_few, mf_b, mf_v, if_neg c_16, if_neg c_39, if_neg c_74, if_neg c_85]) (by first | exact hb9 | exact ix_t (by omega)) _ _ _ hw ((hl.drop 5).drop 6)
      refine q_iload hx hb hl dM_fewest_88 rfl ?_
      refine q_iload hx hb hl dM_fewest_90 rfl ?_
      refine lv_icmp_gt (tgt := 98) hx hb dM_fewest_92 (by decide) (fun c_92 => ?_) (fun c_92 => ?_)
      · refine q_incm hx hb hl dM_fewest_98 rfl (by decide) (fun ls hl => ?_)
        refine lv_goto (tgt := 10) hx hb dM_fewest_101 (by decide) ?_
        exact ih _ (by omega) (by rw [← he]; simp only [mf_few, mf_b, mf_v, if_neg c_16, if_neg c_39, if_neg c_74, if_pos c_85, if_pos c_92]) (by first | exact hb9 | exact ix_t (by omega)) _ _ _ hw ((hl.drop 5).drop 6)
      refine q_iload hx hb hl dM_fewest_95 rfl ?_
      refine q_istore_n hx hb hl dM_fewest_97 (by decide) (fun ls hl => ?_)
      refine q_incm hx hb hl dM_fewest_98 rfl (by decide) (fun ls hl => ?_)
      refine lv_goto (tgt := 10) hx hb dM_fewest_101 (by decide) ?_
      exact ih _ (by omega) (by rw [← he]; simp only [mf_few, mf_b, mf_v, if_neg c_16, if_neg c_39, if_neg c_74, if_pos c_85, if_neg c_92]) (by first | exact hb9 | exact ix_t (by omega)) _ _ _ hw ((hl.drop 5).drop 6)
  exact L10 N _ (Nat.le_refl N) rfl ix_m _ _ _ hw (by rw [← dn_N]; exact hl)
set_option maxHeartbeats 4000000 in
set_option maxRecDepth 100000 in
theorem m_dr (l : Launch) (hst : l.stackTraces = false) (D : va_G) (ct : Ct) (am : Nat → Nat) (N : Nat) (hN : N ≤ 16) (h0 : 0 < N) (th : Int32) (σ : St) (sz : Nat) (top : Int32) (hm : ¬ mf_cnt σ top N 0 0 = 0) : Kt l yM_drawn cM_drawn 5 (some .int) (r0 1) 0 0 D ct [.ref (am 0), .int top] sz (wM ct am N th σ) (fun v w => v = some (.int (mf_drA N top σ)) ∧ w = wM ct am N th (su σ 0 0 3 (tf_x σ))) (fun E w => False) := by
  refine kt_of hst (by decide) (Nat.le_of_ble_eq_true rfl) (by simp [Value.category]) ?_
  intro p e s m args below meth c A ls C hne hr hw hl Q hQ
  have hx := C.1
  have hb := C.2.1
  refine lv_iconst (v := 0) hx hb dM_drawn_0 (by decide) ?_
  refine q_istore_n hx hb hl dM_drawn_1 (by decide) (fun ls hl => ?_)
  refine lv_iconst (v := 0) hx hb dM_drawn_2 (by decide) ?_
  refine q_istore_n hx hb hl dM_drawn_3 (by decide) (fun ls hl => ?_)
  have L4 : ∀ (n : Nat) (t : Nat) (k : Int32), t + n = N → mf_cnt σ top n t k = mf_cnt σ top N 0 0 → ∀ (H : Heap) (locs : List Loc) (ls : Array Slot), wl D A s (wM ct am N th σ) H locs → lq ls 5 [some (.ref (am 0)), some (.int top), some (.int k), some (.int (nI t)), none] → W p l e (r0 1) s m args below meth c H locs 0 0 Q (F0 m 4 ls []) := by
    intro n
    induction n with
    | zero =>
      intro t k hn he H locs ls hw hl
      refine q_iload_n hx hb hl dM_drawn_4 rfl ?_
      refine q_aload_n hx hb hl dM_drawn_5 rfl ?_
      refine mg C hw 1 l_M_57 (by decide) rfl dM_drawn_6 ?_
      refine lv_icmp_ge (tgt := 44) hx hb dM_drawn_9 (by decide) (fun c_9 => ?_) (fun q9 => absurd (nI_le (by omega) (by omega)) q9)
      have he2 : k = mf_cnt σ top N 0 0 := he
      refine q_aload_n hx hb hl dM_drawn_44 rfl ?_
      refine lv_ldc hx hb C.2.2.2.1 (C.2.2.2.2.1 _ k_M_92) dM_drawn_45 ?_
      refine q_aload_n hx hb hl dM_drawn_47 rfl ?_
      refine mg C hw 2 l_M_61 (by decide) rfl dM_drawn_48 ?_
      refine lv_imul hx hb dM_drawn_51 ?_
      refine lv_sipush (v := 12345) hx hb dM_drawn_52 (by decide) ?_
      refine lv_iadd hx hb dM_drawn_55 ?_
      refine lv_ldc hx hb C.2.2.2.1 (C.2.2.2.2.1 _ k_M_60) dM_drawn_56 ?_
      refine lv_iand hx hb dM_drawn_58 ?_
      refine mp_2 C hw l_M_61 dM_drawn_59 (fun H locs hw => ?_)
      refine q_aload_n hx hb hl dM_drawn_62 rfl ?_
      refine mg C hw 2 l_M_61 (by decide) rfl dM_drawn_63 ?_
      refine lv_ldc hx hb C.2.2.2.1 (C.2.2.2.2.1 _ k_M_93) dM_drawn_66 ?_
      refine lv_idiv hx hb dM_drawn_68 (by decide) ?_
      refine q_iload_n hx hb hl dM_drawn_69 rfl ?_
      refine lv_irem hx hb dM_drawn_70 (by rw [he2]; exact hm) ?_
      refine q_istore_n hx hb hl dM_drawn_71 (by decide) (fun ls hl => ?_)
      refine lv_iconst (v := 0) hx hb dM_drawn_72 (by decide) ?_
      refine q_istore hx hb hl dM_drawn_73 (by decide) (fun ls hl => ?_)
      have L75 : ∀ (n : Nat) (t : Nat) (j : Int32), t + n = N → mf_pick (su σ 0 0 3 (tf_x σ)) top n t j = mf_pick (su σ 0 0 3 (tf_x σ)) top N 0 (tf_x σ / 65536 - tf_x σ / 65536 / k * k) → ∀ (H : Heap) (locs : List Loc) (ls : Array Slot), wl D A s (wM ct am N th (su σ 0 0 3 (tf_x σ))) H locs → lq ls 5 [some (.ref (am 0)), some (.int top), some (.int k), some (.int j), some (.int (nI t))] → W p l e (r0 1) s m args below meth c H locs 0 0 Q (F0 m 75 ls []) := by
        intro n
        induction n with
        | zero =>
          intro t j hn he3 H locs ls hw hl
          refine q_iload hx hb hl dM_drawn_75 rfl ?_
          refine q_aload_n hx hb hl dM_drawn_77 rfl ?_
          refine mg C hw 1 l_M_57 (by decide) rfl dM_drawn_78 ?_
          refine lv_icmp_ge (tgt := 120) hx hb dM_drawn_81 (by decide) (fun c_81 => ?_) (fun q9 => absurd (nI_le (by omega) (by omega)) q9)
          refine lv_iconst (v := -1) hx hb dM_drawn_120 (by decide) ?_
          exact tr_i hQ C hw hr (Nat.le_of_ble_eq_true rfl) (Nat.le_of_ble_eq_true rfl) dM_drawn_121 ⟨by rw [mf_drA, ← he2, ← he3]; rfl, rfl⟩
        | succ n ih =>
          intro t j hn he3 H locs ls hw hl
          have ht : t < N := by omega
          have ht16 : t < 16 := by omega
          refine q_iload hx hb hl dM_drawn_75 rfl ?_
          refine q_aload_n hx hb hl dM_drawn_77 rfl ?_
          refine mg C hw 1 l_M_57 (by decide) rfl dM_drawn_78 ?_
          refine lv_icmp_ge (tgt := 120) hx hb dM_drawn_81 (by decide) (fun q9 => absurd q9 (nI_ge ht (by omega))) (fun c_81 => ?_)
          refine q_aload_n hx hb hl dM_drawn_84 rfl ?_
          refine q_iload hx hb hl dM_drawn_85 rfl ?_
          refine tc_E (tc_V C hl (m_can l hst D ct am N hN h0 th (su σ 0 0 3 (tf_x σ)) _ t (by omega) _ rfl) hw.1 hw.2.1 hw.2.2 g_M_89 (re_M C hw) hv_M_canGo rfl rfl ⟨(Nat.le_of_ble_eq_true rfl), (Nat.le_of_ble_eq_true rfl)⟩ (Nat.le_of_ble_eq_true rfl) ⟨(Nat.le_of_ble_eq_true rfl), (Nat.le_of_ble_eq_true rfl)⟩ dM_drawn_87 rfl) C hw (fun E ce q9 w1 H locs hp hw h1 h2 h3 => ?_) (fun v w1 H locs hp hw => ?_)
          · exact hp.elim
          obtain ⟨rfl, rfl⟩ := hp
          dsimp only [Option.toList_some, Option.toList_none, List.cons_append, List.nil_append]
          refine lv_if_eq (tgt := 114) hx hb dM_drawn_90 (by decide) (fun c_90 => ?_) (fun c_90 => ?_)
          · refine q_inc hx hb hl dM_drawn_114 rfl (by decide) (fun ls hl => ?_)
            refine lv_goto (tgt := 75) hx hb dM_drawn_117 (by decide) ?_
            exact ih _ _ (by omega) (by rw [← he3]; simp only [mf_pick, if_pos c_90]) _ _ _ hw hl
          refine q_aload_n hx hb hl dM_drawn_93 rfl ?_
          refine mg C hw 14 l_M_20 (by decide) rfl dM_drawn_94 ?_
          refine q_iload hx hb hl dM_drawn_97 rfl ?_
          refine mr_2 C hw (by assumption) rfl dM_drawn_99 ?_
          refine q_iload_n hx hb hl dM_drawn_100 rfl ?_
          refine lv_icmp_ne (tgt := 114) hx hb dM_drawn_101 (by decide) (fun c_101 => ?_) (fun c_101 => ?_)
          · refine q_inc hx hb hl dM_drawn_114 rfl (by decide) (fun ls hl => ?_)
            refine lv_goto (tgt := 75) hx hb dM_drawn_117 (by decide) ?_
            exact ih _ _ (by omega) (by rw [← he3]; simp only [mf_pick, if_neg c_90, if_neg c_101]) _ _ _ hw hl
          refine q_iload_n hx hb hl dM_drawn_104 rfl ?_
          refine lv_if_ne (tgt := 111) hx hb dM_drawn_105 (by decide) (fun c_105 => ?_) (fun c_105 => ?_)
          · refine q_incm hx hb hl dM_drawn_111 rfl (by decide) (fun ls hl => ?_)
            refine q_inc hx hb hl dM_drawn_114 rfl (by decide) (fun ls hl => ?_)
            refine lv_goto (tgt := 75) hx hb dM_drawn_117 (by decide) ?_
            exact ih _ _ (by omega) (by rw [← he3]; simp only [mf_pick, if_neg c_90, if_pos c_101, if_neg c_105]) _ _ _ hw hl
          refine q_iload hx hb hl dM_drawn_108 rfl ?_
          exact tr_i hQ C hw hr (Nat.le_of_ble_eq_true rfl) (Nat.le_of_ble_eq_true rfl) dM_drawn_110 ⟨by rw [mf_drA, ← he2, ← he3]; simp only [mf_pick, if_neg c_90, if_pos c_101, if_pos c_105], rfl⟩
      exact L75 N 0 _ (by omega) rfl _ _ _ hw hl
    | succ n ih =>
      intro t k hn he H locs ls hw hl
      have ht : t < N := by omega
      have ht16 : t < 16 := by omega
      refine q_iload_n hx hb hl dM_drawn_4 rfl ?_
      refine q_aload_n hx hb hl dM_drawn_5 rfl ?_
      refine mg C hw 1 l_M_57 (by decide) rfl dM_drawn_6 ?_
      refine lv_icmp_ge (tgt := 44) hx hb dM_drawn_9 (by decide) (fun q9 => absurd q9 (nI_ge ht (by omega))) (fun c_9 => ?_)
      refine q_iload_n hx hb hl dM_drawn_12 rfl ?_
      refine q_aload_n hx hb hl dM_drawn_13 rfl ?_
      refine q_iload_n hx hb hl dM_drawn_14 rfl ?_
      refine tc_E (tc_V C hl (m_can l hst D ct am N hN h0 th σ _ t (by omega) _ rfl) hw.1 hw.2.1 hw.2.2 g_M_89 (re_M C hw) hv_M_canGo rfl rfl ⟨(Nat.le_of_ble_eq_true rfl), (Nat.le_of_ble_eq_true rfl)⟩ (Nat.le_of_ble_eq_true rfl) ⟨(Nat.le_of_ble_eq_true rfl), (Nat.le_of_ble_eq_true rfl)⟩ dM_drawn_15 rfl) C hw (fun E ce q9 w1 H locs hp hw h1 h2 h3 => ?_) (fun v w1 H locs hp hw => ?_)
      · exact hp.elim
      obtain ⟨rfl, rfl⟩ := hp
      dsimp only [Option.toList_some, Option.toList_none, List.cons_append, List.nil_append]
      refine lv_if_eq (tgt := 35) hx hb dM_drawn_18 (by decide) (fun c_18 => ?_) (fun c_18 => ?_)
      · refine lv_iconst (v := 0) hx hb dM_drawn_35 (by decide) ?_
        refine lv_iadd hx hb dM_drawn_36 ?_
        refine q_istore_n hx hb hl dM_drawn_37 (by decide) (fun ls hl => ?_)
        refine q_inc hx hb hl dM_drawn_38 rfl (by decide) (fun ls hl => ?_)
        refine lv_goto (tgt := 4) hx hb dM_drawn_41 (by decide) ?_
        exact ih _ _ (by omega) (by rw [← he]; simp only [mf_cnt, if_pos c_18]) _ _ _ hw hl
      refine q_aload_n hx hb hl dM_drawn_21 rfl ?_
      refine mg C hw 14 l_M_20 (by decide) rfl dM_drawn_22 ?_
      refine q_iload_n hx hb hl dM_drawn_25 rfl ?_
      refine mr_2 C hw (by assumption) rfl dM_drawn_26 ?_
      refine q_iload_n hx hb hl dM_drawn_27 rfl ?_
      refine lv_icmp_ne (tgt := 35) hx hb dM_drawn_28 (by decide) (fun c_28 => ?_) (fun c_28 => ?_)
      · refine lv_iconst (v := 0) hx hb dM_drawn_35 (by decide) ?_
        refine lv_iadd hx hb dM_drawn_36 ?_
        refine q_istore_n hx hb hl dM_drawn_37 (by decide) (fun ls hl => ?_)
        refine q_inc hx hb hl dM_drawn_38 rfl (by decide) (fun ls hl => ?_)
        refine lv_goto (tgt := 4) hx hb dM_drawn_41 (by decide) ?_
        exact ih _ _ (by omega) (by rw [← he]; simp only [mf_cnt, if_neg c_18, if_neg c_28]) _ _ _ hw hl
      refine lv_iconst (v := 1) hx hb dM_drawn_31 (by decide) ?_
      refine lv_goto (tgt := 36) hx hb dM_drawn_32 (by decide) ?_
      refine lv_iadd hx hb dM_drawn_36 ?_
      refine q_istore_n hx hb hl dM_drawn_37 (by decide) (fun ls hl => ?_)
      refine q_inc hx hb hl dM_drawn_38 rfl (by decide) (fun ls hl => ?_)
      refine lv_goto (tgt := 4) hx hb dM_drawn_41 (by decide) ?_
      exact ih _ _ (by omega) (by rw [← he]; simp only [mf_cnt, if_neg c_18, if_pos c_28]) _ _ _ hw hl
  exact L4 N 0 _ (by omega) rfl _ _ _ hw hl
set_option maxHeartbeats 4000000 in
set_option maxRecDepth 100000 in
theorem m_ch (l : Launch) (hst : l.stackTraces = false) (D : va_G) (ct : Ct) (am : Nat → Nat) (N : Nat) (hN : N ≤ 16) (h0 : 0 < N) (th : Int32) (σ : St) (sz : Nat) (h4 : ix N (σ 0 0 4)) (hm : 0 ≤ mf_top σ N 0 (-1) → ¬ mf_cnt σ (mf_top σ N 0 (-1)) N 0 0 = 0) : Kt l yM_choose cM_choose 3 (some .int) (r0 2) 0 0 D ct [.ref (am 0)] sz (wM ct am N th σ) (fun v w => v = some (.int (mf_chA N σ)) ∧ w = wM ct am N th (mf_chS N σ)) (fun E w => False) := by
  refine kt_of hst (by decide) (Nat.le_of_ble_eq_true rfl) (by simp [Value.category]) ?_
  intro p e s m args below meth c A ls C hne hr hw hl Q hQ
  have hx := C.1
  have hb := C.2.1
  refine q_aload_n hx hb hl dM_choose_0 rfl ?_
  refine tc_E (tc_V C hl (m_top l hst D ct am N hN h0 th σ _) hw.1 hw.2.1 hw.2.2 g_M_94 (re_M C hw) hv_M_topRank rfl rfl ⟨(Nat.le_of_ble_eq_true rfl), (Nat.le_of_ble_eq_true rfl)⟩ (Nat.le_of_ble_eq_true rfl) ⟨(Nat.le_of_ble_eq_true rfl), (Nat.le_of_ble_eq_true rfl)⟩ dM_choose_1 rfl) C hw (fun E ce q9 w1 H locs hp hw h1 h2 h3 => ?_) (fun v w1 H locs hp hw => ?_)
  · exact hp.elim
  obtain ⟨rfl, rfl⟩ := hp
  dsimp only [Option.toList_some, Option.toList_none, List.cons_append, List.nil_append]
  refine q_istore_n hx hb hl dM_choose_4 (by decide) (fun ls hl => ?_)
  refine q_iload_n hx hb hl dM_choose_5 rfl ?_
  refine lv_if_ge (tgt := 11) hx hb dM_choose_6 (by decide) (fun c_6 => ?_) (fun c_6 => ?_)
  · refine q_aload_n hx hb hl dM_choose_11 rfl ?_
    refine tc_E (tc_V C hl (m_over l hst D ct am N hN h0 th σ _) hw.1 hw.2.1 hw.2.2 g_M_98 (re_M C hw) hv_M_overdue rfl rfl ⟨(Nat.le_of_ble_eq_true rfl), (Nat.le_of_ble_eq_true rfl)⟩ (Nat.le_of_ble_eq_true rfl) ⟨(Nat.le_of_ble_eq_true rfl), (Nat.le_of_ble_eq_true rfl)⟩ dM_choose_12 rfl) C hw (fun E ce q9 w1 H locs hp hw h1 h2 h3 => ?_) (fun v w1 H locs hp hw => ?_)
    · exact hp.elim
    obtain ⟨rfl, rfl⟩ := hp
    dsimp only [Option.toList_some, Option.toList_none, List.cons_append, List.nil_append]
    refine q_istore_n hx hb hl dM_choose_15 (by decide) (fun ls hl => ?_)
    refine q_iload_n hx hb hl dM_choose_16 rfl ?_
    refine lv_if_lt (tgt := 22) hx hb dM_choose_17 (by decide) (fun c_17 => ?_) (fun c_17 => ?_)
    · refine q_aload_n hx hb hl dM_choose_22 rfl ?_
      refine mg C hw 3 l_M_75 (by decide) rfl dM_choose_23 ?_
      refine lv_if_ne (tgt := 37) hx hb dM_choose_26 (by decide) (fun c_26 => ?_) (fun c_26 => ?_)
      · refine q_aload_n hx hb hl dM_choose_37 rfl ?_
        refine mg C hw 3 l_M_75 (by decide) rfl dM_choose_38 ?_
        refine lv_iconst (v := 3) hx hb dM_choose_41 (by decide) ?_
        refine lv_icmp_ne (tgt := 53) hx hb dM_choose_42 (by decide) (fun c_42 => ?_) (fun c_42 => ?_)
        · refine q_aload_n hx hb hl dM_choose_53 rfl ?_
          refine q_iload_n hx hb hl dM_choose_54 rfl ?_
          refine q_aload_n hx hb hl dM_choose_55 rfl ?_
          refine mg C hw 3 l_M_75 (by decide) rfl dM_choose_56 ?_
          refine lv_iconst (v := 2) hx hb dM_choose_59 (by decide) ?_
          refine lv_icmp_ne (tgt := 67) hx hb dM_choose_60 (by decide) (fun c_60 => ?_) (fun c_60 => ?_)
          · refine lv_iconst (v := 0) hx hb dM_choose_67 (by decide) ?_
            refine tc_E (tc_V C hl (m_few l hst D ct am N hN h0 th σ _ (mf_top σ N 0 (-1)) _) hw.1 hw.2.1 hw.2.2 g_M_107 (re_M C hw) hv_M_fewest rfl rfl ⟨(Nat.le_of_ble_eq_true rfl), (Nat.le_of_ble_eq_true rfl)⟩ (Nat.le_of_ble_eq_true rfl) ⟨(Nat.le_of_ble_eq_true rfl), (Nat.le_of_ble_eq_true rfl)⟩ dM_choose_68 rfl) C hw (fun E ce q9 w1 H locs hp hw h1 h2 h3 => ?_) (fun v w1 H locs hp hw => ?_)
            · exact hp.elim
            obtain ⟨rfl, rfl⟩ := hp
            dsimp only [Option.toList_some, Option.toList_none, List.cons_append, List.nil_append]
            exact tr_i hQ C hw hr (Nat.le_of_ble_eq_true rfl) (Nat.le_of_ble_eq_true rfl) dM_choose_71 ⟨by simp only [mf_chA, mf_y, if_pos c_6, if_pos c_17, if_neg c_26, if_neg c_42, if_neg c_60], by simp only [mf_chS, if_pos c_6, if_pos c_17, if_neg c_26, if_neg c_42, if_neg c_60]⟩
          refine lv_iconst (v := 1) hx hb dM_choose_63 (by decide) ?_
          refine lv_goto (tgt := 68) hx hb dM_choose_64 (by decide) ?_
          refine tc_E (tc_V C hl (m_few l hst D ct am N hN h0 th σ _ (mf_top σ N 0 (-1)) _) hw.1 hw.2.1 hw.2.2 g_M_107 (re_M C hw) hv_M_fewest rfl rfl ⟨(Nat.le_of_ble_eq_true rfl), (Nat.le_of_ble_eq_true rfl)⟩ (Nat.le_of_ble_eq_true rfl) ⟨(Nat.le_of_ble_eq_true rfl), (Nat.le_of_ble_eq_true rfl)⟩ dM_choose_68 rfl) C hw (fun E ce q9 w1 H locs hp hw h1 h2 h3 => ?_) (fun v w1 H locs hp hw => ?_)
          · exact hp.elim
          obtain ⟨rfl, rfl⟩ := hp
          dsimp only [Option.toList_some, Option.toList_none, List.cons_append, List.nil_append]
          exact tr_i hQ C hw hr (Nat.le_of_ble_eq_true rfl) (Nat.le_of_ble_eq_true rfl) dM_choose_71 ⟨by simp only [mf_chA, mf_y, if_pos c_6, if_pos c_17, if_neg c_26, if_neg c_42, if_pos c_60], by simp only [mf_chS, if_pos c_6, if_pos c_17, if_neg c_26, if_neg c_42, if_pos c_60]⟩
        refine q_aload_n hx hb hl dM_choose_45 rfl ?_
        refine q_iload_n hx hb hl dM_choose_46 rfl ?_
        refine tc_E (tc_V C hl (m_dr l hst D ct am N hN h0 th σ _ (mf_top σ N 0 (-1)) (hm c_6)) hw.1 hw.2.1 hw.2.2 g_M_104 (re_M C hw) hv_M_drawn rfl rfl ⟨(Nat.le_of_ble_eq_true rfl), (Nat.le_of_ble_eq_true rfl)⟩ (Nat.le_of_ble_eq_true rfl) ⟨(Nat.le_of_ble_eq_true rfl), (Nat.le_of_ble_eq_true rfl)⟩ dM_choose_47 rfl) C hw (fun E ce q9 w1 H locs hp hw h1 h2 h3 => ?_) (fun v w1 H locs hp hw => ?_)
        · exact hp.elim
        obtain ⟨rfl, rfl⟩ := hp
        dsimp only [Option.toList_some, Option.toList_none, List.cons_append, List.nil_append]
        refine lv_goto (tgt := 71) hx hb dM_choose_50 (by decide) ?_
        exact tr_i hQ C hw hr (Nat.le_of_ble_eq_true rfl) (Nat.le_of_ble_eq_true rfl) dM_choose_71 ⟨by simp only [mf_chA, mf_y, if_pos c_6, if_pos c_17, if_neg c_26, if_pos c_42], by simp only [mf_chS, if_pos c_6, if_pos c_17, if_neg c_26, if_pos c_42]⟩
      refine q_aload_n hx hb hl dM_choose_29 rfl ?_
      refine q_iload_n hx hb hl dM_choose_30 rfl ?_
      refine tc_E (tc_V C hl (m_turn l hst D ct am N hN h0 th σ _ h4 (mf_top σ N 0 (-1))) hw.1 hw.2.1 hw.2.2 g_M_101 (re_M C hw) hv_M_turn rfl rfl ⟨(Nat.le_of_ble_eq_true rfl), (Nat.le_of_ble_eq_true rfl)⟩ (Nat.le_of_ble_eq_true rfl) ⟨(Nat.le_of_ble_eq_true rfl), (Nat.le_of_ble_eq_true rfl)⟩ dM_choose_31 rfl) C hw (fun E ce q9 w1 H locs hp hw h1 h2 h3 => ?_) (fun v w1 H locs hp hw => ?_)
      · exact hp.elim
      obtain ⟨rfl, rfl⟩ := hp
      dsimp only [Option.toList_some, Option.toList_none, List.cons_append, List.nil_append]
      refine lv_goto (tgt := 71) hx hb dM_choose_34 (by decide) ?_
      exact tr_i hQ C hw hr (Nat.le_of_ble_eq_true rfl) (Nat.le_of_ble_eq_true rfl) dM_choose_71 ⟨by simp only [mf_chA, mf_y, if_pos c_6, if_pos c_17, if_pos c_26], by simp only [mf_chS, if_pos c_6, if_pos c_17, if_pos c_26]⟩
    refine q_iload_n hx hb hl dM_choose_20 rfl ?_
    exact tr_i hQ C hw hr (Nat.le_of_ble_eq_true rfl) (Nat.le_of_ble_eq_true rfl) dM_choose_21 ⟨by simp only [mf_chA, mf_y, if_pos c_6, if_neg c_17], by simp only [mf_chS, if_pos c_6, if_neg c_17]⟩
  refine lv_iconst (v := -1) hx hb dM_choose_9 (by decide) ?_
  exact tr_i hQ C hw hr (Nat.le_of_ble_eq_true rfl) (Nat.le_of_ble_eq_true rfl) dM_choose_10 ⟨by simp only [mf_chA, mf_y, if_neg c_6], by simp only [mf_chS, if_neg c_6]⟩
end
section
set_option maxHeartbeats 4000000 in
set_option maxRecDepth 100000 in
theorem m_goes (l : Launch) (hst : l.stackTraces = false) (D : va_G) (ct : Ct) (am : Nat → Nat) (N : Nat) (hN : N ≤ 16) (h0 : 0 < N) (th : Int32) (σ : St) (sz : Nat) (h4 : ix N (σ 0 0 4)) (h5 : ix N (σ 0 0 5)) (hm : 0 ≤ mf_top σ N 0 (-1) → ¬ mf_cnt σ (mf_top σ N 0 (-1)) N 0 0 = 0) : Kt l yM_goes cM_goes 2 (some .int) (r0 3) 0 0 D ct [.ref (am 0)] sz (wM ct am N th σ) (fun v w => v = some (.int (mf_goA N σ)) ∧ w = wM ct am N th (mf_goS N σ)) (fun E w => False) := by
  refine kt_of hst (by decide) (Nat.le_of_ble_eq_true rfl) (by simp [Value.category]) ?_
  intro p e s m args below meth c A ls C hne hr hw hl Q hQ
  have hx := C.1
  have hb := C.2.1
  refine q_aload_n hx hb hl dM_goes_0 rfl ?_
  refine mg C hw 12 l_M_111 (by decide) rfl dM_goes_1 ?_
  refine lv_if_le (tgt := 29) hx hb dM_goes_4 (by decide) (fun c_4 => ?_) (fun c_4 => ?_)
  · refine q_aload_n hx hb hl dM_goes_29 rfl ?_
    refine mg C hw 11 l_M_13 (by decide) rfl dM_goes_30 ?_
    refine lv_if_lt (tgt := 54) hx hb dM_goes_33 (by decide) (fun c_33 => ?_) (fun c_33 => ?_)
    · refine lv_iconst (v := -1) hx hb dM_goes_54 (by decide) ?_
      refine q_istore_n hx hb hl dM_goes_55 (by decide) (fun ls hl => ?_)
      refine q_iload_n hx hb hl dM_goes_56 rfl ?_
      refine lv_if_lt (tgt := 67) hx hb dM_goes_57 (by decide) (fun c_57 => ?_) (fun q9 => absurd (by decide) q9)
      refine q_aload_n hx hb hl dM_goes_67 rfl ?_
      refine tc_E (tc_V C hl (m_ch l hst D ct am N hN h0 th σ _ h4 hm) hw.1 hw.2.1 hw.2.2 g_M_117 (re_M C hw) hv_M_choose rfl rfl ⟨(Nat.le_of_ble_eq_true rfl), (Nat.le_of_ble_eq_true rfl)⟩ (Nat.le_of_ble_eq_true rfl) ⟨(Nat.le_of_ble_eq_true rfl), (Nat.le_of_ble_eq_true rfl)⟩ dM_goes_68 rfl) C hw (fun E ce q9 w1 H locs hp hw h1 h2 h3 => ?_) (fun v w1 H locs hp hw => ?_)
      · exact hp.elim
      obtain ⟨rfl, rfl⟩ := hp
      dsimp only [Option.toList_some, Option.toList_none, List.cons_append, List.nil_append]
      refine q_istore_n hx hb hl dM_goes_71 (by decide) (fun ls hl => ?_)
      refine q_iload_n hx hb hl dM_goes_72 rfl ?_
      refine lv_if_ge (tgt := 88) hx hb dM_goes_73 (by decide) (fun c_73 => ?_) (fun c_73 => ?_)
      · refine q_aload_n hx hb hl dM_goes_88 rfl ?_
        refine lv_iconst (v := -1) hx hb dM_goes_89 (by decide) ?_
        refine mp_11 C hw l_M_13 dM_goes_90 (fun H locs hw => ?_)
        refine q_iload_n hx hb hl dM_goes_93 rfl ?_
        refine q_aload_n hx hb hl dM_goes_94 rfl ?_
        refine mg C hw 10 l_M_7 (by decide) rfl dM_goes_95 ?_
        refine lv_icmp_eq (tgt := 115) hx hb dM_goes_98 (by decide) (fun c_98 => ?_) (fun c_98 => ?_)
        · refine q_iload_n hx hb hl dM_goes_115 rfl ?_
          exact tr_i hQ C hw hr (Nat.le_of_ble_eq_true rfl) (Nat.le_of_ble_eq_true rfl) dM_goes_116 ⟨by simp only [mf_goA, mf_tA, if_pos c_4, if_pos c_33, if_pos c_73, if_pos c_98], by simp only [mf_goS, mf_tS, mf_beg, if_pos c_4, if_pos c_33, if_pos c_73, if_pos c_98]⟩
        refine q_aload_n hx hb hl dM_goes_101 rfl ?_
        refine mg C hw 10 l_M_7 (by decide) rfl dM_goes_102 ?_
        refine lv_if_lt (tgt := 115) hx hb dM_goes_105 (by decide) (fun c_105 => ?_) (fun c_105 => ?_)
        · refine q_iload_n hx hb hl dM_goes_115 rfl ?_
          exact tr_i hQ C hw hr (Nat.le_of_ble_eq_true rfl) (Nat.le_of_ble_eq_true rfl) dM_goes_116 ⟨by simp only [mf_goA, mf_tA, if_pos c_4, if_pos c_33, if_pos c_73, if_neg c_98, if_pos c_105], by simp only [mf_goS, mf_tS, mf_beg, if_pos c_4, if_pos c_33, if_pos c_73, if_neg c_98, if_pos c_105]⟩
        refine q_aload_n hx hb hl dM_goes_108 rfl ?_
        refine mg C hw 5 l_M_81 (by decide) rfl dM_goes_109 ?_
        refine lv_if_ne (tgt := 117) hx hb dM_goes_112 (by decide) (fun c_112 => ?_) (fun c_112 => ?_)
        · obtain ⟨h8, h9⟩ := ix_nn hN (mf_chA_ix N σ h0) (i32_nlt c_73)
          refine q_aload_n hx hb hl dM_goes_117 rfl ?_
          refine q_iload_n hx hb hl dM_goes_118 rfl ?_
          refine mp_11 C hw l_M_13 dM_goes_119 (fun H locs hw => ?_)
          refine q_aload_n hx hb hl dM_goes_122 rfl ?_
          refine q_aload_n hx hb hl dM_goes_123 rfl ?_
          refine mg C hw 5 l_M_81 (by decide) rfl dM_goes_124 ?_
          refine lv_iconst (v := 1) hx hb dM_goes_127 (by decide) ?_
          refine lv_isub hx hb dM_goes_128 ?_
          refine mp_12 C hw l_M_111 dM_goes_129 (fun H locs hw => ?_)
          refine q_aload_n hx hb hl dM_goes_132 rfl ?_
          refine mg C hw 20 l_M_39 (by decide) rfl dM_goes_133 ?_
          refine q_iload_n hx hb hl dM_goes_136 rfl ?_
          refine lv_dup2_11 hx hb dM_goes_137 rfl rfl ?_
          refine mr_8 C hw (t := (mf_chA N σ).toNatClampNeg) (by omega) h9 dM_goes_138 ?_
          refine lv_iconst (v := 1) hx hb dM_goes_139 (by decide) ?_
          refine lv_iadd hx hb dM_goes_140 ?_
          refine mw_8 C hw (t := (mf_chA N σ).toNatClampNeg) (by omega) h9 dM_goes_141 (fun H locs hw => ?_)
          refine q_aload_n hx hb hl dM_goes_142 rfl ?_
          refine lv_dup hx hb dM_goes_143 rfl ?_
          refine mg C hw 9 l_M_114 (by decide) rfl dM_goes_144 ?_
          refine lv_iconst (v := 1) hx hb dM_goes_147 (by decide) ?_
          refine lv_iadd hx hb dM_goes_148 ?_
          refine mp_9 C hw l_M_114 dM_goes_149 (fun H locs hw => ?_)
          refine lv_iconst (v := -1) hx hb dM_goes_152 (by decide) ?_
          exact tr_i hQ C hw hr (Nat.le_of_ble_eq_true rfl) (Nat.le_of_ble_eq_true rfl) dM_goes_153 ⟨by simp only [mf_goA, mf_tA, if_pos c_4, if_pos c_33, if_pos c_73, if_neg c_98, if_neg c_105, if_neg c_112], by simp only [mf_goS, mf_tS, mf_beg, if_pos c_4, if_pos c_33, if_pos c_73, if_neg c_98, if_neg c_105, if_neg c_112]⟩
        refine q_iload_n hx hb hl dM_goes_115 rfl ?_
        exact tr_i hQ C hw hr (Nat.le_of_ble_eq_true rfl) (Nat.le_of_ble_eq_true rfl) dM_goes_116 ⟨by simp only [mf_goA, mf_tA, if_pos c_4, if_pos c_33, if_pos c_73, if_neg c_98, if_neg c_105, if_pos c_112], by simp only [mf_goS, mf_tS, mf_beg, if_pos c_4, if_pos c_33, if_pos c_73, if_neg c_98, if_neg c_105, if_pos c_112]⟩
      refine q_aload_n hx hb hl dM_goes_76 rfl ?_
      refine lv_dup hx hb dM_goes_77 rfl ?_
      refine mg C hw 8 l_M_120 (by decide) rfl dM_goes_78 ?_
      refine lv_iconst (v := 1) hx hb dM_goes_81 (by decide) ?_
      refine lv_iadd hx hb dM_goes_82 ?_
      refine mp_8 C hw l_M_120 dM_goes_83 (fun H locs hw => ?_)
      refine lv_iconst (v := -1) hx hb dM_goes_86 (by decide) ?_
      exact tr_i hQ C hw hr (Nat.le_of_ble_eq_true rfl) (Nat.le_of_ble_eq_true rfl) dM_goes_87 ⟨by simp only [mf_goA, mf_tA, if_pos c_4, if_pos c_33, if_neg c_73], by simp only [mf_goS, mf_tS, mf_beg, if_pos c_4, if_pos c_33, if_neg c_73]⟩
    obtain ⟨h6, h7⟩ := ix_nn hN h5 c_33
    refine q_aload_n hx hb hl dM_goes_36 rfl ?_
    refine q_aload_n hx hb hl dM_goes_37 rfl ?_
    refine mg C hw 11 l_M_13 (by decide) rfl dM_goes_38 ?_
    refine tc_E (tc_V C hl (m_can l hst D ct am N hN h0 th σ _ (σ 0 0 5).toNatClampNeg (by omega) _ h7) hw.1 hw.2.1 hw.2.2 g_M_89 (re_M C hw) hv_M_canGo rfl rfl ⟨(Nat.le_of_ble_eq_true rfl), (Nat.le_of_ble_eq_true rfl)⟩ (Nat.le_of_ble_eq_true rfl) ⟨(Nat.le_of_ble_eq_true rfl), (Nat.le_of_ble_eq_true rfl)⟩ dM_goes_41 rfl) C hw (fun E ce q9 w1 H locs hp hw h1 h2 h3 => ?_) (fun v w1 H locs hp hw => ?_)
    · exact hp.elim
    obtain ⟨rfl, rfl⟩ := hp
    dsimp only [Option.toList_some, Option.toList_none, List.cons_append, List.nil_append]
    refine lv_if_eq (tgt := 54) hx hb dM_goes_44 (by decide) (fun c_44 => ?_) (fun c_44 => ?_)
    · refine lv_iconst (v := -1) hx hb dM_goes_54 (by decide) ?_
      refine q_istore_n hx hb hl dM_goes_55 (by decide) (fun ls hl => ?_)
      refine q_iload_n hx hb hl dM_goes_56 rfl ?_
      refine lv_if_lt (tgt := 67) hx hb dM_goes_57 (by decide) (fun c_57 => ?_) (fun q9 => absurd (by decide) q9)
      refine q_aload_n hx hb hl dM_goes_67 rfl ?_
      refine tc_E (tc_V C hl (m_ch l hst D ct am N hN h0 th σ _ h4 hm) hw.1 hw.2.1 hw.2.2 g_M_117 (re_M C hw) hv_M_choose rfl rfl ⟨(Nat.le_of_ble_eq_true rfl), (Nat.le_of_ble_eq_true rfl)⟩ (Nat.le_of_ble_eq_true rfl) ⟨(Nat.le_of_ble_eq_true rfl), (Nat.le_of_ble_eq_true rfl)⟩ dM_goes_68 rfl) C hw (fun E ce q9 w1 H locs hp hw h1 h2 h3 => ?_) (fun v w1 H locs hp hw => ?_)
      · exact hp.elim
      obtain ⟨rfl, rfl⟩ := hp
      dsimp only [Option.toList_some, Option.toList_none, List.cons_append, List.nil_append]
      refine q_istore_n hx hb hl dM_goes_71 (by decide) (fun ls hl => ?_)
      refine q_iload_n hx hb hl dM_goes_72 rfl ?_
      refine lv_if_ge (tgt := 88) hx hb dM_goes_73 (by decide) (fun c_73 => ?_) (fun c_73 => ?_)
      · refine q_aload_n hx hb hl dM_goes_88 rfl ?_
        refine lv_iconst (v := -1) hx hb dM_goes_89 (by decide) ?_
        refine mp_11 C hw l_M_13 dM_goes_90 (fun H locs hw => ?_)
        refine q_iload_n hx hb hl dM_goes_93 rfl ?_
        refine q_aload_n hx hb hl dM_goes_94 rfl ?_
        refine mg C hw 10 l_M_7 (by decide) rfl dM_goes_95 ?_
        refine lv_icmp_eq (tgt := 115) hx hb dM_goes_98 (by decide) (fun c_98 => ?_) (fun c_98 => ?_)
        · refine q_iload_n hx hb hl dM_goes_115 rfl ?_
          exact tr_i hQ C hw hr (Nat.le_of_ble_eq_true rfl) (Nat.le_of_ble_eq_true rfl) dM_goes_116 ⟨by simp only [mf_goA, mf_tA, if_pos c_4, if_neg c_33, if_pos c_44, if_pos c_73, if_pos c_98], by simp only [mf_goS, mf_tS, mf_beg, if_pos c_4, if_neg c_33, if_pos c_44, if_pos c_73, if_pos c_98]⟩
        refine q_aload_n hx hb hl dM_goes_101 rfl ?_
        refine mg C hw 10 l_M_7 (by decide) rfl dM_goes_102 ?_
        refine lv_if_lt (tgt := 115) hx hb dM_goes_105 (by decide) (fun c_105 => ?_) (fun c_105 => ?_)
        · refine q_iload_n hx hb hl dM_goes_115 rfl ?_
          exact tr_i hQ C hw hr (Nat.le_of_ble_eq_true rfl) (Nat.le_of_ble_eq_true rfl) dM_goes_116 ⟨by simp only [mf_goA, mf_tA, if_pos c_4, if_neg c_33, if_pos c_44, if_pos c_73, if_neg c_98, if_pos c_105], by simp only [mf_goS, mf_tS, mf_beg, if_pos c_4, if_neg c_33, if_pos c_44, if_pos c_73, if_neg c_98, if_pos c_105]⟩
        refine q_aload_n hx hb hl dM_goes_108 rfl ?_
        refine mg C hw 5 l_M_81 (by decide) rfl dM_goes_109 ?_
        refine lv_if_ne (tgt := 117) hx hb dM_goes_112 (by decide) (fun c_112 => ?_) (fun c_112 => ?_)
        · obtain ⟨h8, h9⟩ := ix_nn hN (mf_chA_ix N σ h0) (i32_nlt c_73)
          refine q_aload_n hx hb hl dM_goes_117 rfl ?_
          refine q_iload_n hx hb hl dM_goes_118 rfl ?_
          refine mp_11 C hw l_M_13 dM_goes_119 (fun H locs hw => ?_)
          refine q_aload_n hx hb hl dM_goes_122 rfl ?_
          refine q_aload_n hx hb hl dM_goes_123 rfl ?_
          refine mg C hw 5 l_M_81 (by decide) rfl dM_goes_124 ?_
          refine lv_iconst (v := 1) hx hb dM_goes_127 (by decide) ?_
          refine lv_isub hx hb dM_goes_128 ?_
          refine mp_12 C hw l_M_111 dM_goes_129 (fun H locs hw => ?_)
          refine q_aload_n hx hb hl dM_goes_132 rfl ?_
          refine mg C hw 20 l_M_39 (by decide) rfl dM_goes_133 ?_
          refine q_iload_n hx hb hl dM_goes_136 rfl ?_
          refine lv_dup2_11 hx hb dM_goes_137 rfl rfl ?_
          refine mr_8 C hw (t := (mf_chA N σ).toNatClampNeg) (by omega) h9 dM_goes_138 ?_
          refine lv_iconst (v := 1) hx hb dM_goes_139 (by decide) ?_
          refine lv_iadd hx hb dM_goes_140 ?_
          refine mw_8 C hw (t := (mf_chA N σ).toNatClampNeg) (by omega) h9 dM_goes_141 (fun H locs hw => ?_)
          refine q_aload_n hx hb hl dM_goes_142 rfl ?_
          refine lv_dup hx hb dM_goes_143 rfl ?_
          refine mg C hw 9 l_M_114 (by decide) rfl dM_goes_144 ?_
          refine lv_iconst (v := 1) hx hb dM_goes_147 (by decide) ?_
          refine lv_iadd hx hb dM_goes_148 ?_
          refine mp_9 C hw l_M_114 dM_goes_149 (fun H locs hw => ?_)
          refine lv_iconst (v := -1) hx hb dM_goes_152 (by decide) ?_
          exact tr_i hQ C hw hr (Nat.le_of_ble_eq_true rfl) (Nat.le_of_ble_eq_true rfl) dM_goes_153 ⟨by simp only [mf_goA, mf_tA, if_pos c_4, if_neg c_33, if_pos c_44, if_pos c_73, if_neg c_98, if_neg c_105, if_neg c_112], by simp only [mf_goS, mf_tS, mf_beg, if_pos c_4, if_neg c_33, if_pos c_44, if_pos c_73, if_neg c_98, if_neg c_105, if_neg c_112]⟩
        refine q_iload_n hx hb hl dM_goes_115 rfl ?_
        exact tr_i hQ C hw hr (Nat.le_of_ble_eq_true rfl) (Nat.le_of_ble_eq_true rfl) dM_goes_116 ⟨by simp only [mf_goA, mf_tA, if_pos c_4, if_neg c_33, if_pos c_44, if_pos c_73, if_neg c_98, if_neg c_105, if_pos c_112], by simp only [mf_goS, mf_tS, mf_beg, if_pos c_4, if_neg c_33, if_pos c_44, if_pos c_73, if_neg c_98, if_neg c_105, if_pos c_112]⟩
      refine q_aload_n hx hb hl dM_goes_76 rfl ?_
      refine lv_dup hx hb dM_goes_77 rfl ?_
      refine mg C hw 8 l_M_120 (by decide) rfl dM_goes_78 ?_
      refine lv_iconst (v := 1) hx hb dM_goes_81 (by decide) ?_
      refine lv_iadd hx hb dM_goes_82 ?_
      refine mp_8 C hw l_M_120 dM_goes_83 (fun H locs hw => ?_)
      refine lv_iconst (v := -1) hx hb dM_goes_86 (by decide) ?_
      exact tr_i hQ C hw hr (Nat.le_of_ble_eq_true rfl) (Nat.le_of_ble_eq_true rfl) dM_goes_87 ⟨by simp only [mf_goA, mf_tA, if_pos c_4, if_neg c_33, if_pos c_44, if_neg c_73], by simp only [mf_goS, mf_tS, mf_beg, if_pos c_4, if_neg c_33, if_pos c_44, if_neg c_73]⟩
    refine q_aload_n hx hb hl dM_goes_47 rfl ?_
    refine mg C hw 11 l_M_13 (by decide) rfl dM_goes_48 ?_
    refine lv_goto (tgt := 55) hx hb dM_goes_51 (by decide) ?_
    refine q_istore_n hx hb hl dM_goes_55 (by decide) (fun ls hl => ?_)
    refine q_iload_n hx hb hl dM_goes_56 rfl ?_
    refine lv_if_lt (tgt := 67) hx hb dM_goes_57 (by decide) (fun q9 => absurd q9 c_33) (fun c_57 => ?_)
    refine q_aload_n hx hb hl dM_goes_60 rfl ?_
    refine lv_iconst (v := -1) hx hb dM_goes_61 (by decide) ?_
    refine mp_11 C hw l_M_13 dM_goes_62 (fun H locs hw => ?_)
    refine q_iload_n hx hb hl dM_goes_65 rfl ?_
    exact tr_i hQ C hw hr (Nat.le_of_ble_eq_true rfl) (Nat.le_of_ble_eq_true rfl) dM_goes_66 ⟨by simp only [mf_goA, mf_tA, if_pos c_4, if_neg c_33, if_neg c_44], by simp only [mf_goS, mf_tS, mf_beg, if_pos c_4, if_neg c_33, if_neg c_44]⟩
  refine q_aload_n hx hb hl dM_goes_7 rfl ?_
  refine lv_dup hx hb dM_goes_8 rfl ?_
  refine mg C hw 12 l_M_111 (by decide) rfl dM_goes_9 ?_
  refine lv_iconst (v := 1) hx hb dM_goes_12 (by decide) ?_
  refine lv_isub hx hb dM_goes_13 ?_
  refine mp_12 C hw l_M_111 dM_goes_14 (fun H locs hw => ?_)
  refine q_aload_n hx hb hl dM_goes_17 rfl ?_
  refine lv_dup hx hb dM_goes_18 rfl ?_
  refine mg C hw 9 l_M_114 (by decide) rfl dM_goes_19 ?_
  refine lv_iconst (v := 1) hx hb dM_goes_22 (by decide) ?_
  refine lv_iadd hx hb dM_goes_23 ?_
  refine mp_9 C hw l_M_114 dM_goes_24 (fun H locs hw => ?_)
  refine lv_iconst (v := -1) hx hb dM_goes_27 (by decide) ?_
  exact tr_i hQ C hw hr (Nat.le_of_ble_eq_true rfl) (Nat.le_of_ble_eq_true rfl) dM_goes_28 ⟨by simp only [mf_goA, mf_tA, if_neg c_4], by simp only [mf_goS, mf_tS, mf_beg, if_neg c_4]⟩
set_option maxHeartbeats 4000000 in
set_option maxRecDepth 100000 in
theorem m_step (l : Launch) (hst : l.stackTraces = false) (D : va_G) (ct : Ct) (am : Nat → Nat) (N : Nat) (hN : N ≤ 16) (h0 : 0 < N) (th : Int32) (σ : St) (sz : Nat) (h4 : ix N (mf_p1 N σ 0 0 4)) (h5 : ix N (mf_p1 N σ 0 0 5)) (hm : 0 ≤ mf_top (mf_p1 N σ) N 0 (-1) → ¬ mf_cnt (mf_p1 N σ) (mf_top (mf_p1 N σ) N 0 (-1)) N 0 0 = 0) : Kt l yM_step cM_step 3 (some .int) (r0 4) 0 0 D ct [.ref (am 0)] sz (wM ct am N th σ) (fun v w => v = some (.int (mf_stA N σ)) ∧ w = wM ct am N th (mf_stS N σ)) (fun E w => False) := by
  refine kt_of hst (by decide) (Nat.le_of_ble_eq_true rfl) (by simp [Value.category]) ?_
  intro p e s m args below meth c A ls C hne hr hw hl Q hQ
  have hx := C.1
  have hb := C.2.1
  refine q_aload_n hx hb hl dM_step_0 rfl ?_
  refine lv_dup hx hb dM_step_1 rfl ?_
  refine mg C hw 6 l_M_123 (by decide) rfl dM_step_2 ?_
  refine lv_iconst (v := 1) hx hb dM_step_5 (by decide) ?_
  refine lv_iadd hx hb dM_step_6 ?_
  refine mp_6 C hw l_M_123 dM_step_7 (fun H locs hw => ?_)
  refine lv_iconst (v := 0) hx hb dM_step_10 (by decide) ?_
  refine q_istore_n hx hb hl dM_step_11 (by decide) (fun ls hl => ?_)
  have L12 : ∀ (n : Nat) (t : Nat) (τ : St), t + n = N → mf_un n t τ = mf_p1 N σ → ∀ (H : Heap) (locs : List Loc) (ls : Array Slot), wl D A s (wM ct am N th τ) H locs → lq ls 3 [some (.ref (am 0)), some (.int (nI t)), none] → W p l e (r0 4) s m args below meth c H locs 0 0 Q (F0 m 12 ls []) := by
    intro n
    induction n with
    | zero =>
      intro t τ hn he H locs ls hw hl
      refine q_iload_n hx hb hl dM_step_12 rfl ?_
      refine q_aload_n hx hb hl dM_step_13 rfl ?_
      refine mg C hw 1 l_M_57 (by decide) rfl dM_step_14 ?_
      refine lv_icmp_ge (tgt := 55) hx hb dM_step_17 (by decide) (fun c_17 => ?_) (fun q9 => absurd (nI_le (by omega) (by omega)) q9)
      have he2 : τ = mf_p1 N σ := he
      subst he2
      refine q_aload_n hx hb hl dM_step_55 rfl ?_
      refine tc_E (tc_V C hl (m_goes l hst D ct am N hN h0 th (mf_p1 N σ) _ h4 h5 hm) hw.1 hw.2.1 hw.2.2 g_M_126 (re_M C hw) hv_M_goes rfl rfl ⟨(Nat.le_of_ble_eq_true rfl), (Nat.le_of_ble_eq_true rfl)⟩ (Nat.le_of_ble_eq_true rfl) ⟨(Nat.le_of_ble_eq_true rfl), (Nat.le_of_ble_eq_true rfl)⟩ dM_step_56 rfl) C hw (fun E ce q9 w1 H locs hp hw h1 h2 h3 => ?_) (fun v w1 H locs hp hw => ?_)
      · exact hp.elim
      obtain ⟨rfl, rfl⟩ := hp
      dsimp only [Option.toList_some, Option.toList_none, List.cons_append, List.nil_append]
      refine q_istore_n hx hb hl dM_step_59 (by decide) (fun ls hl => ?_)
      refine lv_iconst (v := 0) hx hb dM_step_60 (by decide) ?_
      refine q_istore_n hx hb hl dM_step_61 (by decide) (fun ls hl => ?_)
      have L62 : ∀ (n : Nat) (t : Nat) (τ : St), t + n = N → mf_w (mf_stA N σ) n t τ = mf_p3 N σ → ∀ (H : Heap) (locs : List Loc) (ls : Array Slot), wl D A s (wM ct am N th τ) H locs → lq ls 3 [some (.ref (am 0)), some (.int (mf_stA N σ)), some (.int (nI t))] → W p l e (r0 4) s m args below meth c H locs 0 0 Q (F0 m 62 ls []) := by
        intro n
        induction n with
        | zero =>
          intro t τ hn he H locs ls hw hl
          refine q_iload_n hx hb hl dM_step_62 rfl ?_
          refine q_aload_n hx hb hl dM_step_63 rfl ?_
          refine mg C hw 1 l_M_57 (by decide) rfl dM_step_64 ?_
          refine lv_icmp_ge (tgt := 155) hx hb dM_step_67 (by decide) (fun c_67 => ?_) (fun q9 => absurd (nI_le (by omega) (by omega)) q9)
          have he2 : τ = mf_p3 N σ := he
          subst he2
          refine q_aload_n hx hb hl dM_step_155 rfl ?_
          refine q_iload_n hx hb hl dM_step_156 rfl ?_
          refine lv_if_lt (tgt := 164) hx hb dM_step_157 (by decide) (fun c_157 => ?_) (fun c_157 => ?_)
          · refine q_aload_n hx hb hl dM_step_164 rfl ?_
            refine mg C hw 10 l_M_7 (by decide) rfl dM_step_165 ?_
            refine mp_10 C hw l_M_7 dM_step_168 (fun H locs hw => ?_)
            refine q_aload_n hx hb hl dM_step_171 rfl ?_
            refine lv_dup hx hb dM_step_172 rfl ?_
            refine mg C hw 7 l_M_129 (by decide) rfl dM_step_173 ?_
            refine q_iload_n hx hb hl dM_step_176 rfl ?_
            refine lv_if_lt (tgt := 184) hx hb dM_step_177 (by decide) (fun c_177 => ?_) (fun q9 => absurd c_157 q9)
            refine lv_iconst (v := 0) hx hb dM_step_184 (by decide) ?_
            refine lv_iadd hx hb dM_step_185 ?_
            refine mp_7 C hw l_M_129 dM_step_186 (fun H locs hw => ?_)
            refine q_iload_n hx hb hl dM_step_189 rfl ?_
            exact tr_i hQ C hw hr (Nat.le_of_ble_eq_true rfl) (Nat.le_of_ble_eq_true rfl) dM_step_190 ⟨rfl, by simp only [mf_stS, if_pos c_157]⟩
          refine q_iload_n hx hb hl dM_step_160 rfl ?_
          refine lv_goto (tgt := 168) hx hb dM_step_161 (by decide) ?_
          refine mp_10 C hw l_M_7 dM_step_168 (fun H locs hw => ?_)
          refine q_aload_n hx hb hl dM_step_171 rfl ?_
          refine lv_dup hx hb dM_step_172 rfl ?_
          refine mg C hw 7 l_M_129 (by decide) rfl dM_step_173 ?_
          refine q_iload_n hx hb hl dM_step_176 rfl ?_
          refine lv_if_lt (tgt := 184) hx hb dM_step_177 (by decide) (fun q9 => absurd q9 c_157) (fun c_177 => ?_)
          refine lv_iconst (v := 1) hx hb dM_step_180 (by decide) ?_
          refine lv_goto (tgt := 185) hx hb dM_step_181 (by decide) ?_
          refine lv_iadd hx hb dM_step_185 ?_
          refine mp_7 C hw l_M_129 dM_step_186 (fun H locs hw => ?_)
          refine q_iload_n hx hb hl dM_step_189 rfl ?_
          exact tr_i hQ C hw hr (Nat.le_of_ble_eq_true rfl) (Nat.le_of_ble_eq_true rfl) dM_step_190 ⟨rfl, by simp only [mf_stS, if_neg c_157]⟩
        | succ n ih =>
          intro t τ hn he H locs ls hw hl
          have ht : t < N := by omega
          have ht16 : t < 16 := by omega
          refine q_iload_n hx hb hl dM_step_62 rfl ?_
          refine q_aload_n hx hb hl dM_step_63 rfl ?_
          refine mg C hw 1 l_M_57 (by decide) rfl dM_step_64 ?_
          refine lv_icmp_ge (tgt := 155) hx hb dM_step_67 (by decide) (fun q9 => absurd q9 (nI_ge ht (by omega))) (fun c_67 => ?_)
          refine q_iload_n hx hb hl dM_step_70 rfl ?_
          refine q_iload_n hx hb hl dM_step_71 rfl ?_
          refine lv_icmp_ne (tgt := 95) hx hb dM_step_72 (by decide) (fun c_72 => ?_) (fun c_72 => ?_)
          · refine q_aload_n hx hb hl dM_step_95 rfl ?_
            refine q_iload_n hx hb hl dM_step_96 rfl ?_
            refine tc_E (tc_V C hl (m_can l hst D ct am N hN h0 th τ _ t (by omega) _ rfl) hw.1 hw.2.1 hw.2.2 g_M_89 (re_M C hw) hv_M_canGo rfl rfl ⟨(Nat.le_of_ble_eq_true rfl), (Nat.le_of_ble_eq_true rfl)⟩ (Nat.le_of_ble_eq_true rfl) ⟨(Nat.le_of_ble_eq_true rfl), (Nat.le_of_ble_eq_true rfl)⟩ dM_step_97 rfl) C hw (fun E ce q9 w1 H locs hp hw h1 h2 h3 => ?_) (fun v w1 H locs hp hw => ?_)
            · exact hp.elim
            obtain ⟨rfl, rfl⟩ := hp
            dsimp only [Option.toList_some, Option.toList_none, List.cons_append, List.nil_append]
            refine lv_if_eq (tgt := 149) hx hb dM_step_100 (by decide) (fun c_100 => ?_) (fun c_100 => ?_)
            · refine q_inc hx hb hl dM_step_149 rfl (by decide) (fun ls hl => ?_)
              refine lv_goto (tgt := 62) hx hb dM_step_152 (by decide) ?_
              exact ih _ _ (by omega) (by rw [← he]; simp only [mf_w, mf_w1, if_neg c_72, if_pos c_100]) _ _ _ hw hl
            refine q_aload_n hx hb hl dM_step_103 rfl ?_
            refine mg C hw 17 l_M_30 (by decide) rfl dM_step_104 ?_
            refine q_iload_n hx hb hl dM_step_107 rfl ?_
            refine lv_dup2_11 hx hb dM_step_108 rfl rfl ?_
            refine mr_5 C hw (by assumption) rfl dM_step_109 ?_
            refine lv_iconst (v := 1) hx hb dM_step_110 (by decide) ?_
            refine lv_iadd hx hb dM_step_111 ?_
            refine mw_5 C hw (by assumption) rfl dM_step_112 (fun H locs hw => ?_)
            refine q_aload_n hx hb hl dM_step_113 rfl ?_
            refine mg C hw 18 l_M_33 (by decide) rfl dM_step_114 ?_
            refine q_iload_n hx hb hl dM_step_117 rfl ?_
            refine q_aload_n hx hb hl dM_step_118 rfl ?_
            refine mg C hw 17 l_M_30 (by decide) rfl dM_step_119 ?_
            refine q_iload_n hx hb hl dM_step_122 rfl ?_
            refine mr_5 C hw (by assumption) rfl dM_step_123 ?_
            refine q_aload_n hx hb hl dM_step_124 rfl ?_
            refine mg C hw 18 l_M_33 (by decide) rfl dM_step_125 ?_
            refine q_iload_n hx hb hl dM_step_128 rfl ?_
            refine mr_6 C hw (by assumption) rfl dM_step_129 ?_
            refine lv_icmp_le (tgt := 142) hx hb dM_step_130 (by decide) (fun c_130 => ?_) (fun c_130 => ?_)
            · refine q_aload_n hx hb hl dM_step_142 rfl ?_
              refine mg C hw 18 l_M_33 (by decide) rfl dM_step_143 ?_
              refine q_iload_n hx hb hl dM_step_146 rfl ?_
              refine mr_6 C hw (by assumption) rfl dM_step_147 ?_
              refine mw_6 C hw (by assumption) rfl dM_step_148 (fun H locs hw => ?_)
              refine q_inc hx hb hl dM_step_149 rfl (by decide) (fun ls hl => ?_)
              refine lv_goto (tgt := 62) hx hb dM_step_152 (by decide) ?_
              exact ih _ _ (by omega) (by rw [← he]; simp only [mf_w, mf_w1, if_neg c_72, if_neg c_100, if_pos c_130]) _ _ _ hw hl
            refine q_aload_n hx hb hl dM_step_133 rfl ?_
            refine mg C hw 17 l_M_30 (by decide) rfl dM_step_134 ?_
            refine q_iload_n hx hb hl dM_step_137 rfl ?_
            refine mr_5 C hw (by assumption) rfl dM_step_138 ?_
            refine lv_goto (tgt := 148) hx hb dM_step_139 (by decide) ?_
            refine mw_6 C hw (by assumption) rfl dM_step_148 (fun H locs hw => ?_)
            refine q_inc hx hb hl dM_step_149 rfl (by decide) (fun ls hl => ?_)
            refine lv_goto (tgt := 62) hx hb dM_step_152 (by decide) ?_
            exact ih _ _ (by omega) (by rw [← he]; simp only [mf_w, mf_w1, if_neg c_72, if_neg c_100, if_neg c_130]) _ _ _ hw hl
          refine q_aload_n hx hb hl dM_step_75 rfl ?_
          refine mg C hw 17 l_M_30 (by decide) rfl dM_step_76 ?_
          refine q_iload_n hx hb hl dM_step_79 rfl ?_
          refine lv_iconst (v := 0) hx hb dM_step_80 (by decide) ?_
          refine mw_5 C hw (by assumption) rfl dM_step_81 (fun H locs hw => ?_)
          refine q_aload_n hx hb hl dM_step_82 rfl ?_
          refine mg C hw 19 l_M_36 (by decide) rfl dM_step_83 ?_
          refine q_iload_n hx hb hl dM_step_86 rfl ?_
          refine lv_dup2_11 hx hb dM_step_87 rfl rfl ?_
          refine mr_7 C hw (by assumption) rfl dM_step_88 ?_
          refine lv_iconst (v := 1) hx hb dM_step_89 (by decide) ?_
          refine lv_iadd hx hb dM_step_90 ?_
          refine mw_7 C hw (by assumption) rfl dM_step_91 (fun H locs hw => ?_)
          refine lv_goto (tgt := 149) hx hb dM_step_92 (by decide) ?_
          refine q_inc hx hb hl dM_step_149 rfl (by decide) (fun ls hl => ?_)
          refine lv_goto (tgt := 62) hx hb dM_step_152 (by decide) ?_
          exact ih _ _ (by omega) (by rw [← he]; simp only [mf_w, mf_w1, if_pos c_72]) _ _ _ hw hl
      exact L62 N 0 _ (by omega) rfl _ _ _ hw hl
    | succ n ih =>
      intro t τ hn he H locs ls hw hl
      have ht : t < N := by omega
      have ht16 : t < 16 := by omega
      refine q_iload_n hx hb hl dM_step_12 rfl ?_
      refine q_aload_n hx hb hl dM_step_13 rfl ?_
      refine mg C hw 1 l_M_57 (by decide) rfl dM_step_14 ?_
      refine lv_icmp_ge (tgt := 55) hx hb dM_step_17 (by decide) (fun q9 => absurd q9 (nI_ge ht (by omega))) (fun c_17 => ?_)
      refine q_aload_n hx hb hl dM_step_20 rfl ?_
      refine mg C hw 15 l_M_24 (by decide) rfl dM_step_21 ?_
      refine q_iload_n hx hb hl dM_step_24 rfl ?_
      refine q_aload_n hx hb hl dM_step_25 rfl ?_
      refine mg C hw 15 l_M_24 (by decide) rfl dM_step_26 ?_
      refine q_iload_n hx hb hl dM_step_29 rfl ?_
      refine mr_3 C hw (by assumption) rfl dM_step_30 ?_
      refine q_aload_n hx hb hl dM_step_31 rfl ?_
      refine mg C hw 6 l_M_123 (by decide) rfl dM_step_32 ?_
      refine lv_icmp_gt (tgt := 42) hx hb dM_step_35 (by decide) (fun c_35 => ?_) (fun c_35 => ?_)
      · refine q_aload_n hx hb hl dM_step_42 rfl ?_
        refine mg C hw 15 l_M_24 (by decide) rfl dM_step_43 ?_
        refine q_iload_n hx hb hl dM_step_46 rfl ?_
        refine mr_3 C hw (by assumption) rfl dM_step_47 ?_
        refine mw_3 C hw (by assumption) rfl dM_step_48 (fun H locs hw => ?_)
        refine q_inc hx hb hl dM_step_49 rfl (by decide) (fun ls hl => ?_)
        refine lv_goto (tgt := 12) hx hb dM_step_52 (by decide) ?_
        exact ih _ _ (by omega) (by rw [← he]; simp only [mf_un, mf_un1, if_pos c_35]) _ _ _ hw hl
      refine lv_iconst (v := 0) hx hb dM_step_38 (by decide) ?_
      refine lv_goto (tgt := 48) hx hb dM_step_39 (by decide) ?_
      refine mw_3 C hw (by assumption) rfl dM_step_48 (fun H locs hw => ?_)
      refine q_inc hx hb hl dM_step_49 rfl (by decide) (fun ls hl => ?_)
      refine lv_goto (tgt := 12) hx hb dM_step_52 (by decide) ?_
      exact ih _ _ (by omega) (by rw [← he]; simp only [mf_un, mf_un1, if_neg c_35]) _ _ _ hw hl
  exact L12 N 0 _ (by omega) rfl _ _ _ hw hl
end
section
set_option maxHeartbeats 4000000 in
set_option maxRecDepth 100000 in
theorem m_cyc (l : Launch) (hst : l.stackTraces = false) (D : va_G) (ct : Ct) (am : Nat → Nat) (N : Nat) (hN : N ≤ 16) (h0 : 0 < N) (th : Int32) (σ : St) (sz : Nat) (h4 : ix N (mf_p1 N σ 0 0 4)) (h5 : ix N (mf_p1 N σ 0 0 5)) (hm : 0 ≤ mf_top (mf_p1 N σ) N 0 (-1) → ¬ mf_cnt (mf_p1 N σ) (mf_top (mf_p1 N σ) N 0 (-1)) N 0 0 = 0) : Kt l yM_cycle cM_cycle 1 (some .int) (r0 5) 0 0 D ct [.ref (am 0)] sz (wM ct am N th σ) (fun v w => v = some (.int (mf_stA N σ)) ∧ w = wM ct am N 0 (mf_stS N σ)) (fun E w => False) := by
  refine kt_of hst (by decide) (Nat.le_of_ble_eq_true rfl) (by simp [Value.category]) ?_
  intro p e s m args below meth c A ls C hne hr hw hl Q hQ
  have hx := C.1
  have hb := C.2.1
  refine q_aload_n hx hb hl dM_cycle_0 rfl ?_
  refine lv_iconst (v := 0) hx hb dM_cycle_1 (by decide) ?_
  refine mp_0 C hw l_M_64 dM_cycle_2 (fun H locs hw => ?_)
  refine q_aload_n hx hb hl dM_cycle_5 rfl ?_
  refine tc_E (tc_V C hl (m_step l hst D ct am N hN h0 0 σ _ h4 h5 hm) hw.1 hw.2.1 hw.2.2 g_M_132 (re_M C hw) hv_M_step rfl rfl ⟨(Nat.le_of_ble_eq_true rfl), (Nat.le_of_ble_eq_true rfl)⟩ (Nat.le_of_ble_eq_true rfl) ⟨(Nat.le_of_ble_eq_true rfl), (Nat.le_of_ble_eq_true rfl)⟩ dM_cycle_6 rfl) C hw (fun E ce q9 w1 H locs hp hw h1 h2 h3 => ?_) (fun v w1 H locs hp hw => ?_)
  · exact hp.elim
  obtain ⟨rfl, rfl⟩ := hp
  dsimp only [Option.toList_some, Option.toList_none, List.cons_append, List.nil_append]
  exact tr_i hQ C hw hr (Nat.le_of_ble_eq_true rfl) (Nat.le_of_ble_eq_true rfl) dM_cycle_9 ⟨rfl, rfl⟩
set_option maxHeartbeats 4000000 in
set_option maxRecDepth 100000 in
theorem mo_run (l : Launch) (hst : l.stackTraces = false) (D : va_G) (ct : Ct) (am : Nat → Nat) (N : Nat) (hN : N ≤ 16) (h0 : 0 < N) (th : Int32) (σ : St) (sz : Nat) (K : Nat) (hk : 1 ≤ K ∧ K ≤ 2000) (hy : ∀ k, k < K → ix N (mf_p1 N (mf_it N σ k) 0 0 4) ∧ ix N (mf_p1 N (mf_it N σ k) 0 0 5) ∧ (0 ≤ mf_top (mf_p1 N (mf_it N σ k)) N 0 (-1) → ¬ mf_cnt (mf_p1 N (mf_it N σ k)) (mf_top (mf_p1 N (mf_it N σ k)) N 0 (-1)) N 0 0 = 0)) : Kt l yM_run cM_run 4 (some .int) (r0 5) 0 0 D ct [.ref (am 0), .int (nI K)] sz (wM ct am N th σ) (fun v w => v = some (.int (mf_it N σ K 0 0 8 - σ 0 0 8)) ∧ w = wM ct am N 0 (mf_it N σ K)) (fun E w => False) := by
  refine kt_of hst (by decide) (Nat.le_of_ble_eq_true rfl) (by simp [Value.category]) ?_
  intro p e s m args below meth c A ls C hne hr hw hl Q hQ
  have hx := C.1
  have hb := C.2.1
  refine q_aload_n hx hb hl dM_run_0 rfl ?_
  refine lv_iconst (v := 0) hx hb dM_run_1 (by decide) ?_
  refine mp_0 C hw l_M_64 dM_run_2 (fun H locs hw => ?_)
  refine q_iload_n hx hb hl dM_run_5 rfl ?_
  refine lv_iconst (v := 1) hx hb dM_run_6 (by decide) ?_
  refine lv_sipush (v := 2000) hx hb dM_run_7 (by decide) ?_
  refine tc_E (tc_S C hl (w_ok l hst D ct (wM ct am N 0 σ) _ (nI K) 1 2000 (nI_nlt (a := K) (b := 1) hk.1 (by omega)) (nI_le (b := 2000) hk.2 (by omega))) hw.1 hw.2.1 hw.2.2 g_M_67 hd_M_within rfl rfl ⟨(Nat.le_of_ble_eq_true rfl), (Nat.le_of_ble_eq_true rfl)⟩ (Nat.le_of_ble_eq_true rfl) ⟨(Nat.le_of_ble_eq_true rfl), (Nat.le_of_ble_eq_true rfl)⟩ dM_run_10 rfl) C hw (fun E ce q9 w1 H locs hp hw h1 h2 h3 => ?_) (fun v w1 H locs hp hw => ?_)
  · exact hp.elim
  obtain ⟨rfl, rfl⟩ := hp
  dsimp only [Option.toList_some, Option.toList_none, List.cons_append, List.nil_append]
  refine lv_if_ne (tgt := 22) hx hb dM_run_13 (by decide) (fun c_13 => ?_) (fun q9 => absurd q9 (by decide))
  refine q_aload_n hx hb hl dM_run_22 rfl ?_
  refine mg C hw 7 l_M_129 (by decide) rfl dM_run_23 ?_
  refine q_istore_n hx hb hl dM_run_26 (by decide) (fun ls hl => ?_)
  refine lv_iconst (v := 0) hx hb dM_run_27 (by decide) ?_
  refine q_istore_n hx hb hl dM_run_28 (by decide) (fun ls hl => ?_)
  have L29 : ∀ (n : Nat) (k : Nat), k + n = K → ∀ (H : Heap) (locs : List Loc) (ls : Array Slot), wl D A s (wM ct am N 0 (mf_it N σ k)) H locs → lq ls 4 [some (.ref (am 0)), some (.int (nI K)), some (.int (σ 0 0 8)), some (.int (nI k))] → W p l e (r0 5) s m args below meth c H locs 0 0 Q (F0 m 29 ls []) := by
    intro n
    induction n with
    | zero =>
      intro k hn H locs ls hw hl
      have hk9 : k = K := by omega
      subst hk9
      refine q_iload_n hx hb hl dM_run_29 rfl ?_
      refine q_iload_n hx hb hl dM_run_30 rfl ?_
      refine lv_icmp_ge (tgt := 45) hx hb dM_run_31 (by decide) (fun c_31 => ?_) (fun q9 => absurd (nI_le (by omega) (by omega)) q9)
      refine q_aload_n hx hb hl dM_run_45 rfl ?_
      refine mg C hw 7 l_M_129 (by decide) rfl dM_run_46 ?_
      refine q_iload_n hx hb hl dM_run_49 rfl ?_
      refine lv_isub hx hb dM_run_50 ?_
      exact tr_i hQ C hw hr (Nat.le_of_ble_eq_true rfl) (Nat.le_of_ble_eq_true rfl) dM_run_51 ⟨rfl, rfl⟩
    | succ n ih =>
      intro k hn H locs ls hw hl
      have hk9 : k < K := by omega
      refine q_iload_n hx hb hl dM_run_29 rfl ?_
      refine q_iload_n hx hb hl dM_run_30 rfl ?_
      refine lv_icmp_ge (tgt := 45) hx hb dM_run_31 (by decide) (fun q9 => absurd q9 (nI_ge hk9 (by omega))) (fun c_31 => ?_)
      refine q_aload_n hx hb hl dM_run_34 rfl ?_
      refine tc_E (tc_V C hl (m_step l hst D ct am N hN h0 0 (mf_it N σ k) _ (hy k hk9).1 (hy k hk9).2.1 (hy k hk9).2.2) hw.1 hw.2.1 hw.2.2 g_M_132 (re_M C hw) hv_M_step rfl rfl ⟨(Nat.le_of_ble_eq_true rfl), (Nat.le_of_ble_eq_true rfl)⟩ (Nat.le_of_ble_eq_true rfl) ⟨(Nat.le_of_ble_eq_true rfl), (Nat.le_of_ble_eq_true rfl)⟩ dM_run_35 rfl) C hw (fun E ce q9 w1 H locs hp hw h1 h2 h3 => ?_) (fun v w1 H locs hp hw => ?_)
      · exact hp.elim
      obtain ⟨rfl, rfl⟩ := hp
      dsimp only [Option.toList_some, Option.toList_none, List.cons_append, List.nil_append]
      refine lv_pop hx hb dM_run_38 rfl ?_
      refine q_inc hx hb hl dM_run_39 rfl (by decide) (fun ls hl => ?_)
      refine lv_goto (tgt := 29) hx hb dM_run_42 (by decide) ?_
      exact ih (k + 1) (by omega) _ _ _ hw hl
  exact L29 K 0 (by omega) _ _ _ hw hl
set_option maxHeartbeats 4000000 in
set_option maxRecDepth 100000 in
theorem mx_run (l : Launch) (hst : l.stackTraces = false) (D : va_G) (ct : Ct) (am : Nat → Nat) (N : Nat) (hN : N ≤ 16) (h0 : 0 < N) (th : Int32) (σ : St) (sz : Nat) (x : Int32) (h : x < 1 ∨ ¬ x ≤ 2000) : Kt l yM_run cM_run 4 (some .int) (r0 5) 0 0 D ct [.ref (am 0), .int x] sz (wM ct am N th σ) (fun v w => v = some (.int 0) ∧ w = wM ct am N 1 σ) (fun E w => False) := by
  refine kt_of hst (by decide) (Nat.le_of_ble_eq_true rfl) (by simp [Value.category]) ?_
  intro p e s m args below meth c A ls C hne hr hw hl Q hQ
  have hx := C.1
  have hb := C.2.1
  refine q_aload_n hx hb hl dM_run_0 rfl ?_
  refine lv_iconst (v := 0) hx hb dM_run_1 (by decide) ?_
  refine mp_0 C hw l_M_64 dM_run_2 (fun H locs hw => ?_)
  refine q_iload_n hx hb hl dM_run_5 rfl ?_
  refine lv_iconst (v := 1) hx hb dM_run_6 (by decide) ?_
  refine lv_sipush (v := 2000) hx hb dM_run_7 (by decide) ?_
  refine tc_E (tc_S C hl (w_bad l hst D ct (wM ct am N 0 σ) _ x 1 2000 h) hw.1 hw.2.1 hw.2.2 g_M_67 hd_M_within rfl rfl ⟨(Nat.le_of_ble_eq_true rfl), (Nat.le_of_ble_eq_true rfl)⟩ (Nat.le_of_ble_eq_true rfl) ⟨(Nat.le_of_ble_eq_true rfl), (Nat.le_of_ble_eq_true rfl)⟩ dM_run_10 rfl) C hw (fun E ce q9 w1 H locs hp hw h1 h2 h3 => ?_) (fun v w1 H locs hp hw => ?_)
  · exact hp.elim
  obtain ⟨rfl, rfl⟩ := hp
  dsimp only [Option.toList_some, Option.toList_none, List.cons_append, List.nil_append]
  refine lv_if_ne (tgt := 22) hx hb dM_run_13 (by decide) (fun q9 => absurd rfl q9) (fun c_13 => ?_)
  refine q_aload_n hx hb hl dM_run_16 rfl ?_
  refine lv_iconst (v := 1) hx hb dM_run_17 (by decide) ?_
  refine tc_E (tc_V C hl (m_fail l hst D ct am N hN h0 0 σ _ 1) hw.1 hw.2.1 hw.2.2 g_M_71 (re_M C hw) hv_M_fail rfl rfl ⟨(Nat.le_of_ble_eq_true rfl), (Nat.le_of_ble_eq_true rfl)⟩ (Nat.le_of_ble_eq_true rfl) ⟨(Nat.le_of_ble_eq_true rfl), (Nat.le_of_ble_eq_true rfl)⟩ dM_run_18 rfl) C hw (fun E ce q9 w1 H locs hp hw h1 h2 h3 => ?_) (fun v w1 H locs hp hw => ?_)
  · exact hp.elim
  obtain ⟨rfl, rfl⟩ := hp
  dsimp only [Option.toList_some, Option.toList_none, List.cons_append, List.nil_append]
  exact tr_i hQ C hw hr (Nat.le_of_ble_eq_true rfl) (Nat.le_of_ble_eq_true rfl) dM_run_21 ⟨rfl, rfl⟩
set_option maxHeartbeats 4000000 in
set_option maxRecDepth 100000 in
theorem mo_part (l : Launch) (hst : l.stackTraces = false) (D : va_G) (ct : Ct) (am : Nat → Nat) (N : Nat) (hN : N ≤ 16) (h0 : 0 < N) (th : Int32) (σ : St) (sz : Nat) (q : Nat) (hq : q < 8) (t : Nat) (ht : t < N) (p2 : Int32) (h : ¬ p2 < 0 ∧ p2 ≤ 32) : Kt l yM_part cM_part 5 (some .int) (r0 2) 0 0 D ct [.ref (am 0), .int (nI q), .int (nI t), .int p2] sz (wM ct am N th σ) (fun v w => v = some (.int (σ 6 q t)) ∧ w = wM ct am N 0 (su σ 6 q t p2)) (fun E w => False) := by
  refine kt_of hst (by decide) (Nat.le_of_ble_eq_true rfl) (by simp [Value.category]) ?_
  intro p e s m args below meth c A ls C hne hr hw hl Q hQ
  have hx := C.1
  have hb := C.2.1
  have ht16 : t < 16 := by omega
  refine q_aload_n hx hb hl dM_part_0 rfl ?_
  refine q_iload_n hx hb hl dM_part_1 rfl ?_
  refine tc_E (tc_V C hl (iq_ok l hst D ct am N hN h0 th σ _ q hq) hw.1 hw.2.1 hw.2.2 g_M_135 (re_M C hw) hv_M_isQueue rfl rfl ⟨(Nat.le_of_ble_eq_true rfl), (Nat.le_of_ble_eq_true rfl)⟩ (Nat.le_of_ble_eq_true rfl) ⟨(Nat.le_of_ble_eq_true rfl), (Nat.le_of_ble_eq_true rfl)⟩ dM_part_2 rfl) C hw (fun E ce q9 w1 H locs hp hw h1 h2 h3 => ?_) (fun v w1 H locs hp hw => ?_)
  · exact hp.elim
  obtain ⟨rfl, rfl⟩ := hp
  dsimp only [Option.toList_some, Option.toList_none, List.cons_append, List.nil_append]
  refine lv_if_eq (tgt := 16) hx hb dM_part_5 (by decide) (fun q9 => absurd q9 (by decide)) (fun c_5 => ?_)
  refine q_aload_n hx hb hl dM_part_8 rfl ?_
  refine q_iload_n hx hb hl dM_part_9 rfl ?_
  refine tc_E (tc_V C hl (it_ok l hst D ct am N hN h0 0 σ _ t ht) hw.1 hw.2.1 hw.2.2 g_M_84 (re_M C hw) hv_M_isThread rfl rfl ⟨(Nat.le_of_ble_eq_true rfl), (Nat.le_of_ble_eq_true rfl)⟩ (Nat.le_of_ble_eq_true rfl) ⟨(Nat.le_of_ble_eq_true rfl), (Nat.le_of_ble_eq_true rfl)⟩ dM_part_10 rfl) C hw (fun E ce q9 w1 H locs hp hw h1 h2 h3 => ?_) (fun v w1 H locs hp hw => ?_)
  · exact hp.elim
  obtain ⟨rfl, rfl⟩ := hp
  dsimp only [Option.toList_some, Option.toList_none, List.cons_append, List.nil_append]
  refine lv_if_ne (tgt := 18) hx hb dM_part_13 (by decide) (fun c_13 => ?_) (fun q9 => absurd q9 (by decide))
  refine q_iload_n hx hb hl dM_part_18 rfl ?_
  refine lv_iconst (v := 0) hx hb dM_part_19 (by decide) ?_
  refine lv_bipush (v := 32) hx hb dM_part_20 (by decide) ?_
  refine tc_E (tc_S C hl (w_ok l hst D ct (wM ct am N 0 σ) _ p2 0 32 h.1 h.2) hw.1 hw.2.1 hw.2.2 g_M_67 hd_M_within rfl rfl ⟨(Nat.le_of_ble_eq_true rfl), (Nat.le_of_ble_eq_true rfl)⟩ (Nat.le_of_ble_eq_true rfl) ⟨(Nat.le_of_ble_eq_true rfl), (Nat.le_of_ble_eq_true rfl)⟩ dM_part_22 rfl) C hw (fun E ce q9 w1 H locs hp hw h1 h2 h3 => ?_) (fun v w1 H locs hp hw => ?_)
  · exact hp.elim
  obtain ⟨rfl, rfl⟩ := hp
  dsimp only [Option.toList_some, Option.toList_none, List.cons_append, List.nil_append]
  refine lv_if_ne (tgt := 34) hx hb dM_part_25 (by decide) (fun c_25 => ?_) (fun q9 => absurd q9 (by decide))
  refine q_aload_n hx hb hl dM_part_34 rfl ?_
  refine mg C hw 25 l_M_54 (by decide) rfl dM_part_35 ?_
  refine lv_bipush (v := 16) hx hb dM_part_38 (by decide) ?_
  refine q_iload_n hx hb hl dM_part_40 rfl ?_
  refine lv_imul hx hb dM_part_41 ?_
  refine q_iload_n hx hb hl dM_part_42 rfl ?_
  refine lv_iadd hx hb dM_part_43 ?_
  refine mr_13 C hw (q := q) (t := t) (by assumption) (by assumption) (i16 q t) dM_part_44 ?_
  refine q_istore hx hb hl dM_part_45 (by decide) (fun ls hl => ?_)
  refine q_aload_n hx hb hl dM_part_47 rfl ?_
  refine mg C hw 25 l_M_54 (by decide) rfl dM_part_48 ?_
  refine lv_bipush (v := 16) hx hb dM_part_51 (by decide) ?_
  refine q_iload_n hx hb hl dM_part_53 rfl ?_
  refine lv_imul hx hb dM_part_54 ?_
  refine q_iload_n hx hb hl dM_part_55 rfl ?_
  refine lv_iadd hx hb dM_part_56 ?_
  refine q_iload_n hx hb hl dM_part_57 rfl ?_
  refine mw_13 C hw (q := q) (t := t) (by assumption) (by assumption) (i16 q t) dM_part_58 (fun H locs hw => ?_)
  refine q_iload hx hb hl dM_part_59 rfl ?_
  exact tr_i hQ C hw hr (Nat.le_of_ble_eq_true rfl) (Nat.le_of_ble_eq_true rfl) dM_part_61 ⟨rfl, rfl⟩
set_option maxHeartbeats 4000000 in
set_option maxRecDepth 100000 in
theorem my_part (l : Launch) (hst : l.stackTraces = false) (D : va_G) (ct : Ct) (am : Nat → Nat) (N : Nat) (hN : N ≤ 16) (h0 : 0 < N) (th : Int32) (σ : St) (sz : Nat) (q : Nat) (hq : q < 8) (t : Nat) (ht : t < N) (p2 : Int32) (h : p2 < 0 ∨ ¬ p2 ≤ 32) : Kt l yM_part cM_part 5 (some .int) (r0 2) 0 0 D ct [.ref (am 0), .int (nI q), .int (nI t), .int p2] sz (wM ct am N th σ) (fun v w => v = some (.int 0) ∧ w = wM ct am N 2 σ) (fun E w => False) := by
  refine kt_of hst (by decide) (Nat.le_of_ble_eq_true rfl) (by simp [Value.category]) ?_
  intro p e s m args below meth c A ls C hne hr hw hl Q hQ
  have hx := C.1
  have hb := C.2.1
  refine q_aload_n hx hb hl dM_part_0 rfl ?_
  refine q_iload_n hx hb hl dM_part_1 rfl ?_
  refine tc_E (tc_V C hl (iq_ok l hst D ct am N hN h0 th σ _ q hq) hw.1 hw.2.1 hw.2.2 g_M_135 (re_M C hw) hv_M_isQueue rfl rfl ⟨(Nat.le_of_ble_eq_true rfl), (Nat.le_of_ble_eq_true rfl)⟩ (Nat.le_of_ble_eq_true rfl) ⟨(Nat.le_of_ble_eq_true rfl), (Nat.le_of_ble_eq_true rfl)⟩ dM_part_2 rfl) C hw (fun E ce q9 w1 H locs hp hw h1 h2 h3 => ?_) (fun v w1 H locs hp hw => ?_)
  · exact hp.elim
  obtain ⟨rfl, rfl⟩ := hp
  dsimp only [Option.toList_some, Option.toList_none, List.cons_append, List.nil_append]
  refine lv_if_eq (tgt := 16) hx hb dM_part_5 (by decide) (fun q9 => absurd q9 (by decide)) (fun c_5 => ?_)
  refine q_aload_n hx hb hl dM_part_8 rfl ?_
  refine q_iload_n hx hb hl dM_part_9 rfl ?_
  refine tc_E (tc_V C hl (it_ok l hst D ct am N hN h0 0 σ _ t ht) hw.1 hw.2.1 hw.2.2 g_M_84 (re_M C hw) hv_M_isThread rfl rfl ⟨(Nat.le_of_ble_eq_true rfl), (Nat.le_of_ble_eq_true rfl)⟩ (Nat.le_of_ble_eq_true rfl) ⟨(Nat.le_of_ble_eq_true rfl), (Nat.le_of_ble_eq_true rfl)⟩ dM_part_10 rfl) C hw (fun E ce q9 w1 H locs hp hw h1 h2 h3 => ?_) (fun v w1 H locs hp hw => ?_)
  · exact hp.elim
  obtain ⟨rfl, rfl⟩ := hp
  dsimp only [Option.toList_some, Option.toList_none, List.cons_append, List.nil_append]
  refine lv_if_ne (tgt := 18) hx hb dM_part_13 (by decide) (fun c_13 => ?_) (fun q9 => absurd q9 (by decide))
  refine q_iload_n hx hb hl dM_part_18 rfl ?_
  refine lv_iconst (v := 0) hx hb dM_part_19 (by decide) ?_
  refine lv_bipush (v := 32) hx hb dM_part_20 (by decide) ?_
  refine tc_E (tc_S C hl (w_bad l hst D ct (wM ct am N 0 σ) _ p2 0 32 h) hw.1 hw.2.1 hw.2.2 g_M_67 hd_M_within rfl rfl ⟨(Nat.le_of_ble_eq_true rfl), (Nat.le_of_ble_eq_true rfl)⟩ (Nat.le_of_ble_eq_true rfl) ⟨(Nat.le_of_ble_eq_true rfl), (Nat.le_of_ble_eq_true rfl)⟩ dM_part_22 rfl) C hw (fun E ce q9 w1 H locs hp hw h1 h2 h3 => ?_) (fun v w1 H locs hp hw => ?_)
  · exact hp.elim
  obtain ⟨rfl, rfl⟩ := hp
  dsimp only [Option.toList_some, Option.toList_none, List.cons_append, List.nil_append]
  refine lv_if_ne (tgt := 34) hx hb dM_part_25 (by decide) (fun q9 => absurd rfl q9) (fun c_25 => ?_)
  refine q_aload_n hx hb hl dM_part_28 rfl ?_
  refine lv_iconst (v := 2) hx hb dM_part_29 (by decide) ?_
  refine tc_E (tc_V C hl (m_fail l hst D ct am N hN h0 0 σ _ 2) hw.1 hw.2.1 hw.2.2 g_M_71 (re_M C hw) hv_M_fail rfl rfl ⟨(Nat.le_of_ble_eq_true rfl), (Nat.le_of_ble_eq_true rfl)⟩ (Nat.le_of_ble_eq_true rfl) ⟨(Nat.le_of_ble_eq_true rfl), (Nat.le_of_ble_eq_true rfl)⟩ dM_part_30 rfl) C hw (fun E ce q9 w1 H locs hp hw h1 h2 h3 => ?_) (fun v w1 H locs hp hw => ?_)
  · exact hp.elim
  obtain ⟨rfl, rfl⟩ := hp
  dsimp only [Option.toList_some, Option.toList_none, List.cons_append, List.nil_append]
  exact tr_i hQ C hw hr (Nat.le_of_ble_eq_true rfl) (Nat.le_of_ble_eq_true rfl) dM_part_33 ⟨rfl, rfl⟩
set_option maxHeartbeats 4000000 in
set_option maxRecDepth 100000 in
theorem mq_part (l : Launch) (hst : l.stackTraces = false) (D : va_G) (ct : Ct) (am : Nat → Nat) (N : Nat) (hN : N ≤ 16) (h0 : 0 < N) (th : Int32) (σ : St) (sz : Nat) (p0 p1 p2 : Int32) (h : p0 < 0 ∨ ¬ p0 < nI 8) : Kt l yM_part cM_part 5 (some .int) (r0 2) 0 0 D ct [.ref (am 0), .int p0, .int p1, .int p2] sz (wM ct am N th σ) (fun v w => v = some (.int 0) ∧ w = wM ct am N 1 σ) (fun E w => False) := by
  refine kt_of hst (by decide) (Nat.le_of_ble_eq_true rfl) (by simp [Value.category]) ?_
  intro p e s m args below meth c A ls C hne hr hw hl Q hQ
  have hx := C.1
  have hb := C.2.1
  refine q_aload_n hx hb hl dM_part_0 rfl ?_
  refine q_iload_n hx hb hl dM_part_1 rfl ?_
  refine tc_E (tc_V C hl (iq_bad l hst D ct am N hN h0 th σ _ p0 h) hw.1 hw.2.1 hw.2.2 g_M_135 (re_M C hw) hv_M_isQueue rfl rfl ⟨(Nat.le_of_ble_eq_true rfl), (Nat.le_of_ble_eq_true rfl)⟩ (Nat.le_of_ble_eq_true rfl) ⟨(Nat.le_of_ble_eq_true rfl), (Nat.le_of_ble_eq_true rfl)⟩ dM_part_2 rfl) C hw (fun E ce q9 w1 H locs hp hw h1 h2 h3 => ?_) (fun v w1 H locs hp hw => ?_)
  · exact hp.elim
  obtain ⟨rfl, rfl⟩ := hp
  dsimp only [Option.toList_some, Option.toList_none, List.cons_append, List.nil_append]
  refine lv_if_eq (tgt := 16) hx hb dM_part_5 (by decide) (fun c_5 => ?_) (fun q9 => absurd rfl q9)
  refine lv_iconst (v := 0) hx hb dM_part_16 (by decide) ?_
  exact tr_i hQ C hw hr (Nat.le_of_ble_eq_true rfl) (Nat.le_of_ble_eq_true rfl) dM_part_17 ⟨rfl, rfl⟩
set_option maxHeartbeats 4000000 in
set_option maxRecDepth 100000 in
theorem mt_part (l : Launch) (hst : l.stackTraces = false) (D : va_G) (ct : Ct) (am : Nat → Nat) (N : Nat) (hN : N ≤ 16) (h0 : 0 < N) (th : Int32) (σ : St) (sz : Nat) (q : Nat) (hq : q < 8) (p1 p2 : Int32) (h : p1 < 0 ∨ ¬ p1 < nI N) : Kt l yM_part cM_part 5 (some .int) (r0 2) 0 0 D ct [.ref (am 0), .int (nI q), .int p1, .int p2] sz (wM ct am N th σ) (fun v w => v = some (.int 0) ∧ w = wM ct am N 1 σ) (fun E w => False) := by
  refine kt_of hst (by decide) (Nat.le_of_ble_eq_true rfl) (by simp [Value.category]) ?_
  intro p e s m args below meth c A ls C hne hr hw hl Q hQ
  have hx := C.1
  have hb := C.2.1
  refine q_aload_n hx hb hl dM_part_0 rfl ?_
  refine q_iload_n hx hb hl dM_part_1 rfl ?_
  refine tc_E (tc_V C hl (iq_ok l hst D ct am N hN h0 th σ _ q hq) hw.1 hw.2.1 hw.2.2 g_M_135 (re_M C hw) hv_M_isQueue rfl rfl ⟨(Nat.le_of_ble_eq_true rfl), (Nat.le_of_ble_eq_true rfl)⟩ (Nat.le_of_ble_eq_true rfl) ⟨(Nat.le_of_ble_eq_true rfl), (Nat.le_of_ble_eq_true rfl)⟩ dM_part_2 rfl) C hw (fun E ce q9 w1 H locs hp hw h1 h2 h3 => ?_) (fun v w1 H locs hp hw => ?_)
  · exact hp.elim
  obtain ⟨rfl, rfl⟩ := hp
  dsimp only [Option.toList_some, Option.toList_none, List.cons_append, List.nil_append]
  refine lv_if_eq (tgt := 16) hx hb dM_part_5 (by decide) (fun q9 => absurd q9 (by decide)) (fun c_5 => ?_)
  refine q_aload_n hx hb hl dM_part_8 rfl ?_
  refine q_iload_n hx hb hl dM_part_9 rfl ?_
  refine tc_E (tc_V C hl (it_bad l hst D ct am N hN h0 0 σ _ p1 h) hw.1 hw.2.1 hw.2.2 g_M_84 (re_M C hw) hv_M_isThread rfl rfl ⟨(Nat.le_of_ble_eq_true rfl), (Nat.le_of_ble_eq_true rfl)⟩ (Nat.le_of_ble_eq_true rfl) ⟨(Nat.le_of_ble_eq_true rfl), (Nat.le_of_ble_eq_true rfl)⟩ dM_part_10 rfl) C hw (fun E ce q9 w1 H locs hp hw h1 h2 h3 => ?_) (fun v w1 H locs hp hw => ?_)
  · exact hp.elim
  obtain ⟨rfl, rfl⟩ := hp
  dsimp only [Option.toList_some, Option.toList_none, List.cons_append, List.nil_append]
  refine lv_if_ne (tgt := 18) hx hb dM_part_13 (by decide) (fun q9 => absurd rfl q9) (fun c_13 => ?_)
  refine lv_iconst (v := 0) hx hb dM_part_16 (by decide) ?_
  exact tr_i hQ C hw hr (Nat.le_of_ble_eq_true rfl) (Nat.le_of_ble_eq_true rfl) dM_part_17 ⟨rfl, rfl⟩
set_option maxHeartbeats 4000000 in
set_option maxRecDepth 100000 in
theorem mq_put (l : Launch) (hst : l.stackTraces = false) (D : va_G) (ct : Ct) (am : Nat → Nat) (N : Nat) (hN : N ≤ 16) (h0 : 0 < N) (th : Int32) (σ : St) (sz : Nat) (p0 p1 p2 : Int32) (h : p0 < 0 ∨ ¬ p0 < nI 8) : Kt l yM_put cM_put 4 (some .int) (r0 2) 0 0 D ct [.ref (am 0), .int p0, .int p1, .int p2] sz (wM ct am N th σ) (fun v w => v = some (.int 0) ∧ w = wM ct am N 1 σ) (fun E w => False) := by
  refine kt_of hst (by decide) (Nat.le_of_ble_eq_true rfl) (by simp [Value.category]) ?_
  intro p e s m args below meth c A ls C hne hr hw hl Q hQ
  have hx := C.1
  have hb := C.2.1
  refine q_aload_n hx hb hl dM_put_0 rfl ?_
  refine q_iload_n hx hb hl dM_put_1 rfl ?_
  refine tc_E (tc_V C hl (iq_bad l hst D ct am N hN h0 th σ _ p0 h) hw.1 hw.2.1 hw.2.2 g_M_135 (re_M C hw) hv_M_isQueue rfl rfl ⟨(Nat.le_of_ble_eq_true rfl), (Nat.le_of_ble_eq_true rfl)⟩ (Nat.le_of_ble_eq_true rfl) ⟨(Nat.le_of_ble_eq_true rfl), (Nat.le_of_ble_eq_true rfl)⟩ dM_put_2 rfl) C hw (fun E ce q9 w1 H locs hp hw h1 h2 h3 => ?_) (fun v w1 H locs hp hw => ?_)
  · exact hp.elim
  obtain ⟨rfl, rfl⟩ := hp
  dsimp only [Option.toList_some, Option.toList_none, List.cons_append, List.nil_append]
  refine lv_if_eq (tgt := 16) hx hb dM_put_5 (by decide) (fun c_5 => ?_) (fun q9 => absurd rfl q9)
  refine lv_iconst (v := 0) hx hb dM_put_16 (by decide) ?_
  exact tr_i hQ C hw hr (Nat.le_of_ble_eq_true rfl) (Nat.le_of_ble_eq_true rfl) dM_put_17 ⟨rfl, rfl⟩
set_option maxHeartbeats 4000000 in
set_option maxRecDepth 100000 in
theorem mt_put (l : Launch) (hst : l.stackTraces = false) (D : va_G) (ct : Ct) (am : Nat → Nat) (N : Nat) (hN : N ≤ 16) (h0 : 0 < N) (th : Int32) (σ : St) (sz : Nat) (q : Nat) (hq : q < 8) (p1 p2 : Int32) (h : p1 < 0 ∨ ¬ p1 < nI N) : Kt l yM_put cM_put 4 (some .int) (r0 2) 0 0 D ct [.ref (am 0), .int (nI q), .int p1, .int p2] sz (wM ct am N th σ) (fun v w => v = some (.int 0) ∧ w = wM ct am N 1 σ) (fun E w => False) := by
  refine kt_of hst (by decide) (Nat.le_of_ble_eq_true rfl) (by simp [Value.category]) ?_
  intro p e s m args below meth c A ls C hne hr hw hl Q hQ
  have hx := C.1
  have hb := C.2.1
  refine q_aload_n hx hb hl dM_put_0 rfl ?_
  refine q_iload_n hx hb hl dM_put_1 rfl ?_
  refine tc_E (tc_V C hl (iq_ok l hst D ct am N hN h0 th σ _ q hq) hw.1 hw.2.1 hw.2.2 g_M_135 (re_M C hw) hv_M_isQueue rfl rfl ⟨(Nat.le_of_ble_eq_true rfl), (Nat.le_of_ble_eq_true rfl)⟩ (Nat.le_of_ble_eq_true rfl) ⟨(Nat.le_of_ble_eq_true rfl), (Nat.le_of_ble_eq_true rfl)⟩ dM_put_2 rfl) C hw (fun E ce q9 w1 H locs hp hw h1 h2 h3 => ?_) (fun v w1 H locs hp hw => ?_)
  · exact hp.elim
  obtain ⟨rfl, rfl⟩ := hp
  dsimp only [Option.toList_some, Option.toList_none, List.cons_append, List.nil_append]
  refine lv_if_eq (tgt := 16) hx hb dM_put_5 (by decide) (fun q9 => absurd q9 (by decide)) (fun c_5 => ?_)
  refine q_aload_n hx hb hl dM_put_8 rfl ?_
  refine q_iload_n hx hb hl dM_put_9 rfl ?_
  refine tc_E (tc_V C hl (it_bad l hst D ct am N hN h0 0 σ _ p1 h) hw.1 hw.2.1 hw.2.2 g_M_84 (re_M C hw) hv_M_isThread rfl rfl ⟨(Nat.le_of_ble_eq_true rfl), (Nat.le_of_ble_eq_true rfl)⟩ (Nat.le_of_ble_eq_true rfl) ⟨(Nat.le_of_ble_eq_true rfl), (Nat.le_of_ble_eq_true rfl)⟩ dM_put_10 rfl) C hw (fun E ce q9 w1 H locs hp hw h1 h2 h3 => ?_) (fun v w1 H locs hp hw => ?_)
  · exact hp.elim
  obtain ⟨rfl, rfl⟩ := hp
  dsimp only [Option.toList_some, Option.toList_none, List.cons_append, List.nil_append]
  refine lv_if_ne (tgt := 18) hx hb dM_put_13 (by decide) (fun q9 => absurd rfl q9) (fun c_13 => ?_)
  refine lv_iconst (v := 0) hx hb dM_put_16 (by decide) ?_
  exact tr_i hQ C hw hr (Nat.le_of_ble_eq_true rfl) (Nat.le_of_ble_eq_true rfl) dM_put_17 ⟨rfl, rfl⟩
set_option maxHeartbeats 4000000 in
set_option maxRecDepth 100000 in
theorem m_has (l : Launch) (hst : l.stackTraces = false) (D : va_G) (ct : Ct) (am : Nat → Nat) (N : Nat) (hN : N ≤ 16) (h0 : 0 < N) (th : Int32) (σ : St) (sz : Nat) (q : Nat) (hq : q < 8) (K : Nat) (hK : K ≤ 32) (hs : σ 3 q 0 = nI K) (x : Int32) : Kt l yM_has cM_has 5 (some .int) (r0 0) 0 0 D ct [.ref (am 0), .int (nI q), .int x] sz (wM ct am N th σ) (fun v w => v = some (.int (tf_ent σ q x K 0 0)) ∧ w = wM ct am N th σ) (fun E w => False) := by
  refine kt_of hst (by decide) (Nat.le_of_ble_eq_true rfl) (by simp [Value.category]) ?_
  intro p e s m args below meth c A ls C hne hr hw hl Q hQ
  have hx := C.1
  have hb := C.2.1
  refine lv_iconst (v := 0) hx hb dM_has_0 (by decide) ?_
  refine q_istore_n hx hb hl dM_has_1 (by decide) (fun ls hl => ?_)
  refine lv_iconst (v := 0) hx hb dM_has_2 (by decide) ?_
  refine q_istore hx hb hl dM_has_3 (by decide) (fun ls hl => ?_)
  have L5 : ∀ (n : Nat) (k : Nat) (h : Int32), k + n = K → tf_ent σ q x n k h = tf_ent σ q x K 0 0 → ∀ (H : Heap) (locs : List Loc) (ls : Array Slot), wl D A s (wM ct am N th σ) H locs → lq ls 5 [some (.ref (am 0)), some (.int (nI q)), some (.int x), some (.int h), some (.int (nI k))] → W p l e (r0 0) s m args below meth c H locs 0 0 Q (F0 m 5 ls []) := by
    intro n
    induction n with
    | zero =>
      intro k h hn he H locs ls hw hl
      refine q_iload hx hb hl dM_has_5 rfl ?_
      refine q_aload_n hx hb hl dM_has_7 rfl ?_
      refine mg C hw 22 l_M_45 (by decide) rfl dM_has_8 ?_
      refine q_iload_n hx hb hl dM_has_11 rfl ?_
      refine mr_10 C hw (q := q) hq rfl dM_has_12 ?_
      refine lv_icmp_ge (tgt := 46) hx hb dM_has_13 (by decide) (fun c_13 => ?_) (fun q9 => absurd (show σ 3 q 0 ≤ nI k by rw [hs]; exact nI_le (by omega) (by omega)) q9)
      refine q_iload_n hx hb hl dM_has_46 rfl ?_
      exact tr_i hQ C hw hr (Nat.le_of_ble_eq_true rfl) (Nat.le_of_ble_eq_true rfl) dM_has_47 ⟨by rw [← he]; rfl, rfl⟩
    | succ n ih =>
      intro k h hn he H locs ls hw hl
      have hk32 : k < 32 := by omega
      refine q_iload hx hb hl dM_has_5 rfl ?_
      refine q_aload_n hx hb hl dM_has_7 rfl ?_
      refine mg C hw 22 l_M_45 (by decide) rfl dM_has_8 ?_
      refine q_iload_n hx hb hl dM_has_11 rfl ?_
      refine mr_10 C hw (q := q) hq rfl dM_has_12 ?_
      refine lv_icmp_ge (tgt := 46) hx hb dM_has_13 (by decide) (fun q9 => absurd q9 (show ¬ σ 3 q 0 ≤ nI k by rw [hs]; exact nI_ge (by omega) (by omega))) (fun c_13 => ?_)
      refine q_iload_n hx hb hl dM_has_16 rfl ?_
      refine q_aload_n hx hb hl dM_has_17 rfl ?_
      refine mg C hw 23 l_M_48 (by decide) rfl dM_has_18 ?_
      refine lv_bipush (v := 32) hx hb dM_has_21 (by decide) ?_
      refine q_iload_n hx hb hl dM_has_23 rfl ?_
      refine lv_imul hx hb dM_has_24 ?_
      refine q_iload hx hb hl dM_has_25 rfl ?_
      refine lv_iadd hx hb dM_has_27 ?_
      refine mr_11 C hw (q := q) (k := k) (by assumption) (by omega) (i32x q k) dM_has_28 ?_
      refine q_iload_n hx hb hl dM_has_29 rfl ?_
      refine lv_icmp_ne (tgt := 37) hx hb dM_has_30 (by decide) (fun c_30 => ?_) (fun c_30 => ?_)
      · refine lv_iconst (v := 0) hx hb dM_has_37 (by decide) ?_
        refine lv_iadd hx hb dM_has_38 ?_
        refine q_istore_n hx hb hl dM_has_39 (by decide) (fun ls hl => ?_)
        refine q_inc hx hb hl dM_has_40 rfl (by decide) (fun ls hl => ?_)
        refine lv_goto (tgt := 5) hx hb dM_has_43 (by decide) ?_
        exact ih _ _ (by omega) (by rw [← he]; simp [tf_ent, c_30]) _ _ _ hw hl
      refine lv_iconst (v := 1) hx hb dM_has_33 (by decide) ?_
      refine lv_goto (tgt := 38) hx hb dM_has_34 (by decide) ?_
      refine lv_iadd hx hb dM_has_38 ?_
      refine q_istore_n hx hb hl dM_has_39 (by decide) (fun ls hl => ?_)
      refine q_inc hx hb hl dM_has_40 rfl (by decide) (fun ls hl => ?_)
      refine lv_goto (tgt := 5) hx hb dM_has_43 (by decide) ?_
      exact ih _ _ (by omega) (by rw [← he]; simp [tf_ent, c_30]) _ _ _ hw hl
  exact L5 K 0 _ (by omega) rfl _ _ _ hw hl
set_option maxHeartbeats 4000000 in
set_option maxRecDepth 100000 in
theorem mo_put (l : Launch) (hst : l.stackTraces = false) (D : va_G) (ct : Ct) (am : Nat → Nat) (N : Nat) (hN : N ≤ 16) (h0 : 0 < N) (th : Int32) (σ : St) (sz : Nat) (q : Nat) (hq : q < 8) (t : Nat) (ht : t < N) (K : Nat) (hK : K ≤ 32) (hs : σ 3 q 0 = nI K) (p2 : Int32) : Kt l yM_put cM_put 4 (some .int) (r0 2) 0 0 D ct [.ref (am 0), .int (nI q), .int (nI t), .int p2] sz (wM ct am N th σ) (fun v w => v = some (.int (mf_putA σ q t K p2)) ∧ w = wM ct am N 0 (mf_putS σ q t K p2)) (fun E w => False) := by
  refine kt_of hst (by decide) (Nat.le_of_ble_eq_true rfl) (by simp [Value.category]) ?_
  intro p e s m args below meth c A ls C hne hr hw hl Q hQ
  have hx := C.1
  have hb := C.2.1
  have ht16 : t < 16 := by omega
  refine q_aload_n hx hb hl dM_put_0 rfl ?_
  refine q_iload_n hx hb hl dM_put_1 rfl ?_
  refine tc_E (tc_V C hl (iq_ok l hst D ct am N hN h0 th σ _ q hq) hw.1 hw.2.1 hw.2.2 g_M_135 (re_M C hw) hv_M_isQueue rfl rfl ⟨(Nat.le_of_ble_eq_true rfl), (Nat.le_of_ble_eq_true rfl)⟩ (Nat.le_of_ble_eq_true rfl) ⟨(Nat.le_of_ble_eq_true rfl), (Nat.le_of_ble_eq_true rfl)⟩ dM_put_2 rfl) C hw (fun E ce q9 w1 H locs hp hw h1 h2 h3 => ?_) (fun v w1 H locs hp hw => ?_)
  · exact hp.elim
  obtain ⟨rfl, rfl⟩ := hp
  dsimp only [Option.toList_some, Option.toList_none, List.cons_append, List.nil_append]
  refine lv_if_eq (tgt := 16) hx hb dM_put_5 (by decide) (fun q9 => absurd q9 (by decide)) (fun c_5 => ?_)
  refine q_aload_n hx hb hl dM_put_8 rfl ?_
  refine q_iload_n hx hb hl dM_put_9 rfl ?_
  refine tc_E (tc_V C hl (it_ok l hst D ct am N hN h0 0 σ _ t ht) hw.1 hw.2.1 hw.2.2 g_M_84 (re_M C hw) hv_M_isThread rfl rfl ⟨(Nat.le_of_ble_eq_true rfl), (Nat.le_of_ble_eq_true rfl)⟩ (Nat.le_of_ble_eq_true rfl) ⟨(Nat.le_of_ble_eq_true rfl), (Nat.le_of_ble_eq_true rfl)⟩ dM_put_10 rfl) C hw (fun E ce q9 w1 H locs hp hw h1 h2 h3 => ?_) (fun v w1 H locs hp hw => ?_)
  · exact hp.elim
  obtain ⟨rfl, rfl⟩ := hp
  dsimp only [Option.toList_some, Option.toList_none, List.cons_append, List.nil_append]
  refine lv_if_ne (tgt := 18) hx hb dM_put_13 (by decide) (fun c_13 => ?_) (fun q9 => absurd q9 (by decide))
  refine q_aload_n hx hb hl dM_put_18 rfl ?_
  refine q_iload_n hx hb hl dM_put_19 rfl ?_
  refine q_iload_n hx hb hl dM_put_20 rfl ?_
  refine tc_E (tc_V C hl (m_has l hst D ct am N hN h0 0 σ _ q hq K hK hs (nI t)) hw.1 hw.2.1 hw.2.2 g_M_138 (re_M C hw) hv_M_has rfl rfl ⟨(Nat.le_of_ble_eq_true rfl), (Nat.le_of_ble_eq_true rfl)⟩ (Nat.le_of_ble_eq_true rfl) ⟨(Nat.le_of_ble_eq_true rfl), (Nat.le_of_ble_eq_true rfl)⟩ dM_put_21 rfl) C hw (fun E ce q9 w1 H locs hp hw h1 h2 h3 => ?_) (fun v w1 H locs hp hw => ?_)
  · exact hp.elim
  obtain ⟨rfl, rfl⟩ := hp
  dsimp only [Option.toList_some, Option.toList_none, List.cons_append, List.nil_append]
  refine q_aload_n hx hb hl dM_put_24 rfl ?_
  refine mg C hw 25 l_M_54 (by decide) rfl dM_put_25 ?_
  refine lv_bipush (v := 16) hx hb dM_put_28 (by decide) ?_
  refine q_iload_n hx hb hl dM_put_30 rfl ?_
  refine lv_imul hx hb dM_put_31 ?_
  refine q_iload_n hx hb hl dM_put_32 rfl ?_
  refine lv_iadd hx hb dM_put_33 ?_
  refine mr_13 C hw (q := q) (t := t) (by assumption) (by assumption) (i16 q t) dM_put_34 ?_
  refine lv_icmp_ge (tgt := 49) hx hb dM_put_35 (by decide) (fun c_35 => ?_) (fun c_35 => ?_)
  · refine lv_iconst (v := -1) hx hb dM_put_49 (by decide) ?_
    exact tr_i hQ C hw hr (Nat.le_of_ble_eq_true rfl) (Nat.le_of_ble_eq_true rfl) dM_put_50 ⟨by simp only [mf_putA, if_pos c_35], by simp only [mf_putS, if_pos c_35]⟩
  refine q_aload_n hx hb hl dM_put_38 rfl ?_
  refine mg C hw 22 l_M_45 (by decide) rfl dM_put_39 ?_
  refine q_iload_n hx hb hl dM_put_42 rfl ?_
  refine mr_10 C hw (q := q) hq rfl dM_put_43 ?_
  refine lv_bipush (v := 32) hx hb dM_put_44 (by decide) ?_
  refine lv_icmp_ne (tgt := 51) hx hb dM_put_46 (by decide) (fun c_46 => ?_) (fun c_46 => ?_)
  · have hK2 : K < 32 := by
      rcases Nat.lt_or_ge K 32 with q9 | q9
      · exact q9
      · exact absurd (by rw [hs, show K = 32 by omega]; rfl) c_46
    refine q_aload_n hx hb hl dM_put_51 rfl ?_
    refine mg C hw 23 l_M_48 (by decide) rfl dM_put_52 ?_
    refine lv_bipush (v := 32) hx hb dM_put_55 (by decide) ?_
    refine q_iload_n hx hb hl dM_put_57 rfl ?_
    refine lv_imul hx hb dM_put_58 ?_
    refine q_aload_n hx hb hl dM_put_59 rfl ?_
    refine mg C hw 22 l_M_45 (by decide) rfl dM_put_60 ?_
    refine q_iload_n hx hb hl dM_put_63 rfl ?_
    refine mr_10 C hw (q := q) hq rfl dM_put_64 ?_
    refine lv_iadd hx hb dM_put_65 ?_
    refine q_iload_n hx hb hl dM_put_66 rfl ?_
    refine mw_11 C hw (q := q) (k := K) hq hK2 (by rw [hs]; exact i32x q K) dM_put_67 (fun H locs hw => ?_)
    refine q_aload_n hx hb hl dM_put_68 rfl ?_
    refine mg C hw 24 l_M_51 (by decide) rfl dM_put_69 ?_
    refine lv_bipush (v := 32) hx hb dM_put_72 (by decide) ?_
    refine q_iload_n hx hb hl dM_put_74 rfl ?_
    refine lv_imul hx hb dM_put_75 ?_
    refine q_aload_n hx hb hl dM_put_76 rfl ?_
    refine mg C hw 22 l_M_45 (by decide) rfl dM_put_77 ?_
    refine q_iload_n hx hb hl dM_put_80 rfl ?_
    refine mr_10 C hw (q := q) hq rfl dM_put_81 ?_
    refine lv_iadd hx hb dM_put_82 ?_
    refine q_iload_n hx hb hl dM_put_83 rfl ?_
    refine mw_12 C hw (q := q) (k := K) hq hK2 (by rw [su_n1 (by decide), hs]; exact i32x q K) dM_put_84 (fun H locs hw => ?_)
    refine q_aload_n hx hb hl dM_put_85 rfl ?_
    refine mg C hw 22 l_M_45 (by decide) rfl dM_put_86 ?_
    refine q_iload_n hx hb hl dM_put_89 rfl ?_
    refine lv_dup2_11 hx hb dM_put_90 rfl rfl ?_
    refine mr_10 C hw (q := q) hq rfl dM_put_91 ?_
    refine lv_iconst (v := 1) hx hb dM_put_92 (by decide) ?_
    refine lv_iadd hx hb dM_put_93 ?_
    refine mw_10 C hw (q := q) hq rfl dM_put_94 (fun H locs hw => ?_)
    refine q_aload_n hx hb hl dM_put_95 rfl ?_
    refine q_iload_n hx hb hl dM_put_96 rfl ?_
    refine q_iload_n hx hb hl dM_put_97 rfl ?_
    refine tc_E (tc_V C hl (m_has l hst D ct am N hN h0 0 _ _ q hq (K + 1) (by omega) (by rw [su_eq, su_n1 (by decide), su_n1 (by decide), hs]; exact nI_1 K) (nI t)) hw.1 hw.2.1 hw.2.2 g_M_138 (re_M C hw) hv_M_has rfl rfl ⟨(Nat.le_of_ble_eq_true rfl), (Nat.le_of_ble_eq_true rfl)⟩ (Nat.le_of_ble_eq_true rfl) ⟨(Nat.le_of_ble_eq_true rfl), (Nat.le_of_ble_eq_true rfl)⟩ dM_put_98 rfl) C hw (fun E ce q9 w1 H locs hp hw h1 h2 h3 => ?_) (fun v w1 H locs hp hw => ?_)
    · exact hp.elim
    obtain ⟨rfl, rfl⟩ := hp
    dsimp only [Option.toList_some, Option.toList_none, List.cons_append, List.nil_append]
    exact tr_i hQ C hw hr (Nat.le_of_ble_eq_true rfl) (Nat.le_of_ble_eq_true rfl) dM_put_101 ⟨by simp only [mf_putA, tf_app, if_neg c_35, if_neg c_46]; simp [su_n1, hs, nI_1], by simp only [mf_putS, tf_app, if_neg c_35, if_neg c_46]; simp [su_n1, hs, nI_1]⟩
  refine lv_iconst (v := -1) hx hb dM_put_49 (by decide) ?_
  exact tr_i hQ C hw hr (Nat.le_of_ble_eq_true rfl) (Nat.le_of_ble_eq_true rfl) dM_put_50 ⟨by simp only [mf_putA, if_neg c_35, if_pos c_46], by simp only [mf_putS, if_neg c_35, if_pos c_46]⟩
set_option maxHeartbeats 4000000 in
set_option maxRecDepth 100000 in
theorem mo_takeA (l : Launch) (hst : l.stackTraces = false) (D : va_G) (ct : Ct) (am : Nat → Nat) (N : Nat) (hN : N ≤ 16) (h0 : 0 < N) (th : Int32) (σ : St) (sz : Nat) (q : Nat) (hq : q < 8) (K : Nat) (hK : K ≤ 32) (hs : σ 3 q 0 = nI K) : Kt l yM_take cM_take 6 (some .int) (r0 2) 0 0 D ct [.ref (am 0), .int (nI q), .int (-1)] sz (wM ct am N th σ) (fun v w => (mf_tk σ q (-1) K 0 = K ∧ v = some (.int 0) ∧ w = wM ct am N 2 σ) ∨ (mf_tk σ q (-1) K 0 < K ∧ v = some (.int (σ 5 q (mf_tk σ q (-1) K 0))) ∧ w = wM ct am N 0 (tf_cl q (K - 1 - mf_tk σ q (-1) K 0) (mf_tk σ q (-1) K 0) (su σ 3 q 0 (nI (K - 1)))))) (fun E w => False) := by
  refine kt_of hst (by decide) (Nat.le_of_ble_eq_true rfl) (by simp [Value.category]) ?_
  intro p e s m args below meth c A ls C hne hr hw hl Q hQ
  have hx := C.1
  have hb := C.2.1
  refine q_aload_n hx hb hl dM_take_0 rfl ?_
  refine q_iload_n hx hb hl dM_take_1 rfl ?_
  refine tc_E (tc_V C hl (iq_ok l hst D ct am N hN h0 th σ _ q hq) hw.1 hw.2.1 hw.2.2 g_M_135 (re_M C hw) hv_M_isQueue rfl rfl ⟨(Nat.le_of_ble_eq_true rfl), (Nat.le_of_ble_eq_true rfl)⟩ (Nat.le_of_ble_eq_true rfl) ⟨(Nat.le_of_ble_eq_true rfl), (Nat.le_of_ble_eq_true rfl)⟩ dM_take_2 rfl) C hw (fun E ce q9 w1 H locs hp hw h1 h2 h3 => ?_) (fun v w1 H locs hp hw => ?_)
  · exact hp.elim
  obtain ⟨rfl, rfl⟩ := hp
  dsimp only [Option.toList_some, Option.toList_none, List.cons_append, List.nil_append]
  refine lv_if_eq (tgt := 21) hx hb dM_take_5 (by decide) (fun q9 => absurd q9 (by decide)) (fun c_5 => ?_)
  refine q_iload_n hx hb hl dM_take_8 rfl ?_
  refine lv_iconst (v := -1) hx hb dM_take_9 (by decide) ?_
  refine lv_icmp_eq (tgt := 23) hx hb dM_take_10 (by decide) (fun c_10 => ?_) (fun q9 => absurd rfl q9)
  have L61 : ∀ (j : Nat), j ≤ K → mf_tk σ q (-1) K 0 = j → ∀ (H : Heap) (locs : List Loc) (ls : Array Slot), wl D A s (wM ct am N 0 σ) H locs → lq ls 6 [some (.ref (am 0)), some (.int (nI q)), some (.int (-1)), some (.int (nI j)), none, none] → W p l e (r0 2) s m args below meth c H locs 0 0 Q (F0 m 61 ls []) := by
    intro j hj he2 H locs ls hw hl
    refine q_iload_n hx hb hl dM_take_61 rfl ?_
    refine q_aload_n hx hb hl dM_take_62 rfl ?_
    refine mg C hw 22 l_M_45 (by decide) rfl dM_take_63 ?_
    refine q_iload_n hx hb hl dM_take_66 rfl ?_
    refine mr_10 C hw (q := q) hq rfl dM_take_67 ?_
    refine lv_icmp_ne (tgt := 77) hx hb dM_take_68 (by decide) (fun c_68 => ?_) (fun c_68 => ?_)
    · have hjK : j < K := by
        rcases Nat.lt_or_ge j K with q9 | q9
        · exact q9
        · exact absurd (by rw [hs, show j = K by omega]) c_68
      subst he2
      have hs1 : σ 3 q 0 - 1 = nI (K - 1) := by rw [hs, ← nI_pred (K - 1), show K - 1 + 1 = K by omega]
      refine q_aload_n hx hb hl dM_take_77 rfl ?_
      refine mg C hw 24 l_M_51 (by decide) rfl dM_take_78 ?_
      refine lv_bipush (v := 32) hx hb dM_take_81 (by decide) ?_
      refine q_iload_n hx hb hl dM_take_83 rfl ?_
      refine lv_imul hx hb dM_take_84 ?_
      refine q_iload_n hx hb hl dM_take_85 rfl ?_
      refine lv_iadd hx hb dM_take_86 ?_
      refine mr_12 C hw (q := q) (k := (mf_tk σ q (-1) K 0)) (by assumption) (by omega) (i32x q (mf_tk σ q (-1) K 0)) dM_take_87 ?_
      refine q_istore hx hb hl dM_take_88 (by decide) (fun ls hl => ?_)
      refine q_aload_n hx hb hl dM_take_90 rfl ?_
      refine mg C hw 22 l_M_45 (by decide) rfl dM_take_91 ?_
      refine q_iload_n hx hb hl dM_take_94 rfl ?_
      refine lv_dup2_11 hx hb dM_take_95 rfl rfl ?_
      refine mr_10 C hw (q := q) hq rfl dM_take_96 ?_
      refine lv_iconst (v := 1) hx hb dM_take_97 (by decide) ?_
      refine lv_isub hx hb dM_take_98 ?_
      refine mw_10 C hw (q := q) hq rfl dM_take_99 (fun H locs hw => ?_)
      refine q_iload_n hx hb hl dM_take_100 rfl ?_
      refine q_istore hx hb hl dM_take_101 (by decide) (fun ls hl => ?_)
      have L103 : ∀ (n : Nat) (i : Nat) (τ : St), i + n = K - 1 → tf_cl q n i τ = tf_cl q (K - 1 - mf_tk σ q (-1) K 0) (mf_tk σ q (-1) K 0) (su σ 3 q 0 (nI (K - 1))) → τ 3 q 0 = nI (K - 1) → ∀ (H : Heap) (locs : List Loc) (ls : Array Slot), wl D A s (wM ct am N 0 τ) H locs → lq ls 6 [some (.ref (am 0)), some (.int (nI q)), some (.int (-1)), some (.int (nI (mf_tk σ q (-1) K 0))), some (.int (σ 5 q (mf_tk σ q (-1) K 0))), some (.int (nI i))] → W p l e (r0 2) s m args below meth c H locs 0 0 Q (F0 m 103 ls []) := by
        intro n
        induction n with
        | zero =>
          intro i τ hn he hsz H locs ls hw hl
          refine q_iload hx hb hl dM_take_103 rfl ?_
          refine q_aload_n hx hb hl dM_take_105 rfl ?_
          refine mg C hw 22 l_M_45 (by decide) rfl dM_take_106 ?_
          refine q_iload_n hx hb hl dM_take_109 rfl ?_
          refine mr_10 C hw (q := q) hq rfl dM_take_110 ?_
          refine lv_icmp_ge (tgt := 172) hx hb dM_take_111 (by decide) (fun c_111 => ?_) (fun q9 => absurd (show τ 3 q 0 ≤ nI i by rw [hsz]; exact nI_le (by omega) (by omega)) q9)
          refine q_iload hx hb hl dM_take_172 rfl ?_
          exact tr_i hQ C hw hr (Nat.le_of_ble_eq_true rfl) (Nat.le_of_ble_eq_true rfl) dM_take_174 (Or.inr ⟨hjK, rfl, by rw [← he]; rfl⟩)
        | succ n ih =>
          intro i τ hn he hsz H locs ls hw hl
          refine q_iload hx hb hl dM_take_103 rfl ?_
          refine q_aload_n hx hb hl dM_take_105 rfl ?_
          refine mg C hw 22 l_M_45 (by decide) rfl dM_take_106 ?_
          refine q_iload_n hx hb hl dM_take_109 rfl ?_
          refine mr_10 C hw (q := q) hq rfl dM_take_110 ?_
          refine lv_icmp_ge (tgt := 172) hx hb dM_take_111 (by decide) (fun q9 => absurd q9 (show ¬ τ 3 q 0 ≤ nI i by rw [hsz]; exact nI_ge (by omega) (by omega))) (fun c_111 => ?_)
          refine q_aload_n hx hb hl dM_take_114 rfl ?_
          refine mg C hw 23 l_M_48 (by decide) rfl dM_take_115 ?_
          refine lv_bipush (v := 32) hx hb dM_take_118 (by decide) ?_
          refine q_iload_n hx hb hl dM_take_120 rfl ?_
          refine lv_imul hx hb dM_take_121 ?_
          refine q_iload hx hb hl dM_take_122 rfl ?_
          refine lv_iadd hx hb dM_take_124 ?_
          refine q_aload_n hx hb hl dM_take_125 rfl ?_
          refine mg C hw 23 l_M_48 (by decide) rfl dM_take_126 ?_
          refine lv_bipush (v := 32) hx hb dM_take_129 (by decide) ?_
          refine q_iload_n hx hb hl dM_take_131 rfl ?_
          refine lv_imul hx hb dM_take_132 ?_
          refine q_iload hx hb hl dM_take_133 rfl ?_
          refine lv_iadd hx hb dM_take_135 ?_
          refine lv_iconst (v := 1) hx hb dM_take_136 (by decide) ?_
          refine lv_iadd hx hb dM_take_137 ?_
          refine mr_11 C hw (q := q) (k := i + 1) hq (by omega) (i32y q i) dM_take_138 ?_
          refine mw_11 C hw (q := q) (k := i) (by assumption) (by omega) (i32x q i) dM_take_139 (fun H locs hw => ?_)
          refine q_aload_n hx hb hl dM_take_140 rfl ?_
          refine mg C hw 24 l_M_51 (by decide) rfl dM_take_141 ?_
          refine lv_bipush (v := 32) hx hb dM_take_144 (by decide) ?_
          refine q_iload_n hx hb hl dM_take_146 rfl ?_
          refine lv_imul hx hb dM_take_147 ?_
          refine q_iload hx hb hl dM_take_148 rfl ?_
          refine lv_iadd hx hb dM_take_150 ?_
          refine q_aload_n hx hb hl dM_take_151 rfl ?_
          refine mg C hw 24 l_M_51 (by decide) rfl dM_take_152 ?_
          refine lv_bipush (v := 32) hx hb dM_take_155 (by decide) ?_
          refine q_iload_n hx hb hl dM_take_157 rfl ?_
          refine lv_imul hx hb dM_take_158 ?_
          refine q_iload hx hb hl dM_take_159 rfl ?_
          refine lv_iadd hx hb dM_take_161 ?_
          refine lv_iconst (v := 1) hx hb dM_take_162 (by decide) ?_
          refine lv_iadd hx hb dM_take_163 ?_
          refine mr_12 C hw (q := q) (k := i + 1) hq (by omega) (i32y q i) dM_take_164 ?_
          refine mw_12 C hw (q := q) (k := i) (by assumption) (by omega) (i32x q i) dM_take_165 (fun H locs hw => ?_)
          refine q_inc hx hb hl dM_take_166 rfl (by decide) (fun ls hl => ?_)
          refine lv_goto (tgt := 103) hx hb dM_take_169 (by decide) ?_
          exact ih _ _ (by omega) (by rw [← he]; rfl) (by rw [su_n1 (by decide), su_n1 (by decide)]; exact hsz) _ _ _ hw hl
      exact L103 (K - 1 - mf_tk σ q (-1) K 0) (mf_tk σ q (-1) K 0) _ (by omega) rfl (by rw [su_eq]) _ _ _ (by rw [hs1] at hw; exact hw) hl
    have hjK : j = K := by
      rw [hs] at c_68
      exact (nI_eq (by omega) (by omega)).mp c_68
    subst he2
    refine q_aload_n hx hb hl dM_take_71 rfl ?_
    refine lv_iconst (v := 2) hx hb dM_take_72 (by decide) ?_
    refine tc_E (tc_V C hl (m_fail l hst D ct am N hN h0 0 σ _ 2) hw.1 hw.2.1 hw.2.2 g_M_71 (re_M C hw) hv_M_fail rfl rfl ⟨(Nat.le_of_ble_eq_true rfl), (Nat.le_of_ble_eq_true rfl)⟩ (Nat.le_of_ble_eq_true rfl) ⟨(Nat.le_of_ble_eq_true rfl), (Nat.le_of_ble_eq_true rfl)⟩ dM_take_73 rfl) C hw (fun E ce q9 w1 H locs hp hw h1 h2 h3 => ?_) (fun v w1 H locs hp hw => ?_)
    · exact hp.elim
    obtain ⟨rfl, rfl⟩ := hp
    dsimp only [Option.toList_some, Option.toList_none, List.cons_append, List.nil_append]
    exact tr_i hQ C hw hr (Nat.le_of_ble_eq_true rfl) (Nat.le_of_ble_eq_true rfl) dM_take_76 (Or.inl ⟨hjK, rfl, rfl⟩)
  refine lv_iconst (v := 0) hx hb dM_take_23 (by decide) ?_
  refine q_istore_n hx hb hl dM_take_24 (by decide) (fun ls hl => ?_)
  have L25 : ∀ (n : Nat) (k : Nat), k + n = K → mf_tk σ q (-1) n k = mf_tk σ q (-1) K 0 → ∀ (H : Heap) (locs : List Loc) (ls : Array Slot), wl D A s (wM ct am N 0 σ) H locs → lq ls 6 [some (.ref (am 0)), some (.int (nI q)), some (.int (-1)), some (.int (nI k)), none, none] → W p l e (r0 2) s m args below meth c H locs 0 0 Q (F0 m 25 ls []) := by
    intro n
    induction n with
    | zero =>
      intro k hn he H locs ls hw hl
      refine q_iload_n hx hb hl dM_take_25 rfl ?_
      refine q_aload_n hx hb hl dM_take_26 rfl ?_
      refine mg C hw 22 l_M_45 (by decide) rfl dM_take_27 ?_
      refine q_iload_n hx hb hl dM_take_30 rfl ?_
      refine mr_10 C hw (q := q) hq rfl dM_take_31 ?_
      refine lv_icmp_ge (tgt := 61) hx hb dM_take_32 (by decide) (fun c_32 => ?_) (fun q9 => absurd (show σ 3 q 0 ≤ nI k by rw [hs]; exact nI_le (by omega) (by omega)) q9)
      exact L61 k (by omega) (by rw [← he]; first | rfl | (rw [mf_tk, if_pos rfl]) | (rw [mf_tk, if_neg (nI_m1 (by omega))]; simp only []) | simp only [mf_tk]) _ _ _ hw hl
    | succ n ih =>
      intro k hn he H locs ls hw hl
      have hk32 : k < 32 := by omega
      refine q_iload_n hx hb hl dM_take_25 rfl ?_
      refine q_aload_n hx hb hl dM_take_26 rfl ?_
      refine mg C hw 22 l_M_45 (by decide) rfl dM_take_27 ?_
      refine q_iload_n hx hb hl dM_take_30 rfl ?_
      refine mr_10 C hw (q := q) hq rfl dM_take_31 ?_
      refine lv_icmp_ge (tgt := 61) hx hb dM_take_32 (by decide) (fun q9 => absurd q9 (show ¬ σ 3 q 0 ≤ nI k by rw [hs]; exact nI_ge (by omega) (by omega))) (fun c_32 => ?_)
      refine q_iload_n hx hb hl dM_take_35 rfl ?_
      refine lv_iconst (v := -1) hx hb dM_take_36 (by decide) ?_
      refine lv_icmp_eq (tgt := 61) hx hb dM_take_37 (by decide) (fun c_37 => ?_) (fun q9 => absurd rfl q9)
      exact L61 k (by omega) (by rw [← he]; first | rfl | (rw [mf_tk, if_pos rfl]) | (rw [mf_tk, if_neg (nI_m1 (by omega))]; simp only []) | simp only [mf_tk]) _ _ _ hw hl
  exact L25 K 0 (by omega) rfl _ _ _ hw hl
set_option maxHeartbeats 4000000 in
set_option maxRecDepth 100000 in
theorem mo_takeT (l : Launch) (hst : l.stackTraces = false) (D : va_G) (ct : Ct) (am : Nat → Nat) (N : Nat) (hN : N ≤ 16) (h0 : 0 < N) (th : Int32) (σ : St) (sz : Nat) (q : Nat) (hq : q < 8) (K : Nat) (hK : K ≤ 32) (hs : σ 3 q 0 = nI K) (t : Nat) (ht : t < N) : Kt l yM_take cM_take 6 (some .int) (r0 2) 0 0 D ct [.ref (am 0), .int (nI q), .int (nI t)] sz (wM ct am N th σ) (fun v w => (mf_tk σ q (nI t) K 0 = K ∧ v = some (.int 0) ∧ w = wM ct am N 2 σ) ∨ (mf_tk σ q (nI t) K 0 < K ∧ v = some (.int (σ 5 q (mf_tk σ q (nI t) K 0))) ∧ w = wM ct am N 0 (tf_cl q (K - 1 - mf_tk σ q (nI t) K 0) (mf_tk σ q (nI t) K 0) (su σ 3 q 0 (nI (K - 1)))))) (fun E w => False) := by
  refine kt_of hst (by decide) (Nat.le_of_ble_eq_true rfl) (by simp [Value.category]) ?_
  intro p e s m args below meth c A ls C hne hr hw hl Q hQ
  have hx := C.1
  have hb := C.2.1
  refine q_aload_n hx hb hl dM_take_0 rfl ?_
  refine q_iload_n hx hb hl dM_take_1 rfl ?_
  refine tc_E (tc_V C hl (iq_ok l hst D ct am N hN h0 th σ _ q hq) hw.1 hw.2.1 hw.2.2 g_M_135 (re_M C hw) hv_M_isQueue rfl rfl ⟨(Nat.le_of_ble_eq_true rfl), (Nat.le_of_ble_eq_true rfl)⟩ (Nat.le_of_ble_eq_true rfl) ⟨(Nat.le_of_ble_eq_true rfl), (Nat.le_of_ble_eq_true rfl)⟩ dM_take_2 rfl) C hw (fun E ce q9 w1 H locs hp hw h1 h2 h3 => ?_) (fun v w1 H locs hp hw => ?_)
  · exact hp.elim
  obtain ⟨rfl, rfl⟩ := hp
  dsimp only [Option.toList_some, Option.toList_none, List.cons_append, List.nil_append]
  refine lv_if_eq (tgt := 21) hx hb dM_take_5 (by decide) (fun q9 => absurd q9 (by decide)) (fun c_5 => ?_)
  refine q_iload_n hx hb hl dM_take_8 rfl ?_
  refine lv_iconst (v := -1) hx hb dM_take_9 (by decide) ?_
  refine lv_icmp_eq (tgt := 23) hx hb dM_take_10 (by decide) (fun q9 => absurd q9 (nI_m1 (by omega))) (fun c_10 => ?_)
  refine q_aload_n hx hb hl dM_take_13 rfl ?_
  refine q_iload_n hx hb hl dM_take_14 rfl ?_
  refine tc_E (tc_V C hl (it_ok l hst D ct am N hN h0 0 σ _ t ht) hw.1 hw.2.1 hw.2.2 g_M_84 (re_M C hw) hv_M_isThread rfl rfl ⟨(Nat.le_of_ble_eq_true rfl), (Nat.le_of_ble_eq_true rfl)⟩ (Nat.le_of_ble_eq_true rfl) ⟨(Nat.le_of_ble_eq_true rfl), (Nat.le_of_ble_eq_true rfl)⟩ dM_take_15 rfl) C hw (fun E ce q9 w1 H locs hp hw h1 h2 h3 => ?_) (fun v w1 H locs hp hw => ?_)
  · exact hp.elim
  obtain ⟨rfl, rfl⟩ := hp
  dsimp only [Option.toList_some, Option.toList_none, List.cons_append, List.nil_append]
  refine lv_if_ne (tgt := 23) hx hb dM_take_18 (by decide) (fun c_18 => ?_) (fun q9 => absurd q9 (by decide))
  have L61 : ∀ (j : Nat), j ≤ K → mf_tk σ q (nI t) K 0 = j → ∀ (H : Heap) (locs : List Loc) (ls : Array Slot), wl D A s (wM ct am N 0 σ) H locs → lq ls 6 [some (.ref (am 0)), some (.int (nI q)), some (.int (nI t)), some (.int (nI j)), none, none] → W p l e (r0 2) s m args below meth c H locs 0 0 Q (F0 m 61 ls []) := by
    intro j hj he2 H locs ls hw hl
    refine q_iload_n hx hb hl dM_take_61 rfl ?_
    refine q_aload_n hx hb hl dM_take_62 rfl ?_
    refine mg C hw 22 l_M_45 (by decide) rfl dM_take_63 ?_
    refine q_iload_n hx hb hl dM_take_66 rfl ?_
    refine mr_10 C hw (q := q) hq rfl dM_take_67 ?_
    refine lv_icmp_ne (tgt := 77) hx hb dM_take_68 (by decide) (fun c_68 => ?_) (fun c_68 => ?_)
    · have hjK : j < K := by
        rcases Nat.lt_or_ge j K with q9 | q9
        · exact q9
        · exact absurd (by rw [hs, show j = K by omega]) c_68
      subst he2
      have hs1 : σ 3 q 0 - 1 = nI (K - 1) := by rw [hs, ← nI_pred (K - 1), show K - 1 + 1 = K by omega]
      refine q_aload_n hx hb hl dM_take_77 rfl ?_
      refine mg C hw 24 l_M_51 (by decide) rfl dM_take_78 ?_
      refine lv_bipush (v := 32) hx hb dM_take_81 (by decide) ?_
      refine q_iload_n hx hb hl dM_take_83 rfl ?_
      refine lv_imul hx hb dM_take_84 ?_
      refine q_iload_n hx hb hl dM_take_85 rfl ?_
      refine lv_iadd hx hb dM_take_86 ?_
      refine mr_12 C hw (q := q) (k := (mf_tk σ q (nI t) K 0)) (by assumption) (by omega) (i32x q (mf_tk σ q (nI t) K 0)) dM_take_87 ?_
      refine q_istore hx hb hl dM_take_88 (by decide) (fun ls hl => ?_)
      refine q_aload_n hx hb hl dM_take_90 rfl ?_
      refine mg C hw 22 l_M_45 (by decide) rfl dM_take_91 ?_
      refine q_iload_n hx hb hl dM_take_94 rfl ?_
      refine lv_dup2_11 hx hb dM_take_95 rfl rfl ?_
      refine mr_10 C hw (q := q) hq rfl dM_take_96 ?_
      refine lv_iconst (v := 1) hx hb dM_take_97 (by decide) ?_
      refine lv_isub hx hb dM_take_98 ?_
      refine mw_10 C hw (q := q) hq rfl dM_take_99 (fun H locs hw => ?_)
      refine q_iload_n hx hb hl dM_take_100 rfl ?_
      refine q_istore hx hb hl dM_take_101 (by decide) (fun ls hl => ?_)
      have L103 : ∀ (n : Nat) (i : Nat) (τ : St), i + n = K - 1 → tf_cl q n i τ = tf_cl q (K - 1 - mf_tk σ q (nI t) K 0) (mf_tk σ q (nI t) K 0) (su σ 3 q 0 (nI (K - 1))) → τ 3 q 0 = nI (K - 1) → ∀ (H : Heap) (locs : List Loc) (ls : Array Slot), wl D A s (wM ct am N 0 τ) H locs → lq ls 6 [some (.ref (am 0)), some (.int (nI q)), some (.int (nI t)), some (.int (nI (mf_tk σ q (nI t) K 0))), some (.int (σ 5 q (mf_tk σ q (nI t) K 0))), some (.int (nI i))] → W p l e (r0 2) s m args below meth c H locs 0 0 Q (F0 m 103 ls []) := by
        intro n
        induction n with
        | zero =>
          intro i τ hn he hsz H locs ls hw hl
          refine q_iload hx hb hl dM_take_103 rfl ?_
          refine q_aload_n hx hb hl dM_take_105 rfl ?_
          refine mg C hw 22 l_M_45 (by decide) rfl dM_take_106 ?_
          refine q_iload_n hx hb hl dM_take_109 rfl ?_
          refine mr_10 C hw (q := q) hq rfl dM_take_110 ?_
          refine lv_icmp_ge (tgt := 172) hx hb dM_take_111 (by decide) (fun c_111 => ?_) (fun q9 => absurd (show τ 3 q 0 ≤ nI i by rw [hsz]; exact nI_le (by omega) (by omega)) q9)
          refine q_iload hx hb hl dM_take_172 rfl ?_
          exact tr_i hQ C hw hr (Nat.le_of_ble_eq_true rfl) (Nat.le_of_ble_eq_true rfl) dM_take_174 (Or.inr ⟨hjK, rfl, by rw [← he]; rfl⟩)
        | succ n ih =>
          intro i τ hn he hsz H locs ls hw hl
          refine q_iload hx hb hl dM_take_103 rfl ?_
          refine q_aload_n hx hb hl dM_take_105 rfl ?_
          refine mg C hw 22 l_M_45 (by decide) rfl dM_take_106 ?_
          refine q_iload_n hx hb hl dM_take_109 rfl ?_
          refine mr_10 C hw (q := q) hq rfl dM_take_110 ?_
          refine lv_icmp_ge (tgt := 172) hx hb dM_take_111 (by decide) (fun q9 => absurd q9 (show ¬ τ 3 q 0 ≤ nI i by rw [hsz]; exact nI_ge (by omega) (by omega))) (fun c_111 => ?_)
          refine q_aload_n hx hb hl dM_take_114 rfl ?_
          refine mg C hw 23 l_M_48 (by decide) rfl dM_take_115 ?_
          refine lv_bipush (v := 32) hx hb dM_take_118 (by decide) ?_
          refine q_iload_n hx hb hl dM_take_120 rfl ?_
          refine lv_imul hx hb dM_take_121 ?_
          refine q_iload hx hb hl dM_take_122 rfl ?_
          refine lv_iadd hx hb dM_take_124 ?_
          refine q_aload_n hx hb hl dM_take_125 rfl ?_
          refine mg C hw 23 l_M_48 (by decide) rfl dM_take_126 ?_
          refine lv_bipush (v := 32) hx hb dM_take_129 (by decide) ?_
          refine q_iload_n hx hb hl dM_take_131 rfl ?_
          refine lv_imul hx hb dM_take_132 ?_
          refine q_iload hx hb hl dM_take_133 rfl ?_
          refine lv_iadd hx hb dM_take_135 ?_
          refine lv_iconst (v := 1) hx hb dM_take_136 (by decide) ?_
          refine lv_iadd hx hb dM_take_137 ?_
          refine mr_11 C hw (q := q) (k := i + 1) hq (by omega) (i32y q i) dM_take_138 ?_
          refine mw_11 C hw (q := q) (k := i) (by assumption) (by omega) (i32x q i) dM_take_139 (fun H locs hw => ?_)
          refine q_aload_n hx hb hl dM_take_140 rfl ?_
          refine mg C hw 24 l_M_51 (by decide) rfl dM_take_141 ?_
          refine lv_bipush (v := 32) hx hb dM_take_144 (by decide) ?_
          refine q_iload_n hx hb hl dM_take_146 rfl ?_
          refine lv_imul hx hb dM_take_147 ?_
          refine q_iload hx hb hl dM_take_148 rfl ?_
          refine lv_iadd hx hb dM_take_150 ?_
          refine q_aload_n hx hb hl dM_take_151 rfl ?_
          refine mg C hw 24 l_M_51 (by decide) rfl dM_take_152 ?_
          refine lv_bipush (v := 32) hx hb dM_take_155 (by decide) ?_
          refine q_iload_n hx hb hl dM_take_157 rfl ?_
          refine lv_imul hx hb dM_take_158 ?_
          refine q_iload hx hb hl dM_take_159 rfl ?_
          refine lv_iadd hx hb dM_take_161 ?_
          refine lv_iconst (v := 1) hx hb dM_take_162 (by decide) ?_
          refine lv_iadd hx hb dM_take_163 ?_
          refine mr_12 C hw (q := q) (k := i + 1) hq (by omega) (i32y q i) dM_take_164 ?_
          refine mw_12 C hw (q := q) (k := i) (by assumption) (by omega) (i32x q i) dM_take_165 (fun H locs hw => ?_)
          refine q_inc hx hb hl dM_take_166 rfl (by decide) (fun ls hl => ?_)
          refine lv_goto (tgt := 103) hx hb dM_take_169 (by decide) ?_
          exact ih _ _ (by omega) (by rw [← he]; rfl) (by rw [su_n1 (by decide), su_n1 (by decide)]; exact hsz) _ _ _ hw hl
      exact L103 (K - 1 - mf_tk σ q (nI t) K 0) (mf_tk σ q (nI t) K 0) _ (by omega) rfl (by rw [su_eq]) _ _ _ (by rw [hs1] at hw; exact hw) hl
    have hjK : j = K := by
      rw [hs] at c_68
      exact (nI_eq (by omega) (by omega)).mp c_68
    subst he2
    refine q_aload_n hx hb hl dM_take_71 rfl ?_
    refine lv_iconst (v := 2) hx hb dM_take_72 (by decide) ?_
    refine tc_E (tc_V C hl (m_fail l hst D ct am N hN h0 0 σ _ 2) hw.1 hw.2.1 hw.2.2 g_M_71 (re_M C hw) hv_M_fail rfl rfl ⟨(Nat.le_of_ble_eq_true rfl), (Nat.le_of_ble_eq_true rfl)⟩ (Nat.le_of_ble_eq_true rfl) ⟨(Nat.le_of_ble_eq_true rfl), (Nat.le_of_ble_eq_true rfl)⟩ dM_take_73 rfl) C hw (fun E ce q9 w1 H locs hp hw h1 h2 h3 => ?_) (fun v w1 H locs hp hw => ?_)
    · exact hp.elim
    obtain ⟨rfl, rfl⟩ := hp
    dsimp only [Option.toList_some, Option.toList_none, List.cons_append, List.nil_append]
    exact tr_i hQ C hw hr (Nat.le_of_ble_eq_true rfl) (Nat.le_of_ble_eq_true rfl) dM_take_76 (Or.inl ⟨hjK, rfl, rfl⟩)
  refine lv_iconst (v := 0) hx hb dM_take_23 (by decide) ?_
  refine q_istore_n hx hb hl dM_take_24 (by decide) (fun ls hl => ?_)
  have L25 : ∀ (n : Nat) (k : Nat), k + n = K → mf_tk σ q (nI t) n k = mf_tk σ q (nI t) K 0 → ∀ (H : Heap) (locs : List Loc) (ls : Array Slot), wl D A s (wM ct am N 0 σ) H locs → lq ls 6 [some (.ref (am 0)), some (.int (nI q)), some (.int (nI t)), some (.int (nI k)), none, none] → W p l e (r0 2) s m args below meth c H locs 0 0 Q (F0 m 25 ls []) := by
    intro n
    induction n with
    | zero =>
      intro k hn he H locs ls hw hl
      refine q_iload_n hx hb hl dM_take_25 rfl ?_
      refine q_aload_n hx hb hl dM_take_26 rfl ?_
      refine mg C hw 22 l_M_45 (by decide) rfl dM_take_27 ?_
      refine q_iload_n hx hb hl dM_take_30 rfl ?_
      refine mr_10 C hw (q := q) hq rfl dM_take_31 ?_
      refine lv_icmp_ge (tgt := 61) hx hb dM_take_32 (by decide) (fun c_32 => ?_) (fun q9 => absurd (show σ 3 q 0 ≤ nI k by rw [hs]; exact nI_le (by omega) (by omega)) q9)
      exact L61 k (by omega) (by rw [← he]; first | rfl | (rw [mf_tk, if_pos rfl]) | (rw [mf_tk, if_neg (nI_m1 (by omega))]; simp only []) | simp only [mf_tk]) _ _ _ hw hl
    | succ n ih =>
      intro k hn he H locs ls hw hl
      have hk32 : k < 32 := by omega
      refine q_iload_n hx hb hl dM_take_25 rfl ?_
      refine q_aload_n hx hb hl dM_take_26 rfl ?_
      refine mg C hw 22 l_M_45 (by decide) rfl dM_take_27 ?_
      refine q_iload_n hx hb hl dM_take_30 rfl ?_
      refine mr_10 C hw (q := q) hq rfl dM_take_31 ?_
      refine lv_icmp_ge (tgt := 61) hx hb dM_take_32 (by decide) (fun q9 => absurd q9 (show ¬ σ 3 q 0 ≤ nI k by rw [hs]; exact nI_ge (by omega) (by omega))) (fun c_32 => ?_)
      refine q_iload_n hx hb hl dM_take_35 rfl ?_
      refine lv_iconst (v := -1) hx hb dM_take_36 (by decide) ?_
      refine lv_icmp_eq (tgt := 61) hx hb dM_take_37 (by decide) (fun q9 => absurd q9 (nI_m1 (by omega))) (fun c_37 => ?_)
      refine q_aload_n hx hb hl dM_take_40 rfl ?_
      refine mg C hw 23 l_M_48 (by decide) rfl dM_take_41 ?_
      refine lv_bipush (v := 32) hx hb dM_take_44 (by decide) ?_
      refine q_iload_n hx hb hl dM_take_46 rfl ?_
      refine lv_imul hx hb dM_take_47 ?_
      refine q_iload_n hx hb hl dM_take_48 rfl ?_
      refine lv_iadd hx hb dM_take_49 ?_
      refine mr_11 C hw (q := q) (k := k) (by assumption) (by omega) (i32x q k) dM_take_50 ?_
      refine q_iload_n hx hb hl dM_take_51 rfl ?_
      refine lv_icmp_eq (tgt := 61) hx hb dM_take_52 (by decide) (fun c_52 => ?_) (fun c_52 => ?_)
      · exact L61 k (by omega) (by rw [← he]; first | rfl | (rw [mf_tk, if_pos rfl]) | (rw [mf_tk, if_neg (nI_m1 (by omega))]; simp only [if_pos c_52]) | simp only [mf_tk, if_pos c_52]) _ _ _ hw hl
      refine q_inc hx hb hl dM_take_55 rfl (by decide) (fun ls hl => ?_)
      refine lv_goto (tgt := 25) hx hb dM_take_58 (by decide) ?_
      exact ih _ (by omega) (by rw [← he, mf_tk, if_neg (nI_m1 (by omega))]; simp only [if_neg c_52]) _ _ _ hw hl
  exact L25 K 0 (by omega) rfl _ _ _ hw hl
set_option maxHeartbeats 4000000 in
set_option maxRecDepth 100000 in
theorem mq_take (l : Launch) (hst : l.stackTraces = false) (D : va_G) (ct : Ct) (am : Nat → Nat) (N : Nat) (hN : N ≤ 16) (h0 : 0 < N) (th : Int32) (σ : St) (sz : Nat) (p0 p1 : Int32) (h : p0 < 0 ∨ ¬ p0 < nI 8) : Kt l yM_take cM_take 6 (some .int) (r0 2) 0 0 D ct [.ref (am 0), .int p0, .int p1] sz (wM ct am N th σ) (fun v w => v = some (.int 0) ∧ w = wM ct am N 1 σ) (fun E w => False) := by
  refine kt_of hst (by decide) (Nat.le_of_ble_eq_true rfl) (by simp [Value.category]) ?_
  intro p e s m args below meth c A ls C hne hr hw hl Q hQ
  have hx := C.1
  have hb := C.2.1
  refine q_aload_n hx hb hl dM_take_0 rfl ?_
  refine q_iload_n hx hb hl dM_take_1 rfl ?_
  refine tc_E (tc_V C hl (iq_bad l hst D ct am N hN h0 th σ _ p0 h) hw.1 hw.2.1 hw.2.2 g_M_135 (re_M C hw) hv_M_isQueue rfl rfl ⟨(Nat.le_of_ble_eq_true rfl), (Nat.le_of_ble_eq_true rfl)⟩ (Nat.le_of_ble_eq_true rfl) ⟨(Nat.le_of_ble_eq_true rfl), (Nat.le_of_ble_eq_true rfl)⟩ dM_take_2 rfl) C hw (fun E ce q9 w1 H locs hp hw h1 h2 h3 => ?_) (fun v w1 H locs hp hw => ?_)
  · exact hp.elim
  obtain ⟨rfl, rfl⟩ := hp
  dsimp only [Option.toList_some, Option.toList_none, List.cons_append, List.nil_append]
  refine lv_if_eq (tgt := 21) hx hb dM_take_5 (by decide) (fun c_5 => ?_) (fun q9 => absurd rfl q9)
  refine lv_iconst (v := 0) hx hb dM_take_21 (by decide) ?_
  exact tr_i hQ C hw hr (Nat.le_of_ble_eq_true rfl) (Nat.le_of_ble_eq_true rfl) dM_take_22 ⟨rfl, rfl⟩
set_option maxHeartbeats 4000000 in
set_option maxRecDepth 100000 in
theorem mt_take (l : Launch) (hst : l.stackTraces = false) (D : va_G) (ct : Ct) (am : Nat → Nat) (N : Nat) (hN : N ≤ 16) (h0 : 0 < N) (th : Int32) (σ : St) (sz : Nat) (q : Nat) (hq : q < 8) (p1 : Int32) (h : p1 < 0 ∨ ¬ p1 < nI N) (h9 : ¬ p1 = -1) : Kt l yM_take cM_take 6 (some .int) (r0 2) 0 0 D ct [.ref (am 0), .int (nI q), .int p1] sz (wM ct am N th σ) (fun v w => v = some (.int 0) ∧ w = wM ct am N 1 σ) (fun E w => False) := by
  refine kt_of hst (by decide) (Nat.le_of_ble_eq_true rfl) (by simp [Value.category]) ?_
  intro p e s m args below meth c A ls C hne hr hw hl Q hQ
  have hx := C.1
  have hb := C.2.1
  refine q_aload_n hx hb hl dM_take_0 rfl ?_
  refine q_iload_n hx hb hl dM_take_1 rfl ?_
  refine tc_E (tc_V C hl (iq_ok l hst D ct am N hN h0 th σ _ q hq) hw.1 hw.2.1 hw.2.2 g_M_135 (re_M C hw) hv_M_isQueue rfl rfl ⟨(Nat.le_of_ble_eq_true rfl), (Nat.le_of_ble_eq_true rfl)⟩ (Nat.le_of_ble_eq_true rfl) ⟨(Nat.le_of_ble_eq_true rfl), (Nat.le_of_ble_eq_true rfl)⟩ dM_take_2 rfl) C hw (fun E ce q9 w1 H locs hp hw h1 h2 h3 => ?_) (fun v w1 H locs hp hw => ?_)
  · exact hp.elim
  obtain ⟨rfl, rfl⟩ := hp
  dsimp only [Option.toList_some, Option.toList_none, List.cons_append, List.nil_append]
  refine lv_if_eq (tgt := 21) hx hb dM_take_5 (by decide) (fun q9 => absurd q9 (by decide)) (fun c_5 => ?_)
  refine q_iload_n hx hb hl dM_take_8 rfl ?_
  refine lv_iconst (v := -1) hx hb dM_take_9 (by decide) ?_
  refine lv_icmp_eq (tgt := 23) hx hb dM_take_10 (by decide) (fun q9 => absurd q9 h9) (fun c_10 => ?_)
  refine q_aload_n hx hb hl dM_take_13 rfl ?_
  refine q_iload_n hx hb hl dM_take_14 rfl ?_
  refine tc_E (tc_V C hl (it_bad l hst D ct am N hN h0 0 σ _ p1 h) hw.1 hw.2.1 hw.2.2 g_M_84 (re_M C hw) hv_M_isThread rfl rfl ⟨(Nat.le_of_ble_eq_true rfl), (Nat.le_of_ble_eq_true rfl)⟩ (Nat.le_of_ble_eq_true rfl) ⟨(Nat.le_of_ble_eq_true rfl), (Nat.le_of_ble_eq_true rfl)⟩ dM_take_15 rfl) C hw (fun E ce q9 w1 H locs hp hw h1 h2 h3 => ?_) (fun v w1 H locs hp hw => ?_)
  · exact hp.elim
  obtain ⟨rfl, rfl⟩ := hp
  dsimp only [Option.toList_some, Option.toList_none, List.cons_append, List.nil_append]
  refine lv_if_ne (tgt := 23) hx hb dM_take_18 (by decide) (fun q9 => absurd rfl q9) (fun c_18 => ?_)
  refine lv_iconst (v := 0) hx hb dM_take_21 (by decide) ?_
  exact tr_i hQ C hw hr (Nat.le_of_ble_eq_true rfl) (Nat.le_of_ble_eq_true rfl) dM_take_22 ⟨rfl, rfl⟩
end
